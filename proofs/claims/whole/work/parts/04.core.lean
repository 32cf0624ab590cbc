/-! THE MINI MACHINE: a memory of numbered objects (kinds, references, longs, ints) beside the heap; a walk's state by it -/
abbrev zSh : Type := List (Nat × Nat) × (Nat → Nat → Option Nat) × Nat
abbrev zD : Type := (Nat → Nat → Int64) × (Nat → Nat → Int32)
abbrev zM : Type := zSh × zD
abbrev zX : Type := Launch × va_G × (Nat → ClassId) × Nat × Heap × (Nat → Nat)
def zl (X : zX) : Launch := X.1
def zG (X : zX) : va_G := X.2.1
def zA (X : zX) : Nat → ClassId := X.2.2.1
def zb (X : zX) : Nat := X.2.2.2.1
def zH (X : zX) : Heap := X.2.2.2.2.1
def zo (X : zX) : Nat → Nat := X.2.2.2.2.2
def zF (X : zX) : Nat → Prop := fun q => zb X ≤ q
def zad (X : zX) (k : Nat) : Nat := if k < 1000000 then zb X + k else zo X k
def zrv (X : zX) (v : Value) : Value := match v with
  | .ref k => .ref (zad X k)
  | w => w
abbrev zOut : Type := Option Value ⊕ String
/-- ints written, longs written -/
def sI (D : zD) (k j : Nat) (x : Int32) : zD := (D.1, fun a b => if a = k ∧ b = j then x else D.2 a b)
def sL (D : zD) (k j : Nat) (x : Int64) : zD := (fun a b => if a = k ∧ b = j then x else D.1 a b, D.2)
def gI (D : zD) (k j : Nat) : Int32 := D.2 k j
def gL (D : zD) (k j : Nat) : Int64 := D.1 k j
/-- the fields of an object of class ci: references by zrf -/
def zfs (X : zX) (M : zM) (k ci n : Nat) : List Value := (List.range n).map (fun j => if zrf ci j then va_rf ((M.1.2.1 k j).map (zad X)) else .int (M.2.2 k j))
def zeO (X : zX) (M : zM) (k : Nat) (kd : Nat × Nat) : va_E := match kd.1 with
  | 0 => .inl (zA X 0, kd.2, .inl (M.2.2 k))
  | 1 => .inl (zA X 1, kd.2, .inr (.inl (M.2.1 k)))
  | 2 => .inl (zA X 2, kd.2, .inl (M.2.2 k))
  | 3 => .inl (zA X 3, kd.2, .inl (M.2.2 k))
  | 4 => .inl (zA X 4, kd.2, .inr (.inr (.inr (.inr (fun j => (M.1.2.1 k j).map (zad X))))))
  | 5 => .inl (zA X 5, kd.2, .inr (.inr (.inr (.inr (fun j => (M.1.2.1 k j).map (zad X))))))
  | 6 => .inl (zA X 6, kd.2, .inr (.inr (.inr (.inr (fun j => (M.1.2.1 k j).map (zad X))))))
  | c + 7 => .inr (c, zfs X M k c kd.2)
def zty (X : zX) : List (ClassId × FieldType) := [(zA X 0, .int), (zA X 1, .long), (zA X 2, .byte), (zA X 3, .boolean), (zA X 4, .array .int), (zA X 5, .array .boolean), (zA X 6, .object "CoveredSigns$Covers")]
def zHR (X : zX) (M : zM) (H : Heap) : Prop := zb X + M.1.1.length ≤ H.size ∧ (M.1.2.2 = 0 → H.size = zb X + M.1.1.length) ∧ M.1.1.length ≤ 100000 ∧ (∀ q, q < zb X → H[q]? = (zH X)[q]?) ∧ ∀ k kd, M.1.1[k]? = some kd → va_at (zG X) z_cl (zad X k, zeO X M k kd) H
def zcc (M : zM) : Nat := M.1.1.length + M.1.2.2
def zsc (M : zM) : Nat := (M.1.1.map (fun q => q.2)).sum + 6 * M.1.2.2
def zKS (X : zX) (U : State) : Prop := vk_S z_nS z_lenS z_bytS (fun i => zo X (1000000 + i)) (fun i => zo X (1001000 + i)) (zF X) U (zH X) ∧ va_Z "java/lang/String" "COMPACT_STRINGS" "Z" (.int 1) (zF X) U (zH X) ∧ (va_Z "jdk/internal/util/Preconditions" "SIOOBE_FORMATTER" "Ljava/util/function/BiFunction;" .null (zF X) U (zH X) ∨ va_Z "jdk/internal/util/Preconditions" "SIOOBE_FORMATTER" "Ljava/util/function/BiFunction;" (.ref (zo X 1005001)) (zF X) U (zH X)) ∧ (∀ ty ∈ ([.object "CoveredSigns$Covers", .array .int, .array .boolean] : List FieldType), va_Nw (.arrayOver ty) U) ∧ va_X (zo X 1006000) (zo X 1006001) (fun j => Int32.ofNat (zo X (2000000 + j))) U (zH X)
/-- what holds of the tables and of the old heap, as the method begins -/
def zKK (X : zX) (U : State) : Prop := va_K (zG X) z_cl (zty X) U ∧ (vx_Zq Bundle.tN "UNASSIGNED_STACK" Bundle.steD (zF X) U (zH X) ∧ vx_Zq Bundle.tN "SUPPRESSED_SENTINEL" Bundle.listD (zF X) U (zH X)) ∧ (∀ q ∈ z_str, vk_R q.1 q.2.1 q.2.2.1 (zo X (1000000 + q.2.2.2)) U) ∧ zKS X U ∧ (∀ w ∈ z_N, va_Nw w U) ∧ ∀ q ∈ z_nc, va_Nc q.1 q.2 U
abbrev zY : Type := String × MethodName × ByteArray × Nat × Option FieldType × List (Nat × Nat × Nat × Nat)
def yO (Y : zY) : String := Y.1
def yN (Y : zY) : MethodName := Y.2.1
def yB (Y : zY) : ByteArray := Y.2.2.1
def yL (Y : zY) : Nat := Y.2.2.2.1
def yR (Y : zY) : Option FieldType := Y.2.2.2.2.1
def yE (Y : zY) : List (Nat × Nat × Nat × Nat) := Y.2.2.2.2.2
/-- the word of its code -/
def yC (Y : zY) : Cond := if (yE Y).isEmpty then .code (yN Y) (yB Y) (yL Y) (yR Y) else .codeWith (yN Y) (yB Y) (yL Y) (yR Y) (yE Y)
def zEv (X : zX) (Y : zY) (d mc ms : Nat) (p : Program) (Rm : Room) (s : State) (m : MethodId) (args : Array Value) (meth : Method) (c : Code) : Prop :=
  p.tables.exec = Jvm.exec ∧ c.code = yB Y ∧ meth.sig.returnType = yR Y ∧ c.maxLocals = yL Y ∧ s.vm.findClass (yO Y) = some m.cls ∧ (∀ w ∈ z_T, w.before args s = true) ∧ meth.locks = false ∧ meth.name = (yN Y).name ∧ zKK X s ∧ c.exceptionTable.toList = tableOf (yE Y) ∧
  d ≤ Rm.frames ∧ 40 * d ≤ Rm.locals ∧ mc ≤ Rm.cells ∧ ms ≤ Rm.slots ∧ (zl X).stackTraces = false ∧ zb X ≤ s.heap.size ∧ ∀ q, q < zb X → s.heap[q]? = (zH X)[q]?
def zSt (X : zX) (Y : zY) (s : State) (M M' : zM) (ls : List (Nat × Value)) (H : Heap) (locs : List Loc) (cells slots mc ms : Nat) (la : Array Slot) : Prop :=
  zHR X M H ∧ s.heap.size ≤ H.size ∧ (∀ z ∈ locs, zF X z.base) ∧ lv_has la (yL Y) (ls.map (fun q => (q.1, zrv X q.2))) ∧ cells + zcc M' ≤ mc + zcc M ∧ slots + zsc M' ≤ ms + zsc M ∧ zcc M ≤ zcc M' ∧ zsc M ≤ zsc M'
def zQc (X : zX) (o : zOut) (M : zM) : Array Value → State → Outcome → State → Prop := fun _ st oc t => (∃ v, o = .inl v ∧ oc = .returned (v.map (zrv X))) ∧ st.heap.size ≤ t.heap.size ∧ zHR X M t.heap
def zXc (X : zX) (o : zOut) (M : zM) : String → State → State → Prop := fun E st t => o = .inr E ∧ st.heap.size ≤ t.heap.size ∧ zHR X M t.heap
/-- from this point on the method comes to its end with r -/
def Rn (X : zX) (Y : zY) (d pc : Nat) (ls : List (Nat × Value)) (st : List Value) (M : zM) (r : Option (zOut × zM)) : Prop :=
  ∀ (o : zOut) (M' : zM), r = some (o, M') → ∀ (p : Program) (e : Env) (Rm : Room) (s : State) (m : MethodId) (args : Array Value) (below : List Frame) (meth : Method) (c : Code) (mc ms : Nat), zEv X Y d mc ms p Rm s m args meth c →
    ∀ (H : Heap) (locs : List Loc) (cells slots : Nat) (la : Array Slot), zSt X Y s M M' ls H locs cells slots mc ms la →
      W p (zl X) e Rm s m args below meth c H locs cells slots (vx_MQ below (zQc X o M') (zXc X o M') args s mc ms (zF X)) (F0 m pc la (st.map (zrv X)))
def zRm (d mc ms : Nat) : Room := { frames := d, cells := mc, slots := ms, locals := 40 * d }
/-- a whole call of Y with these arguments in this memory -/
def Sd (X : zX) (Y : zY) (d : Nat) (av : List Value) (M : zM) (r : Option (zOut × zM)) : Prop :=
  ∀ (o : zOut) (M' : zM), r = some (o, M') → ∀ mc ms : Nat, zcc M' ≤ mc + zcc M → zsc M' ≤ ms + zsc M → zcc M ≤ zcc M' → zsc M ≤ zsc M' →
    vx_Met (zl X) (yN Y) (yC Y :: z_T) (zRm d mc ms) (va_Pc (av.map (zrv X)) (fun U => zHR X M U.heap ∧ zKK X U)) (zQc X o M') (zXc X o M') mc ms (zF X)

section ROWS
variable {X : zX} {Y : zY} {d pc : Nat} {ls : List (Nat × Value)} {st : List Value} {M : zM} {r : Option (zOut × zM)}
theorem r_iadd {x y : Int32} (dg : decode (yB Y) pc = .ok (.iadd, 1)) (k : Rn X Y d (pc + 1) ls (.int (x + y) :: st) M r) : Rn X Y d pc ls (.int y :: .int x :: st) M r := by
  intro o M' hr p e Rm s m args below meth c mc ms E H locs cells slots la S
  exact lv_iadd E.1 E.2.1 dg (k o M' hr p e Rm s m args below meth c mc ms E H locs cells slots la S)
theorem r_isub {x y : Int32} (dg : decode (yB Y) pc = .ok (.isub, 1)) (k : Rn X Y d (pc + 1) ls (.int (x - y) :: st) M r) : Rn X Y d pc ls (.int y :: .int x :: st) M r := by
  intro o M' hr p e Rm s m args below meth c mc ms E H locs cells slots la S
  exact lv_isub E.1 E.2.1 dg (k o M' hr p e Rm s m args below meth c mc ms E H locs cells slots la S)
theorem r_imul {x y : Int32} (dg : decode (yB Y) pc = .ok (.imul, 1)) (k : Rn X Y d (pc + 1) ls (.int (x * y) :: st) M r) : Rn X Y d pc ls (.int y :: .int x :: st) M r := by
  intro o M' hr p e Rm s m args below meth c mc ms E H locs cells slots la S
  exact lv_imul E.1 E.2.1 dg (k o M' hr p e Rm s m args below meth c mc ms E H locs cells slots la S)
theorem r_iand {x y : Int32} (dg : decode (yB Y) pc = .ok (.iand, 1)) (k : Rn X Y d (pc + 1) ls (.int (x &&& y) :: st) M r) : Rn X Y d pc ls (.int y :: .int x :: st) M r := by
  intro o M' hr p e Rm s m args below meth c mc ms E H locs cells slots la S
  exact lv_iand E.1 E.2.1 dg (k o M' hr p e Rm s m args below meth c mc ms E H locs cells slots la S)
theorem r_ior {x y : Int32} (dg : decode (yB Y) pc = .ok (.ior, 1)) (k : Rn X Y d (pc + 1) ls (.int (x ||| y) :: st) M r) : Rn X Y d pc ls (.int y :: .int x :: st) M r := by
  intro o M' hr p e Rm s m args below meth c mc ms E H locs cells slots la S
  exact lv_ior E.1 E.2.1 dg (k o M' hr p e Rm s m args below meth c mc ms E H locs cells slots la S)
theorem r_ixor {x y : Int32} (dg : decode (yB Y) pc = .ok (.ixor, 1)) (k : Rn X Y d (pc + 1) ls (.int (x ^^^ y) :: st) M r) : Rn X Y d pc ls (.int y :: .int x :: st) M r := by
  intro o M' hr p e Rm s m args below meth c mc ms E H locs cells slots la S
  exact lv_ixor E.1 E.2.1 dg (k o M' hr p e Rm s m args below meth c mc ms E H locs cells slots la S)
theorem r_ladd {x y : Int64} (dg : decode (yB Y) pc = .ok (.ladd, 1)) (k : Rn X Y d (pc + 1) ls (.long (x + y) :: st) M r) : Rn X Y d pc ls (.long y :: .long x :: st) M r := by
  intro o M' hr p e Rm s m args below meth c mc ms E H locs cells slots la S
  exact lv_ladd E.1 E.2.1 dg (k o M' hr p e Rm s m args below meth c mc ms E H locs cells slots la S)
theorem r_lsub {x y : Int64} (dg : decode (yB Y) pc = .ok (.lsub, 1)) (k : Rn X Y d (pc + 1) ls (.long (x - y) :: st) M r) : Rn X Y d pc ls (.long y :: .long x :: st) M r := by
  intro o M' hr p e Rm s m args below meth c mc ms E H locs cells slots la S
  exact lv_lsub E.1 E.2.1 dg (k o M' hr p e Rm s m args below meth c mc ms E H locs cells slots la S)
theorem r_land {x y : Int64} (dg : decode (yB Y) pc = .ok (.land, 1)) (k : Rn X Y d (pc + 1) ls (.long (x &&& y) :: st) M r) : Rn X Y d pc ls (.long y :: .long x :: st) M r := by
  intro o M' hr p e Rm s m args below meth c mc ms E H locs cells slots la S
  exact lv_land E.1 E.2.1 dg (k o M' hr p e Rm s m args below meth c mc ms E H locs cells slots la S)
theorem r_lor {x y : Int64} (dg : decode (yB Y) pc = .ok (.lor, 1)) (k : Rn X Y d (pc + 1) ls (.long (x ||| y) :: st) M r) : Rn X Y d pc ls (.long y :: .long x :: st) M r := by
  intro o M' hr p e Rm s m args below meth c mc ms E H locs cells slots la S
  exact lv_lor E.1 E.2.1 dg (k o M' hr p e Rm s m args below meth c mc ms E H locs cells slots la S)
theorem r_lxor {x y : Int64} (dg : decode (yB Y) pc = .ok (.lxor, 1)) (k : Rn X Y d (pc + 1) ls (.long (x ^^^ y) :: st) M r) : Rn X Y d pc ls (.long y :: .long x :: st) M r := by
  intro o M' hr p e Rm s m args below meth c mc ms E H locs cells slots la S
  exact lv_lxor E.1 E.2.1 dg (k o M' hr p e Rm s m args below meth c mc ms E H locs cells slots la S)
theorem r_ineg {x : Int32} (dg : decode (yB Y) pc = .ok (.ineg, 1)) (k : Rn X Y d (pc + 1) ls (.int (-x) :: st) M r) : Rn X Y d pc ls (.int x :: st) M r := by
  intro o M' hr p e Rm s m args below meth c mc ms E H locs cells slots la S
  exact lv_ineg E.1 E.2.1 dg (k o M' hr p e Rm s m args below meth c mc ms E H locs cells slots la S)
theorem r_lneg {x : Int64} (dg : decode (yB Y) pc = .ok (.lneg, 1)) (k : Rn X Y d (pc + 1) ls (.long (-x) :: st) M r) : Rn X Y d pc ls (.long x :: st) M r := by
  intro o M' hr p e Rm s m args below meth c mc ms E H locs cells slots la S
  exact lv_lneg E.1 E.2.1 dg (k o M' hr p e Rm s m args below meth c mc ms E H locs cells slots la S)
theorem r_ishl {x y : Int32} (dg : decode (yB Y) pc = .ok (.ishl, 1)) (k : Rn X Y d (pc + 1) ls (.int (x <<< (y &&& 31)) :: st) M r) : Rn X Y d pc ls (.int y :: .int x :: st) M r := by
  intro o M' hr p e Rm s m args below meth c mc ms E H locs cells slots la S
  exact lv_ishl E.1 E.2.1 dg (k o M' hr p e Rm s m args below meth c mc ms E H locs cells slots la S)
theorem r_ishr {x y : Int32} (dg : decode (yB Y) pc = .ok (.ishr, 1)) (k : Rn X Y d (pc + 1) ls (.int (x >>> (y &&& 31)) :: st) M r) : Rn X Y d pc ls (.int y :: .int x :: st) M r := by
  intro o M' hr p e Rm s m args below meth c mc ms E H locs cells slots la S
  exact lv_ishr E.1 E.2.1 dg (k o M' hr p e Rm s m args below meth c mc ms E H locs cells slots la S)
def zushr (x y : Int32) : Int32 := (x.toUInt32 >>> (y.toUInt32 &&& Int32.toUInt32 31)).toInt32
def zlushr (x : Int64) (y : Int32) : Int64 := (x.toUInt64 >>> (y.toInt64.toUInt64 &&& Int64.toUInt64 63)).toInt64
def zlshl (x : Int64) (y : Int32) : Int64 := x <<< (y.toInt64 &&& 63)
theorem r_iushr {x y : Int32} (dg : decode (yB Y) pc = .ok (.iushr, 1)) (k : Rn X Y d (pc + 1) ls (.int (zushr x y) :: st) M r) : Rn X Y d pc ls (.int y :: .int x :: st) M r := by
  intro o M' hr p e Rm s m args below meth c mc ms E H locs cells slots la S
  exact lv_iushr E.1 E.2.1 dg rfl (k o M' hr p e Rm s m args below meth c mc ms E H locs cells slots la S)
theorem r_lushr {x : Int64} {y : Int32} (dg : decode (yB Y) pc = .ok (.lushr, 1)) (k : Rn X Y d (pc + 1) ls (.long (zlushr x y) :: st) M r) : Rn X Y d pc ls (.int y :: .long x :: st) M r := by
  intro o M' hr p e Rm s m args below meth c mc ms E H locs cells slots la S
  exact lv_lushr E.1 E.2.1 dg rfl (k o M' hr p e Rm s m args below meth c mc ms E H locs cells slots la S)
theorem r_lshl {x : Int64} {y : Int32} (dg : decode (yB Y) pc = .ok (.lshl, 1)) (k : Rn X Y d (pc + 1) ls (.long (zlshl x y) :: st) M r) : Rn X Y d pc ls (.int y :: .long x :: st) M r := by
  intro o M' hr p e Rm s m args below meth c mc ms E H locs cells slots la S
  exact lv_lshl E.1 E.2.1 dg rfl (k o M' hr p e Rm s m args below meth c mc ms E H locs cells slots la S)
theorem r_i2l {x : Int32} (dg : decode (yB Y) pc = .ok (.i2l, 1)) (k : Rn X Y d (pc + 1) ls (.long x.toInt64 :: st) M r) : Rn X Y d pc ls (.int x :: st) M r := by
  intro o M' hr p e Rm s m args below meth c mc ms E H locs cells slots la S
  exact lv_i2l E.1 E.2.1 dg rfl (k o M' hr p e Rm s m args below meth c mc ms E H locs cells slots la S)
theorem r_l2i {x : Int64} (dg : decode (yB Y) pc = .ok (.l2i, 1)) (k : Rn X Y d (pc + 1) ls (.int x.toInt32 :: st) M r) : Rn X Y d pc ls (.long x :: st) M r := by
  intro o M' hr p e Rm s m args below meth c mc ms E H locs cells slots la S
  exact lv_l2i E.1 E.2.1 dg rfl (k o M' hr p e Rm s m args below meth c mc ms E H locs cells slots la S)
theorem r_i2b {x : Int32} (dg : decode (yB Y) pc = .ok (.i2b, 1)) (k : Rn X Y d (pc + 1) ls (.int x.toInt8.toInt32 :: st) M r) : Rn X Y d pc ls (.int x :: st) M r := by
  intro o M' hr p e Rm s m args below meth c mc ms E H locs cells slots la S
  exact lv_i2b E.1 E.2.1 dg rfl (k o M' hr p e Rm s m args below meth c mc ms E H locs cells slots la S)
theorem r_lcmp {x y : Int64} (dg : decode (yB Y) pc = .ok (.lcmp, 1)) (k : Rn X Y d (pc + 1) ls (.int (lg_cmp x y) :: st) M r) : Rn X Y d pc ls (.long y :: .long x :: st) M r := by
  intro o M' hr p e Rm s m args below meth c mc ms E H locs cells slots la S
  exact W.lcmp E.1 E.2.1 dg (k o M' hr p e Rm s m args below meth c mc ms E H locs cells slots la S)
theorem r_iconst {n : Int} (v : Int32) (dg : decode (yB Y) pc = .ok (.iconst n, 1)) (hv : Int32.ofInt n = v) (k : Rn X Y d (pc + 1) ls (.int v :: st) M r) : Rn X Y d pc ls (st) M r := by
  intro o M' hr p e Rm s m args below meth c mc ms E H locs cells slots la S
  exact lv_iconst E.1 E.2.1 dg hv (k o M' hr p e Rm s m args below meth c mc ms E H locs cells slots la S)
theorem r_bipush {n : Int} (v : Int32) (dg : decode (yB Y) pc = .ok (.bipush n, 2)) (hv : (Int8.ofInt n).toInt32 = v) (k : Rn X Y d (pc + 2) ls (.int v :: st) M r) : Rn X Y d pc ls (st) M r := by
  intro o M' hr p e Rm s m args below meth c mc ms E H locs cells slots la S
  exact lv_bipush E.1 E.2.1 dg hv (k o M' hr p e Rm s m args below meth c mc ms E H locs cells slots la S)
theorem r_sipush {n : Int} (v : Int32) (dg : decode (yB Y) pc = .ok (.sipush n, 3)) (hv : (Int16.ofInt n).toInt32 = v) (k : Rn X Y d (pc + 3) ls (.int v :: st) M r) : Rn X Y d pc ls (st) M r := by
  intro o M' hr p e Rm s m args below meth c mc ms E H locs cells slots la S
  exact lv_sipush E.1 E.2.1 dg hv (k o M' hr p e Rm s m args below meth c mc ms E H locs cells slots la S)
theorem r_lconst {n : Fin 2} (v : Int64) (dg : decode (yB Y) pc = .ok (.lconst n, 1)) (hv : Int64.ofNat (n : Nat) = v) (k : Rn X Y d (pc + 1) ls (.long v :: st) M r) : Rn X Y d pc ls (st) M r := by
  intro o M' hr p e Rm s m args below meth c mc ms E H locs cells slots la S
  exact lv_lconst E.1 E.2.1 dg hv (k o M' hr p e Rm s m args below meth c mc ms E H locs cells slots la S)
theorem r_ldc {i : Nat} {v : Int32} (dg : decode (yB Y) pc = .ok (.ldc i, 2)) (hw : Cond.constant (yO Y) i v ∈ z_T) (k : Rn X Y d (pc + 2) ls (.int v :: st) M r) : Rn X Y d pc ls (st) M r := by
  intro o M' hr p e Rm s m args below meth c mc ms E H locs cells slots la S
  exact lv_ldc E.1 E.2.1 E.2.2.2.2.1 (E.2.2.2.2.2.1 _ hw) dg (k o M' hr p e Rm s m args below meth c mc ms E H locs cells slots la S)
theorem r_ldcw {i : Nat} {v : Int32} (dg : decode (yB Y) pc = .ok (.ldc_w i, 3)) (hw : Cond.constant (yO Y) i v ∈ z_T) (k : Rn X Y d (pc + 3) ls (.int v :: st) M r) : Rn X Y d pc ls (st) M r := by
  intro o M' hr p e Rm s m args below meth c mc ms E H locs cells slots la S
  exact lv_ldcw E.1 E.2.1 E.2.2.2.2.1 (E.2.2.2.2.2.1 _ hw) dg (k o M' hr p e Rm s m args below meth c mc ms E H locs cells slots la S)
theorem r_ldc2 {i : Nat} {v : Int64} (dg : decode (yB Y) pc = .ok (.ldc2_w i, 3)) (hw : Cond.constantLong (yO Y) i v ∈ z_T) (k : Rn X Y d (pc + 3) ls (.long v :: st) M r) : Rn X Y d pc ls (st) M r := by
  intro o M' hr p e Rm s m args below meth c mc ms E H locs cells slots la S
  exact lv_ldc2 E.1 E.2.1 E.2.2.2.2.1 (E.2.2.2.2.2.1 _ hw) dg (k o M' hr p e Rm s m args below meth c mc ms E H locs cells slots la S)
theorem zrv_cat {X : zX} (v : Value) : (zrv X v).category = v.category := by cases v <;> rfl
theorem r_pop {v : Value} (dg : decode (yB Y) pc = .ok (.pop, 1)) (hv : v.category = 1) (k : Rn X Y d (pc + 1) ls (st) M r) : Rn X Y d pc ls (v :: st) M r := by
  intro o M' hr p e Rm s m args below meth c mc ms E H locs cells slots la S
  exact lv_pop E.1 E.2.1 dg (by rw [zrv_cat]; exact hv) (k o M' hr p e Rm s m args below meth c mc ms E H locs cells slots la S)
theorem r_dup {v : Value} (dg : decode (yB Y) pc = .ok (.dup, 1)) (hv : v.category = 1) (k : Rn X Y d (pc + 1) ls (v :: v :: st) M r) : Rn X Y d pc ls (v :: st) M r := by
  intro o M' hr p e Rm s m args below meth c mc ms E H locs cells slots la S
  exact lv_dup E.1 E.2.1 dg (by rw [zrv_cat]; exact hv) (k o M' hr p e Rm s m args below meth c mc ms E H locs cells slots la S)
theorem r_dup2 {v w : Value} (dg : decode (yB Y) pc = .ok (.dup2, 1)) (hv : v.category = 1) (hw : w.category = 1) (k : Rn X Y d (pc + 1) ls (v :: w :: v :: w :: st) M r) : Rn X Y d pc ls (v :: w :: st) M r := by
  intro o M' hr p e Rm s m args below meth c mc ms E H locs cells slots la S
  exact lv_dup2_11 E.1 E.2.1 dg (by rw [zrv_cat]; exact hv) (by rw [zrv_cat]; exact hw) (k o M' hr p e Rm s m args below meth c mc ms E H locs cells slots la S)
theorem r_dup2l {v : Value} (dg : decode (yB Y) pc = .ok (.dup2, 1)) (hv : v.category = 2) (k : Rn X Y d (pc + 1) ls (v :: v :: st) M r) : Rn X Y d pc ls (v :: st) M r := by
  intro o M' hr p e Rm s m args below meth c mc ms E H locs cells slots la S
  exact lv_dup2_2 E.1 E.2.1 dg (by rw [zrv_cat]; exact hv) (k o M' hr p e Rm s m args below meth c mc ms E H locs cells slots la S)
theorem z_loc {la : Array Slot} {n : Nat} (h : lv_has la n (ls.map (fun q => (q.1, zrv X q.2)))) (k : Nat) {i : Nat} {v : Value} (hk : ls[k]? = some (i, v)) : la[i]? = some (.val (zrv X v)) := lv_at h k (by rw [List.getElem?_map, hk]; rfl)
theorem z_set1 (i : Nat) (v : Value) : (i, zrv X v) :: (ls.map (fun q => (q.1, zrv X q.2))).filter (fun q => !(q.1 == i) && !(q.1 + 1 == i && q.2.category == 2)) = (((i, v) :: ls.filter (fun q => !(q.1 == i) && !(q.1 + 1 == i && q.2.category == 2)))).map (fun q => (q.1, zrv X q.2)) := by
  rw [List.map_cons, List.filter_map]
  congr 3
  funext q
  simp [zrv_cat]
theorem z_set2 (i : Nat) (v : Value) : (i, zrv X v) :: (ls.map (fun q => (q.1, zrv X q.2))).filter (fun q => !(q.1 == i) && (!(q.1 == i + 1) && !(q.1 + 1 == i && q.2.category == 2))) = (((i, v) :: ls.filter (fun q => !(q.1 == i) && (!(q.1 == i + 1) && !(q.1 + 1 == i && q.2.category == 2))))).map (fun q => (q.1, zrv X q.2)) := by
  rw [List.map_cons, List.filter_map]
  congr 3
  funext q
  simp [zrv_cat]
theorem r_iload {i : Nat} {x : Int32} (k0 : Nat) (dg : decode (yB Y) pc = .ok (.iload i, 2)) (hl : ls[k0]? = some (i, .int x)) (k : Rn X Y d (pc + 2) ls (.int x :: st) M r) : Rn X Y d pc ls (st) M r := by
  intro o M' hr p e Rm s m args below meth c mc ms E H locs cells slots la S
  exact lv_iload E.1 E.2.1 dg (z_loc S.2.2.2.1 k0 hl) (k o M' hr p e Rm s m args below meth c mc ms E H locs cells slots la S)
theorem r_iload_n {n : Fin 4} {i : Nat} {x : Int32} (k0 : Nat) (dg : decode (yB Y) pc = .ok (.iload_n n, 1)) (hi : (n : Nat) = i) (hl : ls[k0]? = some (i, .int x)) (k : Rn X Y d (pc + 1) ls (.int x :: st) M r) : Rn X Y d pc ls (st) M r := by
  intro o M' hr p e Rm s m args below meth c mc ms E H locs cells slots la S
  exact lv_iload_n E.1 E.2.1 dg hi (z_loc S.2.2.2.1 k0 hl) (k o M' hr p e Rm s m args below meth c mc ms E H locs cells slots la S)
theorem r_lload {i : Nat} {x : Int64} (k0 : Nat) (dg : decode (yB Y) pc = .ok (.lload i, 2)) (hl : ls[k0]? = some (i, .long x)) (k : Rn X Y d (pc + 2) ls (.long x :: st) M r) : Rn X Y d pc ls (st) M r := by
  intro o M' hr p e Rm s m args below meth c mc ms E H locs cells slots la S
  exact lv_lload E.1 E.2.1 dg (z_loc S.2.2.2.1 k0 hl) (k o M' hr p e Rm s m args below meth c mc ms E H locs cells slots la S)
theorem r_lload_n {n : Fin 4} {i : Nat} {x : Int64} (k0 : Nat) (dg : decode (yB Y) pc = .ok (.lload_n n, 1)) (hi : (n : Nat) = i) (hl : ls[k0]? = some (i, .long x)) (k : Rn X Y d (pc + 1) ls (.long x :: st) M r) : Rn X Y d pc ls (st) M r := by
  intro o M' hr p e Rm s m args below meth c mc ms E H locs cells slots la S
  exact lv_lload_n E.1 E.2.1 dg hi (z_loc S.2.2.2.1 k0 hl) (k o M' hr p e Rm s m args below meth c mc ms E H locs cells slots la S)
theorem r_aload {i : Nat} {x : Nat} (k0 : Nat) (dg : decode (yB Y) pc = .ok (.aload i, 2)) (hl : ls[k0]? = some (i, .ref x)) (k : Rn X Y d (pc + 2) ls (.ref x :: st) M r) : Rn X Y d pc ls (st) M r := by
  intro o M' hr p e Rm s m args below meth c mc ms E H locs cells slots la S
  exact lv_aload E.1 E.2.1 dg (z_loc S.2.2.2.1 k0 hl) (k o M' hr p e Rm s m args below meth c mc ms E H locs cells slots la S)
theorem r_aload_n {n : Fin 4} {i : Nat} {x : Nat} (k0 : Nat) (dg : decode (yB Y) pc = .ok (.aload_n n, 1)) (hi : (n : Nat) = i) (hl : ls[k0]? = some (i, .ref x)) (k : Rn X Y d (pc + 1) ls (.ref x :: st) M r) : Rn X Y d pc ls (st) M r := by
  intro o M' hr p e Rm s m args below meth c mc ms E H locs cells slots la S
  exact lv_aload_n E.1 E.2.1 dg hi (z_loc S.2.2.2.1 k0 hl) (k o M' hr p e Rm s m args below meth c mc ms E H locs cells slots la S)
theorem r_istore {i : Nat} {x : Int32} {ls' : List (Nat × Value)} (dg : decode (yB Y) pc = .ok (.istore i, 2)) (hn : i < yL Y) (hl : (i, .int x) :: ls.filter (fun q => (!(q.1 == i) && !(q.1 + 1 == i && q.2.category == 2))) = ls') (k : Rn X Y d (pc + 2) ls' st M r) : Rn X Y d pc ls (.int x :: st) M r := by
  subst hl
  intro o M' hr p e Rm s m args below meth c mc ms E H locs cells slots la S
  exact lv_istore E.1 E.2.1 dg S.2.2.2.1 hn (z_set1 (X := X) i (.int x)) (fun la hla => k o M' hr p e Rm s m args below meth c mc ms E H locs cells slots la ⟨S.1, S.2.1, S.2.2.1, hla, S.2.2.2.2⟩)
theorem r_istore_n {n : Fin 4} {i : Nat} {x : Int32} {ls' : List (Nat × Value)} (dg : decode (yB Y) pc = .ok (.istore_n n, 1)) (hi : (n : Nat) = i) (hn : i < yL Y) (hl : (i, .int x) :: ls.filter (fun q => (!(q.1 == i) && !(q.1 + 1 == i && q.2.category == 2))) = ls') (k : Rn X Y d (pc + 1) ls' st M r) : Rn X Y d pc ls (.int x :: st) M r := by
  subst hl
  intro o M' hr p e Rm s m args below meth c mc ms E H locs cells slots la S
  exact lv_istore_n E.1 E.2.1 dg hi S.2.2.2.1 hn (z_set1 (X := X) i (.int x)) (fun la hla => k o M' hr p e Rm s m args below meth c mc ms E H locs cells slots la ⟨S.1, S.2.1, S.2.2.1, hla, S.2.2.2.2⟩)
theorem r_lstore {i : Nat} {x : Int64} {ls' : List (Nat × Value)} (dg : decode (yB Y) pc = .ok (.lstore i, 2)) (hn : i + 1 < yL Y) (hl : (i, .long x) :: ls.filter (fun q => (!(q.1 == i) && (!(q.1 == i + 1) && !(q.1 + 1 == i && q.2.category == 2)))) = ls') (k : Rn X Y d (pc + 2) ls' st M r) : Rn X Y d pc ls (.long x :: st) M r := by
  subst hl
  intro o M' hr p e Rm s m args below meth c mc ms E H locs cells slots la S
  exact lv_lstore E.1 E.2.1 dg S.2.2.2.1 hn (z_set2 (X := X) i (.long x)) (fun la hla => k o M' hr p e Rm s m args below meth c mc ms E H locs cells slots la ⟨S.1, S.2.1, S.2.2.1, hla, S.2.2.2.2⟩)
theorem r_lstore_n {n : Fin 4} {i : Nat} {x : Int64} {ls' : List (Nat × Value)} (dg : decode (yB Y) pc = .ok (.lstore_n n, 1)) (hi : (n : Nat) = i) (hn : i + 1 < yL Y) (hl : (i, .long x) :: ls.filter (fun q => (!(q.1 == i) && (!(q.1 == i + 1) && !(q.1 + 1 == i && q.2.category == 2)))) = ls') (k : Rn X Y d (pc + 1) ls' st M r) : Rn X Y d pc ls (.long x :: st) M r := by
  subst hl
  intro o M' hr p e Rm s m args below meth c mc ms E H locs cells slots la S
  exact lv_lstore_n E.1 E.2.1 dg hi S.2.2.2.1 hn (z_set2 (X := X) i (.long x)) (fun la hla => k o M' hr p e Rm s m args below meth c mc ms E H locs cells slots la ⟨S.1, S.2.1, S.2.2.1, hla, S.2.2.2.2⟩)
theorem r_astore {i : Nat} {x : Nat} {ls' : List (Nat × Value)} (dg : decode (yB Y) pc = .ok (.astore i, 2)) (hn : i < yL Y) (hl : (i, .ref x) :: ls.filter (fun q => (!(q.1 == i) && !(q.1 + 1 == i && q.2.category == 2))) = ls') (k : Rn X Y d (pc + 2) ls' st M r) : Rn X Y d pc ls (.ref x :: st) M r := by
  subst hl
  intro o M' hr p e Rm s m args below meth c mc ms E H locs cells slots la S
  exact lv_astore E.1 E.2.1 dg S.2.2.2.1 hn (z_set1 (X := X) i (.ref x)) (fun la hla => k o M' hr p e Rm s m args below meth c mc ms E H locs cells slots la ⟨S.1, S.2.1, S.2.2.1, hla, S.2.2.2.2⟩)
theorem r_astore_n {n : Fin 4} {i : Nat} {x : Nat} {ls' : List (Nat × Value)} (dg : decode (yB Y) pc = .ok (.astore_n n, 1)) (hi : (n : Nat) = i) (hn : i < yL Y) (hl : (i, .ref x) :: ls.filter (fun q => (!(q.1 == i) && !(q.1 + 1 == i && q.2.category == 2))) = ls') (k : Rn X Y d (pc + 1) ls' st M r) : Rn X Y d pc ls (.ref x :: st) M r := by
  subst hl
  intro o M' hr p e Rm s m args below meth c mc ms E H locs cells slots la S
  exact lv_astore_n E.1 E.2.1 dg hi S.2.2.2.1 hn (z_set1 (X := X) i (.ref x)) (fun la hla => k o M' hr p e Rm s m args below meth c mc ms E H locs cells slots la ⟨S.1, S.2.1, S.2.2.1, hla, S.2.2.2.2⟩)
theorem r_iinc {i : Nat} {n : Int} {x : Int32} (v : Int32) (k0 : Nat) {ls' : List (Nat × Value)} (dg : decode (yB Y) pc = .ok (.iinc i n, 3)) (hk : ls[k0]? = some (i, .int x)) (hv : x + Int32.ofInt n = v) (hn : i < yL Y) (hl : (i, .int v) :: ls.filter (fun q => (!(q.1 == i) && !(q.1 + 1 == i && q.2.category == 2))) = ls') (k : Rn X Y d (pc + 3) ls' st M r) : Rn X Y d pc ls st M r := by
  subst hl
  intro o M' hr p e Rm s m args below meth c mc ms E H locs cells slots la S
  exact lv_iinc E.1 E.2.1 dg S.2.2.2.1 (k := k0) (by rw [List.getElem?_map, hk]; rfl) hv hn (z_set1 (X := X) i (.int v)) (fun la hla => k o M' hr p e Rm s m args below meth c mc ms E H locs cells slots la ⟨S.1, S.2.1, S.2.2.1, hla, S.2.2.2.2⟩)
theorem r_goto {off : Int} (tgt : Nat) (dg : decode (yB Y) pc = .ok (.goto off, 3)) (ht : (pc : Int) + off = (tgt : Int)) (k : Rn X Y d tgt ls st M r) : Rn X Y d pc ls st M r := by
  intro o M' hr p e Rm s m args below meth c mc ms E H locs cells slots la S
  exact lv_goto E.1 E.2.1 dg ht (k o M' hr p e Rm s m args below meth c mc ms E H locs cells slots la S)
theorem r_icmp_eq {α : Type} {x y : Int32} {off : Int} (tgt : Nat) {f : α → Option (zOut × zM)} {a b : α} (dg : decode (yB Y) pc = .ok (.if_icmp .eq off, 3)) (ht : (pc : Int) + off = (tgt : Int)) (kt : x = y → Rn X Y d tgt ls st M (f a)) (kf : ¬ x = y → Rn X Y d (pc + 3) ls st M (f b)) : Rn X Y d pc ls (.int y :: .int x :: st) M (f (if x = y then a else b)) := by
  intro o M' hr p e Rm s m args below meth c mc ms E H locs cells slots la S
  exact lv_icmp_eq E.1 E.2.1 dg ht (fun h => kt h o M' (by rw [if_pos h] at hr; exact hr) p e Rm s m args below meth c mc ms E H locs cells slots la S) (fun h => kf h o M' (by rw [if_neg h] at hr; exact hr) p e Rm s m args below meth c mc ms E H locs cells slots la S)
theorem r_if_eq {α : Type} {x : Int32} {off : Int} (tgt : Nat) {f : α → Option (zOut × zM)} {a b : α} (dg : decode (yB Y) pc = .ok (.ifCond .eq off, 3)) (ht : (pc : Int) + off = (tgt : Int)) (kt : x = 0 → Rn X Y d tgt ls st M (f a)) (kf : ¬ x = 0 → Rn X Y d (pc + 3) ls st M (f b)) : Rn X Y d pc ls (.int x :: st) M (f (if x = 0 then a else b)) := by
  intro o M' hr p e Rm s m args below meth c mc ms E H locs cells slots la S
  exact lv_if_eq E.1 E.2.1 dg ht (fun h => kt h o M' (by rw [if_pos h] at hr; exact hr) p e Rm s m args below meth c mc ms E H locs cells slots la S) (fun h => kf h o M' (by rw [if_neg h] at hr; exact hr) p e Rm s m args below meth c mc ms E H locs cells slots la S)
theorem r_icmp_ne {α : Type} {x y : Int32} {off : Int} (tgt : Nat) {f : α → Option (zOut × zM)} {a b : α} (dg : decode (yB Y) pc = .ok (.if_icmp .ne off, 3)) (ht : (pc : Int) + off = (tgt : Int)) (kt : ¬ x = y → Rn X Y d tgt ls st M (f a)) (kf : x = y → Rn X Y d (pc + 3) ls st M (f b)) : Rn X Y d pc ls (.int y :: .int x :: st) M (f (if x = y then b else a)) := by
  intro o M' hr p e Rm s m args below meth c mc ms E H locs cells slots la S
  exact lv_icmp_ne E.1 E.2.1 dg ht (fun h => kt h o M' (by rw [if_neg h] at hr; exact hr) p e Rm s m args below meth c mc ms E H locs cells slots la S) (fun h => kf h o M' (by rw [if_pos h] at hr; exact hr) p e Rm s m args below meth c mc ms E H locs cells slots la S)
theorem r_if_ne {α : Type} {x : Int32} {off : Int} (tgt : Nat) {f : α → Option (zOut × zM)} {a b : α} (dg : decode (yB Y) pc = .ok (.ifCond .ne off, 3)) (ht : (pc : Int) + off = (tgt : Int)) (kt : ¬ x = 0 → Rn X Y d tgt ls st M (f a)) (kf : x = 0 → Rn X Y d (pc + 3) ls st M (f b)) : Rn X Y d pc ls (.int x :: st) M (f (if x = 0 then b else a)) := by
  intro o M' hr p e Rm s m args below meth c mc ms E H locs cells slots la S
  exact lv_if_ne E.1 E.2.1 dg ht (fun h => kt h o M' (by rw [if_neg h] at hr; exact hr) p e Rm s m args below meth c mc ms E H locs cells slots la S) (fun h => kf h o M' (by rw [if_pos h] at hr; exact hr) p e Rm s m args below meth c mc ms E H locs cells slots la S)
theorem r_icmp_lt {α : Type} {x y : Int32} {off : Int} (tgt : Nat) {f : α → Option (zOut × zM)} {a b : α} (dg : decode (yB Y) pc = .ok (.if_icmp .lt off, 3)) (ht : (pc : Int) + off = (tgt : Int)) (kt : x < y → Rn X Y d tgt ls st M (f a)) (kf : ¬ x < y → Rn X Y d (pc + 3) ls st M (f b)) : Rn X Y d pc ls (.int y :: .int x :: st) M (f (if x < y then a else b)) := by
  intro o M' hr p e Rm s m args below meth c mc ms E H locs cells slots la S
  exact lv_icmp_lt E.1 E.2.1 dg ht (fun h => kt h o M' (by rw [if_pos h] at hr; exact hr) p e Rm s m args below meth c mc ms E H locs cells slots la S) (fun h => kf h o M' (by rw [if_neg h] at hr; exact hr) p e Rm s m args below meth c mc ms E H locs cells slots la S)
theorem r_if_lt {α : Type} {x : Int32} {off : Int} (tgt : Nat) {f : α → Option (zOut × zM)} {a b : α} (dg : decode (yB Y) pc = .ok (.ifCond .lt off, 3)) (ht : (pc : Int) + off = (tgt : Int)) (kt : x < 0 → Rn X Y d tgt ls st M (f a)) (kf : ¬ x < 0 → Rn X Y d (pc + 3) ls st M (f b)) : Rn X Y d pc ls (.int x :: st) M (f (if x < 0 then a else b)) := by
  intro o M' hr p e Rm s m args below meth c mc ms E H locs cells slots la S
  exact lv_if_lt E.1 E.2.1 dg ht (fun h => kt h o M' (by rw [if_pos h] at hr; exact hr) p e Rm s m args below meth c mc ms E H locs cells slots la S) (fun h => kf h o M' (by rw [if_neg h] at hr; exact hr) p e Rm s m args below meth c mc ms E H locs cells slots la S)
theorem r_icmp_ge {α : Type} {x y : Int32} {off : Int} (tgt : Nat) {f : α → Option (zOut × zM)} {a b : α} (dg : decode (yB Y) pc = .ok (.if_icmp .ge off, 3)) (ht : (pc : Int) + off = (tgt : Int)) (kt : y ≤ x → Rn X Y d tgt ls st M (f a)) (kf : ¬ y ≤ x → Rn X Y d (pc + 3) ls st M (f b)) : Rn X Y d pc ls (.int y :: .int x :: st) M (f (if y ≤ x then a else b)) := by
  intro o M' hr p e Rm s m args below meth c mc ms E H locs cells slots la S
  exact lv_icmp_ge E.1 E.2.1 dg ht (fun h => kt h o M' (by rw [if_pos h] at hr; exact hr) p e Rm s m args below meth c mc ms E H locs cells slots la S) (fun h => kf h o M' (by rw [if_neg h] at hr; exact hr) p e Rm s m args below meth c mc ms E H locs cells slots la S)
theorem r_if_ge {α : Type} {x : Int32} {off : Int} (tgt : Nat) {f : α → Option (zOut × zM)} {a b : α} (dg : decode (yB Y) pc = .ok (.ifCond .ge off, 3)) (ht : (pc : Int) + off = (tgt : Int)) (kt : 0 ≤ x → Rn X Y d tgt ls st M (f a)) (kf : ¬ 0 ≤ x → Rn X Y d (pc + 3) ls st M (f b)) : Rn X Y d pc ls (.int x :: st) M (f (if 0 ≤ x then a else b)) := by
  intro o M' hr p e Rm s m args below meth c mc ms E H locs cells slots la S
  exact lv_if_ge E.1 E.2.1 dg ht (fun h => kt h o M' (by rw [if_pos h] at hr; exact hr) p e Rm s m args below meth c mc ms E H locs cells slots la S) (fun h => kf h o M' (by rw [if_neg h] at hr; exact hr) p e Rm s m args below meth c mc ms E H locs cells slots la S)
theorem r_icmp_gt {α : Type} {x y : Int32} {off : Int} (tgt : Nat) {f : α → Option (zOut × zM)} {a b : α} (dg : decode (yB Y) pc = .ok (.if_icmp .gt off, 3)) (ht : (pc : Int) + off = (tgt : Int)) (kt : y < x → Rn X Y d tgt ls st M (f a)) (kf : ¬ y < x → Rn X Y d (pc + 3) ls st M (f b)) : Rn X Y d pc ls (.int y :: .int x :: st) M (f (if y < x then a else b)) := by
  intro o M' hr p e Rm s m args below meth c mc ms E H locs cells slots la S
  exact lv_icmp_gt E.1 E.2.1 dg ht (fun h => kt h o M' (by rw [if_pos h] at hr; exact hr) p e Rm s m args below meth c mc ms E H locs cells slots la S) (fun h => kf h o M' (by rw [if_neg h] at hr; exact hr) p e Rm s m args below meth c mc ms E H locs cells slots la S)
theorem r_if_gt {α : Type} {x : Int32} {off : Int} (tgt : Nat) {f : α → Option (zOut × zM)} {a b : α} (dg : decode (yB Y) pc = .ok (.ifCond .gt off, 3)) (ht : (pc : Int) + off = (tgt : Int)) (kt : 0 < x → Rn X Y d tgt ls st M (f a)) (kf : ¬ 0 < x → Rn X Y d (pc + 3) ls st M (f b)) : Rn X Y d pc ls (.int x :: st) M (f (if 0 < x then a else b)) := by
  intro o M' hr p e Rm s m args below meth c mc ms E H locs cells slots la S
  exact lv_if_gt E.1 E.2.1 dg ht (fun h => kt h o M' (by rw [if_pos h] at hr; exact hr) p e Rm s m args below meth c mc ms E H locs cells slots la S) (fun h => kf h o M' (by rw [if_neg h] at hr; exact hr) p e Rm s m args below meth c mc ms E H locs cells slots la S)
theorem r_icmp_le {α : Type} {x y : Int32} {off : Int} (tgt : Nat) {f : α → Option (zOut × zM)} {a b : α} (dg : decode (yB Y) pc = .ok (.if_icmp .le off, 3)) (ht : (pc : Int) + off = (tgt : Int)) (kt : x ≤ y → Rn X Y d tgt ls st M (f a)) (kf : ¬ x ≤ y → Rn X Y d (pc + 3) ls st M (f b)) : Rn X Y d pc ls (.int y :: .int x :: st) M (f (if x ≤ y then a else b)) := by
  intro o M' hr p e Rm s m args below meth c mc ms E H locs cells slots la S
  exact lv_icmp_le E.1 E.2.1 dg ht (fun h => kt h o M' (by rw [if_pos h] at hr; exact hr) p e Rm s m args below meth c mc ms E H locs cells slots la S) (fun h => kf h o M' (by rw [if_neg h] at hr; exact hr) p e Rm s m args below meth c mc ms E H locs cells slots la S)
theorem r_if_le {α : Type} {x : Int32} {off : Int} (tgt : Nat) {f : α → Option (zOut × zM)} {a b : α} (dg : decode (yB Y) pc = .ok (.ifCond .le off, 3)) (ht : (pc : Int) + off = (tgt : Int)) (kt : x ≤ 0 → Rn X Y d tgt ls st M (f a)) (kf : ¬ x ≤ 0 → Rn X Y d (pc + 3) ls st M (f b)) : Rn X Y d pc ls (.int x :: st) M (f (if x ≤ 0 then a else b)) := by
  intro o M' hr p e Rm s m args below meth c mc ms E H locs cells slots la S
  exact lv_if_le E.1 E.2.1 dg ht (fun h => kt h o M' (by rw [if_pos h] at hr; exact hr) p e Rm s m args below meth c mc ms E H locs cells slots la S) (fun h => kf h o M' (by rw [if_neg h] at hr; exact hr) p e Rm s m args below meth c mc ms E H locs cells slots la S)
theorem b_icmp_eq {x y : Int32} {off : Int} (tgt : Nat) (dg : decode (yB Y) pc = .ok (.if_icmp .eq off, 3)) (ht : (pc : Int) + off = (tgt : Int)) (kt : x = y → Rn X Y d tgt ls st M r) (kf : ¬ x = y → Rn X Y d (pc + 3) ls st M r) : Rn X Y d pc ls (.int y :: .int x :: st) M r := by
  intro o M' hr p e Rm s m args below meth c mc ms E H locs cells slots la S
  exact lv_icmp_eq E.1 E.2.1 dg ht (fun h => kt h o M' hr p e Rm s m args below meth c mc ms E H locs cells slots la S) (fun h => kf h o M' hr p e Rm s m args below meth c mc ms E H locs cells slots la S)
theorem b_if_eq {x : Int32} {off : Int} (tgt : Nat) (dg : decode (yB Y) pc = .ok (.ifCond .eq off, 3)) (ht : (pc : Int) + off = (tgt : Int)) (kt : x = 0 → Rn X Y d tgt ls st M r) (kf : ¬ x = 0 → Rn X Y d (pc + 3) ls st M r) : Rn X Y d pc ls (.int x :: st) M r := by
  intro o M' hr p e Rm s m args below meth c mc ms E H locs cells slots la S
  exact lv_if_eq E.1 E.2.1 dg ht (fun h => kt h o M' hr p e Rm s m args below meth c mc ms E H locs cells slots la S) (fun h => kf h o M' hr p e Rm s m args below meth c mc ms E H locs cells slots la S)
theorem b_icmp_ne {x y : Int32} {off : Int} (tgt : Nat) (dg : decode (yB Y) pc = .ok (.if_icmp .ne off, 3)) (ht : (pc : Int) + off = (tgt : Int)) (kt : ¬ x = y → Rn X Y d tgt ls st M r) (kf : x = y → Rn X Y d (pc + 3) ls st M r) : Rn X Y d pc ls (.int y :: .int x :: st) M r := by
  intro o M' hr p e Rm s m args below meth c mc ms E H locs cells slots la S
  exact lv_icmp_ne E.1 E.2.1 dg ht (fun h => kt h o M' hr p e Rm s m args below meth c mc ms E H locs cells slots la S) (fun h => kf h o M' hr p e Rm s m args below meth c mc ms E H locs cells slots la S)
theorem b_if_ne {x : Int32} {off : Int} (tgt : Nat) (dg : decode (yB Y) pc = .ok (.ifCond .ne off, 3)) (ht : (pc : Int) + off = (tgt : Int)) (kt : ¬ x = 0 → Rn X Y d tgt ls st M r) (kf : x = 0 → Rn X Y d (pc + 3) ls st M r) : Rn X Y d pc ls (.int x :: st) M r := by
  intro o M' hr p e Rm s m args below meth c mc ms E H locs cells slots la S
  exact lv_if_ne E.1 E.2.1 dg ht (fun h => kt h o M' hr p e Rm s m args below meth c mc ms E H locs cells slots la S) (fun h => kf h o M' hr p e Rm s m args below meth c mc ms E H locs cells slots la S)
theorem b_icmp_lt {x y : Int32} {off : Int} (tgt : Nat) (dg : decode (yB Y) pc = .ok (.if_icmp .lt off, 3)) (ht : (pc : Int) + off = (tgt : Int)) (kt : x < y → Rn X Y d tgt ls st M r) (kf : ¬ x < y → Rn X Y d (pc + 3) ls st M r) : Rn X Y d pc ls (.int y :: .int x :: st) M r := by
  intro o M' hr p e Rm s m args below meth c mc ms E H locs cells slots la S
  exact lv_icmp_lt E.1 E.2.1 dg ht (fun h => kt h o M' hr p e Rm s m args below meth c mc ms E H locs cells slots la S) (fun h => kf h o M' hr p e Rm s m args below meth c mc ms E H locs cells slots la S)
theorem b_if_lt {x : Int32} {off : Int} (tgt : Nat) (dg : decode (yB Y) pc = .ok (.ifCond .lt off, 3)) (ht : (pc : Int) + off = (tgt : Int)) (kt : x < 0 → Rn X Y d tgt ls st M r) (kf : ¬ x < 0 → Rn X Y d (pc + 3) ls st M r) : Rn X Y d pc ls (.int x :: st) M r := by
  intro o M' hr p e Rm s m args below meth c mc ms E H locs cells slots la S
  exact lv_if_lt E.1 E.2.1 dg ht (fun h => kt h o M' hr p e Rm s m args below meth c mc ms E H locs cells slots la S) (fun h => kf h o M' hr p e Rm s m args below meth c mc ms E H locs cells slots la S)
theorem b_icmp_ge {x y : Int32} {off : Int} (tgt : Nat) (dg : decode (yB Y) pc = .ok (.if_icmp .ge off, 3)) (ht : (pc : Int) + off = (tgt : Int)) (kt : y ≤ x → Rn X Y d tgt ls st M r) (kf : ¬ y ≤ x → Rn X Y d (pc + 3) ls st M r) : Rn X Y d pc ls (.int y :: .int x :: st) M r := by
  intro o M' hr p e Rm s m args below meth c mc ms E H locs cells slots la S
  exact lv_icmp_ge E.1 E.2.1 dg ht (fun h => kt h o M' hr p e Rm s m args below meth c mc ms E H locs cells slots la S) (fun h => kf h o M' hr p e Rm s m args below meth c mc ms E H locs cells slots la S)
theorem b_if_ge {x : Int32} {off : Int} (tgt : Nat) (dg : decode (yB Y) pc = .ok (.ifCond .ge off, 3)) (ht : (pc : Int) + off = (tgt : Int)) (kt : 0 ≤ x → Rn X Y d tgt ls st M r) (kf : ¬ 0 ≤ x → Rn X Y d (pc + 3) ls st M r) : Rn X Y d pc ls (.int x :: st) M r := by
  intro o M' hr p e Rm s m args below meth c mc ms E H locs cells slots la S
  exact lv_if_ge E.1 E.2.1 dg ht (fun h => kt h o M' hr p e Rm s m args below meth c mc ms E H locs cells slots la S) (fun h => kf h o M' hr p e Rm s m args below meth c mc ms E H locs cells slots la S)
theorem b_icmp_gt {x y : Int32} {off : Int} (tgt : Nat) (dg : decode (yB Y) pc = .ok (.if_icmp .gt off, 3)) (ht : (pc : Int) + off = (tgt : Int)) (kt : y < x → Rn X Y d tgt ls st M r) (kf : ¬ y < x → Rn X Y d (pc + 3) ls st M r) : Rn X Y d pc ls (.int y :: .int x :: st) M r := by
  intro o M' hr p e Rm s m args below meth c mc ms E H locs cells slots la S
  exact lv_icmp_gt E.1 E.2.1 dg ht (fun h => kt h o M' hr p e Rm s m args below meth c mc ms E H locs cells slots la S) (fun h => kf h o M' hr p e Rm s m args below meth c mc ms E H locs cells slots la S)
theorem b_if_gt {x : Int32} {off : Int} (tgt : Nat) (dg : decode (yB Y) pc = .ok (.ifCond .gt off, 3)) (ht : (pc : Int) + off = (tgt : Int)) (kt : 0 < x → Rn X Y d tgt ls st M r) (kf : ¬ 0 < x → Rn X Y d (pc + 3) ls st M r) : Rn X Y d pc ls (.int x :: st) M r := by
  intro o M' hr p e Rm s m args below meth c mc ms E H locs cells slots la S
  exact lv_if_gt E.1 E.2.1 dg ht (fun h => kt h o M' hr p e Rm s m args below meth c mc ms E H locs cells slots la S) (fun h => kf h o M' hr p e Rm s m args below meth c mc ms E H locs cells slots la S)
theorem b_icmp_le {x y : Int32} {off : Int} (tgt : Nat) (dg : decode (yB Y) pc = .ok (.if_icmp .le off, 3)) (ht : (pc : Int) + off = (tgt : Int)) (kt : x ≤ y → Rn X Y d tgt ls st M r) (kf : ¬ x ≤ y → Rn X Y d (pc + 3) ls st M r) : Rn X Y d pc ls (.int y :: .int x :: st) M r := by
  intro o M' hr p e Rm s m args below meth c mc ms E H locs cells slots la S
  exact lv_icmp_le E.1 E.2.1 dg ht (fun h => kt h o M' hr p e Rm s m args below meth c mc ms E H locs cells slots la S) (fun h => kf h o M' hr p e Rm s m args below meth c mc ms E H locs cells slots la S)
theorem b_if_le {x : Int32} {off : Int} (tgt : Nat) (dg : decode (yB Y) pc = .ok (.ifCond .le off, 3)) (ht : (pc : Int) + off = (tgt : Int)) (kt : x ≤ 0 → Rn X Y d tgt ls st M r) (kf : ¬ x ≤ 0 → Rn X Y d (pc + 3) ls st M r) : Rn X Y d pc ls (.int x :: st) M r := by
  intro o M' hr p e Rm s m args below meth c mc ms E H locs cells slots la S
  exact lv_if_le E.1 E.2.1 dg ht (fun h => kt h o M' hr p e Rm s m args below meth c mc ms E H locs cells slots la S) (fun h => kf h o M' hr p e Rm s m args below meth c mc ms E H locs cells slots la S)
theorem r_nonnull {off : Int} (tgt : Nat) {x : Nat} (dg : decode (yB Y) pc = .ok (.ifnonnull off, 3)) (ht : (pc : Int) + off = (tgt : Int)) (k : Rn X Y d tgt ls st M r) : Rn X Y d pc ls (.ref x :: st) M r := by
  intro o M' hr p e Rm s m args below meth c mc ms E H locs cells slots la S
  exact lv_ifnonnull E.1 E.2.1 dg ht (k o M' hr p e Rm s m args below meth c mc ms E H locs cells slots la S)
theorem r_null {off : Int} {x : Nat} (dg : decode (yB Y) pc = .ok (.ifnull off, 3)) (k : Rn X Y d (pc + 3) ls st M r) : Rn X Y d pc ls (.ref x :: st) M r := by
  intro o M' hr p e Rm s m args below meth c mc ms E H locs cells slots la S
  exact lv_ifnull E.1 E.2.1 dg (k o M' hr p e Rm s m args below meth c mc ms E H locs cells slots la S)
theorem r_nonnullN {off : Int} (dg : decode (yB Y) pc = .ok (.ifnonnull off, 3)) (k : Rn X Y d (pc + 3) ls st M r) : Rn X Y d pc ls (.null :: st) M r := by
  intro o M' hr p e Rm s m args below meth c mc ms E H locs cells slots la S
  exact lv_ifnonnullN E.1 E.2.1 dg (k o M' hr p e Rm s m args below meth c mc ms E H locs cells slots la S)
/-- a divisor -/
def zdv {α : Type} (y : Int32) (a : Option α) : Option α := if y = 0 then none else a
theorem r_idiv {α : Type} {x y : Int32} {f : Option α → Option (zOut × zM)} {a : Option α} (dg : decode (yB Y) pc = .ok (.idiv, 1)) (hf : f none = none) (k : Rn X Y d (pc + 1) ls (.int (x / y) :: st) M (f a)) : Rn X Y d pc ls (.int y :: .int x :: st) M (f (zdv y a)) := by
  intro o M' hr p e Rm s m args below meth c mc ms E H locs cells slots la S
  by_cases h : y = 0
  · rw [zdv, if_pos h, hf] at hr; cases hr
  · rw [zdv, if_neg h] at hr
    exact lv_idiv E.1 E.2.1 dg h (k o M' hr p e Rm s m args below meth c mc ms E H locs cells slots la S)
theorem r_irem {α : Type} {x y : Int32} {f : Option α → Option (zOut × zM)} {a : Option α} (dg : decode (yB Y) pc = .ok (.irem, 1)) (hf : f none = none) (k : Rn X Y d (pc + 1) ls (.int (x - x / y * y) :: st) M (f a)) : Rn X Y d pc ls (.int y :: .int x :: st) M (f (zdv y a)) := by
  intro o M' hr p e Rm s m args below meth c mc ms E H locs cells slots la S
  by_cases h : y = 0
  · rw [zdv, if_pos h, hf] at hr; cases hr
  · rw [zdv, if_neg h] at hr
    exact lv_irem E.1 E.2.1 dg h (k o M' hr p e Rm s m args below meth c mc ms E H locs cells slots la S)
end ROWS
