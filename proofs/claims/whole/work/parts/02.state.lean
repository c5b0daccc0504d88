/-! 02: the classes, what a state is, what a block of instructions asks -/
def fN : Nat → String
  | 0 => "CarryFirst$Atlas"
  | 1 => "CarryFirst$Bags"
  | 2 => "CarryFirst$Crew"
  | 3 => "CarryFirst$House"
  | 4 => "CarryFirst$Plan"
  | 5 => "CarryFirst$Reader"
  | 6 => "CarryFirst$Shares"
  | 7 => "CarryFirst"
  | 8 => "CarryFirstModel"
  | _ => ""
def fL : Nat → List (String × String × String × Bool)
  | 0 => [("CarryFirst$Atlas", "rooms", "I", false), ("CarryFirst$Atlas", "far", "[I", true), ("CarryFirst$Atlas", "ahead", "[I", true), ("CarryFirst$Atlas", "burns", "[I", true), ("CarryFirst$Atlas", "leave", "[I", true), ("CarryFirst$Atlas", "due", "[I", true), ("CarryFirst$Atlas", "order", "[I", true)]
  | 1 => [("CarryFirst$Bags", "bundleCount", "I", false), ("CarryFirst$Bags", "weight", "[I", true), ("CarryFirst$Bags", "worth", "[I", true), ("CarryFirst$Bags", "room", "[I", true), ("CarryFirst$Bags", "inRoom", "[I", true), ("CarryFirst$Bags", "order", "[I", true), ("CarryFirst$Bags", "loads", "[I", true), ("CarryFirst$Bags", "trips", "[[I", true)]
  | 2 => [("CarryFirst$Crew", "bags", "LCarryFirst$Bags;", true), ("CarryFirst$Crew", "free", "[I", true), ("CarryFirst$Crew", "outs", "[I", true), ("CarryFirst$Crew", "outCount", "I", false), ("CarryFirst$Crew", "taken", "I", false)]
  | 3 => [("CarryFirst$House", "ways", "[[I", true), ("CarryFirst$House", "bundles", "[[I", true), ("CarryFirst$House", "loads", "[I", true), ("CarryFirst$House", "fires", "[[I", true), ("CarryFirst$House", "rooms", "I", false), ("CarryFirst$House", "wayCount", "I", false), ("CarryFirst$House", "bundleCount", "I", false), ("CarryFirst$House", "manCount", "I", false), ("CarryFirst$House", "fireCount", "I", false), ("CarryFirst$House", "doors", "I", false)]
  | 4 => [("CarryFirst$Plan", "minutes", "[I", true), ("CarryFirst$Plan", "fetched", "I", false), ("CarryFirst$Plan", "shut", "I", false), ("CarryFirst$Plan", "kept", "Z", false)]
  | 5 => [("CarryFirst$Reader", "text", "[I", true), ("CarryFirst$Reader", "length", "I", false), ("CarryFirst$Reader", "at", "I", false), ("CarryFirst$Reader", "start", "I", false), ("CarryFirst$Reader", "token", "I", false), ("CarryFirst$Reader", "value", "I", false), ("CarryFirst$Reader", "fault", "I", false)]
  | 6 => [("CarryFirst$Shares", "bags", "LCarryFirst$Bags;", true), ("CarryFirst$Shares", "men", "I", false), ("CarryFirst$Shares", "whole", "I", false), ("CarryFirst$Shares", "able", "[I", true), ("CarryFirst$Shares", "gains", "[[I", true)]
  | 7 => [("CarryFirst", "text", "[I", true), ("CarryFirst", "length", "I", false), ("CarryFirst", "reader", "LCarryFirst$Reader;", true), ("CarryFirst", "house", "LCarryFirst$House;", false), ("CarryFirst", "spare", "LCarryFirst$House;", false), ("CarryFirst", "tunes", "[I", true), ("CarryFirst", "plan", "LCarryFirst$Plan;", true), ("CarryFirst", "firstImage", "LCarryFirst$Plan;", true), ("CarryFirst", "secondImage", "LCarryFirst$Plan;", true), ("CarryFirst", "bags", "LCarryFirst$Bags;", true), ("CarryFirst", "now", "LCarryFirst$Atlas;", true), ("CarryFirst", "trial", "LCarryFirst$Atlas;", true), ("CarryFirst", "shares", "LCarryFirst$Shares;", true), ("CarryFirst", "crew", "LCarryFirst$Crew;", true), ("CarryFirst", "chances", "[I", true), ("CarryFirst", "trace", "J", false)]
  | 8 => [("CarryFirstModel", "trace", "J", false), ("CarryFirstModel", "text", "[B", true), ("CarryFirstModel", "typed", "I", false), ("CarryFirstModel", "rooms", "[I", true), ("CarryFirstModel", "ways", "[I", true), ("CarryFirstModel", "wayFrom", "[I", true), ("CarryFirstModel", "wayTo", "[I", true), ("CarryFirstModel", "wayLong", "[I", true), ("CarryFirstModel", "hasDoor", "[I", true), ("CarryFirstModel", "bundles", "[I", true), ("CarryFirstModel", "lies", "[I", true), ("CarryFirstModel", "weighs", "[I", true), ("CarryFirstModel", "worth", "[I", true), ("CarryFirstModel", "wet", "[I", true), ("CarryFirstModel", "men", "[I", true), ("CarryFirstModel", "loads", "[I", true), ("CarryFirstModel", "fires", "[I", true), ("CarryFirstModel", "fireIn", "[I", true), ("CarryFirstModel", "fireAt", "[I", true), ("CarryFirstModel", "tune", "[I", true), ("CarryFirstModel", "chances", "[I", true), ("CarryFirstModel", "at", "I", false), ("CarryFirstModel", "start", "I", false), ("CarryFirstModel", "sort", "I", false), ("CarryFirstModel", "value", "I", false), ("CarryFirstModel", "fault", "I", false), ("CarryFirstModel", "doors", "I", false), ("CarryFirstModel", "far", "[I", true), ("CarryFirstModel", "ahead", "[I", true), ("CarryFirstModel", "burns", "[I", true), ("CarryFirstModel", "minute", "[I", true), ("CarryFirstModel", "fetched", "[I", true), ("CarryFirstModel", "keptShut", "[I", true), ("CarryFirstModel", "isKept", "[Z", true), ("CarryFirstModel", "out", "[I", true), ("CarryFirstModel", "byLast", "[I", true), ("CarryFirstModel", "byTwo", "[I", true), ("CarryFirstModel", "had", "I", false), ("CarryFirstModel", "free", "[I", true), ("CarryFirstModel", "outIn", "[I", true), ("CarryFirstModel", "runSet", "I", false), ("CarryFirstModel", "runEnds", "I", false)]
  | _ => []
def fY : Nat → List FieldType
  | 0 => [.int, .array .int, .array .int, .array .int, .array .int, .array .int, .array .int]
  | 1 => [.int, .array .int, .array .int, .array .int, .array .int, .array .int, .array .int, .array (.array .int)]
  | 2 => [.object "CarryFirst$Bags", .array .int, .array .int, .int, .int]
  | 3 => [.array (.array .int), .array (.array .int), .array .int, .array (.array .int), .int, .int, .int, .int, .int, .int]
  | 4 => [.array .int, .int, .int, .boolean]
  | 5 => [.array .int, .int, .int, .int, .int, .int, .int]
  | 6 => [.object "CarryFirst$Bags", .int, .int, .array .int, .array (.array .int)]
  | 7 => [.array .int, .int, .object "CarryFirst$Reader", .object "CarryFirst$House", .object "CarryFirst$House", .array .int, .object "CarryFirst$Plan", .object "CarryFirst$Plan", .object "CarryFirst$Plan", .object "CarryFirst$Bags", .object "CarryFirst$Atlas", .object "CarryFirst$Atlas", .object "CarryFirst$Shares", .object "CarryFirst$Crew", .array .int, .long]
  | 8 => [.long, .array .byte, .int, .array .int, .array .int, .array .int, .array .int, .array .int, .array .int, .array .int, .array .int, .array .int, .array .int, .array .int, .array .int, .array .int, .array .int, .array .int, .array .int, .array .int, .array .int, .int, .int, .int, .int, .int, .int, .array .int, .array .int, .array .int, .array .int, .array .int, .array .int, .array .boolean, .array .int, .array .int, .array .int, .int, .array .int, .array .int, .int, .int]
  | _ => []
def fT (ci : Nat) : u_T := fun k => (fL ci).getD k ("", "", "", false)
/-- fields of a new object of a class -/
def dfl : Nat → List AV
  | 0 => [vI 0, vN, vN, vN, vN, vN, vN]
  | 1 => [vI 0, vN, vN, vN, vN, vN, vN, vN]
  | 2 => [vN, vN, vN, vI 0, vI 0]
  | 3 => [vN, vN, vN, vN, vI 0, vI 0, vI 0, vI 0, vI 0, vI 0]
  | 4 => [vN, vI 0, vI 0, vI 0]
  | 5 => [vN, vI 0, vI 0, vI 0, vI 0, vI 0, vI 0]
  | 6 => [vN, vI 0, vI 0, vN, vN]
  | 7 => [vN, vI 0, vN, vN, vN, vN, vN, vN, vN, vN, vN, vN, vN, vN, vN, vL 0]
  | 8 => [vL 0, vN, vI 0, vN, vN, vN, vN, vN, vN, vN, vN, vN, vN, vN, vN, vN, vN, vN, vN, vN, vN, vI 0, vI 0, vI 0, vI 0, vI 0, vI 0, vN, vN, vN, vN, vN, vN, vN, vN, vN, vN, vI 0, vN, vN, vI 0, vI 0]
  | _ => []

def kty : Nat → FieldType
  | 0 => .int
  | 1 => .byte
  | _ => .boolean
def sIx : Nat → Nat
  | 0 => 121
  | 1 => 126
  | 2 => 128
  | 3 => 130
  | 4 => 132
  | _ => 134
def sTx : Nat → String
  | 0 => "rooms"
  | 1 => "way"
  | 2 => "door"
  | 3 => "bundle"
  | 4 => "man"
  | _ => "fire"
def hiA (X : Cx) : Nat → Prop := fun q => X.2.1 ≤ q
def atC (X : Cx) (U : State) (H : Heap) (a : Nat) : AC → Prop
  | .inl (kd, n, f) => ∃ cell : Cell, H[rho X a]? = some cell ∧ U.isArrayOf cell (kty kd) ∧ cell.vm ≠ .unknown ∧ cell.slots.size = n ∧ n < 2147483648 ∧ ∀ j, j < n → cell.slots[j]? = some (.int (Int32.ofInt (f j)))
  | .inr (.inl (n, g)) => ∃ cell : Cell, H[rho X a]? = some cell ∧ U.isArrayOf cell (.array .int) ∧ cell.vm ≠ .unknown ∧ cell.slots.size = n ∧ n < 2147483648 ∧ ∀ j, j < n → cell.slots[j]? = some (.ref (rho X (g j)))
  | .inr (.inr (.inl (ci, fs))) => ci < 9 ∧ fs.length = (fL ci).length ∧ t_OB (rho X a) (X.2.2.2.1 ci) (fL ci).length (X.2.2.2.2 ci) H (fun k => val X (fs.getD k vN))
  | .inr (.inr (.inr i)) => va_O "java/lang/String" (rho X a) (hiA X) U H ∧ va_OF "java/lang/String" "value" "[B" (.ref (rho X (9 + i))) (rho X a) (hiA X) U H ∧ va_OF "java/lang/String" "coder" "B" (.int 0) (rho X a) (hiA X) U H
def Kn (X : Cx) (U : State) : Prop := ∀ ci, ci < 9 → u_Kn U (fN ci) (fT ci) (fL ci).length (X.2.2.2.1 ci) (X.2.2.2.2 ci)
def Sc (X : Cx) (U : State) (H : Heap) : Prop := va_Z "CarryFirst" "LEAST_TUNE" "[I" (.ref (rho X 1)) (hiA X) U H ∧ va_Z "CarryFirst" "MOST_TUNE" "[I" (.ref (rho X 2)) (hiA X) U H ∧ va_Z "java/lang/String" "COMPACT_STRINGS" "Z" (.int 1) (hiA X) U H ∧ (va_Z "jdk/internal/util/Preconditions" "SIOOBE_FORMATTER" "Ljava/util/function/BiFunction;" (.ref (rho X 15)) (hiA X) U H ∨ va_Z "jdk/internal/util/Preconditions" "SIOOBE_FORMATTER" "Ljava/util/function/BiFunction;" .null (hiA X) U H)
/-- the heap H, seen from U, holds the cells h; z of them are the run's own -/
def Rep (X : Cx) (U : State) (H : Heap) (h : AH) (z : Nat) : Prop := (∀ a c, h a = some c → atC X U H a c) ∧ H.size = X.2.1 + z ∧ (∀ a c, a < 16 → h a = some c → X.2.2.1 a < X.2.1) ∧ Kn X U ∧ Sc X U H
def nwW : List Cond := [.methodLinkNest "CarryFirst" 28 ⟨"CarryFirst$House", "<init>", "()V"⟩ "CarryFirst", .methodLinkNest "CarryFirst" 41 ⟨"CarryFirst$Plan", "<init>", "()V"⟩ "CarryFirst", .methodLinkNest "CarryFirst" 54 ⟨"CarryFirst$Bags", "<init>", "()V"⟩ "CarryFirst", .fieldLinkNest "CarryFirst$Crew" 59 "CarryFirst$Bags" "bundleCount" "I" "CarryFirst", .methodLinkNest "CarryFirst" 61 ⟨"CarryFirst$Atlas", "<init>", "()V"⟩ "CarryFirst", .methodLinkNest "CarryFirst$Crew" 83 ⟨"CarryFirst", "orNever", "(I)I"⟩ "CarryFirst"]
/-- what a state's tables hold beside the good words -/
def Nw (X : Cx) (U : State) : Prop := (∀ w ∈ nwW, va_Nw w U) ∧ (∀ i, i < 6 → vk_R "CarryFirst$Reader" (sIx i) (sTx i) (rho X (3 + i)) U) ∧ (Cond.arrayOver (.array .int)).before #[] U = true
/-- the words that every method has -/
def wsG : List Cond := lw_tbl.filter goodWord
def wsM (y : MI) : List Cond := Cond.code y.1 y.2.1 y.2.2.1 y.2.2.2 :: wsG
def rmD (d mc ms : Nat) : Room := { frames := d, cells := mc, slots := ms, locals := 37 * d + 2 }
def PcX (X : Cx) (as : SV) (h : AH) (z : Nat) : Array Value → State → Prop := fun v U => v = (as.map (val X)).toArray ∧ Rep X U U.heap h z ∧ Nw X U
def QcX (X : Cx) (P : Option AV → AH → Nat → Prop) : Array Value → State → Outcome → State → Prop := fun _ _ o t => ∃ (ov : Option AV) (h : AH) (z : Nat), o = .returned (ov.map (val X)) ∧ P ov h z ∧ Rep X t t.heap h z
/-- a call of y with these values on these cells comes back, and P holds of what it answers and leaves -/
def CallP (X : Cx) (d mc ms : Nat) (y : MI) (as : SV) (h : AH) (z : Nat) (P : Option AV → AH → Nat → Prop) : Prop :=
  Met X.1 y.1 (wsM y) (rmD d mc ms) (PcX X as h z) (QcX X P) mc ms (hiA X)
/-- locals -/
def asc (X : Cx) : Nat → LV → List (Nat × Value)
  | _, [] => []
  | i, none :: r => asc X (i + 1) r
  | i, some v :: r => (i, val X v) :: asc X (i + 1) r
/-- where a method stands: context, depth, cells and slots that it may make, itself, what is due at its end -/
abbrev Ev : Type := Cx × Nat × Nat × Nat × MI × (Option AV → AH → Nat → Prop)
def Std (y : MI) (p : Program) (s : State) (m : MethodId) (args : Array Value) (meth : Method) (c : Code) : Prop :=
  p.tables.exec = Jvm.exec ∧ c.code = y.2.1 ∧ c.maxLocals = y.2.2.1 ∧ meth.sig.returnType = y.2.2.2 ∧ s.vm.findClass y.1.cls = some m.cls ∧ (∀ w ∈ wsG, w.before args s = true) ∧ meth.locks = false ∧ meth.name = y.1.name
/-- from pc, with these locals, this stack, these cells, the method comes to its end as it is due -/
def Ex (E : Ev) (pc : Nat) (ls : LV) (st : SV) (h : AH) (z k n : Nat) : Prop :=
  ∀ (p : Program) (e : Env) (s : State) (m : MethodId) (args : Array Value) (below : List Frame) (meth : Method) (c : Code) (H : Heap) (locs : List Loc) (lr : Array Slot),
    Std E.2.2.2.2.1 p s m args meth c → Nw E.1 s → Rep E.1 s H h z → lv_has lr ls.length (asc E.1 0 ls) → ls.length = E.2.2.2.2.1.2.2.1 → (∀ q ∈ locs, hiA E.1 q.base) →
    W p E.1.1 e (rmD E.2.1 E.2.2.1 E.2.2.2.1) s m args below meth c H locs k n (MQ below (QcX E.1 E.2.2.2.2.2) args s E.2.2.1 E.2.2.2.1 (hiA E.1)) (F0 m pc lr (st.map (val E.1)))
abbrev KT : Type := LV → SV → AH → Nat → Nat → Nat → Prop
-- what follows an instruction
def kI (K : KT) (ls : LV) (st : SV) (h : AH) (z k n : Nat) (x : Int) : Prop := K ls (vI x :: st) h z k n
def kL (K : KT) (ls : LV) (st : SV) (h : AH) (z k n : Nat) (x : Int64) : Prop := K ls (vL x :: st) h z k n
def kA (K : KT) (ls : LV) (st : SV) (h : AH) (z k n : Nat) (x : Nat) : Prop := K ls (vA x :: st) h z k n
def kV (K : KT) (ls : LV) (st : SV) (h : AH) (z k n : Nat) (v : AV) : Prop := K ls (v :: st) h z k n
def kS (K : KT) (st : SV) (h : AH) (z k n : Nat) (ls : LV) : Prop := K ls st h z k n
def kH (K : KT) (ls : LV) (st : SV) (h : AH) (a z k n : Nat) (c : AC) : Prop := 16 ≤ a ∧ K ls st (upA h a c) z k n
def kC (K : KT) (ls : LV) (st : SV) (k n : Nat) (o : Option AV) (h : AH) (z : Nat) : Prop := K ls (o.toList ++ st) h z k n
def swT (E : Ev) (ls : LV) (st : SV) (h : AH) (z k n : Nat) (x : Int) : Int → List Nat → Prop
  | _, [] => True
  | lo, t :: r => (x = lo → Ex E t ls st h z k n) ∧ swT E ls st h z k n x (lo + 1) r
def swL (E : Ev) (ls : LV) (st : SV) (h : AH) (z k n : Nat) (x : Int) (d : Nat) : List (Int × Int) → List Nat → Prop
  | p :: r, t :: u => (x = p.1 → Ex E t ls st h z k n) ∧ (x ≠ p.1 → swL E ls st h z k n x d r u)
  | _, _ => Ex E d ls st h z k n
def cpI (c : ClassFile.Cond) (x y : Int) : Prop := match c with
  | .eq => x = y
  | .ne => x ≠ y
  | .lt => x < y
  | .ge => y ≤ x
  | .gt => y < x
  | .le => x ≤ y
/-- a branch -/
def brI (E : Ev) (P T : Prop) (U : Prop) : Prop := (P → T) ∧ (¬ P → U)
def calW (E : Ev) (K : KT) (rv : Nat) (q : List Nat) (mi : MI) (ls : LV) (st : SV) (h : AH) (z k n : Nat) : Prop :=
  1 ≤ E.2.1 ∧ q.getD 0 0 ≤ st.length ∧ catS (st.drop (q.getD 0 0)) ≤ 8 ∧ k + q.getD 1 0 ≤ E.2.2.1 ∧ n + q.getD 2 0 ≤ E.2.2.2.1 ∧
    (rv = 1 → popA (st.take (q.getD 0 0)).reverse fun a _ => isO (h a) (q.getD 3 0)) ∧ (rv = 2 → popA (st.take (q.getD 0 0)).reverse fun _ _ => True) ∧
    CallP E.1 (E.2.1 - 1) (q.getD 1 0) (q.getD 2 0) mi (st.take (q.getD 0 0)).reverse h z (kC K ls (st.drop (q.getD 0 0)) (k + q.getD 1 0) (n + q.getD 2 0))
def upG (h : AH) (z nn kk : Nat) : AH := fun a => if a = 16 + z then some (cR nn (fun j => 16 + z + 1 + j)) else if 16 + z < a ∧ a ≤ 16 + z + nn then some (cI kk (fun _ => 0)) else h a
def okR (t : Option FieldType) (x : Int) : Prop := match t with
  | some .int => True
  | some .boolean => x = 0 ∨ x = 1
  | some .byte => x = 0
  | some .char => 0 ≤ x ∧ x ≤ 65535
  | _ => False
def wpI (E : Ev) (K : KT) (it : Item) (ls : LV) (st : SV) (h : AH) (z k n : Nat) : Prop :=
  match it with
  | (pc, len, i, q, v, mi) => match i with
    | .aload_n j => ldA ls j.val (kA K ls st h z k n)
    | .aload j => ldA ls j (kA K ls st h z k n)
    | .iload_n j => ldI ls j.val (kI K ls st h z k n)
    | .iload j => ldI ls j (kI K ls st h z k n)
    | .lload_n j => ldL ls j.val (kL K ls st h z k n)
    | .istore_n j => popI st fun x st => stL ls j.val (vI x) (kS K st h z k n)
    | .istore j => popI st fun x st => stL ls j (vI x) (kS K st h z k n)
    | .astore_n j => popA st fun x st => stL ls j.val (vA x) (kS K st h z k n)
    | .astore j => popA st fun x st => stL ls j (vA x) (kS K st h z k n)
    | .iinc j c => ldI ls j fun x => stL ls j (vI (x + c)) (kS K st h z k n)
    | .iconst c => K ls (vI c :: st) h z k n
    | .bipush c => K ls (vI c :: st) h z k n
    | .sipush c => K ls (vI c :: st) h z k n
    | .lconst c => K ls (vL (Int64.ofNat c.val) :: st) h z k n
    | .ldc _ => if q.getD 0 0 = 1 then K ls (vA (3 + q.getD 1 0) :: st) h z k n else K ls (vI v :: st) h z k n
    | .ldc_w _ => K ls (vI v :: st) h z k n
    | .ldc2_w _ => K ls (vL (Int64.ofInt v) :: st) h z k n
    | .iadd => popI st fun y st => popI st fun x st => K ls (vI (x + y) :: st) h z k n
    | .isub => popI st fun y st => popI st fun x st => K ls (vI (x - y) :: st) h z k n
    | .imul => popI st fun y st => popI st fun x st => K ls (vI (x * y) :: st) h z k n
    | .idiv => popI st fun y st => popI st fun x st => InR x ∧ InR y ∧ y ≠ 0 ∧ K ls (vI (x.tdiv y) :: st) h z k n
    | .ineg => popI st fun x st => K ls (vI (-x) :: st) h z k n
    | .iand => popI st fun y st => popI st fun x st => K ls (vI (bAnd x y) :: st) h z k n
    | .ior => popI st fun y st => popI st fun x st => K ls (vI (bOr x y) :: st) h z k n
    | .ixor => popI st fun y st => popI st fun x st => K ls (vI (bXor x y) :: st) h z k n
    | .ishl => popI st fun y st => popI st fun x st => K ls (vI (bShl x y) :: st) h z k n
    | .ishr => popI st fun y st => popI st fun x st => K ls (vI (bShr x y) :: st) h z k n
    | .iushr => popI st fun y st => popI st fun x st => K ls (vI (bUsh x y) :: st) h z k n
    | .i2b => popI st fun x st => K ls (vI ((Int32.ofInt x).toInt8.toInt32.toInt) :: st) h z k n
    | .i2c => popI st fun x st => K ls (vI (((Int32.ofInt x).toUInt32 % 65536).toInt32.toInt) :: st) h z k n
    | .i2l => popI st fun x st => K ls (vL ((Int32.ofInt x).toInt64) :: st) h z k n
    | .l2i => popL st fun x st => K ls (vI (x.toInt32.toInt) :: st) h z k n
    | .ladd => popL st fun y st => popL st fun x st => K ls (vL (x + y) :: st) h z k n
    | .land => popL st fun y st => popL st fun x st => K ls (vL (x &&& y) :: st) h z k n
    | .lor => popL st fun y st => popL st fun x st => K ls (vL (x ||| y) :: st) h z k n
    | .lshl => popI st fun y st => popL st fun x st => K ls (vL (x <<< ((Int32.ofInt y).toInt64 &&& 63)) :: st) h z k n
    | .lshr => popI st fun y st => popL st fun x st => K ls (vL (x >>> ((Int32.ofInt y).toInt64 &&& 63)) :: st) h z k n
    | .lushr => popI st fun y st => popL st fun x st => K ls (vL ((x.toUInt64 >>> ((Int32.ofInt y).toInt64.toUInt64 &&& Int64.toUInt64 63)).toInt64) :: st) h z k n
    | .lcmp => popL st fun y st => popL st fun x st => K ls (vI ((lg_cmp x y).toInt) :: st) h z k n
    | .dup => popV st fun x st => cat1 x = true ∧ K ls (x :: x :: st) h z k n
    | .dup2 => popV st fun y st => popV st fun x st => cat1 x = true ∧ cat1 y = true ∧ K ls (y :: x :: y :: x :: st) h z k n
    | .pop => popV st fun x st => cat1 x = true ∧ K ls st h z k n
    | .getfield _ => popA st fun a st => rdF (h a) (q.getD 0 0) (q.getD 1 0) (kV K ls st h z k n)
    | .putfield _ => popV st fun v st => popA st fun a st => wrF (h a) (q.getD 0 0) (q.getD 1 0) (q.getD 3 0) v (kH K ls st h a z k n)
    | .getstatic _ => if q.getD 0 0 = 3 then K ls (vI 1 :: st) h z k n else if q.getD 0 0 = 15 then K ls (vA 15 :: st) h z k n ∧ K ls (vN :: st) h z k n else K ls (vA (q.getD 0 0) :: st) h z k n
    | .iaload => popI st fun i st => popA st fun a st => rdA (h a) 0 i (kI K ls st h z k n)
    | .baload => popI st fun i st => popA st fun a st => rdA (h a) (q.getD 0 0) i (kI K ls st h z k n)
    | .iastore => popI st fun x st => popI st fun i st => popA st fun a st => wrA (h a) 0 i x (kH K ls st h a z k n)
    | .bastore => popI st fun x st => popI st fun i st => popA st fun a st => wrA (h a) (q.getD 0 0) i x (kH K ls st h a z k n)
    | .aaload => popI st fun i st => popA st fun a st => rdR (h a) i (kA K ls st h z k n)
    | .arraylength => popA st fun a st => lnA (h a) (kI K ls st h z k n)
    | .goto _ => Ex E (q.getD 0 0) ls st h z k n
    | .ifCond c _ => popI st fun x st => InR x ∧ brI E (cpI c x 0) (Ex E (q.getD 0 0) ls st h z k n) (K ls st h z k n)
    | .if_icmp c _ => popI st fun y st => popI st fun x st => InR x ∧ InR y ∧ brI E (cpI c x y) (Ex E (q.getD 0 0) ls st h z k n) (K ls st h z k n)
    | .tableswitch _ lo hi _ => popI st fun x st => InR x ∧ (x < lo ∨ hi < x → Ex E (q.getD 0 0) ls st h z k n) ∧ swT E ls st h z k n x lo (q.drop 1)
    | .lookupswitch _ ps => popI st fun x st => InR x ∧ swL E ls st h z k n x (q.getD 0 0) ps.toList (q.drop 1)
    | .invokevirtual _ => calW E K 1 q mi ls st h z k n
    | .invokestatic _ => if q.getD 4 0 = 2 then popI st fun y st => popI st fun x st => InR x ∧ InR y ∧ 1 ≤ E.2.1 ∧ catS st ≤ 8 ∧ k ≤ E.2.2.1 ∧ n ≤ E.2.2.2.1 ∧ K ls (vI (if x < y then y else x) :: st) h z k n
      else if q.getD 4 0 = 3 then popI st fun y st => popI st fun x st => InR x ∧ InR y ∧ 1 ≤ E.2.1 ∧ catS st ≤ 8 ∧ k ≤ E.2.2.1 ∧ n ≤ E.2.2.2.1 ∧ K ls (vI (if y < x then y else x) :: st) h z k n
      else calW E K 0 q mi ls st h z k n
    | .invokespecial _ => if q.getD 0 0 = 0 then popA st fun _ st => 1 ≤ E.2.1 ∧ catS st ≤ 8 ∧ K ls st h z k n else calW E K 2 q mi ls st h z k n
    | .new _ => k + 1 ≤ E.2.2.1 ∧ n + (fL (q.getD 0 0)).length ≤ E.2.2.2.1 ∧ K ls (vA (16 + z) :: st) (upA h (16 + z) (cO (q.getD 0 0) (dfl (q.getD 0 0)))) (z + 1) (k + 1) (n + (fL (q.getD 0 0)).length)
    | .newarray _ => popI st fun x st => 0 ≤ x ∧ x ≤ 65536 ∧ k + 1 ≤ E.2.2.1 ∧ n + x.toNat ≤ E.2.2.2.1 ∧ K ls (vA (16 + z) :: st) (upA h (16 + z) (.inl (q.getD 0 0, x.toNat, fun _ => 0))) (z + 1) (k + 1) (n + x.toNat)
    | .multianewarray _ _ => popI st fun y st => popI st fun x st => 0 ≤ x ∧ x ≤ 65536 ∧ 0 ≤ y ∧ y ≤ 65536 ∧ k + (1 + x.toNat) ≤ E.2.2.1 ∧ n + (x.toNat + x.toNat * y.toNat) ≤ E.2.2.2.1 ∧ K ls (vA (16 + z) :: st) (upG h z x.toNat y.toNat) (z + (1 + x.toNat)) (k + (1 + x.toNat)) (n + (x.toNat + x.toNat * y.toNat))
    | .ireturn => popI st fun x st => st = [] ∧ okR E.2.2.2.2.1.2.2.2 x ∧ k ≤ E.2.2.1 ∧ n ≤ E.2.2.2.1 ∧ E.2.2.2.2.2 (some (vI x)) h z
    | .lreturn => popL st fun x st => st = [] ∧ k ≤ E.2.2.1 ∧ n ≤ E.2.2.2.1 ∧ E.2.2.2.2.2 (some (vL x)) h z
    | .return_ => st = [] ∧ k ≤ E.2.2.1 ∧ n ≤ E.2.2.2.1 ∧ E.2.2.2.2.2 none h z
    | _ => False
/-- a block: its instructions, and the pc behind them -/
def wpB (E : Ev) : List Item → Nat → KT
  | [], e, ls, st, h, z, k, n => Ex E e ls st h z k n
  | it :: r, e, ls, st, h, z, k, n => wpI E (wpB E r e) it ls st h z k n
