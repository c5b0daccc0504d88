/-! 01: the abstract machine: values are Int, cells lie at small numbers, a block of instructions is read as a condition (wpB) -/
abbrev AV : Type := Int ⊕ (Int64 ⊕ Option Nat)
abbrev vI (x : Int) : AV := .inl x
abbrev vL (x : Int64) : AV := .inr (.inl x)
abbrev vA (a : Nat) : AV := .inr (.inr (some a))
abbrev vN : AV := .inr (.inr none)
abbrev AC : Type := (Nat × Nat × (Nat → Int)) ⊕ ((Nat × (Nat → Nat)) ⊕ ((Nat × List AV) ⊕ Nat))
abbrev cI (n : Nat) (f : Nat → Int) : AC := .inl (0, n, f)
abbrev cB (n : Nat) (f : Nat → Int) : AC := .inl (1, n, f)
abbrev cZ (n : Nat) (f : Nat → Int) : AC := .inl (2, n, f)
abbrev cR (n : Nat) (g : Nat → Nat) : AC := .inr (.inl (n, g))
abbrev cO (ci : Nat) (fs : List AV) : AC := .inr (.inr (.inl (ci, fs)))
abbrev cS (i : Nat) : AC := .inr (.inr (.inr i))
abbrev AH : Type := Nat → Option AC
abbrev LV : Type := List (Option AV)
abbrev SV : Type := List AV
/-- a method: its name, its code, its locals, what it returns -/
abbrev MI : Type := MethodName × ByteArray × Nat × Option FieldType
/-- launch, where the run's own cells begin, where the cells below that are, classes and slots -/
abbrev Cx : Type := Launch × Nat × (Nat → Nat) × va_G
/-- pc, length, instruction, numbers, constant, callee -/
abbrev Item : Type := Nat × Nat × Instr × List Nat × Int × MI
def rho (X : Cx) (a : Nat) : Nat := if a < 16 then X.2.2.1 a else X.2.1 + (a - 16)
def val (X : Cx) : AV → Value
  | .inl x => .int (Int32.ofInt x)
  | .inr (.inl v) => .long v
  | .inr (.inr none) => .null
  | .inr (.inr (some a)) => .ref (rho X a)
def InR (x : Int) : Prop := -2147483648 ≤ x ∧ x ≤ 2147483647
def upA (h : AH) (a : Nat) (c : AC) : AH := fun b => if b = a then some c else h b
def upF (f : Nat → Int) (i : Nat) (x : Int) : Nat → Int := fun j => if j = i then x else f j
theorem upA_s (h : AH) (a : Nat) (c : AC) : upA h a c a = some c := if_pos rfl
theorem upA_n (h : AH) {a b : Nat} (c : AC) (e : b ≠ a) : upA h a c b = h b := if_neg e
theorem upF_s (f : Nat → Int) (a : Nat) (c : Int) : upF f a c a = c := if_pos rfl
theorem upF_n (f : Nat → Int) {a b : Nat} (c : Int) (e : b ≠ a) : upF f a c b = f b := if_neg e
-- pops
def popI (st : SV) (K : Int → SV → Prop) : Prop := match st with
  | .inl x :: st => K x st
  | _ => False
def popL (st : SV) (K : Int64 → SV → Prop) : Prop := match st with
  | .inr (.inl x) :: st => K x st
  | _ => False
def popA (st : SV) (K : Nat → SV → Prop) : Prop := match st with
  | .inr (.inr (some a)) :: st => K a st
  | _ => False
def popV (st : SV) (K : AV → SV → Prop) : Prop := match st with
  | v :: st => K v st
  | _ => False
-- locals
def ldI : LV → Nat → (Int → Prop) → Prop
  | [], _, _ => False
  | a :: _, 0, P => match a with
    | some (.inl x) => P x
    | _ => False
  | _ :: ls, j + 1, P => ldI ls j P
def ldL : LV → Nat → (Int64 → Prop) → Prop
  | [], _, _ => False
  | a :: _, 0, P => match a with
    | some (.inr (.inl x)) => P x
    | _ => False
  | _ :: ls, j + 1, P => ldL ls j P
def ldA : LV → Nat → (Nat → Prop) → Prop
  | [], _, _ => False
  | a :: _, 0, P => match a with
    | some (.inr (.inr (some x))) => P x
    | _ => False
  | _ :: ls, j + 1, P => ldA ls j P
def isLg : Option AV → Bool
  | some (.inr (.inl _)) => true
  | _ => false
def cat1 : AV → Bool
  | .inr (.inl _) => false
  | _ => true
def stOk : LV → Nat → Bool
  | [], _ => false
  | _ :: _, 0 => true
  | a :: ls, 1 => !isLg a && stOk ls 0
  | _ :: ls, j + 2 => stOk ls (j + 1)
def stSt : LV → Nat → AV → LV
  | [], _, _ => []
  | _ :: ls, 0, v => some v :: ls
  | a :: ls, j + 1, v => a :: stSt ls j v
def stL (ls : LV) (j : Nat) (v : AV) (K : LV → Prop) : Prop := stOk ls j = true ∧ K (stSt ls j v)
-- cells
def rdF (c : Option AC) (ci k : Nat) (P : AV → Prop) : Prop := match c with
  | some (.inr (.inr (.inl (ci', fs)))) => ci' = ci ∧ (match fs[k]? with
    | some v => P v
    | none => False)
  | some (.inr (.inr (.inr i))) => ci = 9 ∧ (if k = 0 then P (vA (9 + i)) else P (vI 0))
  | _ => False
def okT (t : Nat) (v : AV) : Prop := match t, v with
  | 0, .inl _ => True
  | 1, .inr (.inl _) => True
  | 2, .inr (.inr _) => True
  | 3, .inl x => x = 0 ∨ x = 1
  | _, _ => False
def wrF (c : Option AC) (ci k t : Nat) (v : AV) (P : AC → Prop) : Prop := match c with
  | some (.inr (.inr (.inl (ci', fs)))) => ci' = ci ∧ k < fs.length ∧ okT t v ∧ P (cO ci (fs.set k v))
  | _ => False
def okN (kd : Nat) (x : Int) : Prop := match kd with
  | 0 => True
  | 1 => -128 ≤ x ∧ x ≤ 127
  | _ => x = 0 ∨ x = 1
def rdA (c : Option AC) (kd : Nat) (i : Int) (P : Int → Prop) : Prop := match c with
  | some (.inl (kd', n, f)) => kd' = kd ∧ 0 ≤ i ∧ i < n ∧ P (f i.toNat)
  | _ => False
def wrA (c : Option AC) (kd : Nat) (i x : Int) (P : AC → Prop) : Prop := match c with
  | some (.inl (kd', n, f)) => kd' = kd ∧ 0 ≤ i ∧ i < n ∧ okN kd x ∧ P (.inl (kd, n, upF f i.toNat x))
  | _ => False
def rdR (c : Option AC) (i : Int) (P : Nat → Prop) : Prop := match c with
  | some (.inr (.inl (n, g))) => 0 ≤ i ∧ i < n ∧ P (g i.toNat)
  | _ => False
def lnA (c : Option AC) (P : Int → Prop) : Prop := match c with
  | some (.inl (_, n, _)) => P n
  | _ => False
def isO (c : Option AC) (ci : Nat) : Prop := match c with
  | some (.inr (.inr (.inl (ci', _)))) => ci' = ci
  | some (.inr (.inr (.inr _))) => ci = 9
  | _ => False
def catS : SV → Nat
  | [] => 0
  | .inr (.inl _) :: r => 2 + catS r
  | _ :: r => 1 + catS r
-- bits
def bAnd (x y : Int) : Int := (Int32.ofInt x &&& Int32.ofInt y).toInt
def bOr (x y : Int) : Int := (Int32.ofInt x ||| Int32.ofInt y).toInt
def bXor (x y : Int) : Int := (Int32.ofInt x ^^^ Int32.ofInt y).toInt
def bShl (x y : Int) : Int := (Int32.ofInt x <<< (Int32.ofInt y &&& 31)).toInt
def bShr (x y : Int) : Int := (Int32.ofInt x >>> (Int32.ofInt y &&& 31)).toInt
def bUsh (x y : Int) : Int := ((Int32.ofInt x).toUInt32 >>> ((Int32.ofInt y).toUInt32 &&& Int32.toUInt32 31)).toInt32.toInt
