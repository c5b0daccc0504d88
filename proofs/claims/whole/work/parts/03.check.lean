/-! 04: wpB is sound -/
/-- the tables' words, list by list -/
def wl : Nat → List Jvm.Cond
  | 1 => tables_1_1
  | 2 => tables_1_2
  | 3 => tables_1_3
  | 4 => tables_1_4
  | 5 => tables_1_5
  | 6 => tables_1_6
  | 11 => k2_sels lw_privs_1
  | 12 => k2_sels lw_privs_2
  | 13 => k2_sels lw_privs_3
  | 14 => k2_sels lw_privs_4
  | 15 => k2_sels lw_privs_5
  | 16 => k2_sels lw_privs_6
  | _ => []
theorem wl_in {j : Nat} {c : Jvm.Cond} (h : c ∈ wl j) : c ∈ lw_tbl := by
  unfold wl at h
  unfold lw_tbl lw_privs tables_1 k2_sels
  simp only [List.map_append, List.mem_append]
  split at h
  all_goals first
    | (simp only [k2_sels] at h; simp only [h, true_or, or_true])
    | (simp only [h, true_or, or_true])
    | cases h
def hasW (w : Nat) (c : Jvm.Cond) : Bool := decide ((wl (w / 1000))[w % 1000]? = some c) && goodWord c
theorem hasW_e {w : Nat} {c : Jvm.Cond} (h : hasW w c = true) : c ∈ wsG := by
  simp only [hasW, Bool.and_eq_true, decide_eq_true_eq] at h
  exact List.mem_filter.mpr ⟨wl_in (List.mem_of_getElem? h.1), h.2⟩
def ilen : Instr → Nat → Nat
  | .aload _, _ | .iload _, _ | .istore _, _ | .astore _, _ | .bipush _, _ | .ldc _, _ | .newarray _, _ => 2
  | .iinc _ _, _ | .sipush _, _ | .ldc_w _, _ | .ldc2_w _, _ | .getfield _, _ | .putfield _, _ | .getstatic _, _ | .goto _, _ | .ifCond _ _, _ | .if_icmp _ _, _ | .invokevirtual _, _ | .invokestatic _, _ | .invokespecial _, _ | .new _, _ => 3
  | .multianewarray _ _, _ => 4
  | .tableswitch _ _ _ _, l => l
  | .lookupswitch _ _, l => l
  | _, _ => 1
def okTg (pc : Nat) : List Int → List Nat → Bool
  | [], [] => true
  | o :: os, t :: ts => decide ((pc : Int) + o = (t : Int)) && okTg pc os ts
  | _, _ => false
def iC : Int → Int32 := Int32.ofInt
def okF (y : MI) (q : List Nat) (idx : Nat) : Bool :=
  if q.getD 0 0 = 9 then
    (q.getD 1 0 == 0 && hasW (q.getD 2 0) (.fieldLink y.1.cls idx "java/lang/String" "value" "[B")) || (q.getD 1 0 == 1 && hasW (q.getD 2 0) (.fieldLink y.1.cls idx "java/lang/String" "coder" "B"))
  else decide (q.getD 0 0 < 9) && decide (q.getD 1 0 < (fL (q.getD 0 0)).length) &&
    (hasW (q.getD 2 0) (.fieldLink y.1.cls idx (fT (q.getD 0 0) (q.getD 1 0)).1 (fT (q.getD 0 0) (q.getD 1 0)).2.1 (fT (q.getD 0 0) (q.getD 1 0)).2.2.1) ||
      decide (nwW[q.getD 2 0]? = some (Jvm.Cond.fieldLinkNest y.1.cls idx (fT (q.getD 0 0) (q.getD 1 0)).1 (fT (q.getD 0 0) (q.getD 1 0)).2.1 (fT (q.getD 0 0) (q.getD 1 0)).2.2.1 "CarryFirst")))
def tyc : FieldType → Nat
  | .int => 0
  | .long => 1
  | .boolean => 3
  | _ => 2
/-- q: arguments, cells, slots, receiver's class, kind (0 plain, 1 nest mate), then the words: link, instance or static, selects, code, initialized -/
def okC (y mi : MI) (q : List Nat) (idx np : Nat) : Bool :=
  decide ((parseMethodDescriptor mi.1.desc).map (fun d => d.parameters.length) = some np) && decide (mi.1.cls ≠ "java/lang/invoke/MethodHandle") && decide (mi.1.cls ≠ "java/lang/invoke/VarHandle") && decide (mi.2.2.1 ≤ 18) &&
  (if q.getD 4 0 = 0 then hasW (q.getD 5 0) (.methodLink y.1.cls idx mi.1) else decide (nwW[q.getD 5 0]? = some (Jvm.Cond.methodLinkNest y.1.cls idx mi.1 "CarryFirst"))) &&
  hasW (q.getD 8 0) (.code mi.1 mi.2.1 mi.2.2.1 mi.2.2.2) && hasW (q.getD 9 0) (.initialized mi.1.cls)
def okS (y : MI) (pc len : Nat) (i : Instr) (q : List Nat) (v : Int) (mi : MI) : Bool :=
  match i with
  | .bipush c => decide (-128 ≤ c) && decide (c ≤ 127)
  | .sipush c => decide (-32768 ≤ c) && decide (c ≤ 32767)
  | .ldc idx => if q.getD 0 0 = 1 then decide (q.getD 1 0 < 6) && decide (y.1.cls = "CarryFirst$Reader") && decide (idx = sIx (q.getD 1 0)) else hasW (q.getD 2 0) (.constant y.1.cls idx (iC v))
  | .ldc_w idx => hasW (q.getD 2 0) (.constant y.1.cls idx (iC v))
  | .ldc2_w idx => hasW (q.getD 2 0) (.constantLong y.1.cls idx (Int64.ofInt v))
  | .getfield idx => okF y q idx
  | .putfield idx => decide (q.getD 0 0 < 9) && decide (q.getD 1 0 < (fL (q.getD 0 0)).length) && hasW (q.getD 2 0) (.fieldLink y.1.cls idx (fT (q.getD 0 0) (q.getD 1 0)).1 (fT (q.getD 0 0) (q.getD 1 0)).2.1 (fT (q.getD 0 0) (q.getD 1 0)).2.2.1) &&
      decide (q.getD 3 0 = tyc ((fY (q.getD 0 0)).getD (q.getD 1 0) .int)) && ((fT (q.getD 0 0) (q.getD 1 0)).2.2.2 == false || (decide (y.1.name = "<init>") && decide ((fT (q.getD 0 0) (q.getD 1 0)).1 = y.1.cls)))
  | .getstatic idx => (q.getD 0 0 == 1 && hasW (q.getD 2 0) (.fieldLink y.1.cls idx "CarryFirst" "LEAST_TUNE" "[I")) || (q.getD 0 0 == 2 && hasW (q.getD 2 0) (.fieldLink y.1.cls idx "CarryFirst" "MOST_TUNE" "[I")) || (q.getD 0 0 == 3 && hasW (q.getD 2 0) (.fieldLink y.1.cls idx "java/lang/String" "COMPACT_STRINGS" "Z")) || (q.getD 0 0 == 15 && hasW (q.getD 2 0) (.fieldLink y.1.cls idx "jdk/internal/util/Preconditions" "SIOOBE_FORMATTER" "Ljava/util/function/BiFunction;"))
  | .baload => q.getD 0 0 == 1 || q.getD 0 0 == 2
  | .bastore => q.getD 0 0 == 1 || q.getD 0 0 == 2
  | .goto o => decide ((pc : Int) + o = (q.getD 0 0 : Nat))
  | .ifCond _ o => decide ((pc : Int) + o = (q.getD 0 0 : Nat))
  | .if_icmp _ o => decide ((pc : Int) + o = (q.getD 0 0 : Nat))
  | .tableswitch d lo hi os => decide ((pc : Int) + d = (q.getD 0 0 : Nat)) && decide (hi - lo + 1 = os.toList.length) && okTg pc os.toList (q.drop 1)
  | .lookupswitch d ps => decide ((pc : Int) + d = (q.getD 0 0 : Nat)) && okTg pc (ps.toList.map Prod.snd) (q.drop 1) && (ps.toList.zip (ps.toList.drop 1)).all (fun (a, next) => a.1 < next.1)
  | .invokevirtual idx => okC y mi q idx (q.getD 0 0 - 1) && decide (1 ≤ q.getD 0 0) && hasW (q.getD 6 0) (.instanceMethod mi.1) && hasW (q.getD 7 0) (.selects mi.1.cls mi.1 mi.1) && (if q.getD 3 0 = 9 then decide (mi.1.cls = "java/lang/String") else decide (q.getD 3 0 < 9) && decide (fN (q.getD 3 0) = mi.1.cls)) && q.getD 4 0 == 0
  | .invokestatic idx => if q.getD 4 0 = 2 then hasW (q.getD 5 0) (.methodLink y.1.cls idx Lib.Math.max.name) && hasW (q.getD 6 0) (.static Lib.Math.max.name) && hasW (q.getD 9 0) (.initialized "java/lang/Math") && hasW (q.getD 8 0) (.code Lib.Math.max.name Lib.Math.max.code 2 (some .int))
      else if q.getD 4 0 = 3 then hasW (q.getD 5 0) (.methodLink y.1.cls idx Lib.Math.min.name) && hasW (q.getD 6 0) (.static Lib.Math.min.name) && hasW (q.getD 9 0) (.initialized "java/lang/Math") && hasW (q.getD 8 0) (.code Lib.Math.min.name Lib.Math.min.code 2 (some .int))
      else okC y mi q idx (q.getD 0 0) && hasW (q.getD 6 0) (.static mi.1)
  | .invokespecial idx => if q.getD 0 0 = 0 then hasW (q.getD 5 0) (.methodLink y.1.cls idx objectInit) && hasW (q.getD 6 0) (.instanceMethod objectInit) && hasW (q.getD 8 0) (.code objectInit ⟨#[0xb1]⟩ 1 none)
      else okC y mi q idx (q.getD 0 0 - 1) && decide (1 ≤ q.getD 0 0) && hasW (q.getD 6 0) (.instanceMethod mi.1) && decide (mi.1.name = "<init>") && decide (mi.2.2.2 = none)
  | .new idx => decide (q.getD 0 0 < 9) && hasW (q.getD 5 0) (.classLink y.1.cls idx (fN (q.getD 0 0))) && hasW (q.getD 6 0) (.instantiable (fN (q.getD 0 0)) (fL (q.getD 0 0)).length) && hasW (q.getD 7 0) (.initialized (fN (q.getD 0 0)))
  | .newarray t => (match t with
      | .int => q.getD 0 0 == 0
      | .byte => q.getD 0 0 == 1
      | .boolean => q.getD 0 0 == 2
      | _ => false) && hasW (q.getD 5 0) (.arrayClass (newarray.typeOf t))
  | .multianewarray idx dd => dd == 2 && hasW (q.getD 5 0) (.classLink y.1.cls idx "[[I") && hasW (q.getD 6 0) (.arrayClass .int)
  | .return_ => decide (y.2.2.2 = none)
  | .lreturn => decide (y.2.2.2 = some FieldType.long)
  | _ => true
def okI (y : MI) (it : Item) : Bool :=
  decide (decode y.2.1 it.1 = .ok (it.2.2.1, it.2.1)) && decide (it.2.1 = ilen it.2.2.1 it.2.1) && okS y it.1 it.2.1 it.2.2.1 it.2.2.2.1 it.2.2.2.2.1 it.2.2.2.2.2
def okB (y : MI) : Nat → List Item → Nat → Bool
  | pc, [], e => pc == e
  | pc, it :: r, e => (it.1 == pc) && okI y it && okB y (pc + it.2.1) r e
