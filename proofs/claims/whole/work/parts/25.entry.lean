/-! 09: a method's contract out of its blocks; contracts used -/
def exA : SV → LV
  | [] => []
  | .inr (.inl v) :: r => some (vL v) :: none :: exA r
  | v :: r => some v :: exA r
def entL (as : SV) (n : Nat) : LV := exA as ++ List.replicate (n - (exA as).length) none
theorem asc_app (X : Cx) : ∀ (a : LV) (i n : Nat), asc X i (a ++ List.replicate n none) = asc X i a
  | [], i, 0 => rfl
  | [], i, n + 1 => by
    show asc X (i + 1) (List.replicate n none) = []
    exact asc_app X [] (i + 1) n
  | none :: r, i, n => asc_app X r (i + 1) n
  | some v :: r, i, n => by
    show (i, val X v) :: asc X (i + 1) (r ++ List.replicate n none) = (i, val X v) :: asc X (i + 1) r
    rw [asc_app X r (i + 1) n]
theorem asc_ex (X : Cx) : ∀ (as : SV) (i : Nat), asc X i (exA as) = lv_args i (as.map (val X))
  | [], i => rfl
  | .inl x :: r, i => by
    show (i, val X (.inl x)) :: asc X (i + 1) (exA r) = (i, _) :: lv_args (i + 1) (r.map (val X))
    rw [asc_ex X r (i + 1)]
  | .inr (.inl v) :: r, i => by
    show (i, val X (vL v)) :: asc X (i + 1 + 1) (exA r) = (i, _) :: lv_args (i + 2) (r.map (val X))
    rw [asc_ex X r (i + 1 + 1)]
  | .inr (.inr none) :: r, i => by
    show (i, val X _) :: asc X (i + 1) (exA r) = (i, _) :: lv_args (i + 1) (r.map (val X))
    rw [asc_ex X r (i + 1)]
  | .inr (.inr (some a)) :: r, i => by
    show (i, val X _) :: asc X (i + 1) (exA r) = (i, _) :: lv_args (i + 1) (r.map (val X))
    rw [asc_ex X r (i + 1)]
theorem ex_len (X : Cx) : ∀ (as : SV), (lg_sl (as.map (val X))).length = (exA as).length
  | [] => rfl
  | .inl x :: r => by
    show (lg_sl (r.map (val X))).length + 1 = (exA r).length + 1
    rw [ex_len X r]
  | .inr (.inl v) :: r => by
    show (lg_sl (r.map (val X))).length + 1 + 1 = (exA r).length + 1 + 1
    rw [ex_len X r]
  | .inr (.inr none) :: r => by
    show (lg_sl (r.map (val X))).length + 1 = (exA r).length + 1
    rw [ex_len X r]
  | .inr (.inr (some a)) :: r => by
    show (lg_sl (r.map (val X))).length + 1 = (exA r).length + 1
    rw [ex_len X r]
theorem ent_len {as : SV} {n : Nat} (h : (exA as).length ≤ n) : (entL as n).length = n := by
  unfold entL
  rw [List.length_append, List.length_replicate]
  omega
/-- a call's contract out of the walk from pc 0 -/
theorem call_in {X : Cx} {d mc ms : Nat} {y : MI} {as : SV} {h : AH} {z : Nat} {Q : Option AV → AH → Nat → Prop} (hy : plainName y.1.cls = true) (hn : (exA as).length ≤ y.2.2.1) (hE : Ex (X, d, mc, ms, y, Q) 0 (entL as y.2.2.1) [] h z 0 0) : CallP X d mc ms y as h z Q := by
  refine Met.ofW (cc := y.2.1) (maxL := y.2.2.1) (ret := y.2.2.2) hy rfl ?_
  intro p e s m args below meth c s₁ B hml hv
  obtain ⟨rfl, R, N⟩ := hv
  have hts := atoms_spec (ws := wsM y) B.pre
  have hl := lv_entry (as.map (val X)) (n := y.2.2.1) (by rw [ex_len]; exact hn)
  rw [lg_entry_eq]
  refine hE p e s m _ below meth c _ [] _ ⟨B.exec, B.bytes, hml, B.returns, findClass_of_methodNamed B.named, fun w hw => hts w (List.mem_cons_of_mem _ hw), B.notSynchronized, (name_of_methodNamed B.named B.method).1⟩ N R ?_ (ent_len hn) (fun q hq => by cases hq)
  rw [show (entL as y.2.2.1).length = y.2.2.1 from ent_len hn]
  unfold entL
  rw [asc_app, asc_ex]
  exact hl
theorem call_mono {X : Cx} {d mc ms : Nat} {y : MI} {as : SV} {h : AH} {z : Nat} {P Q : Option AV → AH → Nat → Prop} (hC : CallP X d mc ms y as h z P) (hPQ : ∀ o h' z', P o h' z' → Q o h' z') : CallP X d mc ms y as h z Q := by
  intro p e ha hc hk s m args below hf hap hP hK
  obtain ⟨n, o, h1, h2, h3, ⟨ov, h', z', h4, h5, h6⟩, h7⟩ := hC p e ha hc hk s m args below hf hap hP hK
  exact ⟨n, o, h1, h2, h3, ⟨ov, h', z', h4, hPQ _ _ _ h5, h6⟩, h7⟩
/-- Ex from a block -/
theorem ex_blk {E : Ev} {pc e : Nat} {r : List Item} (hok : okB E.2.2.2.2.1 pc r e = true) {ls : LV} {st : SV} {h : AH} {z k n : Nat} (hw : wpB E r e ls st h z k n) : Ex E pc ls st h z k n :=
  so_B E.1 E.2.1 E.2.2.1 E.2.2.2.1 E.2.2.2.2.1 E.2.2.2.2.2 r pc e ls st h z k n hok hw
theorem ex_mono {X : Cx} {d mc ms : Nat} {y : MI} {P Q : Option AV → AH → Nat → Prop} {pc : Nat} {ls : LV} {st : SV} {h : AH} {z k n : Nat} (hE : Ex (X, d, mc, ms, y, P) pc ls st h z k n) (hPQ : ∀ o h' z', P o h' z' → Q o h' z') : Ex (X, d, mc, ms, y, Q) pc ls st h z k n := by
  intro p e s m args below meth c H locs lr S N R hl hn hlo T hT Xs
  obtain ⟨t, h1, o, h2, h3, ⟨ov, h', z', h4, h5, h6⟩, h7⟩ := hE p e s m args below meth c H locs lr S N R hl hn hlo T hT Xs
  exact ⟨t, h1, o, h2, h3, ⟨ov, h', z', h4, hPQ _ _ _ h5, h6⟩, h7⟩
/-- fewer locals known -/
def Fg : LV → LV → Prop
  | [], [] => True
  | a :: l, b :: m => (b = none ∨ a = b) ∧ Fg l m
  | _, _ => False
theorem Fg_e : ∀ {l m : LV}, Fg l m → l.length = m.length ∧ ∀ (j : Nat) (v : AV), m[j]? = some (some v) → l[j]? = some (some v)
  | [], [], _ => ⟨rfl, fun j v h => h⟩
  | a :: l, b :: m, h => by
    obtain ⟨h1, h2⟩ := Fg_e h.2
    refine ⟨by simp [h1], fun j v hj => ?_⟩
    cases j with
    | zero =>
      simp at hj
      rcases h.1 with h3 | h3
      · rw [h3] at hj; cases hj
      · simp [h3, hj]
    | succ j => simpa using h2 j v (by simpa using hj)
theorem ex_fg {E : Ev} {pc : Nat} {ls ls' : LV} {st : SV} {h : AH} {z k n : Nat} (hf : Fg ls ls') (hE : Ex E pc ls' st h z k n) : Ex E pc ls st h z k n := by
  intro p e s m args below meth c H locs lr S N R hl hn hlo
  obtain ⟨h1, h2⟩ := Fg_e hf
  refine hE p e s m args below meth c H locs lr S N R ⟨by rw [← h1]; exact hl.1, hl.2.1, fun q hq => ?_⟩ (by rw [← h1]; exact hn) hlo
  obtain ⟨j, v, h3, rfl⟩ := (asc_in _ _ 0 q).mp hq
  exact hl.2.2 _ ((asc_in _ _ 0 _).mpr ⟨j, v, h2 j v h3, rfl⟩)
/-- a loop's head, from its end back -/
theorem downP (P : Nat → Prop) (n : Nat) (hn : P n) (hs : ∀ i, i < n → P (i + 1) → P i) : ∀ i, i ≤ n → P i := by
  intro i hi
  obtain ⟨k, rfl⟩ := Nat.exists_eq_add_of_le hi
  clear hi
  induction k generalizing i with
  | zero => exact hn
  | succ k ih => exact hs i (by omega) (ih (i + 1) (by rw [show i + 1 + k = i + (k + 1) by omega]; exact hn) (fun j hj => hs j (by omega)))
def fo {α : Type} : Nat → (Nat → α → α) → α → α
  | 0, _, s => s
  | n + 1, f, s => f n (fo n f s)
-- the evaluator's rows
def fget : List AV → Nat → (AV → Prop) → Prop
  | [], _, _ => False
  | u :: _, 0, P => P u
  | _ :: l, k + 1, P => fget l k P
theorem fget_e : ∀ {fs : List AV} {k : Nat} {P : AV → Prop}, fget fs k P = (match fs[k]? with
    | some v => P v
    | none => False)
  | [], _, _ => rfl
  | _ :: _, 0, _ => rfl
  | u :: l, k + 1, P => by
    show fget l k P = _
    rw [fget_e (fs := l) (k := k) (P := P), List.getElem?_cons_succ]
section EV
variable {E : Ev} {K : KT} {pc len e : Nat} {q : List Nat} {v : Int} {mi : MI} {ls : LV} {st : SV} {h : AH} {z k n : Nat} {r : List Item} {i : Instr}
theorem e_nil : wpB E [] e ls st h z k n = Ex E e ls st h z k n := rfl
theorem e_cons : wpB E ((pc, len, i, q, v, mi) :: r) e ls st h z k n = wpI E (wpB E r e) (pc, len, i, q, v, mi) ls st h z k n := rfl
theorem e_aload_n {j : Fin 4} : wpI E K (pc, len, .aload_n j, q, v, mi) ls st h z k n = ldA ls j.val (kA K ls st h z k n) := rfl
theorem e_aload {j : Nat} : wpI E K (pc, len, .aload j, q, v, mi) ls st h z k n = ldA ls j (kA K ls st h z k n) := rfl
theorem e_iload_n {j : Fin 4} : wpI E K (pc, len, .iload_n j, q, v, mi) ls st h z k n = ldI ls j.val (kI K ls st h z k n) := rfl
theorem e_iload {j : Nat} : wpI E K (pc, len, .iload j, q, v, mi) ls st h z k n = ldI ls j (kI K ls st h z k n) := rfl
theorem e_lload_n {j : Fin 4} : wpI E K (pc, len, .lload_n j, q, v, mi) ls st h z k n = ldL ls j.val (kL K ls st h z k n) := rfl
theorem e_istore_n {j : Fin 4} {x : Int} : wpI E K (pc, len, .istore_n j, q, v, mi) ls (.inl x :: st) h z k n = stL ls j.val (vI x) (kS K st h z k n) := rfl
theorem e_istore {j : Nat} {x : Int} : wpI E K (pc, len, .istore j, q, v, mi) ls (.inl x :: st) h z k n = stL ls j (vI x) (kS K st h z k n) := rfl
theorem e_astore_n {j : Fin 4} {a : Nat} : wpI E K (pc, len, .astore_n j, q, v, mi) ls (.inr (.inr (some a)) :: st) h z k n = stL ls j.val (vA a) (kS K st h z k n) := rfl
theorem e_astore {j : Nat} {a : Nat} : wpI E K (pc, len, .astore j, q, v, mi) ls (.inr (.inr (some a)) :: st) h z k n = stL ls j (vA a) (kS K st h z k n) := rfl
def kN (K : KT) (ls : LV) (j : Nat) (c : Int) (st : SV) (h : AH) (z k n : Nat) (x : Int) : Prop := stL ls j (vI (x + c)) (kS K st h z k n)
theorem e_iinc {j : Nat} {c : Int} : wpI E K (pc, len, .iinc j c, q, v, mi) ls st h z k n = ldI ls j (kN K ls j c st h z k n) := rfl
theorem e_kN {c x : Int} {j : Nat} : kN K ls j c st h z k n x = stL ls j (vI (x + c)) (kS K st h z k n) := rfl
theorem e_iconst {c : Int} : wpI E K (pc, len, .iconst c, q, v, mi) ls st h z k n = K ls (vI c :: st) h z k n := rfl
theorem e_bipush {c : Int} : wpI E K (pc, len, .bipush c, q, v, mi) ls st h z k n = K ls (vI c :: st) h z k n := rfl
theorem e_sipush {c : Int} : wpI E K (pc, len, .sipush c, q, v, mi) ls st h z k n = K ls (vI c :: st) h z k n := rfl
theorem e_lconst {c : Fin 2} : wpI E K (pc, len, .lconst c, q, v, mi) ls st h z k n = K ls (vL (Int64.ofNat c.val) :: st) h z k n := rfl
theorem e_ldcI {c w : Nat} : wpI E K (pc, len, .ldc c, [0, 0, w], v, mi) ls st h z k n = K ls (vI v :: st) h z k n := rfl
theorem e_ldcS {c j : Nat} : wpI E K (pc, len, .ldc c, [1, j], v, mi) ls st h z k n = K ls (vA (3 + j) :: st) h z k n := rfl
theorem e_ldc_w {c : Nat} : wpI E K (pc, len, .ldc_w c, q, v, mi) ls st h z k n = K ls (vI v :: st) h z k n := rfl
theorem e_ldc2_w {c : Nat} : wpI E K (pc, len, .ldc2_w c, q, v, mi) ls st h z k n = K ls (vL (Int64.ofInt v) :: st) h z k n := rfl
theorem e_iadd {x y : Int} : wpI E K (pc, len, .iadd, q, v, mi) ls (.inl y :: .inl x :: st) h z k n = K ls (vI (x + y) :: st) h z k n := rfl
theorem e_isub {x y : Int} : wpI E K (pc, len, .isub, q, v, mi) ls (.inl y :: .inl x :: st) h z k n = K ls (vI (x - y) :: st) h z k n := rfl
theorem e_imul {x y : Int} : wpI E K (pc, len, .imul, q, v, mi) ls (.inl y :: .inl x :: st) h z k n = K ls (vI (x * y) :: st) h z k n := rfl
theorem e_idiv {x y : Int} : wpI E K (pc, len, .idiv, q, v, mi) ls (.inl y :: .inl x :: st) h z k n = (InR x ∧ InR y ∧ y ≠ 0 ∧ K ls (vI (x.tdiv y) :: st) h z k n) := rfl
theorem e_ineg {x : Int} : wpI E K (pc, len, .ineg, q, v, mi) ls (.inl x :: st) h z k n = K ls (vI (-x) :: st) h z k n := rfl
theorem e_iand {x y : Int} : wpI E K (pc, len, .iand, q, v, mi) ls (.inl y :: .inl x :: st) h z k n = K ls (vI (bAnd x y) :: st) h z k n := rfl
theorem e_ior {x y : Int} : wpI E K (pc, len, .ior, q, v, mi) ls (.inl y :: .inl x :: st) h z k n = K ls (vI (bOr x y) :: st) h z k n := rfl
theorem e_ixor {x y : Int} : wpI E K (pc, len, .ixor, q, v, mi) ls (.inl y :: .inl x :: st) h z k n = K ls (vI (bXor x y) :: st) h z k n := rfl
theorem e_ishl {x y : Int} : wpI E K (pc, len, .ishl, q, v, mi) ls (.inl y :: .inl x :: st) h z k n = K ls (vI (bShl x y) :: st) h z k n := rfl
theorem e_ishr {x y : Int} : wpI E K (pc, len, .ishr, q, v, mi) ls (.inl y :: .inl x :: st) h z k n = K ls (vI (bShr x y) :: st) h z k n := rfl
theorem e_iushr {x y : Int} : wpI E K (pc, len, .iushr, q, v, mi) ls (.inl y :: .inl x :: st) h z k n = K ls (vI (bUsh x y) :: st) h z k n := rfl
theorem e_i2b {x : Int} : wpI E K (pc, len, .i2b, q, v, mi) ls (.inl x :: st) h z k n = K ls (vI ((Int32.ofInt x).toInt8.toInt32.toInt) :: st) h z k n := rfl
theorem e_i2c {x : Int} : wpI E K (pc, len, .i2c, q, v, mi) ls (.inl x :: st) h z k n = K ls (vI (((Int32.ofInt x).toUInt32 % 65536).toInt32.toInt) :: st) h z k n := rfl
theorem e_i2l {x : Int} : wpI E K (pc, len, .i2l, q, v, mi) ls (.inl x :: st) h z k n = K ls (vL ((Int32.ofInt x).toInt64) :: st) h z k n := rfl
theorem e_l2i {x : Int64} : wpI E K (pc, len, .l2i, q, v, mi) ls (.inr (.inl x) :: st) h z k n = K ls (vI (x.toInt32.toInt) :: st) h z k n := rfl
theorem e_ladd {x y : Int64} : wpI E K (pc, len, .ladd, q, v, mi) ls (.inr (.inl y) :: .inr (.inl x) :: st) h z k n = K ls (vL (x + y) :: st) h z k n := rfl
theorem e_land {x y : Int64} : wpI E K (pc, len, .land, q, v, mi) ls (.inr (.inl y) :: .inr (.inl x) :: st) h z k n = K ls (vL (x &&& y) :: st) h z k n := rfl
theorem e_lor {x y : Int64} : wpI E K (pc, len, .lor, q, v, mi) ls (.inr (.inl y) :: .inr (.inl x) :: st) h z k n = K ls (vL (x ||| y) :: st) h z k n := rfl
theorem e_lshl {x : Int64} {y : Int} : wpI E K (pc, len, .lshl, q, v, mi) ls (.inl y :: .inr (.inl x) :: st) h z k n = K ls (vL (x <<< ((Int32.ofInt y).toInt64 &&& 63)) :: st) h z k n := rfl
theorem e_lshr {x : Int64} {y : Int} : wpI E K (pc, len, .lshr, q, v, mi) ls (.inl y :: .inr (.inl x) :: st) h z k n = K ls (vL (x >>> ((Int32.ofInt y).toInt64 &&& 63)) :: st) h z k n := rfl
theorem e_lushr {x : Int64} {y : Int} : wpI E K (pc, len, .lushr, q, v, mi) ls (.inl y :: .inr (.inl x) :: st) h z k n = K ls (vL ((x.toUInt64 >>> ((Int32.ofInt y).toInt64.toUInt64 &&& Int64.toUInt64 63)).toInt64) :: st) h z k n := rfl
theorem e_lcmp {x y : Int64} : wpI E K (pc, len, .lcmp, q, v, mi) ls (.inr (.inl y) :: .inr (.inl x) :: st) h z k n = K ls (vI ((lg_cmp x y).toInt) :: st) h z k n := rfl
theorem e_dupA {x : Option Nat} : wpI E K (pc, len, .dup, q, v, mi) ls (.inr (.inr x) :: st) h z k n = K ls (.inr (.inr x) :: .inr (.inr x) :: st) h z k n := by
  show (_ ∧ _) = _
  exact propext ⟨fun h => h.2, fun h => ⟨rfl, h⟩⟩
theorem e_dupI {x : Int} : wpI E K (pc, len, .dup, q, v, mi) ls (.inl x :: st) h z k n = K ls (.inl x :: .inl x :: st) h z k n := by
  show (_ ∧ _) = _
  exact propext ⟨fun h => h.2, fun h => ⟨rfl, h⟩⟩
theorem e_dup2 {x : Option Nat} {y : Int} : wpI E K (pc, len, .dup2, q, v, mi) ls (.inl y :: .inr (.inr x) :: st) h z k n = K ls (.inl y :: .inr (.inr x) :: .inl y :: .inr (.inr x) :: st) h z k n := by
  show (_ ∧ _ ∧ _) = _
  exact propext ⟨fun h => h.2.2, fun h => ⟨rfl, rfl, h⟩⟩
theorem e_popI {x : Int} : wpI E K (pc, len, .pop, q, v, mi) ls (.inl x :: st) h z k n = K ls st h z k n := by
  show (_ ∧ _) = _
  exact propext ⟨fun h => h.2, fun h => ⟨rfl, h⟩⟩
theorem e_getfield {j a ci kk : Nat} {w : List Nat} : wpI E K (pc, len, .getfield j, ci :: kk :: w, v, mi) ls (.inr (.inr (some a)) :: st) h z k n = rdF (h a) ci kk (kV K ls st h z k n) := rfl
theorem e_putfield {j a ci kk w t : Nat} {u : AV} : wpI E K (pc, len, .putfield j, [ci, kk, w, t], v, mi) ls (u :: .inr (.inr (some a)) :: st) h z k n = wrF (h a) ci kk t u (kH K ls st h a z k n) := rfl
theorem e_getstatic1 {j w w2 : Nat} : wpI E K (pc, len, .getstatic j, [1, w, w2], v, mi) ls st h z k n = K ls (vA 1 :: st) h z k n := rfl
theorem e_getstatic2 {j w w2 : Nat} : wpI E K (pc, len, .getstatic j, [2, w, w2], v, mi) ls st h z k n = K ls (vA 2 :: st) h z k n := rfl
theorem e_getstatic3 {j w w2 : Nat} : wpI E K (pc, len, .getstatic j, [3, w, w2], v, mi) ls st h z k n = K ls (vI 1 :: st) h z k n := rfl
theorem e_getstatic15 {j w w2 : Nat} : wpI E K (pc, len, .getstatic j, [15, w, w2], v, mi) ls st h z k n = (K ls (vA 15 :: st) h z k n ∧ K ls (vN :: st) h z k n) := rfl
theorem e_iaload {i2 : Int} {a : Nat} : wpI E K (pc, len, .iaload, q, v, mi) ls (.inl i2 :: .inr (.inr (some a)) :: st) h z k n = rdA (h a) 0 i2 (kI K ls st h z k n) := rfl
theorem e_baload {i2 : Int} {a kd : Nat} : wpI E K (pc, len, .baload, [kd], v, mi) ls (.inl i2 :: .inr (.inr (some a)) :: st) h z k n = rdA (h a) kd i2 (kI K ls st h z k n) := rfl
theorem e_iastore {i2 x : Int} {a : Nat} : wpI E K (pc, len, .iastore, q, v, mi) ls (.inl x :: .inl i2 :: .inr (.inr (some a)) :: st) h z k n = wrA (h a) 0 i2 x (kH K ls st h a z k n) := rfl
theorem e_bastore {i2 x : Int} {a kd : Nat} : wpI E K (pc, len, .bastore, [kd], v, mi) ls (.inl x :: .inl i2 :: .inr (.inr (some a)) :: st) h z k n = wrA (h a) kd i2 x (kH K ls st h a z k n) := rfl
theorem e_aaload {i2 : Int} {a : Nat} : wpI E K (pc, len, .aaload, q, v, mi) ls (.inl i2 :: .inr (.inr (some a)) :: st) h z k n = rdR (h a) i2 (kA K ls st h z k n) := rfl
theorem e_arraylength {a : Nat} : wpI E K (pc, len, .arraylength, q, v, mi) ls (.inr (.inr (some a)) :: st) h z k n = lnA (h a) (kI K ls st h z k n) := rfl
theorem e_goto {o : Int} {t : Nat} : wpI E K (pc, len, .goto o, [t], v, mi) ls st h z k n = Ex E t ls st h z k n := rfl
theorem e_if {c : ClassFile.Cond} {o x : Int} {t : Nat} : wpI E K (pc, len, .ifCond c o, [t], v, mi) ls (.inl x :: st) h z k n = (InR x ∧ brI E (cpI c x 0) (Ex E t ls st h z k n) (K ls st h z k n)) := rfl
theorem e_icmp {c : ClassFile.Cond} {o x y : Int} {t : Nat} : wpI E K (pc, len, .if_icmp c o, [t], v, mi) ls (.inl y :: .inl x :: st) h z k n = (InR x ∧ InR y ∧ brI E (cpI c x y) (Ex E t ls st h z k n) (K ls st h z k n)) := rfl
theorem e_br {P T U : Prop} : brI E P T U = ((P → T) ∧ (¬ P → U)) := rfl
theorem e_tsw {d lo hi : Int} {os : Array Int} {x : Int} {t : Nat} {ts : List Nat} : wpI E K (pc, len, .tableswitch d lo hi os, t :: ts, v, mi) ls (.inl x :: st) h z k n = (InR x ∧ (x < lo ∨ hi < x → Ex E t ls st h z k n) ∧ swT E ls st h z k n x lo ts) := rfl
theorem e_swT0 {x lo : Int} : swT E ls st h z k n x lo [] = True := rfl
theorem e_swT1 {x lo : Int} {t : Nat} {ts : List Nat} : swT E ls st h z k n x lo (t :: ts) = ((x = lo → Ex E t ls st h z k n) ∧ swT E ls st h z k n x (lo + 1) ts) := rfl
theorem e_lsw {d : Int} {ps : List (Int × Int)} {x : Int} {t : Nat} {ts : List Nat} : wpI E K (pc, len, .lookupswitch d ⟨ps⟩, t :: ts, v, mi) ls (.inl x :: st) h z k n = (InR x ∧ swL E ls st h z k n x t ps ts) := rfl
theorem e_swL0 {x : Int} {d : Nat} : swL E ls st h z k n x d [] [] = Ex E d ls st h z k n := rfl
theorem e_swL1 {x : Int} {d t : Nat} {p : Int × Int} {ps : List (Int × Int)} {ts : List Nat} : swL E ls st h z k n x d (p :: ps) (t :: ts) = ((x = p.1 → Ex E t ls st h z k n) ∧ (x ≠ p.1 → swL E ls st h z k n x d ps ts)) := rfl
theorem e_ireturn {x : Int} : wpI E K (pc, len, .ireturn, q, v, mi) ls [.inl x] h z k n = (okR E.2.2.2.2.1.2.2.2 x ∧ k ≤ E.2.2.1 ∧ n ≤ E.2.2.2.1 ∧ E.2.2.2.2.2 (some (vI x)) h z) := by
  show (_ ∧ _) = _
  exact propext ⟨fun h => h.2, fun h => ⟨rfl, h⟩⟩
theorem e_lreturn {x : Int64} : wpI E K (pc, len, .lreturn, q, v, mi) ls [.inr (.inl x)] h z k n = (k ≤ E.2.2.1 ∧ n ≤ E.2.2.2.1 ∧ E.2.2.2.2.2 (some (vL x)) h z) := by
  show (_ ∧ _) = _
  exact propext ⟨fun h => h.2, fun h => ⟨rfl, h⟩⟩
theorem e_return : wpI E K (pc, len, .return_, q, v, mi) ls [] h z k n = (k ≤ E.2.2.1 ∧ n ≤ E.2.2.2.1 ∧ E.2.2.2.2.2 none h z) := by
  show (_ ∧ _) = _
  exact propext ⟨fun h => h.2, fun h => ⟨rfl, h⟩⟩
theorem e_oinit {j : Nat} {w : List Nat} {a : Nat} : wpI E K (pc, len, .invokespecial j, 0 :: w, v, mi) ls (.inr (.inr (some a)) :: st) h z k n = (1 ≤ E.2.1 ∧ catS st ≤ 8 ∧ K ls st h z k n) := rfl
/-- a call: how many arguments, cells, slots -/
theorem e_virt {j na c2 s2 ci : Nat} {w : List Nat} : wpI E K (pc, len, .invokevirtual j, na :: c2 :: s2 :: ci :: w, v, mi) ls st h z k n = calW E K 1 (na :: c2 :: s2 :: ci :: w) mi ls st h z k n := rfl
theorem e_stat0 {j na c2 s2 ci : Nat} {w : List Nat} : wpI E K (pc, len, .invokestatic j, na :: c2 :: s2 :: ci :: 0 :: w, v, mi) ls st h z k n = calW E K 0 (na :: c2 :: s2 :: ci :: 0 :: w) mi ls st h z k n := rfl
theorem e_stat1 {j na c2 s2 ci : Nat} {w : List Nat} : wpI E K (pc, len, .invokestatic j, na :: c2 :: s2 :: ci :: 1 :: w, v, mi) ls st h z k n = calW E K 0 (na :: c2 :: s2 :: ci :: 1 :: w) mi ls st h z k n := rfl
theorem e_max {j na c2 s2 ci : Nat} {w : List Nat} {x y : Int} : wpI E K (pc, len, .invokestatic j, na :: c2 :: s2 :: ci :: 2 :: w, v, mi) ls (.inl y :: .inl x :: st) h z k n = (InR x ∧ InR y ∧ 1 ≤ E.2.1 ∧ catS st ≤ 8 ∧ k ≤ E.2.2.1 ∧ n ≤ E.2.2.2.1 ∧ K ls (vI (if x < y then y else x) :: st) h z k n) := rfl
theorem e_min {j na c2 s2 ci : Nat} {w : List Nat} {x y : Int} : wpI E K (pc, len, .invokestatic j, na :: c2 :: s2 :: ci :: 3 :: w, v, mi) ls (.inl y :: .inl x :: st) h z k n = (InR x ∧ InR y ∧ 1 ≤ E.2.1 ∧ catS st ≤ 8 ∧ k ≤ E.2.2.1 ∧ n ≤ E.2.2.2.1 ∧ K ls (vI (if y < x then y else x) :: st) h z k n) := rfl
theorem e_spec {j na c2 s2 ci : Nat} {w : List Nat} : wpI E K (pc, len, .invokespecial j, (na + 1) :: c2 :: s2 :: ci :: w, v, mi) ls st h z k n = calW E K 2 ((na + 1) :: c2 :: s2 :: ci :: w) mi ls st h z k n := rfl
theorem e_cal {rv na c2 s2 ci : Nat} {w : List Nat} : calW E K rv (na :: c2 :: s2 :: ci :: w) mi ls st h z k n = (1 ≤ E.2.1 ∧ na ≤ st.length ∧ catS (st.drop na) ≤ 8 ∧ k + c2 ≤ E.2.2.1 ∧ n + s2 ≤ E.2.2.2.1 ∧
    (rv = 1 → popA (st.take na).reverse fun a _ => isO (h a) ci) ∧ (rv = 2 → popA (st.take na).reverse fun _ _ => True) ∧
    CallP E.1 (E.2.1 - 1) c2 s2 mi (st.take na).reverse h z (kC K ls (st.drop na) (k + c2) (n + s2))) := rfl
theorem e_popA {a : Nat} {P : Nat → SV → Prop} : popA (.inr (.inr (some a)) :: st) P = P a st := rfl
theorem e_kI {x : Int} : kI K ls st h z k n x = K ls (vI x :: st) h z k n := rfl
theorem e_kL {x : Int64} : kL K ls st h z k n x = K ls (vL x :: st) h z k n := rfl
theorem e_kA {x : Nat} : kA K ls st h z k n x = K ls (vA x :: st) h z k n := rfl
theorem e_kV {x : AV} : kV K ls st h z k n x = K ls (x :: st) h z k n := rfl
theorem e_kS : kS K st h z k n ls = K ls st h z k n := rfl
theorem e_kH {a : Nat} {c : AC} : kH K ls st h a z k n c = (16 ≤ a ∧ K ls st (upA h a c) z k n) := rfl
theorem e_j0 : ((0 : Fin 4) : Nat) = 0 := rfl
theorem e_j1 : ((1 : Fin 4) : Nat) = 1 := rfl
theorem e_j2 : ((2 : Fin 4) : Nat) = 2 := rfl
theorem e_j3 : ((3 : Fin 4) : Nat) = 3 := rfl
theorem e_kC0 : kC K ls st k n none h z = K ls st h z k n := rfl
theorem e_kC1 {x : AV} : kC K ls st k n (some x) h z = K ls (x :: st) h z k n := rfl
theorem e_ldI0 {x : Int} {P : Int → Prop} : ldI (some (.inl x) :: ls) 0 P = P x := rfl
theorem e_ldI1 {a : Option AV} {j : Nat} {P : Int → Prop} : ldI (a :: ls) (j + 1) P = ldI ls j P := rfl
theorem e_ldL0 {x : Int64} {P : Int64 → Prop} : ldL (some (.inr (.inl x)) :: ls) 0 P = P x := rfl
theorem e_ldL1 {a : Option AV} {j : Nat} {P : Int64 → Prop} : ldL (a :: ls) (j + 1) P = ldL ls j P := rfl
theorem e_ldA0 {x : Nat} {P : Nat → Prop} : ldA (some (.inr (.inr (some x))) :: ls) 0 P = P x := rfl
theorem e_ldA1 {a : Option AV} {j : Nat} {P : Nat → Prop} : ldA (a :: ls) (j + 1) P = ldA ls j P := rfl
theorem e_stL {j : Nat} {u : AV} {P : LV → Prop} : stL ls j u P = (stOk ls j = true ∧ P (stSt ls j u)) := rfl
theorem e_rdF {ci ci' kk : Nat} {fs : List AV} {P : AV → Prop} : rdF (some (.inr (.inr (.inl (ci', fs))))) ci kk P = (ci' = ci ∧ fget fs kk P) := by
  rw [fget_e]
  rfl
theorem e_rdS {i ci kk : Nat} {P : AV → Prop} : rdF (some (.inr (.inr (.inr i)))) ci kk P = (ci = 9 ∧ (if kk = 0 then P (vA (9 + i)) else P (vI 0))) := rfl
theorem e_fg0 {fs : List AV} {u : AV} {P : AV → Prop} : fget (u :: fs) 0 P = P u := rfl
theorem e_fg1 {fs : List AV} {u : AV} {kk : Nat} {P : AV → Prop} : fget (u :: fs) (kk + 1) P = fget fs kk P := rfl
theorem e_so0 {a : Option AV} : stOk (a :: ls) 0 = true := rfl
theorem e_so1 {a b : Option AV} : stOk (a :: b :: ls) 1 = !isLg a := by simp [stOk]
theorem e_so2 {a : Option AV} {j : Nat} : stOk (a :: ls) (j + 2) = stOk ls (j + 1) := rfl
theorem e_il0 {x : Int} : isLg (some (.inl x)) = false := rfl
theorem e_il1 {x : Option Nat} : isLg (some (.inr (.inr x))) = false := rfl
theorem e_il2 : isLg none = false := rfl
theorem e_ss0 {a : Option AV} {u : AV} : stSt (a :: ls) 0 u = some u :: ls := rfl
theorem e_ss1 {a : Option AV} {j : Nat} {u : AV} : stSt (a :: ls) (j + 1) u = a :: stSt ls j u := rfl
theorem e_wrF {ci ci' kk t : Nat} {fs : List AV} {u : AV} {P : AC → Prop} : wrF (some (.inr (.inr (.inl (ci', fs))))) ci kk t u P = (ci' = ci ∧ kk < fs.length ∧ okT t u ∧ P (cO ci (fs.set kk u))) := rfl
theorem e_rdA {kd kd' m : Nat} {f : Nat → Int} {i : Int} {P : Int → Prop} : rdA (some (.inl (kd', m, f))) kd i P = (kd' = kd ∧ 0 ≤ i ∧ i < m ∧ P (f i.toNat)) := rfl
theorem e_wrA {kd kd' m : Nat} {f : Nat → Int} {i x : Int} {P : AC → Prop} : wrA (some (.inl (kd', m, f))) kd i x P = (kd' = kd ∧ 0 ≤ i ∧ i < m ∧ okN kd x ∧ P (.inl (kd, m, upF f i.toNat x))) := rfl
theorem e_rdR {m : Nat} {g : Nat → Nat} {i : Int} {P : Nat → Prop} : rdR (some (.inr (.inl (m, g)))) i P = (0 ≤ i ∧ i < m ∧ P (g i.toNat)) := rfl
theorem e_lnA {kd m : Nat} {f : Nat → Int} {P : Int → Prop} : lnA (some (.inl (kd, m, f))) P = P m := rfl
theorem e_isO {ci ci' : Nat} {fs : List AV} : isO (some (.inr (.inr (.inl (ci', fs))))) ci = (ci' = ci) := rfl
end EV
theorem call_inQ {X : Cx} {d mc ms : Nat} {y : MI} {as : SV} {h : AH} {z : Nat} {P : Option AV → AH → Nat → Prop} (hy : plainName y.1.cls = true) (hn : (exA as).length ≤ y.2.2.1) (hE : ∀ Q : Option AV → AH → Nat → Prop, (∀ o h' z', P o h' z' → Q o h' z') → Ex (X, d, mc, ms, y, Q) 0 (entL as y.2.2.1) [] h z 0 0) : CallP X d mc ms y as h z P :=
  call_in hy hn (hE P (fun _ _ _ q => q))
