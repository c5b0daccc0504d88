/-! 23m: int[n][k] made at one stroke -/
def mnI (b : ClassId) (M : Nat) : Cell := { cls := b, slots := Array.replicate M (.int 0), vm := .none }
def mnW (u : State) (a i : Nat) (v : Value) : State := match u.heap[a]? with
  | some o => u.setCell a (o.setSlot i v)
  | none => u
def mnS (s : State) (cA b : ClassId) (N M : Nat) : Nat → State
  | 0 => s.pushCell { cls := cA, slots := Array.replicate N .null, vm := .none }
  | i + 1 => mnW ((mnS s cA b N M i).pushCell (mnI b M)) s.heap.size i (.ref (s.heap.size + 1 + i))
theorem mnW_e {u : State} {a i : Nat} {v : Value} {o : Cell} (h : u.heap[a]? = some o) : mnW u a i v = u.setCell a (o.setSlot i v) := by
  unfold mnW
  rw [h]
theorem mnW_top (u : State) (f : JFrame) (a i : Nat) (v : Value) : mnW (u.setTop f) a i v = (mnW u a i v).setTop f := by
  unfold mnW
  rw [State.heap_setTop]
  cases u.heap[a]? with
  | none => rfl
  | some o => rfl
theorem mnS_top (s : State) (f : JFrame) (cA b : ClassId) (N M : Nat) : ∀ i, mnS (s.setTop f) cA b N M i = (mnS s cA b N M i).setTop f
  | 0 => rfl
  | i + 1 => by
    show mnW ((mnS (s.setTop f) cA b N M i).pushCell (mnI b M)) (s.setTop f).heap.size i (.ref ((s.setTop f).heap.size + 1 + i)) = _
    rw [mnS_top s f cA b N M i, State.pushCell_setTop, State.heap_setTop, mnW_top]
    rfl
/-- what stands when i rows are there -/
def MnP (s : State) (cA b : ClassId) (N M i : Nat) (u : State) : Prop := u.heap.size = s.heap.size + 1 + i ∧ (∃ o : Cell, u.heap[s.heap.size]? = some o ∧ o.cls = cA ∧ o.vm = .none ∧ o.slots.size = N ∧ ∀ j, j < N → o.slots[j]? = some (if j < i then .ref (s.heap.size + 1 + j) else .null)) ∧ (∀ j, j < i → u.heap[s.heap.size + 1 + j]? = some (mnI b M)) ∧ (∀ q : Nat, q < s.heap.size → u.heap[q]? = s.heap[q]?) ∧ u.vm = s.vm ∧ u.slotsUsed = s.slotsUsed + N + i * M
theorem mn_P (s : State) (cA b : ClassId) (N M : Nat) : ∀ i, MnP s cA b N M i (mnS s cA b N M i)
  | 0 => by
    refine ⟨by simp [mnS], ⟨_, State.heap_pushCell_size _ _, rfl, rfl, by simp, fun j hj => ?_⟩, fun j hj => absurd hj (Nat.not_lt_zero _), fun q hq => State.heap_pushCell_of_lt _ _ hq, rfl, by simp [mnS]⟩
    rw [if_neg (Nat.not_lt_zero _)]
    simp [hj]
  | i + 1 => by
    obtain ⟨p1, ⟨o, o1, o2, o3, o4, o5⟩, p3, p4, p5, p6⟩ := mn_P s cA b N M i
    have hl : s.heap.size < (mnS s cA b N M i).heap.size := by omega
    have hc : ((mnS s cA b N M i).pushCell (mnI b M)).heap[s.heap.size]? = some o := by
      rw [State.heap_pushCell_of_lt (h := hl)]
      exact o1
    have e : mnS s cA b N M (i + 1) = ((mnS s cA b N M i).pushCell (mnI b M)).setCell s.heap.size (o.setSlot i (.ref (s.heap.size + 1 + i))) := mnW_e hc
    rw [e]
    have hlt : ∀ q : Nat, q < (mnS s cA b N M i).heap.size → s.heap.size ≠ q → (((mnS s cA b N M i).pushCell (mnI b M)).setCell s.heap.size (o.setSlot i (.ref (s.heap.size + 1 + i)))).heap[q]? = (mnS s cA b N M i).heap[q]? := fun q hq hn => by
      rw [State.heap_setCell_other hn, State.heap_pushCell_of_lt (h := hq)]
    refine ⟨?_, ⟨_, State.heap_setCell_self hc, o2, o3, ?_, fun j hj => ?_⟩, fun j hj => ?_, fun q hq => ?_, ?_, ?_⟩
    · simp [State.setCell, p1]
      omega
    · simp [Cell.setSlot, o4]
    · simp only [Cell.setSlot, Array.getElem?_setIfInBounds]
      by_cases e : i = j
      · subst e
        rw [if_pos rfl, o4, if_pos hj, if_pos (Nat.lt_succ_self i)]
      · rw [if_neg e, o5 j hj]
        by_cases c : j < i
        · rw [if_pos c, if_pos (by omega)]
        · rw [if_neg c, if_neg (by omega)]
    · rcases Nat.lt_or_ge j i with c | c
      · rw [hlt _ (by omega) (by omega)]
        exact p3 j c
      · have ej : j = i := by omega
        subst ej
        rw [State.heap_setCell_other (show s.heap.size ≠ s.heap.size + 1 + j by omega), ← p1]
        exact State.heap_pushCell_size _ _
    · rw [hlt q (by omega) (by omega)]
      exact p4 q hq
    · exact p5
    · simp [p6, mnI, Nat.succ_mul]
      omega
section MN
variable {p : Program} {l : Launch} {e : Env} {R : Room} {s : State} {m : MethodId} {args : Array Value} {below : List Frame} {meth : Method} {c : Code} {T : State} {locs : List Loc} {cells slots : Nat}
theorem mn_X (X : Stand p l e R s m args below meth c T locs cells slots) (cA b : ClassId) (N M : Nat) : ∀ i, Stand p l e R s m args below meth c (mnS T cA b N M i) locs (cells + 1 + i) (slots + N + i * M)
  | 0 => by
    have h := X.pushed { cls := cA, slots := Array.replicate N .null, vm := .none }
    rw [show ({ cls := cA, slots := Array.replicate N .null, vm := .none } : Cell).slots.size = N by simp] at h
    rw [Nat.zero_mul]
    exact h
  | i + 1 => by
    have Xi := mn_X X cA b N M i
    obtain ⟨p1, ⟨o, o1, -⟩, -⟩ := mn_P T cA b N M i
    have hl : T.heap.size < (mnS T cA b N M i).heap.size := by omega
    have hc : ((mnS T cA b N M i).pushCell (mnI b M)).heap[T.heap.size]? = some o := by
      rw [State.heap_pushCell_of_lt (h := hl)]
      exact o1
    have h := (Xi.pushed (mnI b M)).stored hc i (.ref (T.heap.size + 1 + i))
    have h2 := h.dropFresh (fun x hx => by
      rw [List.mem_singleton] at hx
      subst hx
      exact X.heapGrown)
    rw [show (mnI b M).slots.size = M by simp [mnI]] at h2
    rw [show slots + N + (i + 1) * M = slots + N + i * M + M by rw [Nat.succ_mul]; omega]
    have e : mnS T cA b N M (i + 1) = ((mnS T cA b N M i).pushCell (mnI b M)).setCell T.heap.size (o.setSlot i (.ref (T.heap.size + 1 + i))) := mnW_e hc
    rw [e]
    exact h2
end MN
theorem mn_over {u : State} (h : (Cond.arrayOver (.array .int)).before #[] u = true) : ∃ b cA k, u.vm.findClass "[I" = some b ∧ u.vm.classes[cA]? = some k ∧ k.kind = .array b (.array .int) ∧ u.vm.findClass "[[I" = some cA := by
  have e1 : (FieldType.array .int).toString = "[I" := by decide +kernel
  have e2 : "[" ++ (FieldType.array .int).toString = "[[I" := by decide +kernel
  simp only [Cond.before, Cond.holds, Cond.value, beq_iff_eq, e1, e2] at h
  cases hb : u.vm.findClass "[I" with
  | none => simp [hb] at h
  | some b =>
    rw [hb, Option.bind_some, Option.bind_eq_some_iff] at h
    obtain ⟨cA, hi, h⟩ := h
    rw [Option.map_eq_some_iff] at h
    obtain ⟨k, hk, h⟩ := h
    obtain ⟨hlt, hp, -⟩ := Array.findIdx?_eq_some_iff_getElem.mp hi
    have hkk : u.vm.classes[cA] = k := (Array.getElem?_eq_some_iff.mp hk).2
    rw [hkk] at hp
    cases hd : k.kind with
    | array b2 t =>
      rw [hd] at h hp
      simp at h hp
      exact ⟨b, cA, k, rfl, hk, by rw [hd, hp, h.1], h.2⟩
    | _ => rw [hd] at h; simp at h
section MW
variable {E : CtlPost} {e : Env} {d : Bool} {acts : List Action} {s : State}
theorem mn_row {b b2 : ClassId} {k : Class} {y : Int32} (hk : s.vm.classes[b]? = some k) (hd : k.kind = .array b2 .int) (hy : ¬ y < 0) (h1 : ¬ y.toNatClampNeg > e.platform.arrayLengthLimit) (h2 : ¬ y.toNatClampNeg * componentBytes .int > e.platform.maxHeapBytes) (r1 : s.heap.size < e.platform.maxCells) (r2 : s.slotsUsed + y.toNatClampNeg ≤ e.platform.maxSlots) {Q : Addr → Pre} (hq : ∀ a', Q s.heap.size d a' (s.pushCell (mnI b y.toNatClampNeg))) : wp (multianewarray.make b [y]) Q E e d acts s := by
  rw [multianewarray.make]
  simp only [wp_bind', W.ite, hy, if_false, wp_pure', W.theClass, hk, hd, Option.some.injEq, exists_eq_left']
  exact W.newArray_of hk hd h1 h2 r1 r2 rfl hq
theorem mn_all {cA b b2 : ClassId} {k k2 : Class} {x y : Int32} (hk : s.vm.classes[cA]? = some k) (hd : k.kind = .array b (.array .int)) (hk2 : s.vm.classes[b]? = some k2) (hd2 : k2.kind = .array b2 .int) (hx : ¬ x < 0) (hy : ¬ y < 0)
    (h1 : ¬ x.toNatClampNeg > e.platform.arrayLengthLimit) (h2 : ¬ x.toNatClampNeg * componentBytes (.array .int) > e.platform.maxHeapBytes) (h3 : ¬ y.toNatClampNeg > e.platform.arrayLengthLimit) (h4 : ¬ y.toNatClampNeg * componentBytes .int > e.platform.maxHeapBytes)
    (r1 : s.heap.size + (1 + x.toNatClampNeg) ≤ e.platform.maxCells) (r2 : s.slotsUsed + (x.toNatClampNeg + x.toNatClampNeg * y.toNatClampNeg) ≤ e.platform.maxSlots) {Q : Addr → Pre} (hq : ∀ d' a', Q s.heap.size d' a' (mnS s cA b x.toNatClampNeg y.toNatClampNeg x.toNatClampNeg)) : wp (multianewarray.make cA [x, y]) Q E e d acts s := by
  generalize hN : x.toNatClampNeg = N at *
  have hneg : ([y].find? (· < 0)) = none := by simp [hy]
  rw [multianewarray.make]
  simp only [wp_bind', W.ite, hx, if_false, wp_pure', W.theClass, hk, hd, Option.some.injEq, exists_eq_left', hN]
  have hz := Nat.zero_le (N * y.toNatClampNeg)
  refine W.newArray_of hk hd h1 h2 (by omega) (by omega) rfl (fun a0 => ?_)
  simp only [hneg]
  rw [ite_self, wp_bind', Std.Legacy.Range.forIn_eq_forIn_range']
  rw [show ([:N] : Std.Legacy.Range).size = N by simp [Std.Legacy.Range.size]]
  show wp (forIn (List.range' 0 N 1) PUnit.unit _) _ E e d a0 _
  refine wp_forIn_inv (fun rest u => ∃ i, i ≤ N ∧ rest = List.range' i (N - i) ∧ u = mnS s cA b N y.toNatClampNeg i) _ _ ⟨0, Nat.zero_le _, rfl, rfl⟩ ?_ ?_
  · rintro i0 rest u d' a' Q' ⟨i, hi, hl, rfl⟩ hnext
    have hlt : i < N := by
      rcases Nat.lt_or_ge i N with h | h
      · exact h
      · rw [show N - i = 0 by omega] at hl
        cases hl
    rw [show N - i = (N - (i + 1)) + 1 by omega, List.range'_succ] at hl
    obtain ⟨rfl, hrest⟩ := List.cons.inj hl
    obtain ⟨p1, ⟨o, o1, o2, o3, o4, o5⟩, p3, p4, p5, p6⟩ := mn_P s cA b N y.toNatClampNeg i0
    have hmul : i0 * y.toNatClampNeg + y.toNatClampNeg ≤ N * y.toNatClampNeg := by
      have := Nat.mul_le_mul_right y.toNatClampNeg (show i0 + 1 ≤ N from hlt)
      rw [Nat.succ_mul] at this
      exact this
    simp only [wp_bind']
    refine mn_row (by rw [p5]; exact hk2) hd2 hy h3 h4 (by omega) (by omega) (fun a2 => ?_)
    have hl0 : s.heap.size < (mnS s cA b N y.toNatClampNeg i0).heap.size := by omega
    have hc : ((mnS s cA b N y.toNatClampNeg i0).pushCell (mnI b y.toNatClampNeg)).heap[s.heap.size]? = some o := by
      rw [State.heap_pushCell_of_lt (h := hl0)]
      exact o1
    simp only [wp_bind', W.writeLoc, wp_pure']
    refine ⟨o, hc, by rw [o3]; simp, by rw [o4]; exact hlt, ?_, hnext _ _ _ ⟨i0 + 1, hlt, hrest, ?_⟩⟩
    · rw [o2, o3]
      simp [State.fitsSlot, State.slotType?, p5, hk, hd, fits]
    · rw [p1]
      exact (mnW_e hc).symm
  · rintro u d' a' ⟨i, hi, hl, rfl⟩
    have hiN : i = N := by
      rcases Nat.lt_or_ge i N with h | h
      · rw [show N - i = (N - (i + 1)) + 1 by omega, List.range'_succ] at hl
        cases hl
      · omega
    subst hiN
    simp only [wp_pure']
    exact hq _ _
end MW
section MG
variable {p : Program} {l : Launch} {e : Env} {R : Room} {s : State} {m : MethodId} {args : Array Value} {below : List Frame} {meth : Method} {c : Code} {H : Heap} {locs : List Loc} {cells slots : Nat} {Q : State → Prop}
theorem mn_W {cc : ByteArray} {pc : Nat} {ls : Array Slot} {rest : List Value} (hexec : p.tables.exec = Jvm.exec) (hb : c.code = cc) {own : String} {index : Nat} (hown : s.vm.findClass own = some m.cls) (hcl : (Cond.classLink own index "[[I").before args s = true) (hov : (Cond.arrayOver (.array .int)).before #[] s = true) (har : (Cond.arrayClass .int).before args s = true) {x y : Int32} (hdg : decode cc pc = .ok (.multianewarray index 2, 4)) (hx : ¬ x < 0) (hy : ¬ y < 0) (hx1 : x.toNatClampNeg ≤ 65536) (hy1 : y.toNatClampNeg ≤ 65536) (hcells : cells + (1 + x.toNatClampNeg) ≤ R.cells) (hslots : slots + (x.toNatClampNeg + x.toNatClampNeg * y.toNatClampNeg) ≤ R.slots)
    (kk : ∀ (H' : Heap) (cA b : ClassId) (o : Cell), H'.size = H.size + (1 + x.toNatClampNeg) → (∀ q : Nat, q < H.size → H'[q]? = H[q]?) → H'[H.size]? = some o → s.isArrayOf o (.array .int) → o.vm ≠ .unknown → o.slots.size = x.toNatClampNeg → (∀ j, j < x.toNatClampNeg → o.slots[j]? = some (.ref (H.size + 1 + j))) → (∀ j, j < x.toNatClampNeg → H'[H.size + 1 + j]? = some (mnI b y.toNatClampNeg)) → s.isArrayOf (mnI b y.toNatClampNeg) .int →
      W p l e R s m args below meth c H' locs (cells + (1 + x.toNatClampNeg)) (slots + (x.toNatClampNeg + x.toNatClampNeg * y.toNatClampNeg)) Q (F0 m (pc + 4) ls (.ref H.size :: rest))) : W p l e R s m args below meth c H locs cells slots Q (F0 m pc ls (.int y :: .int x :: rest)) := by
  intro T hT X
  have hpl : e.platform.magicAccessors = ({} : Platform).magicAccessors := by rw [X.admits.platform]
  obtain ⟨b, cA, k, f1, f2, f3, f4⟩ := mn_over hov
  obtain ⟨b', k2, b2, f5, f6, f7⟩ := Cond.arrayClass_spec har
  have eb : some b' = some b := f5.symm.trans f1
  cases eb
  obtain ⟨c0, f8, hlk⟩ := Cond.classLink_spec hown hcl e.platform hpl
  cases f4.symm.trans f8
  obtain ⟨hg1, hw1, -⟩ := State.classEntry (e := e) X.warmed hlk
  generalize T.vm.noted m.cls index (.cls cA) = vm1 at hg1 hw1
  obtain ⟨k', q1, q2⟩ := hw1.alike.2.2 _ _ f2
  obtain ⟨k2', q3, q4⟩ := hw1.alike.2.2 _ _ f6
  have q2' : k'.kind = .array b (.array .int) := by rw [q2]; exact f3
  have q4' : k2'.kind = .array b2 .int := by rw [q4]; exact f7
  have X1 := X.noted hw1
  obtain ⟨r1, r2⟩ := X.roomAbove hcells hslots
  have XF := mn_X X1 cA b x.toNatClampNeg y.toNatClampNeg x.toNatClampNeg
  obtain ⟨p1, ⟨o, o1, o2, o3, o4, o5⟩, p3, p4, p5, p6⟩ := mn_P (T.setVm vm1) cA b x.toNatClampNeg y.toNatClampNeg x.toNatClampNeg
  have hTh : (T.setVm vm1).heap = H := hT
  have hTs : T.heap.size = H.size := by rw [hT]
  rw [hTh] at p1 o1 o5 p3 p4
  have hO : s.isArrayOf o (.array .int) := ⟨fun z hz => (by rw [o3] at hz; cases hz), k, (by rw [o2]; exact f2), b, f3⟩
  have hI : s.isArrayOf (mnI b y.toNatClampNeg) .int := ⟨fun z hz => (by cases hz), k2, f6, b2, f7⟩
  obtain ⟨t, ht, hQ⟩ := kk _ cA b o (by rw [p1]; omega) p4 o1 hO (by rw [o3]; simp) o4 (fun j hj => by rw [o5 j hj, if_pos hj]) p3 hI _ rfl (by rw [show cells + (1 + x.toNatClampNeg) = cells + 1 + x.toNatClampNeg by omega, show slots + (x.toNatClampNeg + x.toNatClampNeg * y.toNatClampNeg) = slots + x.toNatClampNeg + x.toNatClampNeg * y.toNatClampNeg by omega]; exact XF)
  refine ⟨t, ?_, hQ⟩
  have hl1 : ¬ x.toNatClampNeg > e.platform.arrayLengthLimit := by rw [Launch.admits_arrayLengthLimit X.admits]; omega
  have hh1 : ¬ x.toNatClampNeg * componentBytes (.array .int) > e.platform.maxHeapBytes := by
    rw [Launch.admits_maxHeapBytes X.admits]
    show ¬ x.toNatClampNeg * 4 > 536870912
    omega
  have hl2 : ¬ y.toNatClampNeg > e.platform.arrayLengthLimit := by rw [Launch.admits_arrayLengthLimit X.admits]; omega
  have hh2 : ¬ y.toNatClampNeg * componentBytes .int > e.platform.maxHeapBytes := by
    rw [Launch.admits_maxHeapBytes X.admits]
    show ¬ y.toNatClampNeg * 4 > 536870912
    omega
  have hmq : (T.setTop (F0 m pc ls (.int y :: .int x :: rest))).method? = some m := State.method?_setTop _ X.here.top
  have hg2 : (Jvm.resolveClass m.cls index).Gives e.toSetting (T.setTop (F0 m pc ls (.int y :: .int x :: rest))).vm (.ok cA) vm1 := hg1
  jvm_step X.here [hexec, hb, hdg]
  simp only [multianewarray.sem, wp_bind', W.resolveClassAt_links hmq hg2]
  rw [W.popN, if_neg (by decide)]
  refine ⟨_, State.topJava?_setTop' (s := T.setVm vm1) _ X.here.top, [.int x, .int y], rest, rfl, rfl, ?_⟩
  simp only [List.mapM_cons, List.mapM_nil, wp_bind', wp_pure']
  have eS : ∀ g g2 : JFrame, ((T.setTop g).setVm vm1).setTop g2 = (T.setVm vm1).setTop g2 := fun g g2 => by
    show ((T.setVm vm1).setTop g).setTop g2 = _
    rw [State.setTop_setTop]
  rw [eS]
  refine mn_all (s := (T.setVm vm1).setTop (F0 m pc ls rest)) (k := k') (k2 := k2') (b2 := b2) q1 q2' q3 q4' hx hy hl1 hh1 hl2 hh2 r1 r2 (fun d' a' => ?_)
  rw [mnS_top]
  simp only [wp_bind', W.mark, W.pushRef, State.topJava?_setTop' _ XF.here.top, Option.some.injEq, exists_eq_left', State.setTop_setTop, State.heap_setTop]
  intro a3
  simp [jvm, XF.here.top]
  rw [← hTs] at ht
  exact ht
end MG
section SM
variable {X : Cx} {d mc ms : Nat} {y : MI} {Q : Option AV → AH → Nat → Prop} {p : Program} {e : Env} {s : State} {m : MethodId} {args : Array Value} {below : List Frame} {meth : Method} {c : Code} {H : Heap} {locs : List Loc} {lr : Array Slot} {h : AH} {z k n : Nat} {pc idx : Nat} {st : List Value}
theorem so_mna (S : Std y p s m args meth c) (hN : Nw X s) (hd : decode y.2.1 pc = .ok (.multianewarray idx 2, 4)) (R : Rep X s H h z) (h1 : Cond.classLink y.1.cls idx "[[I" ∈ wsG) (h2 : Cond.arrayClass .int ∈ wsG) {a b : Int} (ha0 : 0 ≤ a) (ha1 : a ≤ 65536) (hb0 : 0 ≤ b) (hb1 : b ≤ 65536) (hk : k + (1 + a.toNat) ≤ mc) (hn : n + (a.toNat + a.toNat * b.toNat) ≤ ms)
    (kk : ∀ H' : Heap, Rep X s H' (upG h z a.toNat b.toNat) (z + (1 + a.toNat)) → WG X d mc ms Q p e s m args below meth c H' locs (k + (1 + a.toNat)) (n + (a.toNat + a.toNat * b.toNat)) (F0 m (pc + 4) lr (val X (vA (16 + z)) :: st))) : WG X d mc ms Q p e s m args below meth c H locs k n (F0 m pc lr (val X (vI b) :: val X (vI a) :: st)) := by
  obtain ⟨hx, hb, hml, hr, hown, hts, hlk, hnm⟩ := S
  obtain ⟨e1, e2⟩ := ofI_nat ha0 (by omega)
  obtain ⟨e3, e4⟩ := ofI_nat hb0 (by omega)
  have hsz := R.2.1
  have e0 : H.size = rho X (16 + z) := by rw [rho_z, hsz]
  refine mn_W (x := Int32.ofInt a) (y := Int32.ofInt b) hx hb hown (hts _ h1) hN.2.2 (hts _ h2) hd e2 e4 (by omega) (by omega) (by rw [e1]; exact hk) (by rw [e1, e3]; exact hn) (fun H' cA b' o g1 g2 g3 g4 g5 g6 g7 g8 g9 => ?_)
  rw [e1] at g1 g6 g7 g8
  rw [e3] at g8 g9
  rw [e1, e3]
  have hfin := kk H' (rep_push R g1 g2 (fun a' c' ha => ?_))
  · rw [show val X (vA (16 + z)) = .ref H.size by rw [e0]; rfl] at hfin
    exact hfin
  · unfold upG at ha
    split at ha
    · rename_i ea
      cases ha
      subst ea
      refine Or.inl ⟨Nat.le_refl _, o, by rw [← e0]; exact g3, g4, g5, g6, by omega, fun j hj => ?_⟩
      rw [g7 j hj, show rho X (16 + z + 1 + j) = H.size + 1 + j by rw [show 16 + z + 1 + j = 16 + (z + 1 + j) by omega, rho_z, hsz]; omega]
    · split at ha
      · rename_i hno hin
        cases ha
        obtain ⟨j, rfl⟩ : ∃ j, a' = 16 + z + 1 + j := ⟨a' - (16 + z + 1), by omega⟩
        have er : rho X (16 + z + 1 + j) = H.size + 1 + j := by
          rw [show 16 + z + 1 + j = 16 + (z + 1 + j) by omega, rho_z, hsz]
          omega
        refine Or.inl ⟨by omega, mnI b' b.toNat, by rw [er]; exact g8 j (by omega), g9, fun q => (by cases q), by simp [mnI], by omega, fun i hi => ?_⟩
        simp [mnI, hi]
      · exact Or.inr ha
end SM
