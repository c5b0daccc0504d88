/-! f4: what holds at the law's entry -/
theorem len_sz {args : Array Value} {s : State} {tm : Term} {N t : Nat} {cell : Cell} (hN : N < 2 ^ 31) (hlen : (Term.length tm).eval args s none [] s = some (.int (Int32.ofNat N))) (ht : tm.eval args s none [] s = some (.ref t)) (hc : s.heap[t]? = some cell) : cell.slots.size = N := by
  have hlen2 := hlen
  obtain ⟨b, cell2, ht2, har, hv⟩ := Term.length_spec hlen
  cases ht.symm.trans ht2
  obtain ⟨hc2, -, -, -⟩ := State.arrayAt?_spec har
  cases hc.symm.trans hc2
  have hsz : cell.slots.size < 2 ^ 31 := by
    simp only [Term.eval, ht, har, Option.bind_eq_bind, Option.bind_some] at hlen2
    by_cases hlt : cell.slots.size < 2147483648
    · exact hlt
    · simp [hlt] at hlen2
  have e := congrArg Int32.toNatClampNeg (Value.int.inj hv)
  rw [Int32.toNatClampNeg_ofNat_of_lt hN] at e
  have e3 : (cell.slots.size.toInt32).toNatClampNeg = cell.slots.size := Int32.toNatClampNeg_ofNat_of_lt hsz
  rw [e3] at e
  exact e.symm
theorem arr_of {args : Array Value} {s : State} {tm : Term} {ty : FieldType} {N : Nat} {g : Nat → Int} (hN : N < 2 ^ 31) (harr : (Jvm.Cond.arrayOf tm ty).before args s = true) (hlen : (Jvm.Cond.eq (.length tm) (.int (Int32.ofNat N))).before args s = true) (hel : ∀ j, j < N → (Jvm.Cond.eq (.elem tm (.int (Int32.ofNat j))) (.int (Int32.ofInt (g j)))).before args s = true) :
    ∃ (t : Nat) (cell : Cell), tm.eval args s none [] s = some (.ref t) ∧ s.heap[t]? = some cell ∧ s.isArrayOf cell ty ∧ cell.vm ≠ .unknown ∧ cell.slots.size = N ∧ ∀ j, j < N → cell.slots[j]? = some (.int (Int32.ofInt (g j))) := by
  obtain ⟨t, ht, cell, h1, h2, h3, h4, h5, h6, h7⟩ := va_Tof (A := fun _ => False) (f := fun j => .int (Int32.ofInt (g j))) hN harr (va_eqt hlen) (fun j hj => va_eqt (hel j hj)) (fun _ _ h => h)
  exact ⟨t, cell, ht, h1, h2, h3, len_sz hN (va_eqt hlen) ht h1, h6⟩
theorem ref_of {args : Array Value} {s : State} {t : Term} (h : (Jvm.Cond.isRef t).before args s = true) : (∃ a, t.eval args s none [] s = some (.ref a)) ∨ t.eval args s none [] s = some .null := by
  cases hv : t.eval args s none [] s with
  | none => simp [Cond.before, Cond.holds, Cond.value, hv] at h
  | some w =>
    simp only [Cond.before, Cond.holds, Cond.value, hv] at h
    cases w <;> simp_all
def smT (i : Nat) : Term := .string "CarryFirst$Reader" (sIx i)
def fvT (i : Nat) : Term := .field (smT i) "java/lang/String" "value" "[B"
def gvL : List Jvm.Cond := flatC (Jvm.Cond.and given_1 narrow_1)
theorem nr_s : ∀ i : Fin 6, Jvm.Cond.exactly (smT i.val) "java/lang/String" ∈ gvL ∧ Jvm.Cond.eq (.field (smT i.val) "java/lang/String" "coder" "B") (.int 0) ∈ gvL ∧ Jvm.Cond.arrayOf (fvT i.val) .byte ∈ gvL ∧ Jvm.Cond.eq (.length (fvT i.val)) (.int (Int32.ofNat (wLen i.val))) ∈ gvL := by decide +kernel
theorem nr_b : ∀ i j : Fin 6, j.val < wLen i.val → Jvm.Cond.eq (.elem (fvT i.val) (.int (Int32.ofNat j.val))) (.int (Int32.ofInt (wByt i.val j.val))) ∈ gvL := by decide +kernel
theorem nr_t : ∀ j : Fin 5, Jvm.Cond.eq (.elem (.static "CarryFirst" "LEAST_TUNE" "[I") (.int (Int32.ofNat j.val))) (.int (Int32.ofInt (loT j.val))) ∈ gvL ∧ Jvm.Cond.eq (.elem (.static "CarryFirst" "MOST_TUNE" "[I") (.int (Int32.ofNat j.val))) (.int (Int32.ofInt (hiT j.val))) ∈ gvL := by decide +kernel
theorem nr_r : ∀ i : Fin 6, Jvm.Cond.stringRef "CarryFirst$Reader" (sIx i.val) (sTx i.val) ∈ lw_tbl := by decide +kernel
theorem nr_k : ∀ ci : Fin 9, Jvm.Cond.instantiable (fN ci.val) (fL ci.val).length ∈ lw_tbl := by decide +kernel
theorem nr_l : ∀ ci : Fin 9, ∀ w ∈ u_ws (fN ci.val) (fT ci.val) (fL ci.val).length, w ∈ lw_tbl := by decide +kernel
theorem nr_n : ∀ w ∈ nwW, w ∈ lw_tbl := by decide +kernel
theorem nr_o : ∀ w ∈ nwW, w.onTables = true := by decide +kernel
theorem nr_6 : ∀ i : Fin 6, wLen i.val ≤ 6 := by decide
def oldA (b t1 t2 t15 : Nat) (ad : Nat → Nat × Nat) : Nat → Nat := fun a => if a = 0 then b else if a = 1 then t1 else if a = 2 then t2 else if a < 9 then (ad (a - 3)).1 else if a < 15 then (ad (a - 9)).2 else t15
def h0A (L : Nat) (sc : Nat → Int) : AH := fun a => if a = 0 then some (cI L sc) else if a = 1 then some (cI 5 loT) else if a = 2 then some (cI 5 hiT) else if a < 9 then some (cS (a - 3)) else if a < 15 then some (cB (wLen (a - 9)) (wByt (a - 9))) else none
theorem lt6 {i : Nat} (h : i < 6) : i = 0 ∨ i = 1 ∨ i = 2 ∨ i = 3 ∨ i = 4 ∨ i = 5 := by omega
theorem h0A_s (L : Nat) (sc : Nat → Int) : StrC (h0A L sc) := fun i hi => by
  rcases lt6 hi with rfl | rfl | rfl | rfl | rfl | rfl <;> exact ⟨rfl, rfl⟩
theorem rho_old {l : Launch} {hp b t1 t2 t15 : Nat} {ad : Nat → Nat × Nat} {G : va_G} {i : Nat} (hi : i < 6) : rho (l, hp, oldA b t1 t2 t15 ad, G) (3 + i) = (ad i).1 ∧ rho (l, hp, oldA b t1 t2 t15 ad, G) (9 + i) = (ad i).2 := by
  rcases lt6 hi with rfl | rfl | rfl | rfl | rfl | rfl <;> exact ⟨rfl, rfl⟩
/-- what holds at the law's entry: the machine, the code, the tables' words, the script of L ints xs at the cell b, what the Statement gives of the start -/
def lw_At (p : Program) (s : State) (m : MethodId) (meth : Method) (c : Code) (b L : Nat) (xs : Nat → Int32) : Prop :=
  p.tables.exec = Jvm.exec ∧ c.code = code ∧ meth.sig.returnType = ret ∧ c.maxLocals = 4 ∧ s.vm.findClass "CarryFirstLaw" = some m.cls ∧ (∀ w ∈ lw_tbl, w.before #[Value.ref b] s = true) ∧ va_X b L xs s s.heap ∧ b < s.heap.size ∧ meth.locks = false ∧ (Jvm.Cond.and given_1 narrow_1).before #[Value.ref b] s = true
theorem at_rep {p : Program} {s : State} {m : MethodId} {meth : Method} {c : Code} (l : Launch) {b L : Nat} {xs : Nat → Int32} (hL : L ≤ 320) (C0 : lw_At p s m meth c b L xs) : ∃ X : Cx, X.1 = l ∧ X.2.1 = s.heap.size ∧ rho X 0 = b ∧ Nw X s ∧ Rep X s s.heap (h0A L (fun j => (xs j).toInt)) 0 := by
  obtain ⟨hx, hb, hr, hml, hown, hts, hX, hbl, hlk, hg⟩ := C0
  have gv : ∀ w ∈ gvL, w.before #[Value.ref b] s = true := flat_of_before _ hg
  have hA : ∀ a : Nat, a < s.heap.size → ¬ (fun q : Nat => s.heap.size ≤ q) a := fun a ha => Nat.not_le.mpr ha
  obtain ⟨t1, k1, e1, a1, a2, a3, a4, a5⟩ := arr_of (args := #[Value.ref b]) (s := s) (tm := .static "CarryFirst" "LEAST_TUNE" "[I") (ty := .int) (N := 5) (g := loT) (by decide) (gv _ (by decide +kernel)) (gv _ (by decide +kernel)) (fun j hj => gv _ (nr_t ⟨j, hj⟩).1)
  obtain ⟨t2, k2, e2, b1, b2, b3, b4, b5⟩ := arr_of (args := #[Value.ref b]) (s := s) (tm := .static "CarryFirst" "MOST_TUNE" "[I") (ty := .int) (N := 5) (g := hiT) (by decide) (gv _ (by decide +kernel)) (gv _ (by decide +kernel)) (fun j hj => gv _ (nr_t ⟨j, hj⟩).2)
  have hs : ∀ i : Nat, ∃ q : Nat × Nat, i < 6 → vk_R "CarryFirst$Reader" (sIx i) (sTx i) q.1 s ∧ va_O "java/lang/String" q.1 (fun q => s.heap.size ≤ q) s s.heap ∧ va_OF "java/lang/String" "value" "[B" (.ref q.2) q.1 (fun q => s.heap.size ≤ q) s s.heap ∧ va_OF "java/lang/String" "coder" "B" (.int 0) q.1 (fun q => s.heap.size ≤ q) s s.heap ∧ ∃ cell : Cell, s.heap[q.2]? = some cell ∧ s.isArrayOf cell .byte ∧ cell.vm ≠ .unknown ∧ cell.slots.size = wLen i ∧ ∀ j, j < wLen i → cell.slots[j]? = some (.int (Int32.ofInt (wByt i j))) := by
    intro i
    by_cases hi : i < 6
    · obtain ⟨n1, n2, n3, n4⟩ := nr_s ⟨i, hi⟩
      have h6 := nr_6 ⟨i, hi⟩
      dsimp only at n1 n2 n3 n4 h6
      obtain ⟨a, c9, cA, kA, q1, -⟩ := Cond.exactly_spec (args := #[Value.ref b]) (first := s) (o := none) (s := s) (idx := []) (t := smT i) (cls := "java/lang/String") (gv _ n1)
      obtain ⟨t, cell, ht, h1, h2, h3, h4, h5⟩ := arr_of (args := #[Value.ref b]) (s := s) (tm := fvT i) (ty := .byte) (N := wLen i) (g := wByt i) (by omega) (gv _ n3) (gv _ n4) (fun j hj => gv _ (nr_b ⟨i, hi⟩ ⟨j, by omega⟩ hj))
      exact ⟨(a, t), fun _ => ⟨vk_R.of (hts _ (nr_r ⟨i, hi⟩)) q1, va_Oof (gv _ n1) q1 hA, vk_OFof q1 ht hA, vk_OFof q1 (va_eqt (gv _ n2)) hA, cell, h1, h2, h3, h4, h5⟩⟩
    · exact ⟨(0, 0), fun h => absurd h hi⟩
  obtain ⟨ad, had⟩ := Classical.axiomOfChoice hs
  have hk : ∀ ci : Nat, ∃ q : ClassId × (Nat → Nat), ci < 9 → u_Kn s (fN ci) (fT ci) (fL ci).length q.1 q.2 := by
    intro ci
    by_cases hi : ci < 9
    · obtain ⟨cC, iS, h⟩ := u_known (args := #[Value.ref b]) (s := s) (C := fN ci) (T := fT ci) (N := (fL ci).length) (n := (fL ci).length) hts (nr_l ⟨ci, hi⟩) (hts _ (nr_k ⟨ci, hi⟩))
      exact ⟨(cC, iS), fun _ => h⟩
    · exact ⟨((0 : Nat), fun _ => 0), fun h => absurd h hi⟩
  obtain ⟨kd, hkd⟩ := Classical.axiomOfChoice hk
  have hz : ∃ t15 : Nat, va_Z "jdk/internal/util/Preconditions" "SIOOBE_FORMATTER" "Ljava/util/function/BiFunction;" (.ref t15) (fun q => s.heap.size ≤ q) s s.heap ∨ va_Z "jdk/internal/util/Preconditions" "SIOOBE_FORMATTER" "Ljava/util/function/BiFunction;" .null (fun q => s.heap.size ≤ q) s s.heap := by
    rcases ref_of (gv (Jvm.Cond.isRef (.static "jdk/internal/util/Preconditions" "SIOOBE_FORMATTER" "Ljava/util/function/BiFunction;")) (by decide +kernel)) with ⟨a, ha⟩ | ha
    · exact ⟨a, Or.inl (va_Zof (hts _ (by decide +kernel)) (hts _ (by decide +kernel)) ha hA)⟩
    · exact ⟨0, Or.inr (va_Zof (hts _ (by decide +kernel)) (hts _ (by decide +kernel)) ha hA)⟩
  obtain ⟨t15, hz15⟩ := hz
  have z1 : va_Z "CarryFirst" "LEAST_TUNE" "[I" (.ref t1) (fun q => s.heap.size ≤ q) s s.heap := va_Zof (hts _ (by decide +kernel)) (hts _ (by decide +kernel)) e1 hA
  have z2 : va_Z "CarryFirst" "MOST_TUNE" "[I" (.ref t2) (fun q => s.heap.size ≤ q) s s.heap := va_Zof (hts _ (by decide +kernel)) (hts _ (by decide +kernel)) e2 hA
  have z3 : va_Z "java/lang/String" "COMPACT_STRINGS" "Z" (.int 1) (fun q => s.heap.size ≤ q) s s.heap := va_Zof (hts _ (by decide +kernel)) (hts _ (by decide +kernel)) (va_eqt (gv _ (by decide +kernel))) hA
  have hover : (Jvm.Cond.arrayOver (.array .int)).before #[] s = true := by
    have h := hts (Jvm.Cond.arrayOver (.array .int)) (by decide +kernel)
    simpa only [Cond.before, Cond.holds, Cond.value] using h
  obtain ⟨scr, x1, x2, x3, x4, x5⟩ := hX
  refine ⟨(l, s.heap.size, oldA b t1 t2 t15 ad, fun c => (kd c).1, fun c => (kd c).2), rfl, rfl, rfl, ⟨fun w hw => va_Nw.of (nr_o w hw) (hts w (nr_n w hw)), fun i hi => ?_, hover⟩, ?_⟩
  · rw [(rho_old hi).1]
    exact (had i hi).1
  · have hat : ∀ a c, h0A L (fun j => (xs j).toInt) a = some c → atC (l, s.heap.size, oldA b t1 t2 t15 ad, fun c => (kd c).1, fun c => (kd c).2) s s.heap a c := by
      intro a c hc
      by_cases c0 : a = 0
      · subst c0
        have hc : some (cI L (fun j => (xs j).toInt)) = some c := hc
        cases hc
        exact ⟨scr, x1, x2, x3, x4, by omega, fun j hj => by rw [x5 j hj, Int32.ofInt_toInt]⟩
      by_cases c1 : a = 1
      · subst c1
        have hc : some (cI 5 loT) = some c := hc
        cases hc
        exact ⟨k1, a1, a2, a3, a4, by decide, a5⟩
      by_cases c2 : a = 2
      · subst c2
        have hc : some (cI 5 hiT) = some c := hc
        cases hc
        exact ⟨k2, b1, b2, b3, b4, by decide, b5⟩
      by_cases c9 : a < 9
      · obtain ⟨i, rfl⟩ : ∃ i, a = 3 + i := ⟨a - 3, by omega⟩
        have hi : i < 6 := by omega
        rw [(h0A_s L _ i hi).1] at hc
        cases hc
        have hr := rho_old (l := l) (hp := s.heap.size) (b := b) (t1 := t1) (t2 := t2) (t15 := t15) (ad := ad) (G := (fun c => (kd c).1, fun c => (kd c).2)) hi
        show va_O "java/lang/String" (rho _ (3 + i)) _ s s.heap ∧ va_OF "java/lang/String" "value" "[B" (.ref (rho _ (9 + i))) (rho _ (3 + i)) _ s s.heap ∧ va_OF "java/lang/String" "coder" "B" (.int 0) (rho _ (3 + i)) _ s s.heap
        rw [hr.1, hr.2]
        exact ⟨(had i hi).2.1, (had i hi).2.2.1, (had i hi).2.2.2.1⟩
      by_cases c15 : a < 15
      · obtain ⟨i, rfl⟩ : ∃ i, a = 9 + i := ⟨a - 9, by omega⟩
        have hi : i < 6 := by omega
        rw [(h0A_s L _ i hi).2] at hc
        cases hc
        have hr := rho_old (l := l) (hp := s.heap.size) (b := b) (t1 := t1) (t2 := t2) (t15 := t15) (ad := ad) (G := (fun c => (kd c).1, fun c => (kd c).2)) hi
        obtain ⟨cell, h1, h2, h3, h4, h5⟩ := (had i hi).2.2.2.2
        have h6 := nr_6 ⟨i, hi⟩
        dsimp only at h6
        refine ⟨cell, ?_, h2, h3, h4, by omega, h5⟩
        rw [hr.2]
        exact h1
      · unfold h0A at hc
        rw [if_neg c0, if_neg c1, if_neg c2, if_neg c9, if_neg c15] at hc
        cases hc
    refine ⟨hat, rfl, fun a c hl hc => ?_, fun ci hci => hkd ci hci, z1, z2, z3, hz15⟩
    have h9 := atC_lt (hat a c hc)
    rw [show rho (l, s.heap.size, oldA b t1 t2 t15 ad, fun c => (kd c).1, fun c => (kd c).2) a = oldA b t1 t2 t15 ad a from if_pos hl] at h9
    exact h9
