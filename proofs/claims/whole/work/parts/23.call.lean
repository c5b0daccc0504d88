/-! 07: wpB is sound: calls, new cells, returns -/
theorem ao_moved {u U : State} (hal : u.vm.Alike U.vm) (h : (Cond.arrayOver (.array .int)).before #[] u = true) : (Cond.arrayOver (.array .int)).before #[] U = true := by
  simp only [Cond.before, Cond.holds, Cond.value, beq_iff_eq] at h ⊢
  rw [hal.findClass]
  cases hc : u.vm.findClass (FieldType.array .int).toString with
  | none => simp [hc] at h
  | some comp =>
    simp only [hc, Option.bind_some, Option.bind_eq_some_iff, Option.map_eq_some_iff] at h ⊢
    obtain ⟨c, hi, k, hk, hb⟩ := h
    obtain ⟨k', hk', he⟩ := hal.2.2 _ _ hk
    exact ⟨c, by rw [hal.findIdx?_eq _ (fun _ => rfl)]; exact hi, k', hk', by rw [he, hal.findClass]; exact hb⟩
theorem nw_warm {X : Cx} {s U : State} (hW : s.WarmedH U.vm) (N : Nw X s) : Nw X U := by
  refine ⟨fun w hw => ?_, fun i hi => (N.2.1 i hi).warm hW, ao_moved hW.alike N.2.2⟩
  have h := N.1 w hw
  simp only [nwW, List.mem_cons, List.not_mem_nil, or_false] at hw
  rcases hw with rfl | rfl | rfl | rfl | rfl | rfl
  · exact va_Nw.warmM hW h
  · exact va_Nw.warmM hW h
  · exact va_Nw.warmM hW h
  · exact va_Nw.warmF hW h
  · exact va_Nw.warmM hW h
  · exact va_Nw.warmM hW h
theorem nw_same {X : Cx} {u U : State} (hv : U.vm = u.vm) (N : Nw X u) : Nw X U := by
  refine ⟨fun w hw => ?_, fun i hi => (N.2.1 i hi).same hv, ao_moved (by rw [hv]; exact Vm.Alike.refl _) N.2.2⟩
  have h := N.1 w hw
  simp only [nwW, List.mem_cons, List.not_mem_nil, or_false] at hw
  rcases hw with rfl | rfl | rfl | rfl | rfl | rfl <;> exact va_Nw.same rfl hv.symm h
theorem pc_blind {X : Cx} {as : SV} {h : AH} {z : Nat} : FrameBlind (PcX X as h z) := by
  intro a U g mk hP
  obtain ⟨h1, h2, h3⟩ := hP
  exact ⟨h1, rep_moved (u := U) (U := U.calling g mk a) (Vm.Alike.refl U.vm) h2, nw_same (u := U) (U := U.calling g mk a) rfl h3⟩
theorem good_in {w : Jvm.Cond} (h : w ∈ wsG) : (w.onTables && w.keeps) = true ∨ ∃ ty, w = .arrayClass ty := good_of_word (List.mem_filter.mp h).2
section SO
variable {X : Cx} {d mc ms mc' ms' : Nat} {y mi : MI} {Q P : Option AV → AH → Nat → Prop} {p : Program} {e : Env} {s : State} {m : MethodId} {args : Array Value} {below : List Frame} {meth : Method} {c : Code} {H : Heap} {locs : List Loc} {lr : Array Slot} {h : AH} {z k n : Nat} {pc idx a : Nat} {q : List Nat} {st : List Value} {as : SV}
theorem so_back {g : JFrame} {rest : List Value} {av : Array Value} (hr : va_Run p X.1 e (rmD d mc ms) s m args below meth c H locs k n mc' ms' g rest (QcX X P av) (hiA X)) (hlo : ∀ q ∈ locs, hiA X q.base)
    (kk : ∀ ov h' z' H' locs', P ov h' z' → Rep X s H' h' z' → (∀ q ∈ locs', hiA X q.base) → WG X d mc ms Q p e s m args below meth c H' locs' (k + mc') (n + ms') { g with pc := g.pc + 3, stack := (ov.map (val X)).toList ++ rest }) : WG X d mc ms Q p e s m args below meth c H locs k n g := by
  intro T hT Xs
  obtain ⟨v, st₀, t, T', L, h0, X', hL, e1, e2, hq, st⟩ := hr T hT Xs
  obtain ⟨ov, h', z', ho, hP, hR⟩ := hq
  cases ho
  have hal : t.vm.Alike s.vm := by rw [← e2]; exact X'.warmed.alike.symm
  obtain ⟨t2, a1, b1⟩ := kk ov h' z' T'.heap (locs ++ L) hP (by rw [e1]; exact rep_moved hal hR) (fun q hq => by
    rcases List.mem_append.mp hq with h9 | h9
    · exact hlo _ h9
    · exact hL _ h9) T' rfl X'
  exact ⟨t2, st t2 a1, b1⟩
theorem so_cb (S : Std y p s m args meth c) (hd1 : 1 ≤ d) (hm : mi.2.2.1 ≤ 18) (hcode : Cond.code mi.1 mi.2.1 mi.2.2.1 mi.2.2.2 ∈ wsG) (hini : Cond.initialized mi.1.cls ∈ wsG) (hn1 : mi.1.cls ≠ "java/lang/invoke/MethodHandle") (hn2 : mi.1.cls ≠ "java/lang/invoke/VarHandle") {np : Nat} (hp : (parseMethodDescriptor mi.1.desc).map (fun d => d.parameters.length) = some np) (hl : (Cond.methodLink y.1.cls idx mi.1).before args s = true) :
    CallB (rmD d mc ms) s args y.1.cls idx mi.1 mi.2.1 mi.2.2.1 mi.2.2.2 (wsM mi) (rmD (d - 1) mc' ms') mc' ms' np := by
  obtain ⟨hx, hb, hml, hr, hown, hts, hlk, hnm⟩ := S
  refine ⟨rfl, rfl, by show d - 1 + 1 ≤ d; omega, by show 8 + (mi.2.2.1 + 11) + (37 * (d - 1) + 2) ≤ 37 * d + 2; omega, ?_, List.mem_cons_self, hts _ hcode, hts _ hini, ⟨hn1, hn2⟩, ?_, hl⟩
  · intro w hw a' U hW
    have hw' : w ∈ wsG := by
      rcases List.mem_cons.mp hw with rfl | h9
      · exact hcode
      · exact h9
    exact word_at hW (good_in hw') (hts w hw')
  · intro sig hsg
    rw [hsg] at hp
    exact (Option.some.inj hp).symm
theorem so_cn {host : String} (S : Std y p s m args meth c) (hd1 : 1 ≤ d) (hm : mi.2.2.1 ≤ 18) (hcode : Cond.code mi.1 mi.2.1 mi.2.2.1 mi.2.2.2 ∈ wsG) (hini : Cond.initialized mi.1.cls ∈ wsG) (hn1 : mi.1.cls ≠ "java/lang/invoke/MethodHandle") (hn2 : mi.1.cls ≠ "java/lang/invoke/VarHandle") {np : Nat} (hp : (parseMethodDescriptor mi.1.desc).map (fun d => d.parameters.length) = some np) (hl : va_Nw (.methodLinkNest y.1.cls idx mi.1 host) s) :
    va_CN (rmD d mc ms) s args y.1.cls idx mi.1 host mi.2.1 mi.2.2.1 mi.2.2.2 (wsM mi) (rmD (d - 1) mc' ms') mc' ms' np := by
  obtain ⟨hx, hb, hml, hr, hown, hts, hlk, hnm⟩ := S
  refine va_cnB (Ts := wsG) np hts ?_ rfl rfl rfl hl (hts _ hini) ⟨hn1, hn2, hp⟩ ⟨by show d - 1 + 1 ≤ d; omega, by show 8 + (mi.2.2.1 + 11) + (37 * (d - 1) + 2) ≤ 37 * d + 2; omega⟩
  intro w hw
  have hw' : w ∈ wsG := by
    rcases List.mem_cons.mp hw with rfl | h9
    · exact hcode
    · exact h9
  exact ⟨hw', good_in hw'⟩
theorem so_pre (N : Nw X s) (R : Rep X s H h z) : ∀ U : State, U.heap = H → s.WarmedH U.vm → PcX X as h z (as.map (val X)).toArray U := fun U hU hW => ⟨rfl, by rw [hU]; exact rep_moved hW.alike R, nw_warm hW N⟩
theorem isO_e {c : Option AC} {ci : Nat} (h : isO c ci) : (∃ fs, c = some (cO ci fs)) ∨ (∃ i, c = some (cS i) ∧ ci = 9) := by
  match c, h with
  | some (.inr (.inr (.inl (ci', fs)))), h2 =>
    have e : ci' = ci := h2
    subst e
    exact Or.inl ⟨fs, rfl⟩
  | some (.inr (.inr (.inr i))), h2 => exact Or.inr ⟨i, rfl, h2⟩
theorem so_recv (R : Rep X s H h z) {ci : Nat} (hi : isO (h a) ci) {C : String} (hC : if ci = 9 then C = "java/lang/String" else ci < 9 ∧ fN ci = C) : ∃ cellB : Cell, H[rho X a]? = some cellB ∧ cellB.vm.isStatics = false ∧ s.vm.findClass C = some cellB.cls := by
  rcases isO_e hi with ⟨fs, hc⟩ | ⟨i, hc, h9⟩
  · obtain ⟨hci, hfl, cell, q1, q2, q3, q4⟩ := R.1 a _ hc
    rw [if_neg (by omega)] at hC
    refine ⟨cell, q1, by rw [q3]; rfl, ?_⟩
    rw [q2, ← hC.2]
    exact (R.2.2.2.1 _ hci).2.1
  · obtain ⟨⟨cell, q1, q2, q3, -⟩, -⟩ := R.1 a _ hc
    rw [if_pos h9] at hC
    exact ⟨cell, q1, q2, by rw [hC]; exact q3⟩
theorem so_vret (S : Std y p s m args meth c) (hd : decode y.2.1 pc = .ok (.return_, 1)) (hr : y.2.2.2 = none) (R : Rep X s H h z) (hlo : ∀ q ∈ locs, hiA X q.base) (hk : k ≤ mc) (hn : n ≤ ms) (hQ : Q none h z) : WG X d mc ms Q p e s m args below meth c H locs k n (F0 m pc lr []) := by
  refine W.widen hk hn (W.vret S.1 S.2.1 (S.2.2.2.1.trans hr) (fun t ht hW => ⟨none, h, z, rfl, hQ, by rw [ht]; exact rep_moved hW.alike R⟩) hlo hd S.2.2.2.2.2.2.1)
theorem okR_e {t : Option FieldType} {x : Int} (h : okR t x) : ∃ ty, t = some ty ∧ narrow ty (.int (Int32.ofInt x)) = .int (Int32.ofInt x) := by
  match t, h with
  | some .int, _ => exact ⟨_, rfl, rfl⟩
  | some .boolean, h2 => exact ⟨_, rfl, nar_z h2⟩
  | some .byte, h2 =>
    have e : x = 0 := h2
    subst e
    exact ⟨_, rfl, by decide +kernel⟩
  | some .char, h2 =>
    refine ⟨_, rfl, ?_⟩
    obtain ⟨w, rfl⟩ := Int.eq_ofNat_of_zero_le h2.1
    have hw : w < 65536 := by have := h2.2; omega
    exact (pk_charN hw).1
theorem so_iret (S : Std y p s m args meth c) (hd : decode y.2.1 pc = .ok (.ireturn, 1)) {x : Int} (hx : okR y.2.2.2 x) (R : Rep X s H h z) (hlo : ∀ q ∈ locs, hiA X q.base) (hk : k ≤ mc) (hn : n ≤ ms) (hQ : Q (some (vI x)) h z) : WG X d mc ms Q p e s m args below meth c H locs k n (F0 m pc lr [val X (vI x)]) := by
  obtain ⟨ty, h1, h2⟩ := okR_e hx
  exact W.widen hk hn (W.zret S.1 S.2.1 (S.2.2.2.1.trans h1) h2 (fun t ht hW => ⟨some (vI x), h, z, rfl, hQ, by rw [ht]; exact rep_moved hW.alike R⟩) hlo hd S.2.2.2.2.2.2.1)
theorem so_lret (S : Std y p s m args meth c) (hd : decode y.2.1 pc = .ok (.lreturn, 1)) {x : Int64} (hr : y.2.2.2 = some .long) (R : Rep X s H h z) (hlo : ∀ q ∈ locs, hiA X q.base) (hk : k ≤ mc) (hn : n ≤ ms) (hQ : Q (some (vL x)) h z) : WG X d mc ms Q p e s m args below meth c H locs k n (F0 m pc lr [val X (vL x)]) := by
  exact W.widen hk hn (W.lret S.1 S.2.1 (S.2.2.2.1.trans hr) (fun t ht hW => ⟨some (vL x), h, z, rfl, hQ, by rw [ht]; exact rep_moved hW.alike R⟩) hlo hd S.2.2.2.2.2.2.1)
end SO

theorem atC_lt {X : Cx} {U : State} {H : Heap} {a : Nat} : ∀ {c : AC}, atC X U H a c → rho X a < H.size
  | .inl (kd, n, f), h => by
    obtain ⟨cell, h1, h2⟩ := h
    exact (Array.getElem?_eq_some_iff.mp h1).1
  | .inr (.inl (n, g)), h => by
    obtain ⟨cell, h1, h2⟩ := h
    exact (Array.getElem?_eq_some_iff.mp h1).1
  | .inr (.inr (.inl (ci, fs))), h => by
    obtain ⟨-, -, cell, h1, h2⟩ := h
    exact (Array.getElem?_eq_some_iff.mp h1).1
  | .inr (.inr (.inr i)), h => by
    obtain ⟨⟨c1, p1, p2⟩, -⟩ := h
    exact (Array.getElem?_eq_some_iff.mp p1).1
theorem rho_z (X : Cx) (z : Nat) : rho X (16 + z) = X.2.1 + z := by rw [rho_hi (by omega)]; omega
/-- new cells behind all others -/
theorem rep_push {X : Cx} {U : State} {H H' : Heap} {h h' : AH} {z w : Nat} (R : Rep X U H h z) (hs : H'.size = H.size + w) (ho : ∀ q : Nat, q < H.size → H'[q]? = H[q]?) (hc : ∀ a c, h' a = some c → (16 + z ≤ a ∧ atC X U H' a c) ∨ h a = some c) : Rep X U H' h' (z + w) := by
  obtain ⟨r1, r2, r3, r4, r5⟩ := R
  refine ⟨fun a c ha => ?_, by rw [hs, r2]; omega, (fun a c hl ha => (hc a c ha).elim (fun w => absurd w.1 (by omega)) (fun w => r3 a c hl w)), r4, sc_kept (fun q hq => ho q (by rw [r2]; omega)) r5⟩
  rcases hc a c ha with h9 | h9
  · exact h9.2
  · exact atC_kept (ho _ (atC_lt (r1 a c h9))) (r1 a c h9)
theorem allDf : (List.range 9).all (fun ci => ((dfl ci).length == (fL ci).length) && (List.range (fL ci).length).all (fun k => match (fY ci).getD k .int, (dfl ci).getD k vN with
  | .int, .inl 0 => true
  | .boolean, .inl 0 => true
  | .long, .inr (.inl 0) => true
  | .object _, .inr (.inr none) => true
  | .array _, .inr (.inr none) => true
  | _, _ => false)) = true := by decide +kernel
theorem df_len {ci : Nat} (h : ci < 9) : (dfl ci).length = (fL ci).length := by
  have h1 := List.all_eq_true.mp allDf ci (List.mem_range.mpr h)
  simp only [Bool.and_eq_true, beq_iff_eq] at h1
  exact h1.1
theorem df_val (X : Cx) {ci k : Nat} (h : ci < 9) (hk : k < (fL ci).length) : defaultValue ((fY ci).getD k .int) = val X ((dfl ci).getD k vN) := by
  have h1 := List.all_eq_true.mp allDf ci (List.mem_range.mpr h)
  simp only [Bool.and_eq_true, beq_iff_eq] at h1
  have h2 := List.all_eq_true.mp h1.2 k (List.mem_range.mpr hk)
  revert h2
  generalize (fY ci).getD k .int = ty
  generalize (dfl ci).getD k vN = v
  intro h2
  split at h2 <;> first | rfl | exact absurd h2 (by decide)
section SA
variable {X : Cx} {d mc ms : Nat} {y : MI} {Q P : Option AV → AH → Nat → Prop} {p : Program} {e : Env} {s : State} {m : MethodId} {args : Array Value} {below : List Frame} {meth : Method} {c : Code} {H : Heap} {locs : List Loc} {lr : Array Slot} {h : AH} {z k n : Nat} {pc idx : Nat} {st : List Value}
theorem so_new (S : Std y p s m args meth c) (hd : decode y.2.1 pc = .ok (.new idx, 3)) (R : Rep X s H h z) {ci : Nat} (hci : ci < 9) (h1 : Cond.classLink y.1.cls idx (fN ci) ∈ wsG) (h2 : Cond.instantiable (fN ci) (fL ci).length ∈ wsG) (h3 : Cond.initialized (fN ci) ∈ wsG) (hk : k + 1 ≤ mc) (hn : n + (fL ci).length ≤ ms)
    (kk : ∀ H' : Heap, Rep X s H' (upA h (16 + z) (cO ci (dfl ci))) (z + 1) → WG X d mc ms Q p e s m args below meth c H' locs (k + 1) (n + (fL ci).length) (F0 m (pc + 3) lr (val X (vA (16 + z)) :: st))) : WG X d mc ms Q p e s m args below meth c H locs k n (F0 m pc lr st) := by
  obtain ⟨hx, hb, hml, hr, hown, hts, hlk, hnm⟩ := S
  refine W.newc hx hb hown (hts _ h1) (hts _ h2) (hts _ h3) rfl hd hk hn (fun cC kC g1 g2 g3 g4 => ?_)
  have hK := R.2.2.2.1 ci hci
  have hcc : cC = X.2.2.2.1 ci := Option.some.inj (g1.symm.trans hK.2.1)
  subst hcc
  have hsz := R.2.1
  have e0 : H.size = rho X (16 + z) := by rw [rho_z, hsz]
  have hcell : (H.push (blank (X.2.2.2.1 ci) kC))[rho X (16 + z)]? = some (blank (X.2.2.2.1 ci) kC) := by rw [← e0]; simp
  have hOB := u_born (fun k => (fY ci).getD k .int) hts (lays_in hci) hK g2 hcell (ty_in hci)
  have := kk (H.push (blank (X.2.2.2.1 ci) kC)) (rep_push R (by simp) (fun q hq => by rw [Array.getElem?_push, if_neg (by omega)]) (fun a c' ha => by
    unfold upA at ha
    split at ha
    · rename_i ea
      cases ha
      subst ea
      exact Or.inl ⟨Nat.le_refl _, hci, df_len hci, hOB.to (fun j hj => df_val X hci hj)⟩
    · exact Or.inr ha))
  rw [show val X (vA (16 + z)) = .ref H.size by rw [e0]; rfl] at this
  exact this
theorem so_newa (S : Std y p s m args meth c) {t : ArrayType} (hd : decode y.2.1 pc = .ok (.newarray t, 2)) (R : Rep X s H h z) {kd : Nat} (ht : newarray.typeOf t = kty kd) (h1 : Cond.arrayClass (newarray.typeOf t) ∈ wsG) {x : Int} (hx0 : 0 ≤ x) (hx1 : x ≤ 65536) (hk : k + 1 ≤ mc) (hn : n + x.toNat ≤ ms)
    (kk : ∀ H' : Heap, Rep X s H' (upA h (16 + z) (.inl (kd, x.toNat, fun _ => 0))) (z + 1) → WG X d mc ms Q p e s m args below meth c H' locs (k + 1) (n + x.toNat) (F0 m (pc + 2) lr (val X (vA (16 + z)) :: st))) : WG X d mc ms Q p e s m args below meth c H locs k n (F0 m pc lr (val X (vI x) :: st)) := by
  obtain ⟨hx, hb, hml, hr, hown, hts, hlk, hnm⟩ := S
  obtain ⟨e1, e2⟩ := ofI_nat hx0 (by omega)
  have hsz := R.2.1
  have e0 : H.size = rho X (16 + z) := by rw [rho_z, hsz]
  have hcb : componentBytes (newarray.typeOf t) ≤ 8 := by rw [ht]; unfold kty; split <;> decide
  have hby : x.toNat * componentBytes (newarray.typeOf t) ≤ 536870912 := by
    have : x.toNat * componentBytes (newarray.typeOf t) ≤ 65536 * 8 := Nat.mul_le_mul (by omega) hcb
    omega
  refine va_newaK hx hb (hts _ h1) rfl hd rfl e2 e1 hby hk hn e0 (fun H' cA g1 g2 g3 g4 g5 => ?_)
  refine kk H' (rep_push R (by rw [g2, e0]) (fun q hq => g3 q (by rw [← e0]; exact hq)) (fun a c' ha => ?_))
  unfold upA at ha
  split at ha
  · rename_i ea
    cases ha
    subst ea
    refine Or.inl ⟨Nat.le_refl _, _, g1, by rw [← ht]; exact g4 _ _, fun q => (by cases q), by simp [arrV], by omega, fun j hj => ?_⟩
    have hdv : defaultValue (newarray.typeOf t) = .int (Int32.ofInt 0) := by rw [ht]; unfold kty; split <;> rfl
    simp [arrV, hj, hdv]
  · exact Or.inr ha
end SA
