/-! 05: wpB is sound: the instructions -/
theorem atC_kept {X : Cx} {U : State} {H H' : Heap} {a : Nat} (hq : H'[rho X a]? = H[rho X a]?) : ∀ {c : AC}, atC X U H a c → atC X U H' a c
  | .inl (kd, n, f), h => by
    obtain ⟨cell, h1, h2⟩ := h
    exact ⟨cell, by rw [hq]; exact h1, h2⟩
  | .inr (.inl (n, g)), h => by
    obtain ⟨cell, h1, h2⟩ := h
    exact ⟨cell, by rw [hq]; exact h1, h2⟩
  | .inr (.inr (.inl (ci, fs))), h => ⟨h.1, h.2.1, h.2.2.kept hq⟩
  | .inr (.inr (.inr i)), h => by
    obtain ⟨⟨c1, p1, p2⟩, ⟨f1, f2, f3, f4, c2, q1, q2, q3, q4⟩, ⟨g1, g2, g3, g4, c3, r1, r2, r3, r4⟩⟩ := h
    exact ⟨⟨c1, by rw [hq]; exact p1, p2⟩, ⟨f1, f2, f3, f4, c2, q1, q2, by rw [hq]; exact q3, q4⟩, ⟨g1, g2, g3, g4, c3, r1, r2, by rw [hq]; exact r3, r4⟩⟩
theorem atC_moved {X : Cx} {u U : State} {H : Heap} {a : Nat} (hvm : u.vm.Alike U.vm) : ∀ {c : AC}, atC X u H a c → atC X U H a c
  | .inl (kd, n, f), h => by
    obtain ⟨cell, h1, h2, h3⟩ := h
    exact ⟨cell, h1, State.isArrayOf_alike hvm h2, h3⟩
  | .inr (.inl (n, g)), h => by
    obtain ⟨cell, h1, h2, h3⟩ := h
    exact ⟨cell, h1, State.isArrayOf_alike hvm h2, h3⟩
  | .inr (.inr (.inl (ci, fs))), h => h
  | .inr (.inr (.inr i)), h => ⟨h.1.moved hvm, h.2.1.moved hvm, h.2.2.moved hvm⟩
theorem rep_moved {X : Cx} {u U : State} {H : Heap} {h : AH} {z : Nat} (hvm : u.vm.Alike U.vm) (R : Rep X u H h z) : Rep X U H h z :=
  ⟨fun a c q => atC_moved hvm (R.1 a c q), R.2.1, R.2.2.1, fun ci q => u_Kn_moved hvm (R.2.2.2.1 ci q), R.2.2.2.2.1.moved hvm, R.2.2.2.2.2.1.moved hvm, R.2.2.2.2.2.2.1.moved hvm, R.2.2.2.2.2.2.2.imp (fun w => w.moved hvm) (fun w => w.moved hvm)⟩
theorem sc_kept {X : Cx} {U : State} {H H' : Heap} (hq : ∀ q : Nat, q < X.2.1 → H'[q]? = H[q]?) (h : Sc X U H) : Sc X U H' := by
  have h9 : ∀ q : Nat, q < H.size → ¬ hiA X q → H'[q]? = H[q]? := fun q _ h => hq q (Nat.lt_of_not_le h)
  exact ⟨h.1.kept h9, h.2.1.kept h9, h.2.2.1.kept h9, h.2.2.2.imp (fun w => w.kept h9) (fun w => w.kept h9)⟩
theorem rep_set {X : Cx} {U : State} {H H' : Heap} {h : AH} {z a : Nat} {c : AC} (R : Rep X U H h z) (ha : 16 ≤ a) (hc : atC X U H' a c) (hs : H'.size = H.size) (ho : ∀ q : Nat, q ≠ rho X a → H'[q]? = H[q]?) : Rep X U H' (upA h a c) z := by
  obtain ⟨r1, r2, r3, r4, r5⟩ := R
  refine ⟨fun b c' hb => ?_, by rw [hs]; exact r2, (fun b c' hl hb => r3 b c' hl ((upA_n h c (show b ≠ a by omega)).symm.trans hb)), r4, sc_kept (fun q hq => ho q (by rw [rho_hi ha]; omega)) r5⟩
  unfold upA at hb
  split at hb
  · rename_i e
    cases hb
    rw [e]; exact hc
  · rename_i e
    exact atC_kept (ho _ (rho_ne (fun hl => r3 b c' hl hb) ha e)) (r1 b c' hb)
theorem getD_set {fs : List AV} {k : Nat} {v : AV} (hk : k < fs.length) (j : Nat) : (fs.set k v).getD j vN = if j = k then v else fs.getD j vN := by
  rw [List.getD_eq_getElem?_getD, List.getD_eq_getElem?_getD]
  by_cases e : j = k
  · subst e; simp [hk]
  · rw [List.getElem?_set_ne (Ne.symm e), if_neg e]
theorem okF_lays {args : Array Value} {s : State} (hts : ∀ w ∈ wsG, w.before args s = true) : True := trivial
theorem allLays : (List.range 9).all (fun ci => (List.range (fL ci).length).all (fun k => wsG.contains (u_lay (fN ci) (fT ci) k))) = true := by decide +kernel
theorem lays_in {ci : Nat} (h : ci < 9) : ∀ w ∈ u_ws (fN ci) (fT ci) (fL ci).length, w ∈ wsG := by
  intro w hw
  obtain ⟨k, hk, rfl⟩ := List.mem_map.mp hw
  have h1 := List.all_eq_true.mp (List.all_eq_true.mp allLays ci (List.mem_range.mpr h)) k hk
  exact List.contains_iff_mem.mp h1
theorem allTy : (List.range 9).all (fun ci => (List.range (fL ci).length).all (fun k => decide (parseFieldDescriptor (fT ci k).2.2.1 = some ((fY ci).getD k .int)))) = true := by decide +kernel
theorem ty_in {ci : Nat} (h : ci < 9) : ∀ k, k < (fL ci).length → parseFieldDescriptor (fT ci k).2.2.1 = some ((fY ci).getD k .int) := by
  intro k hk
  exact of_decide_eq_true (List.all_eq_true.mp (List.all_eq_true.mp allTy ci (List.mem_range.mpr h)) k (List.mem_range.mpr hk))
theorem allNm : (List.range 9).all (fun ci => (List.range (fL ci).length).all (fun a => (List.range (fL ci).length).all (fun b => a == b || decide ((fT ci a).2.1 ≠ (fT ci b).2.1)))) = true := by decide +kernel
theorem nm_in {ci : Nat} (h : ci < 9) : ∀ a, a < (fL ci).length → ∀ b, b < (fL ci).length → a ≠ b → (fT ci a).2.1 ≠ (fT ci b).2.1 := by
  intro a ha b hb hab
  have h1 := List.all_eq_true.mp (List.all_eq_true.mp (List.all_eq_true.mp allNm ci (List.mem_range.mpr h)) a (List.mem_range.mpr ha)) b (List.mem_range.mpr hb)
  simp only [Bool.or_eq_true, beq_iff_eq, decide_eq_true_eq] at h1
  exact h1.resolve_left hab
theorem okT_fit (X : Cx) : ∀ (ty : FieldType) (v : AV), okT (tyc ty) v → (ty = .int ∨ ty = .long ∨ ty = .boolean ∨ (∃ n, ty = .object n) ∨ ∃ t, ty = .array t) → narrow ty (val X v) = val X v ∧ fits ty (val X v) = true := by
  intro ty v h ht
  rcases ht with rfl | rfl | rfl | ⟨n, rfl⟩ | ⟨t, rfl⟩
  · match v, h with
    | .inl x, _ => exact ⟨rfl, rfl⟩
  · match v, h with
    | .inr (.inl x), _ => exact ⟨rfl, rfl⟩
  · match v, h with
    | .inl x, h =>
      rcases h with rfl | rfl
      · exact ⟨show narrow .boolean (.int (Int32.ofInt 0)) = .int (Int32.ofInt 0) by decide +kernel, show fits .boolean (.int (Int32.ofInt 0)) = true by decide +kernel⟩
      · exact ⟨show narrow .boolean (.int (Int32.ofInt 1)) = .int (Int32.ofInt 1) by decide +kernel, show fits .boolean (.int (Int32.ofInt 1)) = true by decide +kernel⟩
  · match v, h with
    | .inr (.inr none), _ => exact ⟨rfl, rfl⟩
    | .inr (.inr (some a)), _ => exact ⟨rfl, rfl⟩
  · match v, h with
    | .inr (.inr none), _ => exact ⟨rfl, rfl⟩
    | .inr (.inr (some a)), _ => exact ⟨rfl, rfl⟩
theorem allYs : (List.range 9).all (fun ci => (List.range (fL ci).length).all (fun k => match (fY ci).getD k .int with
  | .int => true
  | .long => true
  | .boolean => true
  | .object _ => true
  | .array _ => true
  | _ => false)) = true := by decide +kernel
theorem ys_in {ci k : Nat} (h : ci < 9) (hk : k < (fL ci).length) {ty : FieldType} (e : (fY ci).getD k .int = ty) : ty = .int ∨ ty = .long ∨ ty = .boolean ∨ (∃ n, ty = .object n) ∨ ∃ t, ty = .array t := by
  have h1 := List.all_eq_true.mp (List.all_eq_true.mp allYs ci (List.mem_range.mpr h)) k (List.mem_range.mpr hk)
  rw [e] at h1
  cases ty <;> first | exact absurd h1 (by decide) | simp
