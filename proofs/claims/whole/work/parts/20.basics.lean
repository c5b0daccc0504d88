/-! 03: small facts for the soundness of wpB -/
theorem popI_e {st : SV} {P : Int → SV → Prop} (h : popI st P) : ∃ x r, st = vI x :: r ∧ P x r := by
  match st, h with
  | .inl x :: r, h => exact ⟨x, r, rfl, h⟩
theorem popL_e {st : SV} {P : Int64 → SV → Prop} (h : popL st P) : ∃ x r, st = vL x :: r ∧ P x r := by
  match st, h with
  | .inr (.inl x) :: r, h => exact ⟨x, r, rfl, h⟩
theorem popA_e {st : SV} {P : Nat → SV → Prop} (h : popA st P) : ∃ x r, st = vA x :: r ∧ P x r := by
  match st, h with
  | .inr (.inr (some x)) :: r, h => exact ⟨x, r, rfl, h⟩
theorem popV_e {st : SV} {P : AV → SV → Prop} (h : popV st P) : ∃ x r, st = x :: r ∧ P x r := by
  match st, h with
  | x :: r, h => exact ⟨x, r, rfl, h⟩
theorem ldI_e : ∀ {ls : LV} {j : Nat} {P : Int → Prop}, ldI ls j P → ∃ x, ls[j]? = some (some (vI x)) ∧ P x
  | [], _, _, h => h.elim
  | some (.inl x) :: _, 0, _, h => ⟨x, rfl, h⟩
  | some (.inr _) :: _, 0, _, h => h.elim
  | none :: _, 0, _, h => h.elim
  | _ :: ls, j + 1, P, h => by
    obtain ⟨x, h1, h2⟩ := ldI_e (ls := ls) (j := j) (P := P) h
    exact ⟨x, by rw [List.getElem?_cons_succ]; exact h1, h2⟩
theorem ldL_e : ∀ {ls : LV} {j : Nat} {P : Int64 → Prop}, ldL ls j P → ∃ x, ls[j]? = some (some (vL x)) ∧ P x
  | [], _, _, h => h.elim
  | some (.inr (.inl x)) :: _, 0, _, h => ⟨x, rfl, h⟩
  | some (.inl _) :: _, 0, _, h => h.elim
  | some (.inr (.inr _)) :: _, 0, _, h => h.elim
  | none :: _, 0, _, h => h.elim
  | _ :: ls, j + 1, P, h => by
    obtain ⟨x, h1, h2⟩ := ldL_e (ls := ls) (j := j) (P := P) h
    exact ⟨x, by rw [List.getElem?_cons_succ]; exact h1, h2⟩
theorem ldA_e : ∀ {ls : LV} {j : Nat} {P : Nat → Prop}, ldA ls j P → ∃ x, ls[j]? = some (some (vA x)) ∧ P x
  | [], _, _, h => h.elim
  | some (.inr (.inr (some x))) :: _, 0, _, h => ⟨x, rfl, h⟩
  | some (.inr (.inr none)) :: _, 0, _, h => h.elim
  | some (.inl _) :: _, 0, _, h => h.elim
  | some (.inr (.inl _)) :: _, 0, _, h => h.elim
  | none :: _, 0, _, h => h.elim
  | _ :: ls, j + 1, P, h => by
    obtain ⟨x, h1, h2⟩ := ldA_e (ls := ls) (j := j) (P := P) h
    exact ⟨x, by rw [List.getElem?_cons_succ]; exact h1, h2⟩
theorem asc_in (X : Cx) : ∀ (ls : LV) (i : Nat) (q : Nat × Value), q ∈ asc X i ls ↔ ∃ j v, ls[j]? = some (some v) ∧ q = (i + j, val X v)
  | [], i, q => by simp [asc]
  | none :: r, i, q => by
    rw [asc, asc_in X r (i + 1) q]
    constructor
    · rintro ⟨j, v, h1, h2⟩
      exact ⟨j + 1, v, by simpa using h1, by rw [h2]; congr 1; omega⟩
    · rintro ⟨j, v, h1, h2⟩
      cases j with
      | zero => simp at h1
      | succ j => exact ⟨j, v, by simpa using h1, by rw [h2]; congr 1; omega⟩
  | some w :: r, i, q => by
    rw [asc, List.mem_cons, asc_in X r (i + 1) q]
    constructor
    · rintro (h | ⟨j, v, h1, h2⟩)
      · exact ⟨0, w, by simp, h⟩
      · exact ⟨j + 1, v, by simpa using h1, by rw [h2]; congr 1; omega⟩
    · rintro ⟨j, v, h1, h2⟩
      cases j with
      | zero =>
        left
        simp at h1
        rw [h1]; exact h2
      | succ j => exact Or.inr ⟨j, v, by simpa using h1, by rw [h2]; congr 1; omega⟩
theorem lv_g {X : Cx} {lr : Array Slot} {ls : LV} {n j : Nat} {v : AV} (hl : lv_has lr n (asc X 0 ls)) (h : ls[j]? = some (some v)) : lr[j]? = some (.val (val X v)) := by
  have := hl.2.2 (0 + j, val X v) ((asc_in X ls 0 _).mpr ⟨j, v, h, rfl⟩)
  rwa [Nat.zero_add] at this
theorem stSt_len : ∀ (ls : LV) (j : Nat) (v : AV), (stSt ls j v).length = ls.length
  | [], _, _ => rfl
  | _ :: _, 0, _ => rfl
  | _ :: ls, j + 1, v => by simp [stSt, stSt_len ls j v]
theorem stSt_g : ∀ (ls : LV) (j : Nat) (v : AV) (i : Nat) (u : AV), (stSt ls j v)[i]? = some (some u) → (i = j ∧ u = v) ∨ (i ≠ j ∧ ls[i]? = some (some u))
  | [], _, _, i, u, h => by simp [stSt] at h
  | a :: ls, 0, v, i, u, h => by
    cases i with
    | zero => simp [stSt] at h; exact Or.inl ⟨rfl, h.symm⟩
    | succ i => right; exact ⟨by omega, by simpa [stSt] using h⟩
  | a :: ls, j + 1, v, i, u, h => by
    cases i with
    | zero => right; exact ⟨by omega, by simpa [stSt] using h⟩
    | succ i =>
      have h' : (stSt ls j v)[i]? = some (some u) := by simpa [stSt] using h
      rcases stSt_g ls j v i u h' with ⟨h1, h2⟩ | ⟨h1, h2⟩
      · exact Or.inl ⟨by omega, h2⟩
      · exact Or.inr ⟨by omega, by simpa using h2⟩
theorem stOk_e : ∀ (ls : LV) (j : Nat), stOk ls j = true → j < ls.length ∧ ∀ i u, i + 1 = j → ls[i]? = some (some u) → isLg (some u) = false
  | [], j, h => by simp [stOk] at h
  | _ :: _, 0, _ => ⟨by simp, fun i u h => by omega⟩
  | a :: [], 1, h => by simp [stOk] at h
  | a :: b :: ls, 1, h => by
    simp only [stOk, Bool.and_eq_true, Bool.not_eq_true'] at h
    refine ⟨by simp, fun i u h1 h2 => ?_⟩
    have : i = 0 := by omega
    subst this
    simp at h2
    rw [← h2]; exact h.1
  | a :: ls, j + 2, h => by
    obtain ⟨h1, h2⟩ := stOk_e ls (j + 1) (by simpa [stOk] using h)
    refine ⟨by simp; omega, fun i u h3 h4 => ?_⟩
    cases i with
    | zero => omega
    | succ i => exact h2 i u (by omega) (by simpa using h4)
theorem isLg_cat (X : Cx) (u : AV) (h : isLg (some u) = false) : (val X u).category = 1 := by
  match u, h with
  | .inl _, _ => rfl
  | .inr (.inr none), _ => rfl
  | .inr (.inr (some _)), _ => rfl
theorem cat1_e (X : Cx) (u : AV) (h : cat1 u = true) : (val X u).category = 1 := by
  match u, h with
  | .inl _, _ => rfl
  | .inr (.inr none), _ => rfl
  | .inr (.inr (some _)), _ => rfl
theorem lv_st {X : Cx} {lr' : Array Slot} {ls : LV} {n j : Nat} {v : AV} {f : Nat × Value → Bool} (hf : ∀ q : Nat × Value, f q = (!(q.1 == j) && !(q.1 + 1 == j && q.2.category == 2))) (hj : stOk ls j = true) (h : lv_has lr' n ((j, val X v) :: (asc X 0 ls).filter f)) : lv_has lr' n (asc X 0 (stSt ls j v)) := by
  refine ⟨h.1, h.2.1, fun q hq => ?_⟩
  obtain ⟨i, u, h1, rfl⟩ := (asc_in X _ 0 q).mp hq
  rcases stSt_g ls j v i u h1 with ⟨rfl, rfl⟩ | ⟨h2, h3⟩
  · exact h.2.2 _ (by rw [Nat.zero_add]; exact List.mem_cons_self)
  · refine h.2.2 _ (List.mem_cons_of_mem _ (List.mem_filter.mpr ⟨(asc_in X _ 0 _).mpr ⟨i, u, h3, rfl⟩, ?_⟩))
    rw [hf]
    have e1 : ((0 + i == j) = false) := by simp; omega
    simp only [e1, Bool.not_false, Bool.true_and, Bool.not_eq_true', Bool.and_eq_false_iff]
    by_cases h4 : i + 1 = j
    · right
      rw [isLg_cat X u ((stOk_e ls j hj).2 i u h4 h3)]; rfl
    · left; simp; omega
theorem ofI_nat {i : Int} (h0 : 0 ≤ i) (h1 : i < 2147483648) : (Int32.ofInt i).toNatClampNeg = i.toNat ∧ ¬ Int32.ofInt i < 0 := by
  have e : (Int32.ofInt i).toInt = i := by
    rw [Int32.toInt_ofInt_of_le] <;> omega
  constructor
  · rw [Int32.toNatClampNeg, e]
  · rw [Int32.lt_iff_toInt_lt, e]; simp; omega
theorem ofI_in {i : Int} {n : Nat} (h0 : 0 ≤ i) (h1 : i < n) (hn : n < 2147483648) : ¬ (Int32.ofInt i < 0 ∨ n ≤ (Int32.ofInt i).toNatClampNeg) := by
  obtain ⟨e1, e2⟩ := ofI_nat h0 (by omega)
  rw [e1]
  rintro (h | h)
  · exact e2 h
  · omega
theorem inr_toInt {x : Int} (h : InR x) : (Int32.ofInt x).toInt = x := by
  unfold InR at h
  rw [Int32.toInt_ofInt_of_le] <;> omega
theorem ofI_lt {x y : Int} (hx : InR x) (hy : InR y) : Int32.ofInt x < Int32.ofInt y ↔ x < y := by
  rw [Int32.lt_iff_toInt_lt, inr_toInt hx, inr_toInt hy]
theorem ofI_le {x y : Int} (hx : InR x) (hy : InR y) : Int32.ofInt x ≤ Int32.ofInt y ↔ x ≤ y := by
  rw [Int32.le_iff_toInt_le, inr_toInt hx, inr_toInt hy]
theorem ofI_eq {x y : Int} (hx : InR x) (hy : InR y) : Int32.ofInt x = Int32.ofInt y ↔ x = y := by
  rw [← Int32.toInt_inj, inr_toInt hx, inr_toInt hy]
theorem ofI_0 : Int32.ofInt 0 = 0 := by decide +kernel
theorem val_bAnd (X : Cx) (x y : Int) : val X (vI (bAnd x y)) = .int (Int32.ofInt x &&& Int32.ofInt y) := by simp [val, bAnd]
theorem val_bOr (X : Cx) (x y : Int) : val X (vI (bOr x y)) = .int (Int32.ofInt x ||| Int32.ofInt y) := by simp [val, bOr]
theorem val_bXor (X : Cx) (x y : Int) : val X (vI (bXor x y)) = .int (Int32.ofInt x ^^^ Int32.ofInt y) := by simp [val, bXor]
theorem val_bShl (X : Cx) (x y : Int) : val X (vI (bShl x y)) = .int (Int32.ofInt x <<< (Int32.ofInt y &&& 31)) := by simp [val, bShl]
theorem val_bShr (X : Cx) (x y : Int) : val X (vI (bShr x y)) = .int (Int32.ofInt x >>> (Int32.ofInt y &&& 31)) := by simp [val, bShr]
theorem val_bUsh (X : Cx) (x y : Int) : val X (vI (bUsh x y)) = .int ((Int32.ofInt x).toUInt32 >>> ((Int32.ofInt y).toUInt32 &&& Int32.toUInt32 31)).toInt32 := by simp [val, bUsh]
theorem val_t (X : Cx) (x : Int32) : val X (vI x.toInt) = .int x := by simp [val]
theorem val_add (X : Cx) (x y : Int) : val X (vI (x + y)) = .int (Int32.ofInt x + Int32.ofInt y) := by simp [val, Int32.ofInt_add]
theorem val_sub (X : Cx) (x y : Int) : val X (vI (x - y)) = .int (Int32.ofInt x - Int32.ofInt y) := by simp [val, Int32.ofInt_sub]
theorem val_mul (X : Cx) (x y : Int) : val X (vI (x * y)) = .int (Int32.ofInt x * Int32.ofInt y) := by simp [val, Int32.ofInt_mul]
theorem val_neg (X : Cx) (x : Int) : val X (vI (-x)) = .int (-Int32.ofInt x) := by simp [val, Int32.ofInt_neg]
theorem val_div (X : Cx) {x y : Int} (hx : InR x) (hy : InR y) : val X (vI (x.tdiv y)) = .int (Int32.ofInt x / Int32.ofInt y) := by
  have h1 := hx
  have h2 := hy
  unfold InR at h1 h2
  simp only [val]
  have e1 : Int32.minValue.toInt = -2147483648 := by decide +kernel
  have e2 : Int32.maxValue.toInt = 2147483647 := by decide +kernel
  rw [Int32.ofInt_tdiv (by rw [e1]; exact h1.1) (by rw [e2]; exact h1.2) (by rw [e1]; exact h2.1) (by rw [e2]; exact h2.2)]
theorem catS_e (X : Cx) : ∀ st : SV, ((st.map (val X)).map fun v => v.category).sum = catS st
  | [] => rfl
  | .inl _ :: r => by rw [List.map_cons, List.map_cons, List.sum_cons, catS_e X r]; rfl
  | .inr (.inl _) :: r => by rw [List.map_cons, List.map_cons, List.sum_cons, catS_e X r]; rfl
  | .inr (.inr none) :: r => by rw [List.map_cons, List.map_cons, List.sum_cons, catS_e X r]; rfl
  | .inr (.inr (some _)) :: r => by rw [List.map_cons, List.map_cons, List.sum_cons, catS_e X r]; rfl
theorem rho_hi {X : Cx} {a : Nat} (h : 16 ≤ a) : rho X a = X.2.1 + (a - 16) := if_neg (by omega)
theorem rho_ne {X : Cx} {a b : Nat} (hlo : b < 16 → X.2.2.1 b < X.2.1) (h : 16 ≤ a) (hb : b ≠ a) : rho X b ≠ rho X a := by
  rw [rho_hi h]
  unfold rho
  split
  · have := hlo (by assumption); omega
  · omega
