/-! 36: sets: the lowest BUNDLE; sums over a set -/
def lsb (s : Nat) : Nat := s - (s &&& (s - 1))
def lowI (s : Nat) : Nat := popN (lsb s - 1)
theorem low_ch : ∀ a b : Fin 32, 32 * a.val + b.val = 0 ∨ (bAnd ((32 * a.val + b.val : Nat) : Int) (-((32 * a.val + b.val : Nat) : Int)) = ((lsb (32 * a.val + b.val) : Nat) : Int) ∧ 1 ≤ lsb (32 * a.val + b.val) ∧ lsb (32 * a.val + b.val) ≤ 1023 ∧ lowI (32 * a.val + b.val) < 10 ∧ 2 ^ lowI (32 * a.val + b.val) = lsb (32 * a.val + b.val)) := by decide +kernel
theorem low_bt : ∀ a b : Fin 32, 32 * a.val + b.val = 0 ∨ ((32 * a.val + b.val).testBit (lowI (32 * a.val + b.val)) = true ∧ (∀ j : Fin 10, j.val < lowI (32 * a.val + b.val) → (32 * a.val + b.val).testBit j.val = false) ∧ (∀ j : Fin 10, ((32 * a.val + b.val) &&& (32 * a.val + b.val - 1)).testBit j.val = ((32 * a.val + b.val).testBit j.val && !decide (j.val = lowI (32 * a.val + b.val))))) := by decide +kernel
theorem sp32 {s : Nat} (h : s < 1024) : ∃ a b : Fin 32, 32 * a.val + b.val = s := ⟨⟨s / 32, by omega⟩, ⟨s % 32, by omega⟩, by show 32 * (s / 32) + s % 32 = s; omega⟩
theorem lsb_b {s : Nat} (h0 : 1 ≤ s) (h1 : s < 1024) : bAnd (s : Int) (-(s : Int)) = ((lsb s : Nat) : Int) ∧ 1 ≤ lsb s ∧ lsb s ≤ 1023 ∧ lowI s < 10 ∧ 2 ^ lowI s = lsb s := by
  obtain ⟨a, b, e⟩ := sp32 h1
  have := low_ch a b
  rw [e] at this
  rcases this with h | h
  · omega
  · exact h
theorem low_b {s : Nat} (h0 : 1 ≤ s) (h1 : s < 1024) : s.testBit (lowI s) = true ∧ (∀ j, j < lowI s → s.testBit j = false) ∧ (∀ j, j < 10 → (s &&& (s - 1)).testBit j = (s.testBit j && !decide (j = lowI s))) := by
  obtain ⟨a, b, e⟩ := sp32 h1
  have := low_bt a b
  rw [e] at this
  have h9 := (lsb_b h0 h1).2.2.2.1
  rcases this with h | ⟨h2, h3, h4⟩
  · omega
  · exact ⟨h2, fun j hj => h3 ⟨j, by omega⟩ hj, fun j hj => h4 ⟨j, hj⟩⟩
theorem low_Low {s : Nat} (h0 : 1 ≤ s) (h1 : s < 1024) : Low s (lowI s) := ⟨(low_b h0 h1).1, (low_b h0 h1).2.1⟩
theorem low_B {s B : Nat} (h0 : 1 ≤ s) (hB : B ≤ 10) (h1 : s < 2 ^ B) : lowI s < B := by
  have hb : 2 ^ B ≤ 2 ^ 10 := Nat.pow_le_pow_right (by decide) hB
  have h2 := (low_b h0 (by omega)).1
  rcases Nat.lt_or_ge (lowI s) B with h | h
  · exact h
  · have h3 : 2 ^ B ≤ 2 ^ lowI s := Nat.pow_le_pow_right (by decide) h
    rw [Nat.testBit_lt_two_pow (by omega)] at h2
    cases h2
set_option maxHeartbeats 4000000 in
theorem cB_lowest {X : Cx} {d s : Nat} {h : AH} {z : Nat} (hd : 1 ≤ d) (h0 : 1 ≤ s) (h1 : s < 1024) :
    CallP X d 0 0 mB_lowest [vI s] h z (fun r h' z' => r = some (vI (lowI s)) ∧ z' = z ∧ h' = h) := by
  obtain ⟨e1, e2, e3, e4, e5⟩ := lsb_b h0 h1
  have e6 : ((lsb s : Nat) : Int) - 1 = ((lsb s - 1 : Nat) : Int) := by omega
  refine call_in (by decide +kernel) (Nat.le_of_ble_eq_true rfl) ?_
  show Ex _ 0 [some (vI s)] [] _ _ _ _
  repeat' (first | (with_reducible apply And.intro) | (with_reducible intro hx) | omega | (with_reducible rfl) | ((with_reducible show okR _ _); first | exact True.intro | exact Or.inl rfl | exact Or.inr rfl) | (with_reducible show Ex _ 0 _ _ _ _ _ _; refine ex_blk (r := bB_lowest_0) oB_lowest_0 ?_; simp only [bB_lowest_0, e_nil, e_cons, e_aload_n, e_aload, e_iload_n, e_iload, e_lload_n, e_istore_n, e_istore, e_astore_n, e_astore, e_iinc, e_kN, e_iconst, e_bipush, e_sipush, e_lconst, e_ldcI, e_ldcS, e_ldc_w, e_ldc2_w, e_iadd, e_isub, e_imul, e_idiv, e_ineg, e_iand, e_ior, e_ixor, e_ishl, e_ishr, e_iushr, e_i2b, e_i2c, e_i2l, e_l2i, e_ladd, e_land, e_lor, e_lshl, e_lshr, e_lushr, e_lcmp, e_dupA, e_dupI, e_dup2, e_popI, e_getfield, e_putfield, e_getstatic1, e_getstatic2, e_getstatic3, e_getstatic15, e_iaload, e_baload, e_iastore, e_bastore, e_aaload, e_arraylength, e_goto, e_if, e_icmp, e_br, e_tsw, e_swT0, e_swT1, e_lsw, e_swL0, e_swL1, e_ireturn, e_lreturn, e_return, e_oinit, e_virt, e_stat0, e_stat1, e_max, e_min, e_spec, e_cal, e_popA, e_kI, e_kL, e_kA, e_kV, e_kS, e_kH, e_j0, e_j1, e_j2, e_j3, e_kC0, e_kC1, e_ldI0, e_ldI1, e_ldL0, e_ldL1, e_ldA0, e_ldA1, e_stL, e_rdF, e_rdS, e_fg0, e_fg1, e_so0, e_so1, e_so2, e_il0, e_il1, e_il2, e_ss0, e_ss1, e_wrF, e_rdA, e_wrA, e_rdR, e_lnA, e_isO, Int.cast_ofNat_Int, Int.toNat_natCast, Int.reduceToNat, Nat.reduceAdd, Int.reduceAdd, Int.reduceSub, Int.reduceMul, Int.reduceNeg, Nat.reduceLT, Nat.reduceLeDiff, Nat.reduceEqDiff, Nat.reduceSub, Int.reduceLE, Int.reduceLT, Int.reduceEq, true_and, and_true, List.set_cons_zero, List.set_cons_succ, List.length_cons, List.length_nil, InR, cpI, okT, okN, List.take_succ_cons, List.take_zero, List.drop_succ_cons, List.drop_zero, List.reverse_cons, List.reverse_nil, List.nil_append, List.cons_append, List.singleton_append, catS, eq_self, Bool.not_false, Nat.zero_le, Nat.le_refl, Nat.zero_add, Nat.add_zero, ne_eq, not_true_eq_false, not_false_eq_true, false_implies, true_implies, implies_true, forall_const, reduceCtorEq, Fin.isValue, Fin.reduceFinMk, Fin.val_zero, Fin.val_one, Fin.val_two, Nat.reduceMod, Int.not_lt, Int.not_le, e_j0, e_j1, e_j2, e_j3, e1, e6]))
  refine call_mono (cj_bitCount (x := lsb s - 1) (by omega)) ?_
  rintro _ _ _ ⟨rfl, rfl, rfl⟩
  simp only [e_nil, e_cons, e_aload_n, e_aload, e_iload_n, e_iload, e_lload_n, e_istore_n, e_istore, e_astore_n, e_astore, e_iinc, e_kN, e_iconst, e_bipush, e_sipush, e_lconst, e_ldcI, e_ldcS, e_ldc_w, e_ldc2_w, e_iadd, e_isub, e_imul, e_idiv, e_ineg, e_iand, e_ior, e_ixor, e_ishl, e_ishr, e_iushr, e_i2b, e_i2c, e_i2l, e_l2i, e_ladd, e_land, e_lor, e_lshl, e_lshr, e_lushr, e_lcmp, e_dupA, e_dupI, e_dup2, e_popI, e_getfield, e_putfield, e_getstatic1, e_getstatic2, e_getstatic3, e_getstatic15, e_iaload, e_baload, e_iastore, e_bastore, e_aaload, e_arraylength, e_goto, e_if, e_icmp, e_br, e_tsw, e_swT0, e_swT1, e_lsw, e_swL0, e_swL1, e_ireturn, e_lreturn, e_return, e_oinit, e_virt, e_stat0, e_stat1, e_max, e_min, e_spec, e_cal, e_popA, e_kI, e_kL, e_kA, e_kV, e_kS, e_kH, e_j0, e_j1, e_j2, e_j3, e_kC0, e_kC1, e_ldI0, e_ldI1, e_ldL0, e_ldL1, e_ldA0, e_ldA1, e_stL, e_rdF, e_rdS, e_fg0, e_fg1, e_so0, e_so1, e_so2, e_il0, e_il1, e_il2, e_ss0, e_ss1, e_wrF, e_rdA, e_wrA, e_rdR, e_lnA, e_isO, Int.cast_ofNat_Int, Int.toNat_natCast, Int.reduceToNat, Nat.reduceAdd, Int.reduceAdd, Int.reduceSub, Int.reduceMul, Int.reduceNeg, Nat.reduceLT, Nat.reduceLeDiff, Nat.reduceEqDiff, Nat.reduceSub, Int.reduceLE, Int.reduceLT, Int.reduceEq, true_and, and_true, List.set_cons_zero, List.set_cons_succ, List.length_cons, List.length_nil, InR, cpI, okT, okN, List.take_succ_cons, List.take_zero, List.drop_succ_cons, List.drop_zero, List.reverse_cons, List.reverse_nil, List.nil_append, List.cons_append, List.singleton_append, catS, eq_self, Bool.not_false, Nat.zero_le, Nat.le_refl, Nat.zero_add, Nat.add_zero, ne_eq, not_true_eq_false, not_false_eq_true, false_implies, true_implies, implies_true, forall_const, reduceCtorEq, Fin.isValue, Fin.reduceFinMk, Fin.val_zero, Fin.val_one, Fin.val_two, Nat.reduceMod, Int.not_lt, Int.not_le, e_j0, e_j1, e_j2, e_j3]
  have e7 : popN (lsb s - 1) < 10 := e4
  have e8 : ¬ (9 : Int) < ((popN (lsb s - 1) : Nat) : Int) := by omega
  repeat' (first | (with_reducible apply And.intro) | (with_reducible intro hx) | omega | (with_reducible rfl) | ((with_reducible show okR _ _); first | exact True.intro | exact Or.inl rfl | exact Or.inr rfl) | (with_reducible show Ex _ 0 _ _ _ _ _ _; refine ex_blk (r := bB_lowest_0) oB_lowest_0 ?_; simp only [bB_lowest_0, e_nil, e_cons, e_aload_n, e_aload, e_iload_n, e_iload, e_lload_n, e_istore_n, e_istore, e_astore_n, e_astore, e_iinc, e_kN, e_iconst, e_bipush, e_sipush, e_lconst, e_ldcI, e_ldcS, e_ldc_w, e_ldc2_w, e_iadd, e_isub, e_imul, e_idiv, e_ineg, e_iand, e_ior, e_ixor, e_ishl, e_ishr, e_iushr, e_i2b, e_i2c, e_i2l, e_l2i, e_ladd, e_land, e_lor, e_lshl, e_lshr, e_lushr, e_lcmp, e_dupA, e_dupI, e_dup2, e_popI, e_getfield, e_putfield, e_getstatic1, e_getstatic2, e_getstatic3, e_getstatic15, e_iaload, e_baload, e_iastore, e_bastore, e_aaload, e_arraylength, e_goto, e_if, e_icmp, e_br, e_tsw, e_swT0, e_swT1, e_lsw, e_swL0, e_swL1, e_ireturn, e_lreturn, e_return, e_oinit, e_virt, e_stat0, e_stat1, e_max, e_min, e_spec, e_cal, e_popA, e_kI, e_kL, e_kA, e_kV, e_kS, e_kH, e_j0, e_j1, e_j2, e_j3, e_kC0, e_kC1, e_ldI0, e_ldI1, e_ldL0, e_ldL1, e_ldA0, e_ldA1, e_stL, e_rdF, e_rdS, e_fg0, e_fg1, e_so0, e_so1, e_so2, e_il0, e_il1, e_il2, e_ss0, e_ss1, e_wrF, e_rdA, e_wrA, e_rdR, e_lnA, e_isO, Int.cast_ofNat_Int, Int.toNat_natCast, Int.reduceToNat, Nat.reduceAdd, Int.reduceAdd, Int.reduceSub, Int.reduceMul, Int.reduceNeg, Nat.reduceLT, Nat.reduceLeDiff, Nat.reduceEqDiff, Nat.reduceSub, Int.reduceLE, Int.reduceLT, Int.reduceEq, true_and, and_true, List.set_cons_zero, List.set_cons_succ, List.length_cons, List.length_nil, InR, cpI, okT, okN, List.take_succ_cons, List.take_zero, List.drop_succ_cons, List.drop_zero, List.reverse_cons, List.reverse_nil, List.nil_append, List.cons_append, List.singleton_append, catS, eq_self, Bool.not_false, Nat.zero_le, Nat.le_refl, Nat.zero_add, Nat.add_zero, ne_eq, not_true_eq_false, not_false_eq_true, false_implies, true_implies, implies_true, forall_const, reduceCtorEq, Fin.isValue, Fin.reduceFinMk, Fin.val_zero, Fin.val_one, Fin.val_two, Nat.reduceMod, Int.not_lt, Int.not_le, e_j0, e_j1, e_j2, e_j3]))
  all_goals first | (rw [if_neg e8]; rfl) | (rw [if_neg e8]; omega) | omega
/-- the sum over a set -/
def sumS (f : Nat → Int) (s : Nat) : Int := fo 10 (fun i a => a + if s.testBit i then f i else 0) 0
theorem fo_s {α : Type} (n : Nat) (f : Nat → α → α) (x : α) : fo (n + 1) f x = f n (fo n f x) := rfl
theorem sum_rm {f : Nat → Int} {s t k : Nat} (hk : k < 10) (hs : s.testBit k = true) (ht : ∀ j, j < 10 → t.testBit j = (s.testBit j && !decide (j = k))) : sumS f s = sumS f t + f k := by
  have : ∀ n, n ≤ 10 → fo n (fun i a => a + if s.testBit i then f i else 0) (0 : Int) = fo n (fun i a => a + if t.testBit i then f i else 0) (0 : Int) + if k < n then f k else 0 := by
    intro n
    induction n with
    | zero => intro _; rfl
    | succ n ih =>
      intro hn
      rw [fo_s, fo_s, ih (by omega), ht n (by omega)]
      by_cases e : n = k
      · subst e
        simp [hs]
      · by_cases e2 : k < n
        · rw [if_pos e2, if_pos (by omega : k < n + 1)]
          simp [e]; omega
        · rw [if_neg e2, if_neg (by omega : ¬ k < n + 1)]
          simp [e]
  have h := this 10 (Nat.le_refl _)
  rw [if_pos hk] at h
  exact h
theorem sum_b {f : Nat → Int} {s : Nat} {lo hi : Int} (hlo : 0 ≤ lo) (hf : ∀ i, i < 10 → s.testBit i = true → lo ≤ f i ∧ f i ≤ hi) (hhi : 0 ≤ hi) : 0 ≤ sumS f s ∧ sumS f s ≤ 10 * hi := by
  have : ∀ n : Nat, n ≤ 10 → 0 ≤ fo n (fun i a => a + if s.testBit i then f i else 0) (0 : Int) ∧ fo n (fun i a => a + if s.testBit i then f i else 0) (0 : Int) ≤ n * hi := by
    intro n
    induction n with
    | zero => intro _; exact ⟨Int.le_refl _, by simp [fo]⟩
    | succ n ih =>
      intro hn
      have h1 := ih (by omega)
      rw [fo_s]
      have e : ((n + 1 : Nat) : Int) * hi = n * hi + hi := by rw [Int.natCast_succ, Int.add_mul]; omega
      rw [e]
      by_cases hb : s.testBit n = true
      · have h2 := hf n (by omega) hb
        simp only [hb, if_true]; omega
      · simp only [hb]; simp; omega
  exact this 10 (Nat.le_refl _)
theorem sum_mono {f : Nat → Int} {p q : Nat} (h : Sub p q) (hf : ∀ i, i < 10 → q.testBit i = true → 0 ≤ f i) : sumS f p ≤ sumS f q := by
  have : ∀ n : Nat, n ≤ 10 → fo n (fun i a => a + if p.testBit i then f i else 0) (0 : Int) ≤ fo n (fun i a => a + if q.testBit i then f i else 0) (0 : Int) := by
    intro n
    induction n with
    | zero => intro _; exact Int.le_refl _
    | succ n ih =>
      intro hn
      have h1 := ih (by omega)
      rw [fo_s, fo_s]
      by_cases hq : q.testBit n = true
      · have h2 := hf n (by omega) hq
        simp only [hq, if_true]
        split <;> omega
      · have hp : p.testBit n = false := by
          cases e : p.testBit n
          · rfl
          · exact absurd (h n e) hq
        simp only [hp, hq]; simpa using h1
  exact this 10 (Nat.le_refl _)
theorem sum_0 (f : Nat → Int) : sumS f 0 = 0 := by
  have : ∀ n : Nat, fo n (fun i a => a + if (0 : Nat).testBit i then f i else 0) (0 : Int) = 0 := by
    intro n
    induction n with
    | zero => rfl
    | succ n ih => rw [fo_s, ih]; simp
  exact this 10
