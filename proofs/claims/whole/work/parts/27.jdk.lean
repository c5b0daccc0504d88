/-! 27: Math.max, Math.min, Integer.bitCount -/
def popN (x : Nat) : Nat := fo 12 (fun i s => s + (x / 2 ^ i) % 2) 0
def bcA (x : Int) : Int := x - bAnd (bUsh x 1) 1431655765
def bcB (x : Int) : Int := bAnd x 858993459 + bAnd (bUsh x 2) 858993459
def bcC (x : Int) : Int := bAnd (x + bUsh x 4) 252645135
def bcD (x : Int) : Int := x + bUsh x 8
def bcE (x : Int) : Int := bAnd (x + bUsh x 16) 63
theorem bc_ch : ∀ a b : Fin 64, bcE (bcD (bcC (bcB (bcA ((64 * a.val + b.val : Nat) : Int))))) = (popN (64 * a.val + b.val) : Int) := by decide +kernel
theorem bc_all {x : Nat} (hx : x < 4096) : bcE (bcD (bcC (bcB (bcA (x : Int))))) = (popN x : Int) := by
  have h := bc_ch ⟨x / 64, by omega⟩ ⟨x % 64, by omega⟩
  rw [show 64 * (⟨x / 64, by omega⟩ : Fin 64).val + (⟨x % 64, by omega⟩ : Fin 64).val = x from by show 64 * (x / 64) + x % 64 = x; omega] at h
  exact h
set_option maxHeartbeats 4000000 in
theorem cj_bitCount {X : Cx} {d : Nat} {x : Nat} {h : AH} {z : Nat} (hx : x < 4096) : CallP X d 0 0 mjI_bitCount [vI x] h z (fun o h' z' => o = some (vI (popN x)) ∧ z' = z ∧ h' = h) := by
  refine call_in (by decide +kernel) (Nat.le_of_ble_eq_true rfl) ?_
  show Ex _ 0 [some (vI x)] [] _ _ _ _
  repeat' (first | (with_reducible apply And.intro) | (with_reducible intro hx) | omega | (with_reducible rfl) | ((with_reducible show okR _ _); first | exact True.intro | exact Or.inl rfl | exact Or.inr rfl) | (with_reducible show Ex _ 0 _ _ _ _ _ _; refine ex_blk (r := bjI_bitCount_0) ojI_bitCount_0 ?_; simp only [bjI_bitCount_0, e_nil, e_cons, e_aload_n, e_aload, e_iload_n, e_iload, e_lload_n, e_istore_n, e_istore, e_astore_n, e_astore, e_iinc, e_kN, e_iconst, e_bipush, e_sipush, e_lconst, e_ldcI, e_ldcS, e_ldc_w, e_ldc2_w, e_iadd, e_isub, e_imul, e_idiv, e_ineg, e_iand, e_ior, e_ixor, e_ishl, e_ishr, e_iushr, e_i2b, e_i2c, e_i2l, e_l2i, e_ladd, e_land, e_lor, e_lshl, e_lshr, e_lushr, e_lcmp, e_dupA, e_dupI, e_dup2, e_popI, e_getfield, e_putfield, e_getstatic1, e_getstatic2, e_getstatic3, e_getstatic15, e_iaload, e_baload, e_iastore, e_bastore, e_aaload, e_arraylength, e_goto, e_if, e_icmp, e_br, e_tsw, e_swT0, e_swT1, e_lsw, e_swL0, e_swL1, e_ireturn, e_lreturn, e_return, e_oinit, e_virt, e_stat0, e_stat1, e_max, e_min, e_spec, e_cal, e_popA, e_kI, e_kL, e_kA, e_kV, e_kS, e_kH, e_j0, e_j1, e_j2, e_j3, e_kC0, e_kC1, e_ldI0, e_ldI1, e_ldL0, e_ldL1, e_ldA0, e_ldA1, e_stL, e_rdF, e_rdS, e_fg0, e_fg1, e_so0, e_so1, e_so2, e_il0, e_il1, e_il2, e_ss0, e_ss1, e_wrF, e_rdA, e_wrA, e_rdR, e_lnA, e_isO, Int.cast_ofNat_Int, Int.toNat_natCast, Int.reduceToNat, Nat.reduceAdd, Int.reduceAdd, Int.reduceSub, Int.reduceMul, Int.reduceNeg, Nat.reduceLT, Nat.reduceLeDiff, Nat.reduceEqDiff, Nat.reduceSub, Int.reduceLE, Int.reduceLT, Int.reduceEq, true_and, and_true, List.set_cons_zero, List.set_cons_succ, List.length_cons, List.length_nil, InR, cpI, okT, okN, List.take_succ_cons, List.take_zero, List.drop_succ_cons, List.drop_zero, List.reverse_cons, List.reverse_nil, List.nil_append, List.cons_append, List.singleton_append, catS, eq_self, Bool.not_false, Nat.zero_le, Nat.le_refl, Nat.zero_add, Nat.add_zero, ne_eq, not_true_eq_false, not_false_eq_true, false_implies, true_implies, implies_true, forall_const, reduceCtorEq, Fin.isValue, Fin.reduceFinMk, Fin.val_zero, Fin.val_one, Fin.val_two, Nat.reduceMod, Int.not_lt, Int.not_le, e_j0, e_j1, e_j2, e_j3]))
  exact congrArg (fun x => some (vI x)) (bc_all hx)
