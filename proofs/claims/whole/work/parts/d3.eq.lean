/-! d3: the bytes of a text are the same in both -/
theorem byt_all : ∀ n : Fin 256, (Int64.ofNat n.val).toInt32.toInt = ((n.val : Nat) : Int) ∧ bAnd ((Int32.ofInt ((Int64.ofNat n.val).toInt32.toInt)).toInt8.toInt32.toInt) 255 = ((n.val : Nat) : Int) := by decide +kernel
theorem byt_ex (x : Int64) : ∃ n : Fin 256, x &&& Int64.ofInt 255 = Int64.ofNat n.val := by
  have h1 : (x &&& Int64.ofInt 255).toBitVec = x.toBitVec &&& 255#64 := rfl
  have h2 : (x &&& Int64.ofInt 255).toBitVec.toNat ≤ 255 := by
    rw [h1, BitVec.toNat_and]
    exact Nat.and_le_right
  refine ⟨⟨(x &&& Int64.ofInt 255).toBitVec.toNat, by omega⟩, ?_⟩
  apply Int64.toBitVec_inj.mp
  show (x &&& Int64.ofInt 255).toBitVec = BitVec.ofNat 64 (x &&& Int64.ofInt 255).toBitVec.toNat
  rw [BitVec.ofNat_toNat, BitVec.setWidth_eq]
theorem sh_all : ∀ j : Fin 8, ((((Int32.ofInt (8 * ((j.val : Nat) : Int))).toInt64 &&& 63).toBitVec.smod 64).toNat = 8 * j.val) ∧ ((((Int32.ofInt (8 * ((j.val : Nat) : Int))).toInt64.toUInt64 &&& Int64.toUInt64 63).toBitVec % 64).toNat = 8 * j.val) := by decide +kernel
theorem sh_same (v : Int64) (j : Fin 8) : ((v.toUInt64 >>> ((Int32.ofInt (8 * ((j.val : Nat) : Int))).toInt64.toUInt64 &&& Int64.toUInt64 63)).toInt64) &&& Int64.ofInt 255 = (v >>> ((Int32.ofInt (8 * ((j.val : Nat) : Int))).toInt64 &&& 63)) &&& Int64.ofInt 255 := by
  obtain ⟨s1, s2⟩ := sh_all j
  generalize (Int32.ofInt (8 * ((j.val : Nat) : Int))).toInt64.toUInt64 &&& Int64.toUInt64 63 = a at *
  generalize (Int32.ofInt (8 * ((j.val : Nat) : Int))).toInt64 &&& 63 = b at *
  apply Int64.toBitVec_inj.mp
  show (v.toBitVec >>> (a.toBitVec % 64)) &&& 255#64 = (v.toBitVec.sshiftRight (b.toBitVec.smod 64).toNat) &&& 255#64
  show (v.toBitVec >>> (a.toBitVec % 64).toNat) &&& 255#64 = (v.toBitVec.sshiftRight (b.toBitVec.smod 64).toNat) &&& 255#64
  rw [s1, s2]
  apply BitVec.eq_of_getLsbD_eq
  intro i hi
  have hj := j.isLt
  have h255 : (255#64).getLsbD i = decide (i < 8) := by
    show (255 : Nat).testBit i = decide (i < 8)
    exact Nat.testBit_two_pow_sub_one 8 i
  rw [BitVec.getLsbD_and, BitVec.getLsbD_and, h255]
  by_cases c : i < 8
  · rw [BitVec.getLsbD_ushiftRight, BitVec.getLsbD_sshiftRight]
    have h1 : 8 * j.val + i < 64 := by omega
    have h2 : ¬ 64 ≤ i := by omega
    simp [h1, hi, h2]
  · rw [decide_eq_false c, Bool.and_false, Bool.and_false]
theorem ty_same (v : Int64) {j : Nat} (hj : j < 8) : bAnd (tyM v ((j : Nat) : Int)) 255 = tyB v ((j : Nat) : Int) ∧ 0 ≤ tyB v ((j : Nat) : Int) ∧ tyB v ((j : Nat) : Int) ≤ 255 := by
  have h1 := sh_same v ⟨j, hj⟩
  unfold tyM tyB
  rw [h1]
  obtain ⟨n, hn⟩ := byt_ex (v >>> ((Int32.ofInt (8 * ((j : Nat) : Int))).toInt64 &&& 63))
  show bAnd ((Int32.ofInt (((v >>> ((Int32.ofInt (8 * ((j : Nat) : Int))).toInt64 &&& 63)) &&& Int64.ofInt 255).toInt32.toInt)).toInt8.toInt32.toInt) 255 = ((v >>> ((Int32.ofInt (8 * ((j : Nat) : Int))).toInt64 &&& 63)) &&& Int64.ofInt 255).toInt32.toInt ∧ 0 ≤ ((v >>> ((Int32.ofInt (8 * ((j : Nat) : Int))).toInt64 &&& 63)) &&& Int64.ofInt 255).toInt32.toInt ∧ ((v >>> ((Int32.ofInt (8 * ((j : Nat) : Int))).toInt64 &&& 63)) &&& Int64.ofInt 255).toInt32.toInt ≤ 255
  rw [hn]
  obtain ⟨b1, b2⟩ := byt_all n
  have := n.isLt
  rw [b2, b1]
  omega
theorem tb_type {v : Int64} {len c : Nat} {tb tx : Nat → Int} (hc : c ≤ 8) (h : TbV tb tx) : ∀ k, k ≤ c → TbV (tyN v len c tb k) (tyF v len c tx k)
  | 0, _ => h
  | k + 1, hk => by
    have ih := tb_type (v := v) (len := len) hc h k (by omega)
    have hs := ty_same v (j := c - 1 - k) (by omega)
    intro i hi
    show bAnd (upF (tyN v len c tb k) (len + k) (tyM v ((c - 1 - k : Nat) : Int)) i) 255 = upF (tyF v len c tx k) (len + k) (tyB v ((c - 1 - k : Nat) : Int)) i ∧ 0 ≤ upF (tyF v len c tx k) (len + k) (tyB v ((c - 1 - k : Nat) : Int)) i ∧ upF (tyF v len c tx k) (len + k) (tyB v ((c - 1 - k : Nat) : Int)) i ≤ 255
    unfold upF
    by_cases e : i = len + k
    · rw [if_pos e, if_pos e]
      exact hs
    · rw [if_neg e, if_neg e]
      exact ih i hi
