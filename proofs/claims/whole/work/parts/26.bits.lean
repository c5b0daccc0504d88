/-! 26: bits of numbers -/
theorem ofI_n (a : Nat) : Int32.ofInt (a : Int) = nI a := rfl
theorem nI_t {a : Nat} (h : a < 2147483648) : (nI a).toInt = (a : Int) := nI_toInt (by omega)
theorem nI_and (a b : Nat) : nI a &&& nI b = nI (a &&& b) := by
  apply Int32.toBitVec_inj.mp
  show BitVec.ofNat 32 a &&& BitVec.ofNat 32 b = BitVec.ofNat 32 (a &&& b)
  apply BitVec.eq_of_toNat_eq
  simp [Nat.and_mod_two_pow]
theorem nI_or (a b : Nat) : nI a ||| nI b = nI (a ||| b) := by
  apply Int32.toBitVec_inj.mp
  show BitVec.ofNat 32 a ||| BitVec.ofNat 32 b = BitVec.ofNat 32 (a ||| b)
  apply BitVec.eq_of_toNat_eq
  simp [Nat.or_mod_two_pow]
theorem nI_xor (a b : Nat) : nI a ^^^ nI b = nI (a ^^^ b) := by
  apply Int32.toBitVec_inj.mp
  show BitVec.ofNat 32 a ^^^ BitVec.ofNat 32 b = BitVec.ofNat 32 (a ^^^ b)
  apply BitVec.eq_of_toNat_eq
  simp [Nat.xor_mod_two_pow]
theorem bAnd_n {a b : Nat} (h : a < 2147483648) : bAnd (a : Int) (b : Int) = ((a &&& b : Nat) : Int) := by
  unfold bAnd
  rw [ofI_n, ofI_n, nI_and, nI_t (Nat.lt_of_le_of_lt Nat.and_le_left h)]
theorem bOr_n {a b : Nat} (ha : a < 1073741824) (hb : b < 1073741824) : bOr (a : Int) (b : Int) = ((a ||| b : Nat) : Int) := by
  unfold bOr
  rw [ofI_n, ofI_n, nI_or, nI_t (Nat.lt_of_lt_of_le (Nat.or_lt_two_pow (n := 30) (by omega) (by omega)) (by omega))]
theorem bXor_n {a b : Nat} (ha : a < 1073741824) (hb : b < 1073741824) : bXor (a : Int) (b : Int) = ((a ^^^ b : Nat) : Int) := by
  unfold bXor
  rw [ofI_n, ofI_n, nI_xor, nI_t (Nat.lt_of_lt_of_le (Nat.xor_lt_two_pow (n := 30) (by omega) (by omega)) (by omega))]
theorem shl_all : ∀ b : Fin 31, ∀ a : Fin 2, bShl (a.val : Int) (b.val : Int) = ((a.val * 2 ^ b.val : Nat) : Int) := by decide +kernel
theorem bShl_1 {b : Nat} (h : b < 31) : bShl 1 (b : Int) = ((2 ^ b : Nat) : Int) := by
  have := shl_all ⟨b, h⟩ ⟨1, by omega⟩
  simpa using this
theorem sm_all : ∀ b : Fin 32, (((nI b.val) &&& 31).toBitVec.smod 32).toNat = b.val := by decide +kernel
theorem bShr_n {a b : Nat} (h : a < 2147483648) (hb : b < 32) : bShr (a : Int) (b : Int) = ((a / 2 ^ b : Nat) : Int) := by
  unfold bShr
  rw [ofI_n, ofI_n, pk_shrN (by omega) _ b (sm_all ⟨b, hb⟩), nI_t (Nat.lt_of_le_of_lt (Nat.div_le_self _ _) h)]
/-- a set without another's members -/
def nDif (a b : Nat) : Nat := a ^^^ (a &&& b)
theorem nDif_bit (a b i : Nat) : (nDif a b).testBit i = (a.testBit i && !b.testBit i) := by
  unfold nDif
  rw [Nat.testBit_xor, Nat.testBit_and]
  cases a.testBit i <;> cases b.testBit i <;> rfl
theorem nDif_le (a b : Nat) : nDif a b ≤ a := by
  refine Nat.le_of_testBit ?_
  intro i hi
  rw [nDif_bit] at hi
  simp only [Bool.and_eq_true] at hi
  exact hi.1
theorem bNot_n {a b : Nat} (ha : a < 2147483648) (hb : b < 2147483648) : bAnd (a : Int) (bXor (b : Int) (-1)) = ((nDif a b : Nat) : Int) := by
  unfold bAnd bXor
  have e : Int32.ofInt (Int32.ofInt (b : Int) ^^^ Int32.ofInt (-1)).toInt = nI b ^^^ (-1) := by
    rw [Int32.ofInt_toInt]; rfl
  rw [e, ofI_n]
  have e2 : nI a &&& (nI b ^^^ (-1)) = nI (nDif a b) := by
    apply Int32.toBitVec_inj.mp
    show BitVec.ofNat 32 a &&& (BitVec.ofNat 32 b ^^^ BitVec.allOnes 32) = BitVec.ofNat 32 (nDif a b)
    apply BitVec.eq_of_getLsbD_eq
    intro i hi
    rw [BitVec.getLsbD_and, BitVec.getLsbD_xor, BitVec.getLsbD_ofNat, BitVec.getLsbD_ofNat, BitVec.getLsbD_ofNat, nDif_bit, BitVec.getLsbD_allOnes]
    cases a.testBit i <;> cases b.testBit i <;> simp [hi]
  rw [e2, nI_t (Nat.lt_of_le_of_lt (nDif_le a b) ha)]
theorem bit_n {s w : Nat} (hs : s < 2147483648) (hw : w < 32) : bAnd (bShr (s : Int) (w : Int)) 1 = if s.testBit w then 1 else 0 := by
  rw [bShr_n hs hw]
  have h1 : s / 2 ^ w < 2147483648 := Nat.lt_of_le_of_lt (Nat.div_le_self _ _) hs
  have := bAnd_n (b := 1) h1
  rw [show ((1 : Nat) : Int) = 1 from rfl] at this
  rw [this, Nat.and_one_is_mod]
  rw [Nat.testBit_eq_decide_div_mod_eq]
  rcases Nat.mod_two_eq_zero_or_one (s / 2 ^ w) with e | e <;> simp [e]
