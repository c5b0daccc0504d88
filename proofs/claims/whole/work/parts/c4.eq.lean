/-! c4: the sets of DOORS, one after the other -/
theorem dif_add : ∀ m D s, D ≤ m → Sub s D → nDif D s + s = D
  | m, D, s, hm, h => by
    by_cases h0 : D = 0
    · subst h0
      have hl := h.le
      have : s = 0 := by omega
      subst this
      rfl
    · have e1 : nDif D s / 2 = nDif (D / 2) (s / 2) := by
        unfold nDif
        rw [Nat.xor_div_two, Nat.and_div_two]
      have hs2 : Sub (s / 2) (D / 2) := fun i hi => by
        rw [← Nat.testBit_succ] at hi ⊢
        exact h (i + 1) hi
      have hb0 := nDif_bit D s 0
      have h00 := h 0
      rw [Nat.testBit_zero, Nat.testBit_zero, Nat.testBit_zero] at hb0
      rw [Nat.testBit_zero, Nat.testBit_zero] at h00
      have hmod : nDif D s % 2 + s % 2 = D % 2 := by
        rcases Nat.mod_two_eq_zero_or_one (nDif D s) with a | a <;> rcases Nat.mod_two_eq_zero_or_one D with b | b <;> rcases Nat.mod_two_eq_zero_or_one s with c | c <;> simp [a, b, c] at hb0 h00 ⊢
      match m, hm with
      | 0, hm => omega
      | m + 1, hm =>
        have ih := dif_add m (D / 2) (s / 2) (by omega) hs2
        omega
theorem dif_sum {D s : Nat} (h : Sub s D) : nDif D s + s = D := dif_add D D s (Nat.le_refl _) h
/-- the next set -/
def nxD (D s : Nat) : Nat := nDif D (nDif D s - 1)
theorem nxD_sub (D s : Nat) : Sub (nxD D s) D := Sub.dif _ _
theorem nxD_e (D s : Nat) : nxD D s = nDif D ((nDif D s - 1) &&& D) := by
  unfold nxD
  apply Nat.eq_of_testBit_eq
  intro i
  rw [nDif_bit, nDif_bit, Nat.testBit_and]
  cases D.testBit i <;> cases (nDif D s - 1).testBit i <;> rfl
theorem nxD_lt {D s : Nat} (h : Sub s D) (hne : s ≠ D) : s < nxD D s := by
  have h1 := dif_sum h
  have h2 : (nDif D s - 1) &&& D ≤ nDif D s - 1 := Nat.and_le_left
  have h3 := dif_sum (D := D) (s := (nDif D s - 1) &&& D) (and_sub2 _ _)
  rw [nxD_e]
  omega
theorem nxD_least {D s t : Nat} (h : Sub s D) (ht : Sub t D) (hst : s < t) : nxD D s ≤ t := by
  have h1 := dif_sum h
  have h2 := dif_sum ht
  have h3 := dif_sum (D := D) (s := (nDif D s - 1) &&& D) (and_sub2 _ _)
  have h4 := nsub D (nDif D s) (nDif D t) (Sub.dif _ _) (Sub.dif _ _) (by omega)
  rw [nxD_e]
  omega
theorem neg_all : ∀ a b : Fin 64, Int32.ofInt (-((64 * a.val + b.val + 1 : Nat) : Int)) = Int32.ofInt (bXor ((64 * a.val + b.val : Nat) : Int) (-1)) := by decide +kernel
theorem bAnd_neg {c D : Nat} (h0 : 1 ≤ c) (h1 : c ≤ 4096) (hD : D < 4096) : bAnd (-((c : Nat) : Int)) ((D : Nat) : Int) = ((nDif D (c - 1) : Nat) : Int) := by
  have h2 := neg_all ⟨(c - 1) / 64, by omega⟩ ⟨(c - 1) % 64, by omega⟩
  have e : 64 * ((c - 1) / 64) + (c - 1) % 64 = c - 1 := by omega
  dsimp only at h2
  rw [e, show c - 1 + 1 = c by omega] at h2
  have h3 := bNot_n (a := D) (b := c - 1) (by omega) (by omega)
  unfold bAnd at h3 ⊢
  rw [h2, Int32.and_comm]
  exact h3
theorem bAnd_nx {D s : Nat} (hD : D < 4096) (h : Sub s D) (hne : s ≠ D) : bAnd (((s : Nat) : Int) - ((D : Nat) : Int)) ((D : Nat) : Int) = ((nxD D s : Nat) : Int) := by
  have h1 := dif_sum h
  have h2 := h.le
  rw [show ((s : Nat) : Int) - ((D : Nat) : Int) = -((nDif D s : Nat) : Int) by omega]
  exact bAnd_neg (by omega) (by omega) hD
/-- how many sets there are -/
theorem cnt_split {p : Nat → Bool} {a : Nat} : ∀ b, cnt (a + b) p = cnt a p + cnt b (fun i => p (a + i))
  | 0 => rfl
  | b + 1 => by
    show cnt ((a + b) + 1) p = _
    rw [cnt_s, cnt_s, cnt_split b]
    omega
theorem cnt_none {p : Nat → Bool} : ∀ n, (∀ i, i < n → p i = false) → cnt n p = 0
  | 0, _ => rfl
  | n + 1, h => by
    rw [cnt_s, cnt_none n (fun i hi => h i (by omega)), h n (by omega)]
    rfl
def pbN (D w : Nat) : Nat := fo w (fun i a => a + (D / 2 ^ i) % 2) 0
theorem sub_cnt (D : Nat) : ∀ w, cnt (2 ^ w) (fun x => decide (nDif x D = 0)) = 2 ^ pbN D w
  | 0 => by
    show cnt 1 (fun x => decide (nDif x D = 0)) = 1
    rw [cnt_s]
    have : decide (nDif 0 D = 0) = true := decide_eq_true (sub_iff.mpr (Sub.zero D))
    rw [this]
    rfl
  | w + 1 => by
    have ih := sub_cnt D w
    have e2 : (2 : Nat) ^ (w + 1) = 2 ^ w + 2 ^ w := by rw [Nat.pow_succ]; omega
    have ep : pbN D (w + 1) = pbN D w + (D / 2 ^ w) % 2 := rfl
    have hb : D.testBit w = decide ((D / 2 ^ w) % 2 = 1) := Nat.testBit_eq_decide_div_mod_eq
    have hsub : ∀ i, i < 2 ^ w → (nDif (2 ^ w + i) D = 0 ↔ D.testBit w = true ∧ nDif i D = 0) := by
      intro i hi
      rw [sub_iff, sub_iff]
      have hiw : i.testBit w = false := Nat.testBit_lt_two_pow hi
      have hlow : ∀ j, i.testBit j = true → j < w := fun j hj => by
        rcases Nat.lt_or_ge j w with q | q
        · exact q
        · rw [Nat.testBit_lt_two_pow (Nat.lt_of_lt_of_le hi (Nat.pow_le_pow_right (n := 2) (by decide) q))] at hj
          exact absurd hj (by decide)
      constructor
      · intro h
        refine ⟨h w (by rw [Nat.testBit_two_pow_add_eq, hiw]; rfl), fun j hj => h j ?_⟩
        rw [Nat.testBit_two_pow_add_gt (hlow j hj)]
        exact hj
      · intro ⟨h1, h2⟩ j hj
        rcases Nat.lt_trichotomy j w with q | q | q
        · rw [Nat.testBit_two_pow_add_gt q] at hj
          exact h2 j hj
        · rw [q]; exact h1
        · have : 2 ^ w + i < 2 ^ j := Nat.lt_of_lt_of_le (show 2 ^ w + i < 2 ^ (w + 1) by omega) (Nat.pow_le_pow_right (n := 2) (by decide) q)
          rw [Nat.testBit_lt_two_pow this] at hj
          exact absurd hj (by decide)
    rw [e2, cnt_split, ih, ep]
    rcases Nat.mod_two_eq_zero_or_one (D / 2 ^ w) with c | c
    · rw [c, Nat.add_zero]
      rw [cnt_none (2 ^ w) (fun i hi => decide_eq_false (fun q => by
        have := ((hsub i hi).mp q).1
        rw [hb, c] at this
        exact absurd this (by decide)))]
      rfl
    · rw [c, Nat.pow_succ]
      rw [cnt_cg (q := fun x => decide (nDif x D = 0)) (2 ^ w) (fun i hi => decide_eq_decide.mpr ((hsub i hi).trans ⟨fun q => q.2, fun q => ⟨by rw [hb, c]; rfl, q⟩⟩)), ih]
      omega
theorem sub_all {D : Nat} (hD : D < 4096) : cnt (D + 1) (fun x => decide (nDif x D = 0)) = 2 ^ popN D := by
  have h1 := sub_cnt D 12
  have e : pbN D 12 = popN D := rfl
  rw [e] at h1
  have e12 : (2 : Nat) ^ 12 = (D + 1) + (4096 - (D + 1)) := by
    have : (2 : Nat) ^ 12 = 4096 := by decide
    omega
  have hs := cnt_split (p := fun x => decide (nDif x D = 0)) (a := D + 1) (4096 - (D + 1))
  rw [cnt_none (p := fun i => (fun x => decide (nDif x D = 0)) (D + 1 + i)) (4096 - (D + 1)) (fun i hi => decide_eq_false (fun q => by
    have := (sub_iff.mp q).le
    omega))] at hs
  rw [← h1, e12, hs]
  rfl
/-- nothing between a set and the next one -/
theorem cnt_nx {D s : Nat} (h : Sub s D) (hne : s ≠ D) : cnt (nxD D s) (fun x => decide (nDif x D = 0)) = cnt s (fun x => decide (nDif x D = 0)) + 1 := by
  have hlt := nxD_lt h hne
  rw [show nxD D s = (s + 1) + (nxD D s - (s + 1)) by omega, cnt_split, cnt_s, decide_eq_true (sub_iff.mpr h), if_pos rfl]
  rw [cnt_none (nxD D s - (s + 1)) (fun i hi => decide_eq_false (fun q => by
    have := nxD_least h (sub_iff.mp q) (by omega)
    omega))]
theorem cnt_lst {D : Nat} : cnt (D + 1) (fun x => decide (nDif x D = 0)) = cnt D (fun x => decide (nDif x D = 0)) + 1 := by
  rw [cnt_s, decide_eq_true (sub_iff.mpr (Sub.rf D)), if_pos rfl]
theorem dmF_skip {D : Nat} {vv : Nat → Int} {a : Nat} : ∀ b, (∀ i, i < b → nDif (a + i) D ≠ 0) → dmF D vv (a + b) = dmF D vv a
  | 0, _ => rfl
  | b + 1, h => by
    show dmS D vv (a + b) (dmF D vv (a + b)) = _
    rw [dmF_skip b (fun i hi => h i (by omega))]
    unfold dmS
    rw [if_neg (h b (by omega))]
theorem dmF_nx {D s : Nat} {vv : Nat → Int} (h : Sub s D) (hne : s ≠ D) : dmF D vv (nxD D s) = if (dmF D vv s).2 < vv s then ((s : Int), vv s) else dmF D vv s := by
  have hlt := nxD_lt h hne
  rw [show nxD D s = (s + 1) + (nxD D s - (s + 1)) by omega, dmF_skip _ (fun i hi q => by
    have := nxD_least h (sub_iff.mp q) (by omega)
    omega)]
  show dmS D vv s (dmF D vv s) = _
  unfold dmS
  rw [if_pos (sub_iff.mpr h)]
theorem dmF_lst {D : Nat} {vv : Nat → Int} : dmF D vv (D + 1) = if (dmF D vv D).2 < vv D then ((D : Int), vv D) else dmF D vv D := by
  show dmS D vv D (dmF D vv D) = _
  unfold dmS
  rw [if_pos (sub_iff.mpr (Sub.rf D))]
