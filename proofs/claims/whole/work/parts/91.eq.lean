/-! 91: sameness of small things -/
theorem bcF_pop (s : Nat) : bcF s 12 = ((popN s : Nat) : Int) := by
  have : ∀ k, bcF s k = ((fo k (fun i a => a + (s / 2 ^ i) % 2) 0 : Nat) : Int) := by
    intro k
    induction k with
    | zero => rfl
    | succ k ih =>
      show bcF s k + bi s k = ((fo k (fun i a => a + (s / 2 ^ i) % 2) 0 + (s / 2 ^ k) % 2 : Nat) : Int)
      rw [ih]
      have hb : bi s k = (((s / 2 ^ k) % 2 : Nat) : Int) := by
        unfold bi
        rw [Nat.testBit_eq_decide_div_mod_eq]
        rcases Nat.mod_two_eq_zero_or_one (s / 2 ^ k) with e | e <;> simp [e]
      rw [hb]
      omega
  exact this 12
theorem prT_e (tc : Int64) (x : Int) : prT tc x = pmT tc x := by
  unfold prT pmT
  have a1 : Int64.ofInt 10 + Int64.ofNat 1 = Int64.ofInt 11 := by decide
  have a2 : Int64.ofInt 100 + Int64.ofNat 1 = Int64.ofInt 101 := by decide
  have a3 : Int64.ofInt 1000 + Int64.ofInt 11 = Int64.ofInt 1011 := by decide
  have a4 : Int64.ofInt 10000 + Int64.ofInt 101 = Int64.ofInt 10101 := by decide
  have a5 : Int64.ofInt 100000 + Int64.ofNat 1 = Int64.ofInt 100001 := by decide
  simp only [Int64.add_assoc, a1, a2, a3, a4, a5]
theorem wsF_sum {T : Nat → Int} {s B : Nat} (hB : B ≤ 10) (hs : s < 2 ^ B) : wsF T s B = sumS T s := by
  have h1 : ∀ k, wsF T s k = fo k (fun i a => a + if s.testBit i then T i else 0) (0 : Int) := by
    intro k
    induction k with
    | zero => rfl
    | succ k ih =>
      show wsF T s k + bi s k * T k = fo k (fun i a => a + if s.testBit i then T i else 0) (0 : Int) + if s.testBit k then T k else 0
      rw [ih]
      unfold bi
      split <;> simp
  have h2 : ∀ j, B + j ≤ 10 → fo (B + j) (fun i a => a + if s.testBit i then T i else 0) (0 : Int) = wsF T s B := by
    intro j
    induction j with
    | zero => intro _; exact (h1 B).symm
    | succ j ih =>
      intro hj
      show fo (B + j) (fun i a => a + if s.testBit i then T i else 0) (0 : Int) + (if s.testBit (B + j) then T (B + j) else 0) = wsF T s B
      rw [ih (by omega)]
      have hlt : s < 2 ^ (B + j) := Nat.lt_of_lt_of_le hs (Nat.pow_le_pow_right (by decide) (by omega))
      rw [Nat.testBit_lt_two_pow hlt]
      simp
  have h3 := h2 (10 - B) (by omega)
  rw [show B + (10 - B) = 10 by omega] at h3
  exact h3.symm
theorem chn_e {f k t : Int} : chnF f k t = chmF f k t := by
  unfold chnF chmF
  by_cases c : f < t
  · rw [if_pos c, if_pos (by omega)]
  · rw [if_neg c, if_neg (by omega), Int.mul_zero]
theorem run_e {f k t : Int} (h0 : 0 ≤ f) : runF f k t = rumF f k t := by
  unfold runF rumF
  by_cases c : f = 0
  · rw [if_pos c, if_neg (by omega)]
  · rw [if_neg c, if_pos (by omega)]
theorem ed_e {f t : Int} (h0 : 0 ≤ f) : ∀ k p, edF f t k p = emF f t k p
  | 0, _ => rfl
  | k + 1, p => by
    unfold edF emF
    rw [run_e h0, chn_e, ed_e h0 k (p + 1)]
/-- the class's row of ROOMS beside the model's -/
def RelV (n : Nat) (f g : Nat → Int) : Prop := ∀ r, r < n → (g r = 1000000 ∧ f r = -9) ∨ (g r = f r ∧ 0 ≤ f r ∧ f r ≤ 900000)
theorem rel_spr {n a b : Nat} {f g : Nat → Int} {c B0 : Int} (hR : RelV n f g) (ha : a < n) (hb : b < n) (hf : OkV n f B0) (hc : 0 ≤ c) (hB : B0 + c ≤ 900000) : RelV n (sprA f a b c) (rlx g a b c) := by
  have ra := hR a ha
  have rb := hR b hb
  have fa := hf a ha
  intro r hr
  have rr := hR r hr
  unfold sprA rlx
  by_cases e1 : f a = -9
  · rw [if_pos e1, if_neg (by omega)]
    exact rr
  · rw [if_neg e1]
    unfold lowF
    by_cases e2 : f b = -9 ∨ f a + c < f b
    · rw [if_pos e2, if_pos (by omega)]
      unfold upF
      split
      · right; omega
      · exact rr
    · rw [if_neg e2, if_neg (by omega)]
      exact rr
theorem rel_stp {n a b : Nat} {f g : Nat → Int} {c B0 : Int} (hR : RelV n f g) (ha : a < n) (hb : b < n) (hf : OkV n f B0) (hc : 0 ≤ c) (hB : B0 + 2 * c ≤ 900000) : RelV n (sprF f a b c) (stpM g a b c) := by
  have h1 := rel_spr hR ha hb hf hc (by omega)
  exact rel_spr h1 hb ha (sprA_ok hf ha hc) hc (by omega)
theorem rel_rnd {n W sh : Nat} {wy : Nat → Nat → Int} (hw : WyV n W wy) : ∀ k, k ≤ W → ∀ {f g : Nat → Int} {B0 : Int}, RelV n f g → OkV n f B0 → B0 + 60 * k ≤ 900000 → RelV n (fo k (stepFar wy sh) f) (fo k (eStp (fun w => !sh.testBit w) (fun w => (wy w 0).toNat) (fun w => (wy w 1).toNat) (fun w => wy w 2)) g)
  | 0, _, f, g, B0, hR, _, _ => hR
  | k + 1, hk, f, g, B0, hR, hf, hB => by
    have ih := rel_rnd (sh := sh) hw k (by omega) hR hf (by omega)
    have hok := roundFar_ok (sh := sh) hw k (by omega) hf
    have hv := hw k (by omega)
    show RelV n (stepFar wy sh k (fo k (stepFar wy sh) f)) (eStp (fun w => !sh.testBit w) (fun w => (wy w 0).toNat) (fun w => (wy w 1).toNat) (fun w => wy w 2) k (fo k (eStp (fun w => !sh.testBit w) (fun w => (wy w 0).toNat) (fun w => (wy w 1).toNat) (fun w => wy w 2)) g))
    unfold stepFar eStp
    by_cases e : sh.testBit k = true
    · rw [if_pos e, if_neg (by simp [e])]
      exact ih
    · rw [if_neg e, if_pos (by simpa using e)]
      exact rel_stp ih (by omega) (by omega) hok (by omega) (by omega)
