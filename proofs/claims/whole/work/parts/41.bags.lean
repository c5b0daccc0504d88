/-! 41: Bags: fill -/
def upN (f : Nat → Nat) (i v : Nat) : Nat → Nat := fun r => if r = i then v else f r
theorem upF_nat (f : Nat → Nat) (i v : Nat) : upF (fun r => ((f r : Nat) : Int)) i (v : Int) = fun r => ((upN f i v r : Nat) : Int) := by
  funext r
  unfold upF upN
  split <;> rfl
theorem BgC.s0 {h : AH} {g B B' : Nat} {wt wo ro ir od ld : Nat → Int} {tr : Nat → Nat → Int} (hG : BgC h g B wt wo ro ir od ld tr) : BgC (upA h g (cO 1 [vI B', vA (g + 1), vA (g + 2), vA (g + 3), vA (g + 4), vA (g + 5), vA (g + 6), vA (g + 7)])) g B' wt wo ro ir od ld tr := by
  obtain ⟨h0, h1, h2, h3, h4, h5, h6, h7, h8⟩ := hG
  refine ⟨?_, ?_, ?_, ?_, ?_, ?_, ?_, ?_, fun m hm => by rw [upA_n _ _ (by omega)]; exact h8 m hm⟩ <;> first | exact upA_s _ _ _ | (rw [upA_n _ _ (by omega)]; assumption)
theorem BgC.s1 {h : AH} {g B : Nat} {wt wo ro ir od ld x : Nat → Int} {tr : Nat → Nat → Int} (hG : BgC h g B wt wo ro ir od ld tr) : BgC (upA h (g + 1) (cI 1024 x)) g B x wo ro ir od ld tr := by
  obtain ⟨h0, h1, h2, h3, h4, h5, h6, h7, h8⟩ := hG
  refine ⟨?_, ?_, ?_, ?_, ?_, ?_, ?_, ?_, fun m hm => by rw [upA_n _ _ (by omega)]; exact h8 m hm⟩ <;> first | exact upA_s _ _ _ | (rw [upA_n _ _ (by omega)]; assumption)
theorem BgC.s2 {h : AH} {g B : Nat} {wt wo ro ir od ld x : Nat → Int} {tr : Nat → Nat → Int} (hG : BgC h g B wt wo ro ir od ld tr) : BgC (upA h (g + 2) (cI 1024 x)) g B wt x ro ir od ld tr := by
  obtain ⟨h0, h1, h2, h3, h4, h5, h6, h7, h8⟩ := hG
  refine ⟨?_, ?_, ?_, ?_, ?_, ?_, ?_, ?_, fun m hm => by rw [upA_n _ _ (by omega)]; exact h8 m hm⟩ <;> first | exact upA_s _ _ _ | (rw [upA_n _ _ (by omega)]; assumption)
theorem BgC.s3 {h : AH} {g B : Nat} {wt wo ro ir od ld x : Nat → Int} {tr : Nat → Nat → Int} (hG : BgC h g B wt wo ro ir od ld tr) : BgC (upA h (g + 3) (cI 10 x)) g B wt wo x ir od ld tr := by
  obtain ⟨h0, h1, h2, h3, h4, h5, h6, h7, h8⟩ := hG
  refine ⟨?_, ?_, ?_, ?_, ?_, ?_, ?_, ?_, fun m hm => by rw [upA_n _ _ (by omega)]; exact h8 m hm⟩ <;> first | exact upA_s _ _ _ | (rw [upA_n _ _ (by omega)]; assumption)
theorem BgC.s4 {h : AH} {g B : Nat} {wt wo ro ir od ld x : Nat → Int} {tr : Nat → Nat → Int} (hG : BgC h g B wt wo ro ir od ld tr) : BgC (upA h (g + 4) (cI 8 x)) g B wt wo ro x od ld tr := by
  obtain ⟨h0, h1, h2, h3, h4, h5, h6, h7, h8⟩ := hG
  refine ⟨?_, ?_, ?_, ?_, ?_, ?_, ?_, ?_, fun m hm => by rw [upA_n _ _ (by omega)]; exact h8 m hm⟩ <;> first | exact upA_s _ _ _ | (rw [upA_n _ _ (by omega)]; assumption)
theorem BgC.s5 {h : AH} {g B : Nat} {wt wo ro ir od ld x : Nat → Int} {tr : Nat → Nat → Int} (hG : BgC h g B wt wo ro ir od ld tr) : BgC (upA h (g + 5) (cI 10 x)) g B wt wo ro ir x ld tr := by
  obtain ⟨h0, h1, h2, h3, h4, h5, h6, h7, h8⟩ := hG
  refine ⟨?_, ?_, ?_, ?_, ?_, ?_, ?_, ?_, fun m hm => by rw [upA_n _ _ (by omega)]; exact h8 m hm⟩ <;> first | exact upA_s _ _ _ | (rw [upA_n _ _ (by omega)]; assumption)
theorem BgC.s6 {h : AH} {g B : Nat} {wt wo ro ir od ld x : Nat → Int} {tr : Nat → Nat → Int} (hG : BgC h g B wt wo ro ir od ld tr) : BgC (upA h (g + 6) (cI 3 x)) g B wt wo ro ir od x tr := by
  obtain ⟨h0, h1, h2, h3, h4, h5, h6, h7, h8⟩ := hG
  refine ⟨?_, ?_, ?_, ?_, ?_, ?_, ?_, ?_, fun m hm => by rw [upA_n _ _ (by omega)]; exact h8 m hm⟩ <;> first | exact upA_s _ _ _ | (rw [upA_n _ _ (by omega)]; assumption)
theorem BgC.s8 {h : AH} {g B k : Nat} {wt wo ro ir od ld x : Nat → Int} {tr : Nat → Nat → Int} (hG : BgC h g B wt wo ro ir od ld tr) : BgC (upA h (g + 8 + k) (cI 1024 x)) g B wt wo ro ir od ld (fun j => if j = k then x else tr j) := by
  obtain ⟨h0, h1, h2, h3, h4, h5, h6, h7, h8⟩ := hG
  refine ⟨?_, ?_, ?_, ?_, ?_, ?_, ?_, ?_, fun m hm => ?_⟩
  · rw [upA_n _ _ (by omega)]; assumption
  · rw [upA_n _ _ (by omega)]; assumption
  · rw [upA_n _ _ (by omega)]; assumption
  · rw [upA_n _ _ (by omega)]; assumption
  · rw [upA_n _ _ (by omega)]; assumption
  · rw [upA_n _ _ (by omega)]; assumption
  · rw [upA_n _ _ (by omega)]; assumption
  · rw [upA_n _ _ (by omega)]; assumption
  · show _ = some (cI 1024 (if m = k then x else tr m))
    by_cases e : m = k
    · subst e; rw [if_pos rfl]; exact upA_s _ _ _
    · rw [if_neg e, upA_n _ _ (by omega)]; exact h8 m hm
/-- the set in each ROOM -/
def clN (k : Nat) (f : Nat → Nat) : Nat → Nat := fo k (fun i f => upN f i 0) f
def inN (bu : Nat → Nat → Int) (b : Nat) (f : Nat → Nat) : Nat → Nat := fo b (fun i f => upN f (bu i 0).toNat (f (bu i 0).toNat ||| 2 ^ i)) f
theorem clN_z (f : Nat → Nat) : ∀ k r, r < k → clN k f r = 0
  | 0, r, h => by omega
  | k + 1, r, h => by
    show upN (clN k f) k 0 r = 0
    unfold upN
    by_cases e : r = k
    · rw [if_pos e]
    · rw [if_neg e]; exact clN_z f k r (by omega)
theorem inN_lt (bu : Nat → Nat → Int) {f : Nat → Nat} (hf : ∀ r, r < 8 → f r = 0) : ∀ b r, r < 8 → inN bu b f r < 2 ^ b
  | 0, r, h => by show f r < 1; rw [hf r h]; decide
  | b + 1, r, h => by
    show upN (inN bu b f) (bu b 0).toNat (inN bu b f (bu b 0).toNat ||| 2 ^ b) r < _
    have h2 : 2 ^ b < 2 ^ (b + 1) := Nat.pow_lt_pow_right (by decide) (by omega)
    unfold upN
    split
    · rename_i e
      have := inN_lt bu hf b (bu b 0).toNat (by omega)
      have h3 : inN bu b f (bu b 0).toNat < 2 ^ (b + 1) := Nat.lt_trans this h2
      exact Nat.or_lt_two_pow h3 h2
    · have := inN_lt bu hf b r h
      omega
theorem inN_bit (bu : Nat → Nat → Int) {f : Nat → Nat} (hf : ∀ r, r < 8 → f r = 0) : ∀ b r i, r < 8 → (inN bu b f r).testBit i = (decide (i < b) && decide ((bu i 0).toNat = r))
  | 0, r, i, h => by show (f r).testBit i = _; rw [hf r h]; simp
  | b + 1, r, i, h => by
    show (upN (inN bu b f) (bu b 0).toNat (inN bu b f (bu b 0).toNat ||| 2 ^ b) r).testBit i = _
    have ih := inN_bit bu hf b
    unfold upN
    split
    · rename_i e
      rw [Nat.testBit_or, ih _ _ (by omega), Nat.testBit_two_pow]
      by_cases e2 : b = i
      · subst e2; simp [e]
      · have e3 : (i < b + 1) ↔ (i < b) := by omega
        simp [e2, e3, e]
    · rename_i e
      rw [ih _ _ h]
      by_cases e2 : i = b
      · subst e2
        have e4 : ¬ (bu i 0).toNat = r := fun q => e q.symm
        simp [e4]
      · have e3 : (i < b + 1) ↔ (i < b) := by omega
        simp [e3]
