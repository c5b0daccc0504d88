/-! 97: NUMBERS are the same in both; a TOKEN -/
theorem va_s (tx : Nat → Int) (s k : Nat) : vaF tx s (k + 1) = if 99 < vaF tx s k then vaF tx s k else 10 * vaF tx s k + tx (s + k) - 48 := rfl
theorem va_big {tx : Nat → Int} {s : Nat} (h1 : 49 ≤ tx (s + 0)) (hd : ∀ i, i < 3 → 48 ≤ tx (s + i) ∧ tx (s + i) ≤ 57) : ∀ k, 99 < vaF tx s (3 + k)
  | 0 => by
    have e0 : vaF tx s 0 = 0 := rfl
    have e1 := va_s tx s 0
    have e2 := va_s tx s 1
    have e3 := va_s tx s 2
    have d0 := hd 0 (by decide)
    have d1 := hd 1 (by decide)
    have d2 := hd 2 (by decide)
    show 99 < vaF tx s (2 + 1)
    rw [e0, if_neg (by decide)] at e1
    rw [e1] at e2
    rw [if_neg (by omega)] at e2
    rw [e2] at e3
    rw [if_neg (by omega)] at e3
    rw [e3]
    omega
  | k + 1 => by
    have ih := va_big h1 hd k
    show 99 < vaF tx s ((3 + k) + 1)
    rw [va_s, if_pos ih]
    exact ih
theorem nu_same {tx : Nat → Int} {s p : Nat} (hs : s < p) (hd : ∀ i, i < p - s → 48 ≤ tx (s + i) ∧ tx (s + i) ≤ 57) : (if 99 < vaF tx s (p - s) ∨ (tx s = 48 ∧ 1 < p - s) then (9 : Int) else 7) = mapK (nuK tx s p) ∧ (nuK tx s p = 2 → nuV tx s (p - s) = vaF tx s (p - s)) := by
  have e0 : vaF tx s 0 = 0 := rfl
  have e1 := va_s tx s 0
  have e2 := va_s tx s 1
  have n1 : nuV tx s 1 = 10 * 0 + tx (s + 0) - 48 := rfl
  have n2 : nuV tx s 2 = 10 * nuV tx s 1 + tx (s + 1) - 48 := rfl
  rw [e0, if_neg (by decide)] at e1
  rw [e1] at e2
  have hs0 : tx (s + 0) = tx s := rfl
  unfold nuK
  by_cases c3 : 2 < p - s
  · rw [if_pos (Or.inl c3)]
    refine ⟨?_, fun w => absurd w (by decide)⟩
    rw [if_pos ?_]
    · decide
    · by_cases c : tx s = 48
      · exact Or.inr ⟨c, by omega⟩
      · left
        have d0 := hd 0 (by omega)
        have := va_big (tx := tx) (s := s) (by omega) (fun i hi => hd i (by omega)) (p - s - 3)
        rw [show 3 + (p - s - 3) = p - s by omega] at this
        exact this
  · have hk : p - s = 1 ∨ p - s = 2 := by omega
    rcases hk with k1 | k1
    · have d0 := hd 0 (by omega)
      simp only [Nat.zero_add] at e1
      rw [k1, e1, n1, if_neg (by omega), if_neg (by omega)]
      exact ⟨by decide, fun _ => rfl⟩
    · have d0 := hd 0 (by omega)
      have d1 := hd 1 (by omega)
      rw [if_neg (by omega)] at e2
      simp only [Nat.reduceAdd] at e2
      rw [k1, e2, n2, n1]
      by_cases c : tx s = 48
      · rw [if_pos (Or.inr ⟨c, by decide⟩), if_pos (Or.inr ⟨rfl, c⟩)]
        exact ⟨by decide, fun w => absurd w (by decide)⟩
      · rw [if_neg (by omega), if_neg (by omega)]
        exact ⟨by decide, fun _ => rfl⟩
theorem leF_l (tx : Nat → Int) (len s : Nat) : ∀ i, s ≤ i → i < leF tx len s → 97 ≤ tx i ∧ tx i ≤ 122 := fun i h1 h2 => by
  have := chF_no _ _ _ i h1 h2
  simpa [isL] using this
/-- the TOKEN at p -/
theorem tok_same (tx : Nat → Int) (len p : Nat) : nkM tx len p = mapK (nxK tx len p) ∧ ∀ va, nxK tx len p = 2 → nxV tx len p va = nvM tx len p := by
  unfold nkM nxK nxV nvM
  by_cases c0 : len ≤ nxS tx len p
  · simp only [if_pos c0]
    exact ⟨by decide, fun va w => absurd w (by decide)⟩
  simp only [if_neg c0]
  by_cases c1 : isL (tx (nxS tx len p)) = true
  · simp only [if_pos c1]
    have hg : nxS tx len p < leF tx len (nxS tx len p) := chF_gt (by omega) (by simp [c1])
    have hw := wd_same (tx := tx) hg (fun i hi => leF_l tx len (nxS tx len p) (nxS tx len p + i) (by omega) (by omega))
    have hb := wdK_b tx (nxS tx len p) (leF tx len (nxS tx len p))
    exact ⟨hw, fun va w => by omega⟩
  simp only [if_neg c1]
  by_cases c2 : isD (tx (nxS tx len p)) = true
  · simp only [if_pos c2]
    have hg : nxS tx len p < diF tx len (nxS tx len p) := chF_gt (by omega) (by simp [c2])
    have hw := nu_same (tx := tx) hg (fun i hi => diF_d tx len (nxS tx len p) (nxS tx len p + i) (by omega) (by omega))
    refine ⟨hw.1, fun va w => ?_⟩
    rw [if_pos w]
    exact hw.2 w
  simp only [if_neg c2]
  by_cases c3 : tx (nxS tx len p) = 59
  · simp only [if_pos c3]
    exact ⟨by decide, fun va w => absurd w (by decide)⟩
  · simp only [if_neg c3]
    exact ⟨by decide, fun va w => absurd w (by decide)⟩
