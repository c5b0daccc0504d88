/-! c2: a RUN: when he goes out -/
theorem chF_lst {c : Nat → Bool} {j : Nat} (hj : c j = true) : ∀ k p, p ≤ j → j < p + k → (∀ i, p ≤ i → i < j → c i = false) → chF c k p = j
  | 0, p, h1, h2, _ => by omega
  | k + 1, p, h1, h2, h3 => by
    unfold chF
    by_cases e : p = j
    · rw [e, if_pos hj]
    · rw [h3 p (Nat.le_refl _) (by omega), if_neg (by decide)]
      exact chF_lst hj k (p + 1) (by omega) (by omega) (fun i a b => h3 i (by omega) b)
theorem ctF_s (ou : Nat → Int) (t : Int) (k : Nat) : ctF ou t (k + 1) = if ou k = t then ctF ou t k + 1 else ctF ou t k := rfl
def csF (ou : Nat → Int) (t : Int) (oc k : Nat) : Int := fo k (fun i a => a + ctF ou (t + (i : Int)) oc) 0
theorem csF_s (ou : Nat → Int) (t : Int) (oc k : Nat) : csF ou t oc (k + 1) = csF ou t oc k + ctF ou (t + (k : Int)) oc := rfl
theorem cs_add {ou : Nat → Int} {t : Int} {oc : Nat} : ∀ k, csF ou t (oc + 1) k = csF ou t oc k + if t ≤ ou oc ∧ ou oc < t + (k : Int) then 1 else 0
  | 0 => by
    rw [if_neg (by omega)]
    rfl
  | k + 1 => by
    rw [csF_s, csF_s, cs_add k, ctF_s]
    by_cases e : ou oc = t + (k : Int)
    · rw [if_pos e, if_neg (show ¬ (t ≤ ou oc ∧ ou oc < t + (k : Int)) by omega), if_pos (show t ≤ ou oc ∧ ou oc < t + ((k + 1 : Nat) : Int) by omega)]
      omega
    · rw [if_neg e]
      by_cases c : t ≤ ou oc ∧ ou oc < t + (k : Int)
      · rw [if_pos c, if_pos (show t ≤ ou oc ∧ ou oc < t + ((k + 1 : Nat) : Int) by omega)]
        omega
      · rw [if_neg c, if_neg (show ¬ (t ≤ ou oc ∧ ou oc < t + ((k + 1 : Nat) : Int)) by omega)]
        omega
theorem cs_le {ou : Nat → Int} {t : Int} {k : Nat} : ∀ oc, csF ou t oc k ≤ oc
  | 0 => by
    have : ∀ k, csF ou t 0 k = 0 := by
      intro k
      induction k with
      | zero => rfl
      | succ k ih =>
        rw [csF_s, ih]
        rfl
    rw [this]
    exact Int.le_refl _
  | oc + 1 => by
    have := cs_le (ou := ou) (t := t) (k := k) oc
    rw [cs_add]
    split <;> omega
theorem cs_ge {ou : Nat → Int} {t : Int} {oc : Nat} : ∀ k, (∀ i, i < k → 1 ≤ ctF ou (t + ((i : Nat) : Int)) oc) → (k : Int) ≤ csF ou t oc k
  | 0, _ => Int.le_refl _
  | k + 1, h => by
    have := cs_ge k (fun i hi => h i (by omega))
    have := h k (by omega)
    rw [csF_s]
    omega
/-- both find the same MINUTE -/
theorem out_same {ou oi : Nat → Int} {oc E : Nat} {sta : Int} (hoc : oc ≤ 10) (hE : E + 20 ≤ 5000) (hs : 1 ≤ sta) (hoi : ∀ e, e < 5000 → oi e = ctF ou ((e : Nat) : Int) oc ∧ ctF ou ((e : Nat) : Int) oc ≤ sta) : ∃ j, j ≤ oc ∧ ouF ou oc sta ((E : Nat) : Int) = ((E + j : Nat) : Int) ∧ eoF oi sta E = E + j ∧ ctF ou ((E + j : Nat) : Int) oc < sta := by
  have hj : chF (ouC ou oc sta ((E : Nat) : Int)) (oc + 1) 0 ≤ oc := by
    rcases Nat.lt_or_ge oc (chF (ouC ou oc sta ((E : Nat) : Int)) (oc + 1) 0) with w | w
    · exfalso
      have hall : ∀ i, i < oc + 1 → 1 ≤ ctF ou (((E : Nat) : Int) + ((i : Nat) : Int)) oc := fun i hi => by
        have := chF_no (ouC ou oc sta ((E : Nat) : Int)) (oc + 1) 0 i (Nat.zero_le _) (by omega)
        have := of_decide_eq_false this
        omega
      have h1 := cs_ge (oc + 1) hall
      have h2 := cs_le (ou := ou) (t := ((E : Nat) : Int)) (k := oc + 1) oc
      omega
    · exact w
  obtain ⟨j, hje⟩ : ∃ j, chF (ouC ou oc sta ((E : Nat) : Int)) (oc + 1) 0 = j := ⟨_, rfl⟩
  have hat := chF_at (ouC ou oc sta ((E : Nat) : Int)) (oc + 1) 0 (by omega)
  have hno := chF_no (ouC ou oc sta ((E : Nat) : Int)) (oc + 1) 0
  rw [hje] at hj hat hno
  have hat2 := of_decide_eq_true hat
  have ec : ∀ i : Nat, ((E : Nat) : Int) + ((i : Nat) : Int) = ((E + i : Nat) : Int) := fun i => by omega
  rw [ec] at hat2
  refine ⟨j, hj, ?_, ?_, hat2⟩
  · unfold ouF
    rw [hje, if_pos hj]
    omega
  · unfold eoF
    refine chF_lst ?_ 400 E (by omega) (by omega) (fun i h1 h2 => ?_)
    · rw [(hoi (E + j) (by omega)).1]
      exact decide_eq_true (by omega)
    · have h3 := hno (i - E) (Nat.zero_le _) (by omega)
      have h4 := of_decide_eq_false h3
      rw [ec, show E + (i - E) = i by omega] at h4
      have h5 := hoi i (by omega)
      exact decide_eq_false (by omega)
theorem ctF_up {ou : Nat → Int} {oc : Nat} {e x : Int} : ∀ k, k ≤ oc → ctF (upF ou oc e) x k = ctF ou x k
  | 0, _ => rfl
  | k + 1, hk => by
    rw [ctF_s, ctF_s, ctF_up k (by omega), upF_n _ _ (by omega)]
theorem enF_up {ou : Nat → Int} {oc : Nat} {e : Int} : ∀ k, k ≤ oc → enF (upF ou oc e) k = enF ou k
  | 0, _ => rfl
  | k + 1, hk => by
    show (if enF (upF ou oc e) k < upF ou oc e k then upF ou oc e k else enF (upF ou oc e) k) = if enF ou k < ou k then ou k else enF ou k
    rw [enF_up k (by omega), upF_n _ _ (by omega)]
