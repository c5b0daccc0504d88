/-! 96: TOKENS are the same in both -/
def mapK (x : Int) : Int := if x = 0 then 0 else if x = 1 then 8 else if x = 2 then 7 else if x = 4 then 1 else if x = 5 then 2 else if x = 6 then 3 else if x = 7 then 4 else if x = 8 then 5 else if x = 9 then 6 else 9
theorem alF_t {c : Nat → Bool} : ∀ k p, alF c k p = true ↔ ∀ i, p ≤ i → i < p + k → c i = true
  | 0, p => ⟨fun _ i h1 h2 => absurd h2 (by omega), fun _ => rfl⟩
  | k + 1, p => by
    show (c p && alF c k (p + 1)) = true ↔ _
    rw [Bool.and_eq_true, alF_t k (p + 1)]
    constructor
    · intro ⟨h1, h2⟩ i h3 h4
      by_cases e : i = p
      · rw [e]; exact h1
      · exact h2 i (by omega) (by omega)
    · intro h1
      exact ⟨h1 p (Nat.le_refl _) (by omega), fun i h3 h4 => h1 i (by omega) (by omega)⟩
theorem wdB_t {tx : Nat → Int} {s p i : Nat} : wdB tx s p i = true ↔ p - s = wLen i ∧ ∀ k, k < wLen i → tx (s + k) = wByt i k := by
  unfold wdB spB
  rw [Bool.and_eq_true, decide_eq_true_eq, alF_t]
  constructor
  · intro ⟨h1, h2⟩
    exact ⟨h1, fun k hk => of_decide_eq_true (h2 k (Nat.zero_le _) (by omega))⟩
  · intro ⟨h1, h2⟩
    exact ⟨h1, fun k _ hk => decide_eq_true (h2 k (by omega))⟩
def wcd (u : Nat → Int) (k : Nat) : Int := fo k (fun i c => 27 * c + u i - 96) 0
theorem wcd_0 {u : Nat → Int} : ∀ k, (∀ i, i < k → 97 ≤ u i ∧ u i ≤ 122) → 0 ≤ wcd u k
  | 0, _ => Int.le_refl _
  | k + 1, h => by
    have ih := wcd_0 k (fun i hi => h i (by omega))
    have h1 := h k (by omega)
    show 0 ≤ 27 * wcd u k + u k - 96
    omega
theorem cd_s (tx : Nat → Int) (S k : Nat) (hk : k < 6) : cdF tx S (k + 1) = 27 * cdF tx S k + tx (S + k) - 96 := by
  show (if k < 6 then 27 * cdF tx S k + tx (S + k) - 96 else 0) = _
  rw [if_pos hk]
theorem cd_eq {tx u : Nat → Int} {s : Nat} : ∀ n m, n ≤ 6 → (∀ i, i < n → 97 ≤ tx (s + i) ∧ tx (s + i) ≤ 122) → (∀ i, i < m → 97 ≤ u i ∧ u i ≤ 122) → (cdF tx s n = wcd u m ↔ n = m ∧ ∀ i, i < n → tx (s + i) = u i)
  | 0, 0, _, _, _ => ⟨fun _ => ⟨rfl, fun i hi => absurd hi (by omega)⟩, fun _ => rfl⟩
  | n + 1, 0, hn, ht, hu => by
    have h1 := (cdF_b n (fun i hi => ht i (by omega))).1
    have h2 := ht n (by omega)
    rw [cd_s _ _ _ (by omega)]
    refine ⟨fun w => ?_, fun w => absurd w.1 (by omega)⟩
    have w2 : 27 * cdF tx s n + tx (s + n) - 96 = 0 := w
    omega
  | 0, m + 1, hn, ht, hu => by
    have h1 := wcd_0 m (fun i hi => hu i (by omega))
    have h2 := hu m (by omega)
    refine ⟨fun w => ?_, fun w => absurd w.1 (by omega)⟩
    have w2 : 0 = 27 * wcd u m + u m - 96 := w
    omega
  | n + 1, m + 1, hn, ht, hu => by
    have ih := cd_eq n m (by omega) (fun i hi => ht i (by omega)) (fun i hi => hu i (by omega))
    have h2 := ht n (by omega)
    have h3 := hu m (by omega)
    rw [cd_s _ _ _ (by omega)]
    have e : wcd u (m + 1) = 27 * wcd u m + u m - 96 := rfl
    rw [e]
    have key : 27 * cdF tx s n + tx (s + n) - 96 = 27 * wcd u m + u m - 96 ↔ cdF tx s n = wcd u m ∧ tx (s + n) = u m := by
      generalize cdF tx s n = a
      generalize wcd u m = b
      generalize tx (s + n) = c at *
      generalize u m = e at *
      constructor
      · intro w
        have : a = b := by omega
        exact ⟨this, by omega⟩
      · intro w
        omega
    rw [key, ih]
    constructor
    · intro ⟨⟨w1, w2⟩, w3⟩
      subst w1
      refine ⟨rfl, fun i hi => ?_⟩
      by_cases ei : i = n
      · rw [ei]; exact w3
      · exact w2 i (by omega)
    · intro ⟨w1, w2⟩
      have w1 : n = m := by omega
      subst w1
      exact ⟨⟨rfl, fun i hi => w2 i (by omega)⟩, w2 n (by omega)⟩
theorem wb_l : ∀ i, i < 6 → ∀ k, k < wLen i → 97 ≤ wByt i k ∧ wByt i k ≤ 122 := by decide
theorem wd_same {tx : Nat → Int} {s p : Nat} (hs : s < p) (hl : ∀ i, i < p - s → 97 ≤ tx (s + i) ∧ tx (s + i) ≤ 122) : wkM (if 6 < p - s then 0 else cdF tx s (p - s)) = mapK (wdK tx s p) := by
  by_cases e : 6 < p - s
  · rw [if_pos e]
    have no : ∀ i, i < 6 → ¬ wdB tx s p i = true := fun i hi w => by
      have h1 := (wdB_t.mp w).1
      have h2 : ∀ i, i < 6 → wLen i ≤ 6 := by decide
      have := h2 i hi
      omega
    unfold wdK
    rw [if_neg (no 0 (by decide)), if_neg (no 1 (by decide)), if_neg (no 2 (by decide)), if_neg (no 3 (by decide)), if_neg (no 4 (by decide)), if_neg (no 5 (by decide))]
    decide
  · rw [if_neg e]
    have q : ∀ i, i < 6 → (cdF tx s (p - s) = wcd (wByt i) (wLen i) ↔ wdB tx s p i = true) := fun i hi => by
      rw [cd_eq (p - s) (wLen i) (by omega) hl (wb_l i hi), wdB_t]
      constructor
      · intro ⟨w1, w2⟩
        exact ⟨w1, fun k hk => w2 k (by omega)⟩
      · intro ⟨w1, w2⟩
        exact ⟨w1, fun k hk => w2 k (by omega)⟩
    have c0 : wcd (wByt 0) (wLen 0) = 9872488 := by decide
    have c1 : wcd (wByt 1) (wLen 1) = 16819 := by decide
    have c2 : wcd (wByt 2) (wLen 2) = 90090 := by decide
    have c3 : wcd (wByt 3) (wLen 3) = 40136882 := by decide
    have c4 : wcd (wByt 4) (wLen 4) = 9518 := by decide
    have c5 : wcd (wByt 5) (wLen 5) = 125150 := by decide
    have k0 := q 0 (by decide)
    have k1 := q 1 (by decide)
    have k2 := q 2 (by decide)
    have k3 := q 3 (by decide)
    have k4 := q 4 (by decide)
    have k5 := q 5 (by decide)
    rw [c0] at k0
    rw [c1] at k1
    rw [c2] at k2
    rw [c3] at k3
    rw [c4] at k4
    rw [c5] at k5
    unfold wkM wdK
    simp only [k0, k1, k2, k3, k4, k5]
    (repeat' split) <;> rfl
