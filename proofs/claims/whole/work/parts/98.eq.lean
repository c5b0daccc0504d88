/-! 98: both readers, number by number -/
/-- the model's reader at a place -/
def tkM (tx : Nat → Int) (len q : Nat) (dr : Int) : MS := (nxE tx len q, nxS tx len q, nkM tx len q, nvM tx len q, -9, dr)
/-- the class's reader has still to take the TOKEN at which the model's stands -/
def Z1 (tx : Nat → Int) (len : Nat) (dr : Int) (R : RS) (S : MS) : Prop := (R.2.2.2.2 = -1 ∧ S = tkM tx len R.1 dr) ∨ (R.2.2.2.2 ≠ -1 ∧ 0 ≤ R.2.2.2.2 ∧ S.2.2.2.2.1 = R.2.2.2.2)
/-- both stand at the TOKEN -/
def Z0 (tx : Nat → Int) (len : Nat) (dr : Int) (R : RS) (S : MS) : Prop := (R.2.2.2.2 = -1 ∧ ∃ p, R.1 = nxE tx len p ∧ R.2.1 = nxS tx len p ∧ R.2.2.1 = nxK tx len p ∧ S = tkM tx len p dr) ∨ (R.2.2.2.2 ≠ -1 ∧ 0 ≤ R.2.2.2.2 ∧ S.2.2.2.2.1 = R.2.2.2.2)
section ZZ
variable {tx : Nat → Int} {len : Nat} {dr dr' lo hi : Int} {R : RS} {S : MS}
theorem Z1.fault (h : Z1 tx len dr R S) (hf : R.2.2.2.2 ≠ -1) : Z1 tx len dr' R S := Or.inr ((h.resolve_left fun w => hf w.1))
theorem Z0.fault (h : Z0 tx len dr R S) (hf : R.2.2.2.2 ≠ -1) : Z0 tx len dr' R S := Or.inr ((h.resolve_left fun w => hf w.1))
theorem nxR_k : (nxR tx len R).2.2.2.2 = R.2.2.2.2 := rfl
theorem rfR_k (hf : R.2.2.2.2 ≠ -1) : (rfR R).2.2.2.2 = R.2.2.2.2 := if_neg hf
theorem rfR_s (hf : R.2.2.2.2 = -1) : (rfR R).2.2.2.2 = (R.2.1 : Int) := if_pos hf
theorem nmR_k (hf : R.2.2.2.2 ≠ -1) : (nmR tx len lo hi R).2.2.2.2 = R.2.2.2.2 := by
  unfold nmR
  split
  · rfl
  · exact rfR_k hf
theorem duR_k {is : Bool} (hf : S.2.2.2.2.1 ≠ -9) : duR tx len is S = S := if_neg hf
theorem mapK_7 {x : Int} (h : mapK x = 7) : x = 2 := by
  unfold mapK at h
  (repeat' split at h) <;> omega
theorem mapK_8 {x : Int} : mapK x = 8 ↔ x = 1 := by
  unfold mapK
  (repeat' split) <;> omega
theorem mapK_3 {x : Int} : mapK x = 3 ↔ x = 6 := by
  unfold mapK
  (repeat' split) <;> omega
theorem nmB_t (h : nmB tx len lo hi R = true) : nxK tx len R.1 = 2 := by
  unfold nmB at h
  rw [Bool.and_eq_true, decide_eq_true_eq] at h
  exact h.1
/-- a NUMBER -/
theorem Z1_nm (h : Z1 tx len dr R S) : Z1 tx len dr (nmR tx len lo hi R) (nuR tx len lo hi S) ∧ ((nmR tx len lo hi R).2.2.2.2 = -1 → nmV tx len lo hi R = S.2.2.2.1) := by
  rcases h with ⟨hf, rfl⟩ | ⟨hf, h0, h1⟩
  · obtain ⟨t1, t2⟩ := tok_same tx len R.1
    have hb : nuB lo hi (tkM tx len R.1 dr) = nmB tx len lo hi R := by
      unfold nuB nmB
      show (decide (nkM tx len R.1 = 7) && decide (lo ≤ nvM tx len R.1 ∧ nvM tx len R.1 ≤ hi)) = (decide (nxK tx len R.1 = 2) && (decide (lo ≤ nxV tx len R.1 R.2.2.2.1) && decide (nxV tx len R.1 R.2.2.2.1 ≤ hi)))
      by_cases e : nxK tx len R.1 = 2
      · have e2 : nkM tx len R.1 = 7 := by rw [t1, e]; decide
        rw [t2 _ e, e, e2, Bool.eq_iff_iff]
        simp only [Bool.and_eq_true, decide_eq_true_eq]
      · have e2 : nkM tx len R.1 ≠ 7 := fun w => e (mapK_7 (t1 ▸ w))
        rw [decide_eq_false e, decide_eq_false e2]
        rfl
    unfold nuR nmV nmR
    by_cases c : nmB tx len lo hi R = true
    · rw [hb, c]
      rw [if_pos rfl, if_pos rfl]
      refine ⟨Or.inl ⟨hf, ?_⟩, fun _ => ?_⟩
      · exact duR_t (tx := tx) (len := len) (R := tkM tx len R.1 dr) rfl
      · have := nmB_t c
        exact t2 _ this
    · rw [hb, Bool.eq_false_iff.mpr c]
      rw [if_neg (by decide), if_neg (by decide)]
      have hfs : (rfR (nxR tx len R)).2.2.2.2 = ((nxS tx len R.1 : Nat) : Int) := rfR_s (R := nxR tx len R) hf
      refine ⟨Or.inr ⟨by rw [hfs]; omega, by rw [hfs]; omega, ?_⟩, fun w => ?_⟩
      · rw [hfs]
        rfl
      · rw [hfs] at w
        omega
  · refine ⟨Or.inr ?_, fun w => absurd ((nmR_k (tx := tx) (len := len) (lo := lo) (hi := hi) hf).symm.trans w) hf⟩
    rw [nmR_k hf]
    refine ⟨hf, h0, ?_⟩
    show (duR tx len _ S).2.2.2.2.1 = _
    rw [duR_k (by omega)]
    exact h1
theorem Z1_nx (h : Z1 tx len dr R S) : Z0 tx len dr (nxR tx len R) S := by
  rcases h with ⟨hf, rfl⟩ | ⟨hf, h0, h1⟩
  · exact Or.inl ⟨hf, R.1, rfl, rfl, rfl, rfl⟩
  · exact Or.inr ⟨hf, h0, h1⟩
/-- both go on from the TOKEN, or refuse it -/
theorem Z0_go (h : Z0 tx len dr R S) : Z1 tx len dr R (duR tx len true S) := by
  rcases h with ⟨hf, p, e1, e2, e3, rfl⟩ | ⟨hf, h0, h1⟩
  · refine Or.inl ⟨hf, ?_⟩
    rw [e1]
    exact duR_t (tx := tx) (len := len) (R := tkM tx len p dr) rfl
  · rw [duR_k (by omega)]
    exact Or.inr ⟨hf, h0, h1⟩
theorem Z0_no {R' : RS} (h : Z0 tx len dr R S) (hR : R'.2.2.2.2 = (rfR R).2.2.2.2) : R'.2.2.2.2 ≠ -1 ∧ 0 ≤ R'.2.2.2.2 ∧ (duR tx len false S).2.2.2.2.1 = R'.2.2.2.2 := by
  rw [hR]
  rcases h with ⟨hf, p, e1, e2, e3, rfl⟩ | ⟨hf, h0, h1⟩
  · rw [rfR_s hf, e2]
    exact ⟨by omega, by omega, rfl⟩
  · rw [rfR_k hf, duR_k (by omega)]
    exact ⟨hf, h0, h1⟩
end ZZ
