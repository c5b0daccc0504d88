/-! 29: sets; how many times to go; earliest due date first -/
def Sub (p q : Nat) : Prop := ∀ i, p.testBit i = true → q.testBit i = true
theorem Sub.rf (p : Nat) : Sub p p := fun _ h => h
theorem Sub.tr {p q r : Nat} (h1 : Sub p q) (h2 : Sub q r) : Sub p r := fun i h => h2 i (h1 i h)
theorem Sub.dif (a b : Nat) : Sub (nDif a b) a := fun i h => by rw [nDif_bit] at h; simp at h; exact h.1
theorem Sub.zero (a : Nat) : Sub 0 a := fun i h => by simp at h
theorem Sub.le {p q : Nat} (h : Sub p q) : p ≤ q := Nat.le_of_testBit h
theorem Sub.anti {p q : Nat} (h1 : Sub p q) (h2 : Sub q p) : p = q := by
  apply Nat.eq_of_testBit_eq
  intro i
  cases hp : p.testBit i <;> cases hq : q.testBit i <;> first | rfl | (have := h1 i hp; rw [hq] at this; cases this) | (have := h2 i hq; rw [hp] at this; cases this)
theorem bit_ex {p : Nat} (h : p ≠ 0) : ∃ i, p.testBit i = true := by
  apply Classical.byContradiction
  intro hn
  exact h (Nat.eq_of_testBit_eq (fun i => by
    cases e : p.testBit i
    · simp
    · exact absurd ⟨i, e⟩ hn))
/-- the lowest of a set -/
def Low (q i : Nat) : Prop := q.testBit i = true ∧ ∀ j, j < i → q.testBit j = false
theorem low_ex {q : Nat} (h : q ≠ 0) : ∃ i, Low q i := by
  obtain ⟨i, h1, h2⟩ := pk_least (fun i => q.testBit i = true) (bit_ex h)
  exact ⟨i, h1, fun j hj => by
    cases e : q.testBit j
    · rfl
    · exact absurd e (h2 j hj)⟩
theorem dif_comm (a p q : Nat) : nDif (nDif a p) q = nDif (nDif a q) p := by
  apply Nat.eq_of_testBit_eq
  intro i
  simp only [nDif_bit]
  cases a.testBit i <;> cases p.testBit i <;> cases q.testBit i <;> rfl
theorem dif_lt {q Q : Nat} (h : Sub q Q) (hq : q ≠ 0) : nDif Q q < Q := by
  have h1 := nDif_le Q q
  rcases Nat.lt_or_ge (nDif Q q) Q with h2 | h2
  · exact h2
  · exfalso
    have e : nDif Q q = Q := by omega
    obtain ⟨i, hi⟩ := bit_ex hq
    have h3 := h i hi
    have h4 := nDif_bit Q q i
    rw [e, h3, hi] at h4
    cases h4
theorem sub_dif {p q Q : Nat} (h : Sub p Q) (hd : ∀ i, p.testBit i = true → q.testBit i = false) : Sub p (nDif Q q) := fun i hi => by rw [nDif_bit, h i hi, hd i hi]; rfl
theorem sub_dif2 {p q : Nat} (h : Sub p q) (r : Nat) : Sub (nDif p r) (nDif q r) := fun i hi => by
  rw [nDif_bit] at hi ⊢
  simp only [Bool.and_eq_true] at hi ⊢
  exact ⟨h i hi.1, hi.2⟩
theorem and_sub1 (a b : Nat) : Sub (a &&& b) a := fun i h => by rw [Nat.testBit_and] at h; simp at h; exact h.1
theorem and_sub2 (a b : Nat) : Sub (a &&& b) b := fun i h => by rw [Nat.testBit_and] at h; simp at h; exact h.2
theorem sub_and {p a b : Nat} (h1 : Sub p a) (h2 : Sub p b) : Sub p (a &&& b) := fun i h => by rw [Nat.testBit_and, h1 i h, h2 i h]; rfl
section TR
variable {tr : Nat → Nat} {wt : Nat → Int} {L : Int} {sr : Nat → Prop}
/-- what trips[] is: the lowest BUNDLE goes with the first load -/
def TrC (tr : Nat → Nat) (wt : Nat → Int) (L : Int) (sr : Nat → Prop) : Prop :=
  tr 0 = 0 ∧ (∀ Q, sr Q → tr Q ≤ 100) ∧
  (∀ Q p i, sr Q → Low Q i → Sub p Q → p.testBit i = true → wt p ≤ L → tr Q ≤ 1 + tr (nDif Q p)) ∧
  (∀ Q i, sr Q → Low Q i → tr Q = 100 ∨ ∃ p, Sub p Q ∧ p.testBit i = true ∧ wt p ≤ L ∧ tr Q = 1 + tr (nDif Q p))
theorem tr_any (hT : TrC tr wt L sr) (hs : ∀ p q, Sub p q → sr q → sr p) : ∀ m Q p, Q ≤ m → sr Q → Sub p Q → p ≠ 0 → wt p ≤ L → tr Q ≤ 1 + tr (nDif Q p) := by
  obtain ⟨h0, h3, h1, h2⟩ := hT
  intro m
  induction m with
  | zero =>
    intro Q p hm hQ hp hp0 hw
    exact absurd (Nat.le_zero.mp (Nat.le_trans hp.le hm)) hp0
  | succ m ih =>
    intro Q p hm hQ hp hp0 hw
    have hQ0 : Q ≠ 0 := fun e => hp0 (Nat.le_zero.mp (by rw [← e]; exact hp.le))
    obtain ⟨i, hi⟩ := low_ex hQ0
    have hQ3 := h3 Q hQ
    by_cases hpi : p.testBit i = true
    · exact h1 Q p i hQ hi hp hpi hw
    · have hR : Low (nDif Q p) i := by
        refine ⟨by rw [nDif_bit, hi.1]; simpa using hpi, fun j hj => by rw [nDif_bit, hi.2 j hj]; rfl⟩
      have hsR : sr (nDif Q p) := hs _ _ (Sub.dif Q p) hQ
      rcases h2 (nDif Q p) i hsR hR with h4 | ⟨q, h4, h5, h6, h7⟩
      · omega
      · have hqQ : Sub q Q := h4.tr (Sub.dif Q p)
        have hq0 : q ≠ 0 := fun e => by rw [e] at h5; simp at h5
        have h8 := h1 Q q i hQ hi hqQ h5 h6
        have hpd : Sub p (nDif Q q) := sub_dif hp (fun j hj => by
          cases e : q.testBit j
          · rfl
          · have := h4 j e
            rw [nDif_bit, hj] at this
            simp at this)
        have hlt := dif_lt hqQ hq0
        have h9 := ih (nDif Q q) p (by omega) (hs _ _ (Sub.dif Q q) hQ) hpd hp0 hw
        rw [dif_comm Q q p] at h9
        omega
theorem tr_mono (hT : TrC tr wt L sr) (hs : ∀ p q, Sub p q → sr q → sr p) (hw : ∀ p q, Sub p q → wt p ≤ wt q) : ∀ m Q p, Q ≤ m → sr Q → Sub p Q → tr p ≤ tr Q := by
  intro m
  induction m with
  | zero =>
    intro Q p hm hQ hp
    have e : p = 0 := Nat.le_zero.mp (Nat.le_trans hp.le hm)
    rw [e, hT.1]; exact Nat.zero_le _
  | succ m ih =>
    intro Q p hm hQ hp
    by_cases hp0 : p = 0
    · rw [hp0, hT.1]; exact Nat.zero_le _
    · have hQ0 : Q ≠ 0 := fun e => hp0 (Nat.le_zero.mp (by rw [← e]; exact hp.le))
      obtain ⟨i, hi⟩ := low_ex hQ0
      have hsp := hs _ _ hp hQ
      rcases hT.2.2.2 Q i hQ hi with h4 | ⟨q, h4, h5, h6, h7⟩
      · have := hT.2.1 p hsp; omega
      · have hq0 : q ≠ 0 := fun e => by rw [e] at h5; simp at h5
        have hlt := dif_lt h4 hq0
        have h8 := ih (nDif Q q) (nDif p q) (by omega) (hs _ _ (Sub.dif Q q) hQ) (sub_dif2 hp q)
        by_cases hpq : p &&& q = 0
        · have e : nDif p q = p := by unfold nDif; rw [hpq]; simp
          rw [e] at h8; omega
        · have h9 := tr_any hT hs p p (p &&& q) (Nat.le_refl _) hsp (and_sub1 p q) hpq (Int.le_trans (hw _ _ (and_sub2 p q)) h6)
          have e : nDif p (p &&& q) = nDif p q := by
            apply Nat.eq_of_testBit_eq
            intro j
            rw [nDif_bit, nDif_bit, Nat.testBit_and]
            cases p.testBit j <;> cases q.testBit j <;> rfl
          rw [e] at h9; omega
end TR
section SC
variable {n : Nat} {od ir : Nat → Nat} {fa due : Nat → Int} {tr : Nat → Nat} {wt : Nat → Int} {L : Int}
/-- the time that a set's part in a ROOM takes -/
def tmR (ir : Nat → Nat) (fa : Nat → Int) (tr : Nat → Nat) (S r : Nat) : Int := if S &&& ir r = 0 then 0 else tr (S &&& ir r) * (2 * fa r)
def pfx (od ir : Nat → Nat) (fa : Nat → Int) (tr : Nat → Nat) (S k : Nat) : Int := fo k (fun j s => s + tmR ir fa tr S (od j)) 0
theorem pfx_s (S k : Nat) : pfx od ir fa tr S (k + 1) = pfx od ir fa tr S k + tmR ir fa tr S (od k) := rfl
/-- all of a set can be brought, from minute t -/
def canS (n : Nat) (od ir : Nat → Nat) (fa due : Nat → Int) (tr : Nat → Nat) (t : Int) (S : Nat) : Prop :=
  ∀ i, i < n → S &&& ir (od i) ≠ 0 → fa (od i) ≠ -9 ∧ tr (S &&& ir (od i)) < 100 ∧ t + pfx od ir fa tr S (i + 1) ≤ due (od i)
/-- finish(): from place i on, with k places left -/
def finR (od ir : Nat → Nat) (fa due : Nat → Int) (tr : Nat → Nat) (S : Nat) : Nat → Nat → Int → Int
  | 0, _, m => m
  | k + 1, i, m => if S &&& ir (od i) = 0 then finR od ir fa due tr S k (i + 1) m
    else if fa (od i) = -9 ∨ 100 ≤ tr (S &&& ir (od i)) then -9
    else if due (od i) < m + tr (S &&& ir (od i)) * (2 * fa (od i)) then -9
    else finR od ir fa due tr S k (i + 1) (m + tr (S &&& ir (od i)) * (2 * fa (od i)))
theorem finR_e (t : Int) (S : Nat) : ∀ k i, i + k = n → (∀ j, j < i → S &&& ir (od j) ≠ 0 → fa (od j) ≠ -9 ∧ tr (S &&& ir (od j)) < 100 ∧ t + pfx od ir fa tr S (j + 1) ≤ due (od j)) →
    (canS n od ir fa due tr t S → finR od ir fa due tr S k i (t + pfx od ir fa tr S i) = t + pfx od ir fa tr S n) ∧ (¬ canS n od ir fa due tr t S → finR od ir fa due tr S k i (t + pfx od ir fa tr S i) = -9)
  | 0, i, hi, hb => by
    have e : i = n := by omega
    subst e
    exact ⟨fun _ => rfl, fun h => absurd hb h⟩
  | k + 1, i, hi, hb => by
    have hstep : t + pfx od ir fa tr S (i + 1) = t + pfx od ir fa tr S i + tmR ir fa tr S (od i) := by rw [pfx_s]; omega
    by_cases e0 : S &&& ir (od i) = 0
    · have e1 : t + pfx od ir fa tr S (i + 1) = t + pfx od ir fa tr S i := by rw [hstep]; unfold tmR; rw [if_pos e0]; omega
      have ih := finR_e t S k (i + 1) (by omega) (fun j hj h0 => by
        by_cases e : j = i
        · subst e; exact absurd e0 h0
        · exact hb j (by omega) h0)
      rw [e1] at ih
      have e2 : finR od ir fa due tr S (k + 1) i (t + pfx od ir fa tr S i) = finR od ir fa due tr S k (i + 1) (t + pfx od ir fa tr S i) := by
        rw [finR, if_pos e0]
      rw [e2]
      exact ih
    · have e1 : t + pfx od ir fa tr S (i + 1) = t + pfx od ir fa tr S i + tr (S &&& ir (od i)) * (2 * fa (od i)) := by rw [hstep]; unfold tmR; rw [if_neg e0]
      by_cases e3 : fa (od i) = -9 ∨ 100 ≤ tr (S &&& ir (od i))
      · refine ⟨fun hc => ?_, fun _ => by rw [finR, if_neg e0, if_pos e3]⟩
        have := hc i (by omega) e0
        omega
      · by_cases e4 : due (od i) < t + pfx od ir fa tr S i + tr (S &&& ir (od i)) * (2 * fa (od i))
        · refine ⟨fun hc => ?_, fun _ => by rw [finR, if_neg e0, if_neg e3, if_pos e4]⟩
          have := hc i (by omega) e0
          rw [e1] at this
          omega
        · have ih := finR_e t S k (i + 1) (by omega) (fun j hj h0 => by
            by_cases e : j = i
            · subst e; exact ⟨by omega, by omega, by omega⟩
            · exact hb j (by omega) h0)
          rw [e1] at ih
          rw [finR, if_neg e0, if_neg e3, if_neg e4]
          exact ih
end SC
