/-! 63: what a text without a fault tells; CarryFirst.house -/
def HoVH (H : HS) : Prop := HoV H.1.1 H.1.2.1 H.1.2.2.1 H.1.2.2.2.1 H.1.2.2.2.2.1 H.1.2.2.2.2.2 H.2.1 H.2.2.1 H.2.2.2.1 H.2.2.2.2
def HsI (i : Nat) (H : HS) : Prop := HoVH H ∧ (i = 0 → H.1.2 = (0, 0, 0, 0, 0))
theorem rfR_f (R : RS) : (rfR R).2.2.2.2 ≠ -1 := by
  show (if R.2.2.2.2 = -1 then (R.2.1 : Int) else R.2.2.2.2) ≠ -1
  split <;> omega
theorem nmR_f {tx : Nat → Int} {len : Nat} {lo hi : Int} {R : RS} (h : (nmR tx len lo hi R).2.2.2.2 = -1) : nmB tx len lo hi R = true ∧ R.2.2.2.2 = -1 := by
  unfold nmR at h
  split at h
  · exact ⟨by assumption, h⟩
  · exact absurd h (rfR_f _)
theorem nmV_t {tx : Nat → Int} {len : Nat} {lo hi : Int} {R : RS} (h : (nmR tx len lo hi R).2.2.2.2 = -1) : lo ≤ nmV tx len lo hi R ∧ nmV tx len lo hi R ≤ hi := by
  have := (nmR_f h).1
  unfold nmV
  rw [if_pos this]
  simp only [nmB, Bool.and_eq_true, decide_eq_true_eq] at this
  exact this.2
theorem itA_f {R : RS} {i : Nat} (h : (itA R i).2.2.2.2 = -1) : itA R i = R ∧ (R.2.2.1 = 4 ↔ i = 0) := by
  unfold itA at h ⊢
  split at h
  · rename_i e; rw [if_pos e]; exact ⟨rfl, e⟩
  · exact absurd h (rfR_f _)
theorem itC_f {tx : Nat → Int} {len : Nat} {R : RS} (h : (itC tx len R).2.2.2.2 = -1) : R.2.2.2.2 = -1 ∧ R.2.2.1 = 1 := by
  unfold itC at h
  split at h
  · exact ⟨h, by assumption⟩
  · exact absurd h (rfR_f R)
theorem wR3_f {tx : Nat → Int} {len n : Nat} {R : RS} (h : (wR3 tx len n R).2.2.2.2 = -1) : wVb tx len n R ≠ wVa tx len n R ∧ (wR2 tx len n R).2.2.2.2 = -1 := by
  unfold wR3 at h
  split at h
  · exact absurd h (rfR_f _)
  · exact ⟨by assumption, h⟩
theorem wR6_f {tx : Nat → Int} {len n D : Nat} {R : RS} (h : (wR6 tx len n R D).2.2.2.2 = -1) : ¬ 6 ≤ popN D ∧ (wR5 tx len n R).2.2.2.2 = -1 := by
  unfold wR6 at h
  split at h
  · exact absurd h (rfR_f _)
  · exact ⟨by assumption, h⟩
theorem wyR_f {tx : Nat → Int} {len : Nat} {R : RS} {H : HS} (h : (wyR tx len R H).2.2.2.2 = -1) : H.1.2.1 < 12 ∧ R.2.2.2.2 = -1 ∧ (wR5 tx len H.1.1 R).2.2.2.2 = -1 ∧ ((wR5 tx len H.1.1 R).2.2.1 = 6 → ¬ 6 ≤ popN H.1.2.2.2.2.2) ∧ wVb tx len H.1.1 R ≠ wVa tx len H.1.1 R ∧ (0 ≤ wVa tx len H.1.1 R ∧ wVa tx len H.1.1 R ≤ (H.1.1 : Int) - 1) ∧ (0 ≤ wVb tx len H.1.1 R ∧ wVb tx len H.1.1 R ≤ (H.1.1 : Int) - 1) ∧ (1 ≤ wVc tx len H.1.1 R ∧ wVc tx len H.1.1 R ≤ 30) := by
  unfold wyR at h
  have key : (wR5 tx len H.1.1 R).2.2.2.2 = -1 → R.2.2.2.2 = -1 ∧ wVb tx len H.1.1 R ≠ wVa tx len H.1.1 R ∧ (0 ≤ wVa tx len H.1.1 R ∧ wVa tx len H.1.1 R ≤ (H.1.1 : Int) - 1) ∧ (0 ≤ wVb tx len H.1.1 R ∧ wVb tx len H.1.1 R ≤ (H.1.1 : Int) - 1) ∧ (1 ≤ wVc tx len H.1.1 R ∧ wVc tx len H.1.1 R ≤ 30) := by
    intro h5
    have h4 : (wR4 tx len H.1.1 R).2.2.2.2 = -1 := h5
    have c3 := nmV_t h4
    have h3 := wR3_f (nmR_f h4).2
    have c2 := nmV_t (h3.2 : (nmR tx len 0 ((H.1.1 : Int) - 1) (wR1 tx len H.1.1 R)).2.2.2.2 = -1)
    have h1 : (nmR tx len 0 ((H.1.1 : Int) - 1) R).2.2.2.2 = -1 := (nmR_f h3.2).2
    have c1 := nmV_t h1
    exact ⟨(nmR_f h1).2, h3.1, c1, c2, c3⟩
  split at h
  · exact absurd h (rfR_f _)
  · rename_i e
    split at h
    · have h6 := wR6_f (h : (wR6 tx len H.1.1 R H.1.2.2.2.2.2).2.2.2.2 = -1)
      have := key h6.2
      exact ⟨by omega, this.1, h6.2, fun _ => h6.1, this.2⟩
    · rename_i e2
      have := key h
      exact ⟨by omega, this.1, h, fun w => absurd w e2, this.2⟩
theorem buR_f {tx : Nat → Int} {len : Nat} {R : RS} {H : HS} (h : (buR tx len R H).2.2.2.2 = -1) : H.1.2.2.1 < 10 ∧ R.2.2.2.2 = -1 ∧ (0 ≤ bV1 tx len H.1.1 R ∧ bV1 tx len H.1.1 R ≤ (H.1.1 : Int) - 1) ∧ (1 ≤ bV2 tx len H.1.1 R ∧ bV2 tx len H.1.1 R ≤ 99) ∧ (0 ≤ bV3 tx len H.1.1 R ∧ bV3 tx len H.1.1 R ≤ 99) ∧ (0 ≤ bV4 tx len H.1.1 R ∧ bV4 tx len H.1.1 R ≤ 10) := by
  unfold buR at h
  split at h
  · exact absurd h (rfR_f _)
  · have h4 : (nmR tx len 0 10 (bR3 tx len H.1.1 R)).2.2.2.2 = -1 := h
    have h3 : (nmR tx len 0 99 (bR2 tx len H.1.1 R)).2.2.2.2 = -1 := (nmR_f h4).2
    have h2 : (nmR tx len 1 99 (bR1 tx len H.1.1 R)).2.2.2.2 = -1 := (nmR_f h3).2
    have h1 : (nmR tx len 0 ((H.1.1 : Int) - 1) R).2.2.2.2 = -1 := (nmR_f h2).2
    exact ⟨by omega, (nmR_f h1).2, nmV_t h1, nmV_t h2, nmV_t h3, nmV_t h4⟩
theorem maR_f {tx : Nat → Int} {len : Nat} {R : RS} {H : HS} (h : (maR tx len R H).2.2.2.2 = -1) : H.1.2.2.2.1 < 3 ∧ R.2.2.2.2 = -1 ∧ (1 ≤ mV1 tx len R ∧ mV1 tx len R ≤ 99) := by
  unfold maR at h
  split at h
  · exact absurd h (rfR_f _)
  · have h1 : (nmR tx len 1 99 R).2.2.2.2 = -1 := h
    exact ⟨by omega, (nmR_f h1).2, nmV_t h1⟩
theorem fiR_f {tx : Nat → Int} {len : Nat} {R : RS} {H : HS} (h : (fiR tx len R H).2.2.2.2 = -1) : H.1.2.2.2.2.1 < 4 ∧ R.2.2.2.2 = -1 ∧ (0 ≤ bV1 tx len H.1.1 R ∧ bV1 tx len H.1.1 R ≤ (H.1.1 : Int) - 1) ∧ (0 ≤ fV2 tx len H.1.1 R ∧ fV2 tx len H.1.1 R ≤ 99) := by
  unfold fiR at h
  split at h
  · exact absurd h (rfR_f _)
  · have h2 : (nmR tx len 0 99 (bR1 tx len H.1.1 R)).2.2.2.2 = -1 := h
    have h1 : (nmR tx len 0 ((H.1.1 : Int) - 1) R).2.2.2.2 = -1 := (nmR_f h2).2
    exact ⟨by omega, (nmR_f h1).2, nmV_t h1, nmV_t h2⟩
theorem rmR_f {tx : Nat → Int} {len : Nat} {R : RS} (h : (rmR tx len R).2.2.2.2 = -1) : R.2.2.2.2 = -1 ∧ 1 ≤ nmV tx len 1 8 R ∧ nmV tx len 1 8 R ≤ 8 := by
  have h1 : (nmR tx len 1 8 R).2.2.2.2 = -1 := h
  exact ⟨(nmR_f h1).2, nmV_t h1⟩
theorem itB_f {tx : Nat → Int} {len : Nat} {R : RS} {H : HS} (h : (itB tx len R H).2.2.2.2 = -1) : R.2.2.2.2 = -1 := by
  unfold itB at h
  split at h
  · exact (rmR_f h).1
  · split at h
    · exact (wyR_f h).2.1
    · split at h
      · exact (buR_f h).2.1
      · split at h
        · exact (maR_f h).2.1
        · split at h
          · exact (fiR_f h).2.1
          · exact absurd h (rfR_f _)
theorem up4 (f : Nat → Int) (a b c e : Int) : upF (upF (upF (upF f 0 a) 1 b) 2 c) 3 e 0 = a ∧ upF (upF (upF (upF f 0 a) 1 b) 2 c) 3 e 1 = b ∧ upF (upF (upF (upF f 0 a) 1 b) 2 c) 3 e 2 = c ∧ upF (upF (upF (upF f 0 a) 1 b) 2 c) 3 e 3 = e := ⟨rfl, rfl, rfl, rfl⟩
theorem or_bit (D W w : Nat) : (D ||| 2 ^ W).testBit w = (D.testBit w || decide (W = w)) := by
  rw [Nat.testBit_or, Nat.testBit_two_pow]
theorem itH_V {tx : Nat → Int} {len i : Nat} {R : RS} {H : HS} (hI : HsI i H) (h4 : R.2.2.1 = 4 ↔ i = 0) (h : (itB tx len R H).2.2.2.2 = -1) : HsI (i + 1) (itH tx len R H) := by
  obtain ⟨⟨n, W, B, M, F, D⟩, wy, bu, ld, fi⟩ := H
  obtain ⟨hV, h0⟩ := hI
  unfold HoVH at hV
  dsimp only at hV h0
  obtain ⟨⟨v1, v2⟩, v3, v4, v5, v6, v7, v8, v9, v10, v11, v12⟩ := hV
  refine ⟨?_, fun e => by omega⟩
  unfold itB at h
  unfold itH HoVH
  by_cases e4 : R.2.2.1 = 4
  · rw [if_pos e4] at h ⊢
    have hz := h0 (h4.mp e4)
    simp only [Prod.mk.injEq] at hz
    obtain ⟨rfl, rfl, rfl, rfl, rfl⟩ := hz
    obtain ⟨_, c1, c2⟩ := rmR_f h
    unfold rmH
    dsimp only
    refine ⟨⟨by omega, by omega⟩, by omega, by omega, by omega, by omega, by omega, fun w hw => by omega, fun w hw => by simp at hw, fun w hw => by omega, fun w hw => by omega, fun w hw => by omega⟩
  rw [if_neg e4] at h ⊢
  by_cases e5 : R.2.2.1 = 5
  · rw [if_pos e5] at h ⊢
    obtain ⟨c1, c2, c3, c4, c5, ⟨c6, c7⟩, ⟨c8, c9⟩, c10, c11⟩ := wyR_f h
    dsimp only at c1 c3 c4 c5 c6 c7 c8 c9 c10 c11
    unfold wyH
    dsimp only
    rw [if_neg (by omega)]
    have hp : 2 ^ W < 2 ^ 12 := Nat.pow_lt_pow_right (by decide) c1
    by_cases e6 : (wR5 tx len n R).2.2.1 = 6
    · rw [if_pos e6]
      dsimp only
      refine ⟨⟨v1, v2⟩, by omega, v4, v5, v6, Nat.or_lt_two_pow (n := 12) v7 hp, fun w hw => ?_, fun w hw => ?_, v10, v11, v12⟩
      · by_cases e : w = W
        · subst e
          rw [rowU_s, or_bit]
          have hu := up4 (wy w) (wVa tx len n R) (wVb tx len n R) (wVc tx len n R) 0
          have e0 : upF (wRow tx len n R (wy w)) 3 1 0 = wVa tx len n R := rfl
          have e1 : upF (wRow tx len n R (wy w)) 3 1 1 = wVb tx len n R := rfl
          have e2 : upF (wRow tx len n R (wy w)) 3 1 2 = wVc tx len n R := rfl
          have e3 : upF (wRow tx len n R (wy w)) 3 1 3 = 1 := rfl
          rw [e0, e1, e2, e3]
          refine ⟨by omega, by omega, by omega, by omega, fun q => c5 q.symm, by omega, by omega, by simp⟩
        · rw [rowU_n _ _ e, or_bit]
          have hd : decide (W = w) = false := decide_eq_false (fun q => e q.symm)
          rw [hd, Bool.or_false]
          exact v8 w (by omega)
      · rw [or_bit] at hw
        by_cases e : W = w
        · omega
        · have hd : decide (W = w) = false := decide_eq_false e
          rw [hd, Bool.or_false] at hw
          have := v9 w hw
          omega
    · rw [if_neg e6]
      dsimp only
      refine ⟨⟨v1, v2⟩, by omega, v4, v5, v6, v7, fun w hw => ?_, fun w hw => by have := v9 w hw; omega, v10, v11, v12⟩
      by_cases e : w = W
      · subst e
        rw [rowU_s]
        have e0 : wRow tx len n R (wy w) 0 = wVa tx len n R := rfl
        have e1 : wRow tx len n R (wy w) 1 = wVb tx len n R := rfl
        have e2 : wRow tx len n R (wy w) 2 = wVc tx len n R := rfl
        have e3 : wRow tx len n R (wy w) 3 = 0 := rfl
        have hdb : D.testBit w = false := by
          cases q : D.testBit w
          · rfl
          · exact absurd (v9 w q) (by omega)
        rw [e0, e1, e2, e3, hdb]
        refine ⟨by omega, by omega, by omega, by omega, fun q => c5 q.symm, by omega, by omega, by simp⟩
      · rw [rowU_n _ _ e]
        exact v8 w (by omega)
  rw [if_neg e5] at h ⊢
  by_cases e7 : R.2.2.1 = 7
  · rw [if_pos e7] at h ⊢
    obtain ⟨c1, c2, ⟨c3, c4⟩, ⟨c5, c6⟩, ⟨c7, c8⟩, c9, c10⟩ := buR_f h
    dsimp only at c1 c3 c4 c5 c6 c7 c8 c9 c10
    unfold buH
    dsimp only
    rw [if_neg (by omega)]
    dsimp only
    refine ⟨⟨v1, v2⟩, v3, by omega, v5, v6, v7, v8, v9, fun b hb => ?_, v11, v12⟩
    by_cases e : b = B
    · subst e
      rw [rowU_s]
      have e0 : bRow tx len n R (bu b) 0 = bV1 tx len n R := rfl
      have e1 : bRow tx len n R (bu b) 1 = bV2 tx len n R := rfl
      have e2 : bRow tx len n R (bu b) 2 = bV3 tx len n R := rfl
      have e3 : bRow tx len n R (bu b) 3 = bV4 tx len n R := rfl
      rw [e0, e1, e2, e3]
      omega
    · rw [rowU_n _ _ e]
      exact v10 b (by omega)
  rw [if_neg e7] at h ⊢
  by_cases e8 : R.2.2.1 = 8
  · rw [if_pos e8] at h ⊢
    obtain ⟨c1, c2, c3, c4⟩ := maR_f h
    dsimp only at c1 c3 c4
    unfold maH
    dsimp only
    rw [if_neg (by omega)]
    dsimp only
    refine ⟨⟨v1, v2⟩, v3, v4, by omega, v6, v7, v8, v9, v10, fun m hm => ?_, v12⟩
    by_cases e : m = M
    · subst e
      rw [upF_s]
      omega
    · rw [upF_n _ _ e]
      exact v11 m (by omega)
  rw [if_neg e8] at h ⊢
  by_cases e9 : R.2.2.1 = 9
  · rw [if_pos e9] at h ⊢
    obtain ⟨c1, c2, ⟨c3, c4⟩, c5, c6⟩ := fiR_f h
    dsimp only at c1 c3 c4 c5 c6
    unfold fiH
    dsimp only
    rw [if_neg (by omega)]
    dsimp only
    refine ⟨⟨v1, v2⟩, v3, v4, v5, by omega, v7, v8, v9, v10, v11, fun f hf => ?_⟩
    by_cases e : f = F
    · subst e
      rw [rowU_s]
      have e0 : fRow tx len n R (fi f) 0 = bV1 tx len n R := rfl
      have e1 : fRow tx len n R (fi f) 1 = fV2 tx len n R := rfl
      rw [e0, e1]
      omega
    · rw [rowU_n _ _ e]
      exact v12 f (by omega)
  rw [if_neg e9] at h
  exact absurd h (rfR_f _)
theorem rdL_f {tx : Nat → Int} {len : Nat} : ∀ k i R H, (rdL tx len k i R H).2.1.2.2.2.2 = -1 → R.2.2.2.2 = -1
  | 0, i, R, H, h => h
  | k + 1, i, R, H, h => by
    unfold rdL at h
    split at h
    · exact h
    · rename_i e
      have := rdL_f k (i + 1) _ _ h
      apply Classical.byContradiction
      intro w
      exact e (Or.inr w)
theorem rdL_V {tx : Nat → Int} {len : Nat} : ∀ k i R H, HsI i H → (rdL tx len k i R H).2.1.2.2.2.2 = -1 → HoVH (rdL tx len k i R H).2.2
  | 0, i, R, H, hI, h => hI.1
  | k + 1, i, R, H, hI, h => by
    unfold rdL at h ⊢
    split at h
    · rename_i e; rw [if_pos e]; exact hI.1
    · rename_i e
      rw [if_neg e]
      have h1 := rdL_f k (i + 1) _ _ h
      have h2 := (itC_f h1).1
      have h3 := itA_f (itB_f h2)
      rw [h3.1] at h2
      have := itH_V hI h3.2 h2
      rw [h3.1] at h ⊢
      exact rdL_V k (i + 1) _ _ this h
theorem reF_V {tx : Nat → Int} {len : Nat} {R : RS} {H : HS} (h : (reF tx len R H).2.1.2.2.2.2 = -1) : HoVH (reF tx len R H).2.2 := by
  refine rdL_V _ _ _ _ ⟨?_, fun _ => rfl⟩ h
  show HoV 1 0 0 0 0 0 _ _ _ _
  exact ⟨⟨by omega, by omega⟩, by omega, by omega, by omega, by omega, by omega, fun w hw => by omega, fun w hw => by simp at hw, fun w hw => by omega, fun w hw => by omega, fun w hw => by omega⟩
