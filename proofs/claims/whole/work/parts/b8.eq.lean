/-! b8: ALL: the class's rows -/
theorem saF_t {c : Nat → Bool} {s : Nat} : ∀ k p, Sub p s → saF c s k p = true → ∃ q, Sub q s ∧ c q = true
  | 0, p, _, h => by
    have h : false = true := h
    exact absurd h (by decide)
  | k + 1, p, hp, h => by
    unfold saF at h
    by_cases e : c p = true
    · exact ⟨p, hp, e⟩
    · rw [if_neg e] at h
      refine saF_t k (nxP s p) ?_ h
      unfold nxP
      split
      · exact Sub.rf s
      · exact and_sub2 _ _
theorem saF_f {c : Nat → Bool} {s q : Nat} (hq : Sub q s) (hc : c q = true) : ∀ k p, Sub p s → q ≤ p → p < k → saF c s k p = true
  | 0, _, _, _, h => absurd h (Nat.not_lt_zero _)
  | k + 1, p, hp, hqp, hk => by
    unfold saF
    by_cases e : c p = true
    · rw [if_pos e]
    · rw [if_neg e]
      have hne : q ≠ p := fun w => e (w ▸ hc)
      have hlt : q < p := by omega
      have h1 := nsub s p q hp hq hlt
      have e2 : nxP s p = (p - 1) &&& s := by unfold nxP; rw [if_neg (by omega)]
      rw [e2]
      have h2 : (p - 1) &&& s ≤ p - 1 := Nat.and_le_left
      exact saF_f hq hc k _ (and_sub2 _ _) h1 (by omega)
theorem gaF_sp {gm wo : Nat → Int} {s : Nat} : ∀ k, 0 ≤ (gaF gm wo s k).1 ∧ (∀ i, i < k → s.testBit i = true → gm (s ^^^ 2 ^ i) ≤ (gaF gm wo s k).1) ∧ ((gaF gm wo s k).1 = 0 ∨ ∃ i, i < k ∧ s.testBit i = true ∧ (gaF gm wo s k).1 = gm (s ^^^ 2 ^ i)) ∧ ((gaF gm wo s k).2 = true ↔ ∀ i, i < k → s.testBit i = true → wo (s ^^^ 2 ^ i) ≤ gm (s ^^^ 2 ^ i))
  | 0 => ⟨Int.le_refl _, fun i hi => absurd hi (Nat.not_lt_zero _), Or.inl rfl, fun _ i hi => absurd hi (Nat.not_lt_zero _), fun _ => rfl⟩
  | k + 1 => by
    obtain ⟨i1, i2, i3, i4⟩ := gaF_sp (gm := gm) (wo := wo) (s := s) k
    have e : gaF gm wo s (k + 1) = gaS gm wo s k (gaF gm wo s k) := rfl
    rw [e]
    unfold gaS
    by_cases c : s.testBit k = true
    · rw [if_pos c]
      dsimp only
      have hmx : (gaF gm wo s k).1 ≤ (if (gaF gm wo s k).1 < gm (s ^^^ 2 ^ k) then gm (s ^^^ 2 ^ k) else (gaF gm wo s k).1) ∧ gm (s ^^^ 2 ^ k) ≤ (if (gaF gm wo s k).1 < gm (s ^^^ 2 ^ k) then gm (s ^^^ 2 ^ k) else (gaF gm wo s k).1) := by
        split <;> omega
      refine ⟨by omega, fun i hi hb => ?_, ?_, ?_⟩
      · by_cases ei : i = k
        · rw [ei]; exact hmx.2
        · have := i2 i (by omega) hb
          omega
      · split
        · exact Or.inr ⟨k, Nat.lt_succ_self k, c, rfl⟩
        · rcases i3 with i3 | ⟨i, a, b, d⟩
          · exact Or.inl i3
          · exact Or.inr ⟨i, by omega, b, d⟩
      · rw [Bool.and_eq_true, i4, decide_eq_true_eq]
        constructor
        · intro ⟨w1, w2⟩ i hi hb
          by_cases ei : i = k
          · rw [ei]; exact w2
          · exact w1 i (by omega) hb
        · intro w
          exact ⟨fun i hi hb => w i (by omega) hb, w k (Nat.lt_succ_self k) c⟩
    · rw [if_neg c]
      refine ⟨i1, fun i hi hb => ?_, ?_, ?_⟩
      · have : i ≠ k := fun w => c (w ▸ hb)
        exact i2 i (by omega) hb
      · rcases i3 with i3 | ⟨i, a, b, d⟩
        · exact Or.inl i3
        · exact Or.inr ⟨i, by omega, b, d⟩
      · rw [i4]
        constructor
        · intro w i hi hb
          have : i ≠ k := fun q => c (q ▸ hb)
          exact w i (by omega) hb
        · intro w i hi hb
          exact w i (by omega) hb
theorem sub_pow {s i : Nat} (h : s.testBit i = true) : Sub (2 ^ i) s := fun j hj => by
  rw [Nat.testBit_two_pow] at hj
  have := of_decide_eq_true hj
  rw [← this]; exact h
theorem xor_dif {s i : Nat} (h : s.testBit i = true) : s ^^^ 2 ^ i = nDif s (2 ^ i) := sub_xor (sub_pow h)
section CL
variable {A : Nat → Nat → Prop} {W wo : Nat → Int} {may M : Nat} {ab : Nat → Nat} {gn : Nat → Nat → Int}
/-- the class's rows of gains -/
def GnV (A : Nat → Nat → Prop) (W wo : Nat → Int) (may M : Nat) (ab : Nat → Nat) (gn : Nat → Nat → Int) : Prop := AwV A W may ∧ (∀ m p, M ≤ m → A m p → p = 0) ∧ (∀ s, Sub s may → wo s = W s) ∧ (∀ m p, m < M → Sub p may → ((ab p).testBit m = true ↔ A m p)) ∧ (∀ m, m < M → ∀ s, Sub s may → gn m s = gaV M ab gn wo m s) ∧ may < 1024 ∧ M ≤ 3
theorem gnW_e (hG : GnV A W wo may M ab gn) {m p s : Nat} (hm : m < M) (hs : Sub s may) (hp : Sub p s) : (A m p → gnW M ab gn wo m p s = W p + gnO M gn (m + 1) (nDif s p)) ∧ (¬ A m p → gnW M ab gn wo m p s = -9) := by
  obtain ⟨h1, h2, h3, h4, h5, h6, h7⟩ := hG
  unfold gnW
  rw [sub_xor hp, h3 p (hp.tr hs)]
  have h8 := h4 m p hm (hp.tr hs)
  exact ⟨fun w => by rw [if_pos (h8.mpr w)], fun w => by rw [if_neg (fun q => w (h8.mp q))]⟩
theorem gn_max (hG : GnV A W wo may M ab gn) : ∀ k m, k + m = 3 → ∀ s, Sub s may → MaxN A W k m s (gnO M gn m s)
  | 0, m, hkm, s, hs => by
    obtain ⟨h1, h2, h3, h4, h5, h6, h7⟩ := hG
    have e : gnO M gn m s = 0 := by unfold gnO; rw [if_neg (by omega)]
    rw [e]
    refine ⟨⟨0, Sub.zero _, rfl, h1.2.2.2.1.symm⟩, fun T _ hT => ?_⟩
    have hT : T = 0 := hT
    rw [hT, h1.2.2.2.1]
    exact Int.le_refl _
  | k + 1, m, hkm, s, hs => by
    have hG' := hG
    obtain ⟨h1, h2, h3, h4, h5, h6, h7⟩ := hG
    by_cases hm : m < M
    · have hnext : ∀ p, Sub p s → MaxN A W k (m + 1) (nDif s p) (gnO M gn (m + 1) (nDif s p)) := fun p hp => gn_max hG' k (m + 1) (by omega) _ ((Sub.dif s p).tr hs)
      have key : ∀ b s, s ≤ b → Sub s may → MaxN A W (k + 1) m s (gn m s) := by
        intro b
        induction b with
        | zero =>
          intro s hb hs
          have e0 : s = 0 := by omega
          subst e0
          have hg := h5 m hm 0 hs
          have hga : gaV M ab gn wo m 0 = 0 := by
            unfold gaV
            obtain ⟨g1, g2, g3, g4⟩ := gaF_sp (gm := gn m) (wo := wo) (s := 0) 10
            have gz : (gaF (gn m) wo 0 10).1 = 0 := by
              rcases g3 with g3 | ⟨i, i1, i2, i3⟩
              · exact g3
              · rw [Nat.zero_testBit] at i2
                exact absurd i2 (by decide)
            split
            · rw [h3 0 hs, h1.2.2.2.1]
            · exact gz
          rw [hg, hga]
          refine ⟨⟨0, Sub.zero _, SavN.zero h1 _ _, h1.2.2.2.1.symm⟩, fun T hT _ => ?_⟩
          have := hT.le
          rw [show T = 0 by omega, h1.2.2.2.1]
          exact Int.le_refl _
        | succ b ih =>
          intro s hb hs
          have hnext : ∀ p, Sub p s → MaxN A W k (m + 1) (nDif s p) (gnO M gn (m + 1) (nDif s p)) := fun p hp => gn_max hG' k (m + 1) (by omega) _ ((Sub.dif s p).tr hs)
          obtain ⟨g1, g2, g3, g4⟩ := gaF_sp (gm := gn m) (wo := wo) (s := s) 10
          have hs10 : s < 1024 := Nat.lt_of_le_of_lt hs.le h6
          have hb10 : ∀ i, s.testBit i = true → i < 10 := fun i hi => bit_B (B := 10) hs10 hi
          have hih : ∀ i, s.testBit i = true → MaxN A W (k + 1) m (s ^^^ 2 ^ i) (gn m (s ^^^ 2 ^ i)) := fun i hi => by
            have hlt := dif_lt (sub_pow hi) (Nat.ne_of_gt (Nat.two_pow_pos i))
            rw [xor_dif hi]
            exact ih _ (by omega) ((Sub.dif _ _).tr hs)
          have hsm : ∀ i, s.testBit i = true → Sub (s ^^^ 2 ^ i) s := fun i hi => by
            rw [xor_dif hi]
            exact Sub.dif _ _
          have hwo : wo s = W s := h3 s hs
          -- whether all of it can be brought
          have hex : saF (fun p => decide (gnW M ab gn wo m p s = wo s)) s (s + 1) s = true ↔ ∃ p, Sub p s ∧ gnW M ab gn wo m p s = wo s := by
            constructor
            · intro w
              obtain ⟨q, q1, q2⟩ := saF_t _ _ (Sub.rf s) w
              exact ⟨q, q1, of_decide_eq_true q2⟩
            · intro ⟨q, q1, q2⟩
              exact saF_f q1 (decide_eq_true q2) (s + 1) s (Sub.rf s) q1.le (Nat.lt_succ_self s)
          have hwnn : 0 ≤ W s := by
            have := h1.2.2.2.2.1 0 s (Sub.zero _)
            rw [h1.2.2.2.1] at this
            exact this
          have hex2 : ∀ p, Sub p s → gnW M ab gn wo m p s = wo s → A m p ∧ W p + gnO M gn (m + 1) (nDif s p) = W s := by
            intro p hp hw
            obtain ⟨w1, w2⟩ := gnW_e hG' hm hs hp
            by_cases hA : A m p
            · rw [w1 hA, hwo] at hw
              exact ⟨hA, hw⟩
            · rw [w2 hA, hwo] at hw
              omega
          rw [h5 m hm s hs]
          unfold gaV
          by_cases hc : (gaF (gn m) wo s 10).2 = true ∧ saF (fun p => decide (gnW M ab gn wo m p s = wo s)) s (s + 1) s = true
          · rw [if_pos hc, hwo]
            obtain ⟨p, p1, p2⟩ := hex.mp hc.2
            obtain ⟨p3, p4⟩ := hex2 p p1 p2
            obtain ⟨T, t1, t2, t3⟩ := max_put h1 p1 p3 (hnext p p1)
            exact ⟨⟨T, t1, t2, by omega⟩, fun T' hT' _ => h1.2.2.2.2.1 T' s hT'⟩
          · rw [if_neg hc]
            constructor
            · rcases g3 with g3 | ⟨i, i1, i2, i3⟩
              · rw [g3]
                exact ⟨0, Sub.zero _, SavN.zero h1 _ _, h1.2.2.2.1.symm⟩
              · obtain ⟨T, t1, t2, t3⟩ := (hih i i2).1
                exact ⟨T, t1.tr (hsm i i2), t2, by rw [i3]; exact t3⟩
            · intro T hT hS
              by_cases e : T = s
              · exfalso
                rw [e] at hS
                apply hc
                refine ⟨g4.mpr fun i hi hb => ?_, hex.mpr ?_⟩
                · rw [h3 _ ((hsm i hb).tr hs)]
                  exact (hih i hb).2 _ (Sub.rf _) (SavN.down h1 _ _ _ _ (hsm i hb) hS)
                · obtain ⟨p, p1, p2, p3⟩ := hS
                  refine ⟨p, p1, ?_⟩
                  rw [(gnW_e hG' hm hs p1).1 p2, hwo]
                  obtain ⟨⟨T2, t1, t2, t3⟩, u⟩ := hnext p p1
                  have a1 := u _ (Sub.rf _) p3
                  have a2 := h1.2.2.2.2.1 T2 _ t1
                  have a3 := h1.2.2.2.2.2.1 p s p1
                  omega
              · have : ∃ i, s.testBit i = true ∧ T.testBit i = false := by
                  apply Classical.byContradiction
                  intro w
                  apply e
                  refine Sub.anti hT (fun i hi => ?_)
                  cases q : T.testBit i with
                  | true => rfl
                  | false => exact absurd ⟨i, hi, q⟩ w
                obtain ⟨i, i1, i2⟩ := this
                have hT2 : Sub T (s ^^^ 2 ^ i) := by
                  rw [xor_dif i1]
                  refine sub_dif hT (fun j hj => ?_)
                  rw [Nat.testBit_two_pow]
                  cases w : decide (i = j) with
                  | false => rfl
                  | true =>
                    have := of_decide_eq_true w
                    rw [← this, i2] at hj
                    exact absurd hj (by decide)
                have a1 := (hih i i1).2 T hT2 hS
                have a2 := g2 i (hb10 i i1) i1
                omega
      have e : gnO M gn m s = gn m s := by unfold gnO; rw [if_pos hm]
      rw [e]
      exact key s s (Nat.le_refl _) hs
    · have e : gnO M gn m s = 0 := by unfold gnO; rw [if_neg hm]
      rw [e]
      refine ⟨⟨0, Sub.zero _, SavN.zero h1 _ _, h1.2.2.2.1.symm⟩, fun T _ hT => ?_⟩
      rw [SavN.none h1 h2 _ _ _ (by omega) hT, h1.2.2.2.1]
      exact Int.le_refl _
/-- choose(): the least part -/
theorem cho_sp (hG : GnV A W wo may M ab gn) {k m s : Nat} (hkm : k + 1 + m = 3) (hm : m < M) (hs : Sub s may) {f : Nat} (hf1 : Sub f s) (hf2 : A m f) (hf3 : W f + gnO M gn (m + 1) (nDif s f) = gnO M gn m s) (hf4 : ∀ T, T < f → Sub T s → A m T → W T + gnO M gn (m + 1) (nDif s T) < gnO M gn m s) : choF M ab gn wo m s = f := by
  have hmx := gn_max hG (k + 1) m hkm s hs
  have h1 := hG.1
  have hg0 : 0 ≤ gnO M gn m s := by
    have := hmx.2 0 (Sub.zero _) (SavN.zero h1 _ _)
    rw [h1.2.2.2.1] at this
    exact this
  have hcf : choC M ab gn wo m s f = true := by
    unfold choC
    rw [decide_eq_true (sub_iff.mpr hf1), (gnW_e hG hm hs hf1).1 hf2, decide_eq_true hf3]
    rfl
  have hcl : ∀ T, T < f → choC M ab gn wo m s T = false := by
    intro T hT
    unfold choC
    by_cases c : nDif T s = 0
    · have hTs := sub_iff.mp c
      obtain ⟨w1, w2⟩ := gnW_e hG hm hs hTs
      by_cases hA : A m T
      · have := hf4 T hT hTs hA
        rw [w1 hA, decide_eq_false (p := W T + gnO M gn (m + 1) (nDif s T) = gnO M gn m s) (by omega), Bool.and_false]
      · rw [w2 hA, decide_eq_false (p := (-9 : Int) = gnO M gn m s) (by omega), Bool.and_false]
    · rw [decide_eq_false c]
      rfl
  unfold choF
  have hle : chF (choC M ab gn wo m s) s 0 ≤ f := by
    rcases Nat.lt_or_ge f (chF (choC M ab gn wo m s) s 0) with w | w
    · have := chF_no _ _ _ f (Nat.zero_le _) w
      rw [hcf] at this
      exact absurd this (by decide)
    · exact w
  rcases Nat.lt_or_ge (chF (choC M ab gn wo m s) s 0) (0 + s) with w | w
  · have := chF_at _ _ _ w
    rcases Nat.lt_or_ge (chF (choC M ab gn wo m s) s 0) f with q | q
    · rw [hcl _ q] at this
      exact absurd this (by decide)
    · omega
  · have := hf1.le
    omega
end CL
