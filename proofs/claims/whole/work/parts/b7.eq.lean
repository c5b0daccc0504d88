/-! b7: ALL -/
section CS
variable {n B : Nat} {oN ir : Nat → Nat} {fc dc wt : Nat → Int} {tr : Nat → Nat} {L t : Int}
theorem can_sub (hV : DpV n B oN ir fc dc wt tr L) {p q : Nat} (hq : Sub q p) (hc : canS n oN ir fc dc tr t p) : canS n oN ir fc dc tr t q := by
  have hV' := hV
  obtain ⟨hO, hT, hdj, hcv, hfc, hir, hn, hB, hwm⟩ := hV
  have hsb : ∀ r, Sub (q &&& ir r) (p &&& ir r) := fun r => sub_and ((and_sub1 _ _).tr hq) (and_sub2 _ _)
  have htm : ∀ i, i < n → tmR ir fc tr q (oN i) ≤ tmR ir fc tr p (oN i) := by
    intro i hi
    have hr := hO.1 i hi
    by_cases c : p &&& ir (oN i) = 0
    · have c2 : q &&& ir (oN i) = 0 := by
        have := (hsb (oN i)).le
        omega
      unfold tmR
      rw [if_pos c, if_pos c2]
      exact Int.le_refl _
    · have h1 := hc i hi c
      have h2 := (hfc (oN i) hr).resolve_left h1.1
      have h3 := tr_mono hT SrP.sub hwm _ (p &&& ir (oN i)) (q &&& ir (oN i)) (Nat.le_refl _) ⟨oN i, hr, and_sub2 _ _⟩ (hsb _)
      rw [tmR_e hV', tmR_e hV']
      exact Int.mul_le_mul_of_nonneg_right (by omega) (by omega)
  have hpf : ∀ k, k ≤ n → pfx oN ir fc tr q k ≤ pfx oN ir fc tr p k := by
    intro k
    induction k with
    | zero => intro _; exact Int.le_refl _
    | succ k ih =>
      intro hk
      rw [pfx_s, pfx_s]
      have := ih (by omega)
      have := htm k (by omega)
      omega
  intro i hi h0
  have hr := hO.1 i hi
  have c : p &&& ir (oN i) ≠ 0 := fun w => h0 (by
    have := (hsb (oN i)).le
    omega)
  have h1 := hc i hi c
  have h3 := tr_mono hT SrP.sub hwm _ (p &&& ir (oN i)) (q &&& ir (oN i)) (Nat.le_refl _) ⟨oN i, hr, and_sub2 _ _⟩ (hsb _)
  have h4 := hpf (i + 1) (by omega)
  exact ⟨h1.1, by omega, by omega⟩
theorem fin_can (hV : DpV n B oN ir fc dc wt tr L) (ht0 : 0 ≤ t) (S : Nat) : finR oN ir fc dc tr S n 0 t ≠ -9 ↔ canS n oN ir fc dc tr t S := by
  have h2 := finR_e (n := n) (od := oN) (ir := ir) (fa := fc) (due := dc) (tr := tr) t S n 0 (by omega) (fun j hj => absurd hj (Nat.not_lt_zero _))
  have e0 : pfx oN ir fc tr S 0 = 0 := rfl
  rw [e0, Int.add_zero] at h2
  by_cases c : canS n oN ir fc dc tr t S
  · rw [h2.1 c]
    have hb0 := pfx_mono hV c 0 n (by omega)
    rw [Nat.zero_add] at hb0
    exact ⟨fun _ => c, fun _ => by omega⟩
  · rw [h2.2 c]
    exact ⟨fun w => absurd rfl w, fun w => absurd w c⟩
end CS
section SV
variable {A : Nat → Nat → Prop} {W : Nat → Int} {may : Nat}
/-- the men from m on (k of them) bring T out between them -/
def SavN (A : Nat → Nat → Prop) : Nat → Nat → Nat → Prop
  | 0, _, T => T = 0
  | k + 1, m, T => ∃ p, Sub p T ∧ A m p ∧ SavN A k (m + 1) (nDif T p)
def MaxN (A : Nat → Nat → Prop) (W : Nat → Int) (k m s : Nat) (g : Int) : Prop := (∃ T, Sub T s ∧ SavN A k m T ∧ g = W T) ∧ ∀ T, Sub T s → SavN A k m T → W T ≤ g
/-- who can bring a set out, and what it is worth -/
def AwV (A : Nat → Nat → Prop) (W : Nat → Int) (may : Nat) : Prop := (∀ m, A m 0) ∧ (∀ m p q, Sub q p → A m p → A m q) ∧ (∀ m p, A m p → Sub p may) ∧ W 0 = 0 ∧ (∀ p q, Sub p q → W p ≤ W q) ∧ (∀ p s, Sub p s → W s = W p + W (nDif s p)) ∧ ∀ s, W s ≤ 990
theorem MaxN.un {k m s : Nat} {g g' : Int} (h : MaxN A W k m s g) (h' : MaxN A W k m s g') : g = g' := by
  obtain ⟨⟨T, t1, t2, t3⟩, h2⟩ := h
  obtain ⟨⟨T', t1', t2', t3'⟩, h2'⟩ := h'
  have a := h2 T' t1' t2'
  have b := h2' T t1 t2
  omega
theorem SavN.zero (hA : AwV A W may) : ∀ k m, SavN A k m 0
  | 0, _ => rfl
  | k + 1, m => ⟨0, Sub.rf 0, hA.1 m, by rw [show nDif 0 0 = 0 by decide]; exact SavN.zero hA k (m + 1)⟩
theorem SavN.down (hA : AwV A W may) : ∀ k m T T', Sub T' T → SavN A k m T → SavN A k m T'
  | 0, _, T, T', h, h0 => by
    have h0 : T = 0 := h0
    have := h.le
    show T' = 0
    omega
  | k + 1, m, T, T', h, ⟨p, p1, p2, p3⟩ => by
    refine ⟨p &&& T', and_sub2 _ _, hA.2.1 m p _ (and_sub1 _ _) p2, SavN.down hA k (m + 1) _ _ ?_ p3⟩
    intro i hi
    rw [nDif_bit, Nat.testBit_and] at hi
    rw [nDif_bit]
    cases e1 : T'.testBit i with
    | false => rw [e1] at hi; simp at hi
    | true =>
      rw [e1] at hi
      rw [h i e1]
      cases e2 : p.testBit i with
      | false => rfl
      | true => rw [e2] at hi; simp at hi
theorem SavN.inm (hA : AwV A W may) : ∀ k m T, SavN A k m T → Sub T may
  | 0, _, T, h0 => by
    have h0 : T = 0 := h0
    rw [h0]
    exact Sub.zero _
  | k + 1, m, T, ⟨p, p1, p2, p3⟩ => by
    have h1 := hA.2.2.1 m p p2
    have h2 := SavN.inm hA k (m + 1) _ p3
    intro i hi
    cases e : p.testBit i with
    | true => exact h1 i e
    | false => exact h2 i (by rw [nDif_bit, hi, e]; rfl)
theorem SavN.none {M : Nat} (hA : AwV A W may) (hM : ∀ m p, M ≤ m → A m p → p = 0) : ∀ k m T, M ≤ m → SavN A k m T → T = 0
  | 0, _, T, _, h0 => h0
  | k + 1, m, T, hm, ⟨p, p1, p2, p3⟩ => by
    have h1 := hM m p hm p2
    have h2 := SavN.none hA hM k (m + 1) _ (by omega) p3
    rw [h1] at h2
    rw [dif_dj (fun i hi => by simp at hi)] at h2
    exact h2
theorem dif_or {p T2 s : Nat} (h : Sub T2 (nDif s p)) : nDif (p ||| T2) p = T2 := by
  apply Nat.eq_of_testBit_eq
  intro i
  rw [nDif_bit, Nat.testBit_or]
  have h1 := h i
  rw [nDif_bit] at h1
  cases e1 : p.testBit i <;> cases e2 : T2.testBit i <;> first | rfl | (rw [e1, e2] at h1; simp at h1)
theorem sub_or {p q s : Nat} (h1 : Sub p s) (h2 : Sub q s) : Sub (p ||| q) s := fun i hi => by
  rw [Nat.testBit_or, Bool.or_eq_true] at hi
  exact hi.elim (h1 i) (h2 i)
theorem or_sub1 (p q : Nat) : Sub p (p ||| q) := fun i hi => by rw [Nat.testBit_or, hi]; rfl
/-- only what may be taken counts -/
theorem MaxN.cut (hA : AwV A W may) {k m s : Nat} {g : Int} (h : MaxN A W k m s g) : MaxN A W k m (s &&& may) g := by
  obtain ⟨⟨T, t1, t2, t3⟩, h2⟩ := h
  exact ⟨⟨T, sub_and t1 (SavN.inm hA _ _ _ t2), t2, t3⟩, fun T' h1 h3 => h2 T' (h1.tr (and_sub1 _ _)) h3⟩
/-- a man more -/
theorem max_put (hA : AwV A W may) {k m s p : Nat} {g : Int} (hp : Sub p s) (hAp : A m p) (h : MaxN A W k (m + 1) (nDif s p) g) : ∃ T, Sub T s ∧ SavN A (k + 1) m T ∧ W p + g = W T := by
  obtain ⟨⟨T2, t1, t2, t3⟩, h2⟩ := h
  have e := dif_or t1
  refine ⟨p ||| T2, sub_or hp (t1.tr (Sub.dif _ _)), ⟨p, or_sub1 _ _, hAp, by rw [e]; exact t2⟩, ?_⟩
  rw [hA.2.2.2.2.2.1 p (p ||| T2) (or_sub1 _ _), e, t3]
theorem lsF_sp {so : Nat} {x : Nat → Int} : ∀ k, (∃ S, S < k ∧ Sub S so ∧ -1000000 < x S) → Sub (lsF so x k).1 so ∧ (lsF so x k).1 < k ∧ x (lsF so x k).1 = (lsF so x k).2 ∧ -1000000 < (lsF so x k).2 ∧ (∀ S, S < k → Sub S so → x S ≤ (lsF so x k).2) ∧ ∀ S, S < (lsF so x k).1 → Sub S so → x S < (lsF so x k).2
  | 0, ⟨S, h, _⟩ => absurd h (Nat.not_lt_zero _)
  | k + 1, ⟨S0, s1, s2, s3⟩ => by
    have e : lsF so x (k + 1) = if nDif k so = 0 then (if (lsF so x k).2 < x k then (k, x k) else lsF so x k) else lsF so x k := rfl
    have hlow : -1000000 ≤ (lsF so x k).2 ∧ ((∀ S, S < k → Sub S so → x S ≤ -1000000) → (lsF so x k) = (0, -1000000)) := by
      clear e s1 s2 s3
      have : ∀ j, -1000000 ≤ (lsF so x j).2 ∧ ((∀ S, S < j → Sub S so → x S ≤ -1000000) → (lsF so x j) = (0, -1000000)) := by
        intro j
        induction j with
        | zero => exact ⟨Int.le_refl _, fun _ => rfl⟩
        | succ j ih =>
          have e2 : lsF so x (j + 1) = if nDif j so = 0 then (if (lsF so x j).2 < x j then (j, x j) else lsF so x j) else lsF so x j := rfl
          rw [e2]
          refine ⟨?_, fun hall => ?_⟩
          · split
            · split
              · rename_i c
                show -1000000 ≤ x j
                have := ih.1
                omega
              · exact ih.1
            · exact ih.1
          · have h1 := ih.2 (fun S hS hq => hall S (by omega) hq)
            rw [h1]
            split
            · rename_i c
              have h2 := hall j (by omega) (sub_iff.mp c)
              rw [if_neg (show ¬ ((0 : Nat), (-1000000 : Int)).2 < x j by show ¬ (-1000000 : Int) < x j; omega)]
            · rfl
      exact this k
    by_cases hex : ∃ S, S < k ∧ Sub S so ∧ -1000000 < x S
    · obtain ⟨i1, i2, i3, i4, i5, i6⟩ := lsF_sp k hex
      rw [e]
      by_cases c1 : nDif k so = 0
      · rw [if_pos c1]
        by_cases c2 : (lsF so x k).2 < x k
        · rw [if_pos c2]
          refine ⟨sub_iff.mp c1, Nat.lt_succ_self k, rfl, by show -1000000 < x k; omega, fun S hS hq => ?_, fun S hS hq => ?_⟩
          · show x S ≤ x k
            by_cases es : S = k
            · rw [es]; exact Int.le_refl _
            · have := i5 S (by omega) hq
              omega
          · show x S < x k
            have := i5 S hS hq
            omega
        · rw [if_neg c2]
          refine ⟨i1, by omega, i3, i4, fun S hS hq => ?_, i6⟩
          by_cases es : S = k
          · rw [es]; omega
          · exact i5 S (by omega) hq
      · rw [if_neg c1]
        refine ⟨i1, by omega, i3, i4, fun S hS hq => ?_, i6⟩
        by_cases es : S = k
        · exact absurd (sub_iff.mpr (es ▸ hq)) c1
        · exact i5 S (by omega) hq
    · have hall : ∀ S, S < k → Sub S so → x S ≤ -1000000 := fun S hS hq => by
        apply Classical.byContradiction
        intro w
        exact hex ⟨S, hS, hq, by omega⟩
      have e0 := hlow.2 hall
      have ek : S0 = k := by
        apply Classical.byContradiction
        intro w
        exact hex ⟨S0, by omega, s2, s3⟩
      rw [ek] at s2 s3
      rw [e, e0, if_pos (sub_iff.mpr s2), if_pos s3]
      refine ⟨s2, Nat.lt_succ_self k, rfl, s3, fun S hS hq => ?_, fun S hS hq => ?_⟩
      · show x S ≤ x k
        by_cases es : S = k
        · rw [es]; exact Int.le_refl _
        · have := hall S (by omega) hq
          omega
      · show x S < x k
        have := hall S hS hq
        omega
/-- the model's level: most, and the least set for it -/
theorem ls_max (hA : AwV A W may) {k m s : Nat} {wb : Nat → Int} {g : Nat → Int} (hw1 : ∀ T, Sub T s → A m T → wb T = W T) (hw2 : ∀ T, Sub T s → ¬ A m T → wb T ≤ -1000000) (hg : ∀ T, Sub T s → MaxN A W k (m + 1) (nDif s T) (g T)) : MaxN A W (k + 1) m s (lsF s (fun T => wb T + g T) (s + 1)).2 ∧ Sub (lsF s (fun T => wb T + g T) (s + 1)).1 s ∧ A m (lsF s (fun T => wb T + g T) (s + 1)).1 ∧ W (lsF s (fun T => wb T + g T) (s + 1)).1 + g (lsF s (fun T => wb T + g T) (s + 1)).1 = (lsF s (fun T => wb T + g T) (s + 1)).2 ∧ ∀ T, T < (lsF s (fun T => wb T + g T) (s + 1)).1 → Sub T s → A m T → W T + g T < (lsF s (fun T => wb T + g T) (s + 1)).2 := by
  have hg0 : ∀ T, Sub T s → 0 ≤ g T ∧ g T ≤ 990 := fun T hT => by
    obtain ⟨⟨T', t1, t2, t3⟩, h2⟩ := hg T hT
    have h3 := h2 0 (Sub.zero _) (SavN.zero hA _ _)
    have h4 := hA.2.2.2.2.2.2 T'
    rw [hA.2.2.2.1] at h3
    omega
  have h0 := hg0 0 (Sub.zero _)
  have hz := hw1 0 (Sub.zero _) (hA.1 m)
  rw [hA.2.2.2.1] at hz
  obtain ⟨i1, i2, i3, i4, i5, i6⟩ := lsF_sp (so := s) (x := fun T => wb T + g T) (s + 1) ⟨0, by omega, Sub.zero _, by show -1000000 < wb 0 + g 0; omega⟩
  generalize lsF s (fun T => wb T + g T) (s + 1) = r at *
  obtain ⟨f, v⟩ := r
  dsimp only at i1 i2 i3 i4 i5 i6 ⊢
  have hv0 := i5 0 (by omega) (Sub.zero _)
  have hgf := hg0 f i1
  have hAf : A m f := by
    apply Classical.byContradiction
    intro w
    have := hw2 f i1 w
    omega
  rw [hw1 f i1 hAf] at i3
  refine ⟨⟨?_, fun T hT hS => ?_⟩, i1, hAf, i3, fun T hT hs hAT => ?_⟩
  · obtain ⟨T, t1, t2, t3⟩ := max_put hA i1 hAf (hg f i1)
    exact ⟨T, t1, t2, by omega⟩
  · obtain ⟨p, p1, p2, p3⟩ := hS
    have hps := p1.tr hT
    have h1 := (hg p hps).2 (nDif T p) (sub_dif2 hT p) p3
    have h2 := i5 p (by have := hps.le; omega) hps
    rw [hw1 p hps p2] at h2
    rw [hA.2.2.2.2.2.1 p T p1]
    omega
  · have := i6 T hT hs
    rw [hw1 T hs hAT] at this
    exact this
end SV
