/-! b3: what a man can bring out of a set: the model's table beside finish() -/
def SrP (n : Nat) (ir : Nat → Nat) (Q : Nat) : Prop := ∃ r, r < n ∧ Sub Q (ir r)
theorem SrP.sub {n : Nat} {ir : Nat → Nat} : ∀ p q, Sub p q → SrP n ir q → SrP n ir p := fun p q h ⟨r, r1, r2⟩ => ⟨r, r1, h.tr r2⟩
theorem and_dif (S p I : Nat) : nDif S p &&& I = nDif (S &&& I) p := by
  apply Nat.eq_of_testBit_eq
  intro j
  rw [Nat.testBit_and, nDif_bit, nDif_bit, Nat.testBit_and]
  cases S.testBit j <;> cases p.testBit j <;> cases I.testBit j <;> rfl
theorem dif_dj {Q p : Nat} (h : ∀ i, p.testBit i = true → Q.testBit i = false) : nDif Q p = Q := by
  apply Nat.eq_of_testBit_eq
  intro j
  rw [nDif_bit]
  cases e : p.testBit j with
  | false => cases Q.testBit j <;> rfl
  | true => rw [h j e]; rfl
/-- how the places of an Atlas, the ROOMS of the BUNDLES and the trips hang together -/
def DpV (n B : Nat) (oN ir : Nat → Nat) (fc dc wt : Nat → Int) (tr : Nat → Nat) (L : Int) : Prop := OrdP n dc oN ∧ TrC tr wt L (SrP n ir) ∧ (∀ r r' i, r < n → r' < n → (ir r).testBit i = true → (ir r').testBit i = true → r = r') ∧ (∀ i, i < B → ∃ r, r < n ∧ (ir r).testBit i = true) ∧ (∀ r, r < n → fc r = -9 ∨ (0 ≤ fc r ∧ fc r ≤ 210)) ∧ (∀ r, r < n → ir r < 1024) ∧ n ≤ 8 ∧ B ≤ 10 ∧ ∀ p q, Sub p q → wt p ≤ wt q
section DP
variable {n B : Nat} {oN ir : Nat → Nat} {fc dc wt : Nat → Int} {tr : Nat → Nat} {L t : Int}
theorem tr_cnt (hV : DpV n B oN ir fc dc wt tr L) : ∀ m Q, Q ≤ m → SrP n ir Q → tr Q = 100 ∨ tr Q ≤ cnt 10 (fun i => Q.testBit i)
  | m, Q, hm, hQ => by
    obtain ⟨hO, hT, hdj, hcv, hfc, hir, hn, hB, hw⟩ := hV
    by_cases h0 : Q = 0
    · right
      rw [h0, hT.1]
      exact Nat.zero_le _
    · obtain ⟨i, hi⟩ := low_ex h0
      rcases hT.2.2.2 Q i hQ hi with h4 | ⟨q, h4, h5, h6, h7⟩
      · exact Or.inl h4
      · have hq0 : q ≠ 0 := fun e => by rw [e] at h5; simp at h5
        have hlt := dif_lt h4 hq0
        have hsd := SrP.sub _ _ (Sub.dif Q q) hQ
        match m, hm with
        | 0, hm => omega
        | m + 1, hm =>
          have ih := tr_cnt ⟨hO, hT, hdj, hcv, hfc, hir, hn, hB, hw⟩ m (nDif Q q) (by omega) hsd
          have hle := hT.2.1 Q hQ
          rcases ih with e | e
          · omega
          · right
            obtain ⟨r, r1, r2⟩ := hQ
            have hi10 : i < 10 := by
              rcases Nat.lt_or_ge i 10 with w | w
              · exact w
              · have h1 := r2 i hi.1
                have h2 : ir r < 2 ^ i := Nat.lt_of_lt_of_le (hir r r1) (Nat.pow_le_pow_right (n := 2) (by decide) w)
                rw [Nat.testBit_lt_two_pow h2] at h1
                exact absurd h1 (by decide)
            have := cnt_lt (p := fun j => (nDif Q q).testBit j) (q := fun j => Q.testBit j) (fun j hj => (Sub.dif Q q) j hj) (u := i) (by rw [nDif_bit, h5]; simp) hi.1 10 hi10
            omega
theorem tmR_e (hV : DpV n B oN ir fc dc wt tr L) (S r : Nat) : tmR ir fc tr S r = tr (S &&& ir r) * (2 * fc r) := by
  unfold tmR
  split
  · rename_i e
    rw [e, hV.2.1.1]
    simp
  · rfl
/-- one load less: only its ROOM's time changes -/
theorem pfx_dif (hV : DpV n B oN ir fc dc wt tr L) {S p r jr : Nat} (hr : r < n) (hj : jr < n) (hjr : oN jr = r) (hp : Sub p (ir r)) : ∀ k, k ≤ n → pfx oN ir fc tr S k = pfx oN ir fc tr (nDif S p) k + (if jr < k then tmR ir fc tr S r - tmR ir fc tr (nDif S p) r else 0)
  | 0, _ => by
    rw [if_neg (by omega)]
    rfl
  | k + 1, hk => by
    have ih := pfx_dif hV (S := S) hr hj hjr hp k (by omega)
    obtain ⟨hO, hT, hdj, -⟩ := hV
    rw [pfx_s, pfx_s, ih]
    by_cases e : jr = k
    · subst e
      rw [hjr, if_neg (show ¬ jr < jr by omega), if_pos (show jr < jr + 1 by omega)]
      omega
    · have hne : oN k ≠ r := fun w => e (hO.inj hj (by omega) (by rw [hjr, w]))
      have hsame : tmR ir fc tr (nDif S p) (oN k) = tmR ir fc tr S (oN k) := by
        unfold tmR
        rw [and_dif, dif_dj (fun i hi => ?_)]
        cases w : (S &&& ir (oN k)).testBit i with
        | false => rfl
        | true =>
          exfalso
          rw [Nat.testBit_and, Bool.and_eq_true] at w
          exact hne (hdj _ _ i (hO.1 k (by omega)) hr w.2 (hp i hi))
      rw [hsame]
      by_cases c : jr < k
      · rw [if_pos c, if_pos (show jr < k + 1 by omega)]
        omega
      · rw [if_neg c, if_neg (show ¬ jr < k + 1 by omega)]
        omega
theorem pfx_mono (hV : DpV n B oN ir fc dc wt tr L) {S : Nat} (hc : canS n oN ir fc dc tr t S) : ∀ k j, k + j ≤ n → pfx oN ir fc tr S k ≤ pfx oN ir fc tr S (k + j)
  | k, 0, _ => Int.le_refl _
  | k, j + 1, h => by
    have ih := pfx_mono hV hc k j (by omega)
    have e : pfx oN ir fc tr S (k + (j + 1)) = pfx oN ir fc tr S (k + j) + tmR ir fc tr S (oN (k + j)) := pfx_s S (k + j)
    rw [e]
    have h0 : 0 ≤ tmR ir fc tr S (oN (k + j)) := by
      unfold tmR
      split
      · omega
      · rename_i w
        have h1 := hc (k + j) (by omega) w
        have h2 := hV.2.2.2.2.1 (oN (k + j)) (hV.1.1 (k + j) (by omega))
        exact Int.mul_nonneg (by omega) (by omega)
    omega
theorem pfx_hi (hV : DpV n B oN ir fc dc wt tr L) {S : Nat} (hc : canS n oN ir fc dc tr t S) : ∀ k, k ≤ n → pfx oN ir fc tr S k ≤ 41580 * k
  | 0, _ => Int.le_refl _
  | k + 1, h => by
    have ih := pfx_hi hV hc k (by omega)
    rw [pfx_s]
    have h0 : tmR ir fc tr S (oN k) ≤ 41580 := by
      unfold tmR
      split
      · omega
      · rename_i w
        have h1 := hc k (by omega) w
        have h2 := hV.2.2.2.2.1 (oN k) (hV.1.1 k (by omega))
        have h3 : ((tr (S &&& ir (oN k)) : Nat) : Int) * (2 * fc (oN k)) ≤ 99 * 420 := Int.mul_le_mul (by omega) (by omega) (by omega) (by omega)
        omega
    omega
/-- a first load in time: then all is in time -/
theorem can_up (hV : DpV n B oN ir fc dc wt tr L) {S p r : Nat} (hr : r < n) (hp : Sub p (ir r)) (hpS : Sub p S) (hp0 : p ≠ 0) (hw : wt p ≤ L) (hf : fc r ≠ -9) (hc : canS n oN ir fc dc tr t (nDif S p)) (hs : t + pfx oN ir fc tr (nDif S p) n + 2 * fc r ≤ dc r) : canS n oN ir fc dc tr t S ∧ t + pfx oN ir fc tr S n ≤ t + pfx oN ir fc tr (nDif S p) n + 2 * fc r := by
  have hV' := hV
  obtain ⟨hO, hT, hdj, hcv, hfc, hir, hn, hB, hwm⟩ := hV
  obtain ⟨jr, j1, j2⟩ := hO.2.1 r hr
  have hd := pfx_dif hV' (S := S) hr j1 j2 hp
  have hfr := (hfc r hr).resolve_left hf
  have hQ : SrP n ir (S &&& ir r) := ⟨r, hr, and_sub2 _ _⟩
  have htr : tr (S &&& ir r) ≤ 1 + tr (nDif (S &&& ir r) p) := tr_any hT SrP.sub _ _ p (Nat.le_refl _) hQ (sub_and hpS hp) hp0 hw
  have hlow : tr (nDif (S &&& ir r) p) < 100 := by
    by_cases e : nDif S p &&& ir (oN jr) = 0
    · rw [j2, and_dif] at e
      rw [e, hT.1]
      decide
    · have := (hc jr j1 e).2.1
      rw [j2, and_dif] at this
      exact this
  have hsd : SrP n ir (nDif (S &&& ir r) p) := SrP.sub _ _ (Sub.dif _ _) hQ
  have hcnt := tr_cnt hV' _ _ (Nat.le_refl _) hsd
  have hc10 := cnt_le (fun i => (nDif (S &&& ir r) p).testBit i) 10
  have ht100 : tr (S &&& ir r) < 100 := by omega
  have hdel : tmR ir fc tr S r - tmR ir fc tr (nDif S p) r ≤ 2 * fc r := by
    rw [tmR_e hV', tmR_e hV', and_dif, ← Int.sub_mul]
    have h1 : (((tr (S &&& ir r) : Nat) : Int) - ((tr (nDif (S &&& ir r) p) : Nat) : Int)) * (2 * fc r) ≤ 1 * (2 * fc r) := Int.mul_le_mul_of_nonneg_right (by omega) (by omega)
    omega
  refine ⟨fun i hi h0 => ?_, ?_⟩
  · have hdi := hd (i + 1) (by omega)
    have hm := pfx_mono hV' hc (i + 1) (n - (i + 1)) (by omega)
    rw [show i + 1 + (n - (i + 1)) = n by omega] at hm
    by_cases e : i = jr
    · subst e
      rw [if_pos (show i < i + 1 by omega)] at hdi
      rw [j2]
      exact ⟨hf, ht100, by omega⟩
    · have hne : oN i ≠ r := fun w => e (hO.inj hi j1 (by rw [j2, w]))
      have hsame : nDif S p &&& ir (oN i) = S &&& ir (oN i) := by
        rw [and_dif, dif_dj (fun k hk => ?_)]
        cases w : (S &&& ir (oN i)).testBit k with
        | false => rfl
        | true =>
          exfalso
          rw [Nat.testBit_and, Bool.and_eq_true] at w
          exact hne (hdj _ _ k (hO.1 i hi) hr w.2 (hp k hk))
      have h1 := hc i hi (by rw [hsame]; exact h0)
      rw [hsame] at h1
      refine ⟨h1.1, h1.2.1, ?_⟩
      by_cases c : jr < i + 1
      · rw [if_pos c] at hdi
        have hb := hO.2.2 jr i (by omega) hi
        rw [j2] at hb
        unfold BefF at hb
        omega
      · rw [if_neg c] at hdi
        omega
  · have hdn := hd n (Nat.le_refl _)
    rw [if_pos j1] at hdn
    omega
/-- a last load that may as well be the last -/
theorem can_dn (hV : DpV n B oN ir fc dc wt tr L) {S : Nat} (hS : S < 2 ^ B) (hS0 : S ≠ 0) (hc : canS n oN ir fc dc tr t S) : ∃ p r, r < n ∧ Sub p (ir r) ∧ Sub p S ∧ p ≠ 0 ∧ wt p ≤ L ∧ fc r ≠ -9 ∧ canS n oN ir fc dc tr t (nDif S p) ∧ t + pfx oN ir fc tr (nDif S p) n + 2 * fc r = t + pfx oN ir fc tr S n ∧ t + pfx oN ir fc tr S n ≤ dc r := by
  have hV' := hV
  obtain ⟨hO, hT, hdj, hcv, hfc, hir, hn, hB, hwm⟩ := hV
  -- the last place with something of S
  have hlast : ∀ k, k ≤ n → (∀ i, k ≤ i → i < n → S &&& ir (oN i) = 0) → ∃ j, j < n ∧ S &&& ir (oN j) ≠ 0 ∧ ∀ i, j < i → i < n → S &&& ir (oN i) = 0 := by
    intro k
    induction k with
    | zero =>
      intro _ h
      exfalso
      obtain ⟨i, hi⟩ := bit_ex hS0
      have hiB : i < B := by
        rcases Nat.lt_or_ge i B with w | w
        · exact w
        · rw [Nat.testBit_lt_two_pow (Nat.lt_of_lt_of_le hS (Nat.pow_le_pow_right (n := 2) (by decide) w))] at hi
          exact absurd hi (by decide)
      obtain ⟨r, r1, r2⟩ := hcv i hiB
      obtain ⟨j, j1, j2⟩ := hO.2.1 r r1
      have h1 := h j (Nat.zero_le _) j1
      rw [j2] at h1
      have h2 : (S &&& ir r).testBit i = true := by rw [Nat.testBit_and, hi, r2]; rfl
      rw [h1] at h2
      simp at h2
    | succ k ih =>
      intro hk h
      by_cases e : S &&& ir (oN k) = 0
      · refine ih (by omega) (fun i h1 h2 => ?_)
        by_cases ei : i = k
        · rw [ei]; exact e
        · exact h i (by omega) h2
      · exact ⟨k, by omega, e, fun i h1 h2 => h i (by omega) h2⟩
  obtain ⟨j, j1, j2, j3⟩ := hlast n (Nat.le_refl _) (fun i h1 h2 => absurd h2 (by omega))
  have hr : oN j < n := hO.1 j j1
  obtain ⟨r, hre⟩ : ∃ r, oN j = r := ⟨_, rfl⟩
  rw [hre] at j2 hr
  have hcj := hc j j1 (by rw [hre]; exact j2)
  rw [hre] at hcj
  obtain ⟨i, hi⟩ := low_ex j2
  have hQ : SrP n ir (S &&& ir r) := ⟨r, hr, and_sub2 _ _⟩
  rcases hT.2.2.2 _ i hQ hi with h4 | ⟨p, h4, h5, h6, h7⟩
  · omega
  · have hp0 : p ≠ 0 := fun e => by rw [e] at h5; simp at h5
    have hpI : Sub p (ir r) := h4.tr (and_sub2 _ _)
    have hpS : Sub p S := h4.tr (and_sub1 _ _)
    have hd := pfx_dif hV' (S := S) hr j1 hre hpI
    have hfr := (hfc r hr).resolve_left hcj.1
    have hdel : tmR ir fc tr S r - tmR ir fc tr (nDif S p) r = 2 * fc r := by
      rw [tmR_e hV', tmR_e hV', and_dif, ← Int.sub_mul, h7]
      have : (((1 + tr (nDif (S &&& ir r) p) : Nat)) : Int) - ((tr (nDif (S &&& ir r) p) : Nat) : Int) = 1 := by omega
      rw [this]
      omega
    -- behind j nothing is added
    have htail : ∀ m, j + 1 + m ≤ n → pfx oN ir fc tr S (j + 1 + m) = pfx oN ir fc tr S (j + 1) := by
      intro m
      induction m with
      | zero => intro _; rfl
      | succ m ih =>
        intro hm
        have e : pfx oN ir fc tr S (j + 1 + (m + 1)) = pfx oN ir fc tr S (j + 1 + m) + tmR ir fc tr S (oN (j + 1 + m)) := pfx_s S (j + 1 + m)
        rw [e, ih (by omega)]
        unfold tmR
        rw [if_pos (j3 (j + 1 + m) (by omega) (by omega))]
        omega
    have ht := htail (n - (j + 1)) (by omega)
    rw [show j + 1 + (n - (j + 1)) = n by omega] at ht
    have hdn := hd n (Nat.le_refl _)
    rw [if_pos j1, hdel] at hdn
    refine ⟨p, r, hr, hpI, hpS, hp0, h6, hcj.1, fun i hi h0 => ?_, by omega, by omega⟩
    have hdi := hd (i + 1) (by omega)
    by_cases e : i = j
    · subst e
      rw [if_pos (show i < i + 1 by omega), hdel] at hdi
      rw [hre, and_dif]
      exact ⟨hcj.1, by omega, by omega⟩
    · have hne : oN i ≠ r := fun w => e (hO.inj hi j1 (by rw [hre, w]))
      have hsame : nDif S p &&& ir (oN i) = S &&& ir (oN i) := by
        rw [and_dif, dif_dj (fun k hk => ?_)]
        cases w : (S &&& ir (oN i)).testBit k with
        | false => rfl
        | true =>
          exfalso
          rw [Nat.testBit_and, Bool.and_eq_true] at w
          exact hne (hdj _ _ k (hO.1 i hi) hr w.2 (hpI k hk))
      rw [hsame] at h0 ⊢
      have h1 := hc i hi h0
      have hle : pfx oN ir fc tr (nDif S p) (i + 1) ≤ pfx oN ir fc tr S (i + 1) := by
        split at hdi <;> omega
      exact ⟨h1.1, h1.2.1, by omega⟩
/-- the model's table -/
theorem dp_same (hV : DpV n B oN ir fc dc wt tr L) {ok : Nat → Int → Prop} {g : Nat → Int → Int} {may : Nat} {v : Nat → Int} (ht0 : 0 ≤ t) (ht1 : t ≤ 500000) (hv : OuP ok g t may v (2 ^ B))
    (hok : ∀ p b, p ≠ 0 → p < 2 ^ B → 0 ≤ b → b ≤ 900000 → (ok p b ↔ ∃ r, r < n ∧ Sub p (ir r) ∧ wt p ≤ L ∧ fc r ≠ -9 ∧ b + 2 * fc r ≤ dc r)) (hno : ∀ p, ¬ ok p 1000000)
    (hg : ∀ p b r, p ≠ 0 → p < 2 ^ B → r < n → Sub p (ir r) → fc r ≠ -9 → g p b = b + 2 * fc r) : ∀ m S, S ≤ m → S < 2 ^ B → Sub S may → (canS n oN ir fc dc tr t S → v S = t + pfx oN ir fc tr S n) ∧ (¬ canS n oN ir fc dc tr t S → v S = 1000000)
  | m, S, hm, hS, hmay => by
    have hvS := hv S hS
    obtain ⟨b1, z0, -, z1⟩ := hvS
    by_cases h0 : S = 0
    · subst h0
      have hc : canS n oN ir fc dc tr t 0 := fun i hi h => absurd (Nat.zero_and _) h
      refine ⟨fun _ => ?_, fun w => absurd hc w⟩
      have hp : ∀ k, pfx oN ir fc tr 0 k = 0 := by
        intro k
        induction k with
        | zero => rfl
        | succ k ih =>
          rw [pfx_s, ih]
          unfold tmR
          rw [if_pos (Nat.zero_and _)]
          rfl
      rw [z0 rfl, hp n]
      omega
    · obtain ⟨z2, z3⟩ := z1 h0 hmay
      have key : ∀ p, Sub p S → p ≠ 0 → (canS n oN ir fc dc tr t (nDif S p) → v (nDif S p) = t + pfx oN ir fc tr (nDif S p) n) ∧ (¬ canS n oN ir fc dc tr t (nDif S p) → v (nDif S p) = 1000000) := by
        intro p hp hp0
        have hlt := dif_lt hp hp0
        match m, hm with
        | 0, hm => omega
        | m + 1, hm => exact dp_same hV ht0 ht1 hv hok hno hg m (nDif S p) (by omega) (by omega) ((Sub.dif S p).tr hmay)
      have hpl : ∀ p, Sub p S → p < 2 ^ B := fun p hp => Nat.lt_of_le_of_lt hp.le hS
      -- a part that is ok shows that all can be brought
      have up : ∀ p, Sub p S → p ≠ 0 → ok p (v (nDif S p)) → ∃ r, r < n ∧ canS n oN ir fc dc tr t S ∧ t + pfx oN ir fc tr S n ≤ g p (v (nDif S p)) := by
        intro p hp hp0 ho
        obtain ⟨k1, k2⟩ := key p hp hp0
        by_cases c : canS n oN ir fc dc tr t (nDif S p)
        · have e := k1 c
          have hb := pfx_hi hV c n (Nat.le_refl _)
          have hb0 := pfx_mono hV c 0 n (by omega)
          rw [Nat.zero_add] at hb0
          have e0 : pfx oN ir fc tr (nDif S p) 0 = 0 := rfl
          have hn8 := hV.2.2.2.2.2.2.1
          rw [e] at ho ⊢
          obtain ⟨r, r1, r2, r3, r4, r5⟩ := (hok p _ hp0 (hpl p hp) (by omega) (by omega)).mp ho
          obtain ⟨c1, c2⟩ := can_up hV r1 r2 hp hp0 r3 r4 c r5
          refine ⟨r, r1, c1, ?_⟩
          rw [hg p _ r hp0 (hpl p hp) r1 r2 r4]
          exact c2
        · rw [k2 c] at ho
          exact absurd ho (hno p)
      constructor
      · intro hc
        obtain ⟨p, r, r1, q1, q2, q3, q4, q5, q6, q7, q8⟩ := can_dn hV hS h0 hc
        have e := (key p q2 q3).1 q6
        have hb := pfx_hi hV q6 n (Nat.le_refl _)
        have hb0 := pfx_mono hV q6 0 n (by omega)
        rw [Nat.zero_add] at hb0
        have e0 : pfx oN ir fc tr (nDif S p) 0 = 0 := rfl
        have hn8 := hV.2.2.2.2.2.2.1
        have ho : ok p (v (nDif S p)) := by
          rw [e]
          exact (hok p _ q3 (hpl p q2) (by omega) (by omega)).mpr ⟨r, r1, q1, q4, q5, by omega⟩
        have h1 := z2 p q2 q3 ho
        rw [hg p _ r q3 (hpl p q2) r1 q1 q5, e, q7] at h1
        rcases z3 with z4 | ⟨p', p1, p2, p3, p4⟩
        · have hb2 := pfx_hi hV hc n (Nat.le_refl _)
          omega
        · obtain ⟨r', -, -, c2⟩ := up p' p1 p2 p3
          omega
      · intro hc
        rcases z3 with z4 | ⟨p', p1, p2, p3, p4⟩
        · exact z4
        · obtain ⟨r', -, c1, -⟩ := up p' p1 p2 p3
          exact absurd c1 hc
end DP
