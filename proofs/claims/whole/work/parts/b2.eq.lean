/-! b2: rows put in order -/
def BefF (du : Nat → Int) (x y : Nat) : Prop := du x < du y ∨ (du x = du y ∧ x < y)
theorem BefF.tr {du : Nat → Int} {x y z : Nat} (h1 : BefF du x y) (h2 : BefF du y z) : BefF du x z := by
  unfold BefF at *
  omega
theorem BefF.ir {du : Nat → Int} {x : Nat} (h : BefF du x x) : False := by
  unfold BefF at h
  omega
/-- od's first r places: all of 0 .. r - 1, in order -/
def OrdP (r : Nat) (du : Nat → Int) (oN : Nat → Nat) : Prop := (∀ j, j < r → oN j < r) ∧ (∀ x, x < r → ∃ j, j < r ∧ oN j = x) ∧ ∀ i j, i < j → j < r → BefF du (oN i) (oN j)
theorem OrdP.inj {r : Nat} {du : Nat → Int} {oN : Nat → Nat} (h : OrdP r du oN) {i j : Nat} (hi : i < r) (hj : j < r) (e : oN i = oN j) : i = j := by
  rcases Nat.lt_trichotomy i j with c | c | c
  · have := h.2.2 i j c hj
    rw [e] at this
    exact absurd this.ir id
  · exact c
  · have := h.2.2 j i c hi
    rw [e] at this
    exact absurd this.ir id
theorem insK_p {du od : Nat → Int} {oN : Nat → Nat} {r : Nat} (ho : ∀ j, j < r → od j = ((oN j : Nat) : Int)) (hp : OrdP r du oN) : ∀ k, k ≤ r → (∀ i, k ≤ i → i < r → du r < du (oN i)) → (∀ i, insK du od r k ≤ i → i < r → du r < du (oN i)) ∧ (∀ i, i < insK du od r k → du (oN i) ≤ du r) ∧ insK du od r k ≤ r
  | 0, _, h => ⟨h, fun i hi => absurd hi (Nat.not_lt_zero _), Nat.zero_le _⟩
  | k + 1, hk, h => by
    have e : insK du od r (k + 1) = if du r < du (od k).toNat then insK du od r k else k + 1 := rfl
    rw [e, ho k (by omega), Int.toNat_natCast]
    by_cases c : du r < du (oN k)
    · rw [if_pos c]
      refine insK_p ho hp k (by omega) (fun i hi1 hi2 => ?_)
      by_cases ei : i = k
      · rw [ei]; exact c
      · exact h i (by omega) hi2
    · rw [if_neg c]
      refine ⟨h, fun i hi => ?_, hk⟩
      by_cases ei : i = k
      · rw [ei]; omega
      · have := hp.2.2 i k (by omega) (by omega)
        unfold BefF at this
        omega
def insN (r K : Nat) (oN : Nat → Nat) : Nat → Nat := fun j => if j = K then r else if K < j ∧ j ≤ r then oN (j - 1) else oN j
theorem ord_ins {du od : Nat → Int} {oN : Nat → Nat} {r : Nat} (ho : ∀ j, j < r → od j = ((oN j : Nat) : Int)) (hp : OrdP r du oN) : (∀ j, j < r + 1 → insF du r od j = ((insN r (insK du od r r) oN j : Nat) : Int)) ∧ OrdP (r + 1) du (insN r (insK du od r r) oN) := by
  obtain ⟨k1, k2, k3⟩ := insK_p ho hp r (Nat.le_refl _) (fun i h1 h2 => absurd h2 (by omega))
  obtain ⟨p1, p2, p3⟩ := hp
  obtain ⟨K, hK⟩ : ∃ K, insK du od r r = K := ⟨_, rfl⟩
  unfold insF
  rw [hK] at k1 k2 k3
  rw [hK]
  have v1 : ∀ j, j < K → insN r K oN j = oN j := fun j hj => by
    unfold insN
    rw [if_neg (show ¬ j = K by omega), if_neg (show ¬ (K < j ∧ j ≤ r) by omega)]
  have v2 : insN r K oN K = r := by
    unfold insN
    rw [if_pos rfl]
  have v3 : ∀ j, K < j → j ≤ r → insN r K oN j = oN (j - 1) := fun j h1 h2 => by
    unfold insN
    rw [if_neg (show ¬ j = K by omega), if_pos ⟨h1, h2⟩]
  refine ⟨fun j hj => ?_, fun j hj => ?_, fun x hx => ?_, fun i j hij hj => ?_⟩
  · unfold upF shF
    by_cases e1 : j = K
    · rw [if_pos e1, e1, v2]
    · rw [if_neg e1]
      by_cases e2 : K < j ∧ j ≤ r
      · rw [if_pos e2, v3 j e2.1 e2.2]
        exact ho (j - 1) (by omega)
      · rw [if_neg e2, v1 j (by omega)]
        exact ho j (by omega)
  · rcases Nat.lt_trichotomy j K with c | c | c
    · rw [v1 j c]
      have := p1 j (by omega)
      omega
    · rw [c, v2]
      omega
    · rw [v3 j c (by omega)]
      have := p1 (j - 1) (by omega)
      omega
  · by_cases e : x = r
    · exact ⟨K, by omega, by rw [v2, e]⟩
    · obtain ⟨j, j1, j2⟩ := p2 x (by omega)
      by_cases c : j < K
      · exact ⟨j, by omega, by rw [v1 j c]; exact j2⟩
      · exact ⟨j + 1, by omega, by rw [v3 (j + 1) (by omega) (by omega)]; exact j2⟩
  · have hb1 : ∀ i, i < K → BefF du (oN i) r := fun i hi => by
      have a1 := k2 i hi
      have a2 := p1 i (by omega)
      unfold BefF
      omega
    have hb2 : ∀ i, K ≤ i → i < r → BefF du r (oN i) := fun i h1 h2 => Or.inl (k1 i h1 h2)
    rcases Nat.lt_trichotomy j K with c | c | c
    · rw [v1 i (by omega), v1 j c]
      exact p3 i j hij (by omega)
    · rw [c, v2, v1 i (by omega)]
      exact hb1 i (by omega)
    · rw [v3 j c (by omega)]
      rcases Nat.lt_trichotomy i K with c2 | c2 | c2
      · rw [v1 i c2]
        exact p3 i (j - 1) (by omega) (by omega)
      · rw [c2, v2]
        exact hb2 (j - 1) (by omega) (by omega)
      · rw [v3 i c2 (by omega)]
        exact p3 (i - 1) (j - 1) (by omega) (by omega)
theorem ord_all {du od : Nat → Int} : ∀ n, ∃ oN : Nat → Nat, (∀ j, j < n → ordC n du od j = ((oN j : Nat) : Int)) ∧ OrdP n du oN
  | 0 => ⟨fun _ => 0, fun j hj => absurd hj (Nat.not_lt_zero _), fun j hj => absurd hj (Nat.not_lt_zero _), fun j hj => absurd hj (Nat.not_lt_zero _), fun i j h1 h2 => absurd h2 (Nat.not_lt_zero _)⟩
  | n + 1 => by
    obtain ⟨oN, h1, h2⟩ := ord_all (du := du) (od := od) n
    have := ord_ins h1 h2
    exact ⟨_, this⟩
/-- counting along an order -/
theorem cnt_cg {p q : Nat → Bool} : ∀ n, (∀ i, i < n → p i = q i) → cnt n p = cnt n q
  | 0, _ => rfl
  | n + 1, h => by
    rw [cnt_s, cnt_s, cnt_cg n (fun i hi => h i (by omega)), h n (by omega)]
theorem cnt_ins {q : Nat → Bool} {p : Bool} {K : Nat} : ∀ r, K ≤ r → cnt (r + 1) (fun j => if j = K then p else if K < j then q (j - 1) else q j) = cnt r q + if p then 1 else 0
  | 0, h => by
    have : K = 0 := by omega
    subst this
    rw [cnt_s]
    show 0 + (if (if (0 : Nat) = 0 then p else _) = true then 1 else 0) = 0 + _
    rw [if_pos rfl]
  | r + 1, h => by
    rw [cnt_s]
    by_cases e : K = r + 1
    · subst e
      rw [if_pos rfl]
      rw [cnt_cg (q := q) (r + 1) (fun i hi => by rw [if_neg (by omega), if_neg (by omega)])]
    · rw [cnt_ins r (by omega), if_neg (show ¬ r + 1 = K by omega), if_pos (show K < r + 1 by omega), cnt_s]
      show cnt r q + (if p = true then 1 else 0) + (if q (r + 1 - 1) = true then 1 else 0) = _
      rw [show r + 1 - 1 = r by omega]
      omega
/-- 0 .. n - 1 counted in another order -/
theorem cnt_perm : ∀ n (oN : Nat → Nat) (p : Nat → Bool), (∀ j, j < n → oN j < n) → (∀ x, x < n → ∃ j, j < n ∧ oN j = x) → (∀ i j, i < n → j < n → oN i = oN j → i = j) → cnt n (fun j => p (oN j)) = cnt n p
  | 0, _, _, _, _, _ => rfl
  | n + 1, oN, p, h1, h2, h3 => by
    obtain ⟨K, K1, K2⟩ := h2 n (by omega)
    -- leave place K out
    have e : ∀ i, i < n + 1 → p (oN i) = (fun j => if j = K then p n else if K < j then (fun i => p (if i < K then oN i else oN (i + 1))) (j - 1) else (fun i => p (if i < K then oN i else oN (i + 1))) j) i := fun i hi => by
      show p (oN i) = if i = K then p n else if K < i then p (if i - 1 < K then oN (i - 1) else oN (i - 1 + 1)) else p (if i < K then oN i else oN (i + 1))
      rcases Nat.lt_trichotomy i K with c | c | c
      · rw [if_neg (show ¬ i = K by omega), if_neg (show ¬ K < i by omega), if_pos c]
      · rw [if_pos c, c, K2]
      · rw [if_neg (show ¬ i = K by omega), if_pos c, if_neg (show ¬ i - 1 < K by omega), show i - 1 + 1 = i by omega]
    rw [cnt_cg (n + 1) e, cnt_ins (q := fun i => p (if i < K then oN i else oN (i + 1))) n (by omega)]
    rw [cnt_perm n (fun i => if i < K then oN i else oN (i + 1)) p ?_ ?_ ?_, cnt_s]
    · intro j hj
      show (if j < K then oN j else oN (j + 1)) < n
      split
      · have a := h1 j (by omega)
        have : oN j ≠ n := fun w => by
          have := h3 j K (by omega) K1 (by rw [w, K2])
          omega
        omega
      · have a := h1 (j + 1) (by omega)
        have : oN (j + 1) ≠ n := fun w => by
          have := h3 (j + 1) K (by omega) K1 (by rw [w, K2])
          omega
        omega
    · intro x hx
      obtain ⟨j, j1, j2⟩ := h2 x (by omega)
      have jK : j ≠ K := fun w => by rw [w, K2] at j2; omega
      by_cases c : j < K
      · exact ⟨j, by omega, by show (if j < K then oN j else oN (j + 1)) = x; rw [if_pos c]; exact j2⟩
      · exact ⟨j - 1, by omega, by show (if j - 1 < K then oN (j - 1) else oN (j - 1 + 1)) = x; rw [if_neg (by omega), show j - 1 + 1 = j by omega]; exact j2⟩
    · intro i j hi hj he
      have he : (if i < K then oN i else oN (i + 1)) = (if j < K then oN j else oN (j + 1)) := he
      by_cases c1 : i < K
      · rw [if_pos c1] at he
        by_cases c2 : j < K
        · rw [if_pos c2] at he
          exact h3 i j (by omega) (by omega) he
        · rw [if_neg c2] at he
          have := h3 i (j + 1) (by omega) (by omega) he
          omega
      · rw [if_neg c1] at he
        by_cases c2 : j < K
        · rw [if_pos c2] at he
          have := h3 (i + 1) j (by omega) (by omega) he
          omega
        · rw [if_neg c2] at he
          have := h3 (i + 1) (j + 1) (by omega) (by omega) he
          omega
theorem cnt_lt_n (j : Nat) : ∀ n, j ≤ n → cnt n (fun i => decide (i < j)) = j
  | 0, h => by
    have : j = 0 := by omega
    subst this
    rfl
  | n + 1, h => by
    rw [cnt_s]
    by_cases e : j = n + 1
    · subst e
      rw [cnt_cg (q := fun i => decide (i < n)) n (fun i hi => by rw [decide_eq_true (by omega), decide_eq_true hi]), cnt_lt_n n n (Nat.le_refl _), decide_eq_true (by omega), if_pos rfl]
    · rw [cnt_lt_n j n (by omega), decide_eq_false (by omega), if_neg (by decide), Nat.add_zero]
/-- a place is the number of those ahead -/
theorem ord_rank {r : Nat} {du : Nat → Int} {oN : Nat → Nat} (hp : OrdP r du oN) {p : Nat → Bool} {j : Nat} (hj : j < r) (hpb : ∀ x, x < r → (p x = true ↔ BefF du x (oN j))) : cnt r p = j := by
  rw [← cnt_perm r oN p hp.1 hp.2.1 (fun i j hi hj => hp.inj hi hj)]
  rw [cnt_cg (q := fun i => decide (i < j)) r (fun i hi => ?_), cnt_lt_n j r (by omega)]
  show p (oN i) = decide (i < j)
  rw [Bool.eq_iff_iff, hpb _ (hp.1 i hi), decide_eq_true_eq]
  constructor
  · intro w
    rcases Nat.lt_trichotomy i j with c | c | c
    · exact c
    · rw [c] at w
      exact absurd w.ir id
    · exact absurd (w.tr (hp.2.2 j i c hi)).ir id
  · intro w
    exact hp.2.2 i j w hj
