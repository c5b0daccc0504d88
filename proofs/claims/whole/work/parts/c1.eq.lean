/-! c1: a RUN: what he takes -/
theorem cnt_one {p q : Nat → Bool} {b : Nat} (h : ∀ i, i ≠ b → p i = q i) (hp : p b = false) (hq : q b = true) : ∀ n, cnt n q = cnt n p + if b < n then 1 else 0
  | 0 => by rw [if_neg (by omega)]; rfl
  | n + 1 => by
    rw [cnt_s, cnt_s, cnt_one h hp hq n]
    by_cases e : n = b
    · subst e
      rw [hp, hq, if_neg (show ¬ n < n by omega), if_pos rfl, if_neg (by decide), if_pos (show n < n + 1 by omega)]
    · rw [h n e]
      by_cases c : b < n
      · rw [if_pos c, if_pos (show b < n + 1 by omega)]
        omega
      · rw [if_neg c, if_neg (show ¬ b < n + 1 by omega)]
        omega
def stB (bT : Nat → Nat → Int) (r b : Nat) (st : Nat × Int) : Nat × Int := if bT 0 b = (r : Int) ∧ st.1.testBit b = false ∧ st.2 + bT 1 b ≤ 30 then (st.1 ||| 2 ^ b, st.2 + bT 1 b) else st
section TK
variable {n B M : Nat} {bT : Nat → Nat → Int} {lT wt wo ro : Nat → Int} {ir oN bN : Nat → Nat} {lb : Nat → Int} {tr : Nat → Nat → Int} {tk r : Nat}
theorem tkS_e (hX : BgX n B M bT lT wt wo ro ir lb tr) (hO : OrdP B (dvF wo) bN) (hr : r < n) : ∀ k, k ≤ B → tkF wt bN (ir r) tk k = fo k (fun i st => stB bT r (bN i) st) (tk, 0)
  | 0, _ => rfl
  | k + 1, hk => by
    have ih := tkS_e hX hO hr k (by omega)
    have hb := hO.1 k (by omega)
    have x4 := hX.2.2.2.1
    have x9 := hX.2.2.2.2.2.2.2.2.1 (bN k) hb
    have x11 := hX.2.2.2.2.2.2.2.2.2.2.1
    show tkS wt bN (ir r) k (tkF wt bN (ir r) tk k) = stB bT r (bN k) (fo k (fun i st => stB bT r (bN i) st) (tk, 0))
    rw [ih]
    generalize fo k (fun i st => stB bT r (bN i) st) (tk, 0) = st
    unfold tkS stB
    rw [wt_pow hX hb]
    have hc : nDif (2 ^ bN k &&& ir r) st.1 ≠ 0 ↔ bT 0 (bN k) = (r : Int) ∧ st.1.testBit (bN k) = false := by
      constructor
      · intro w
        obtain ⟨i, hi⟩ := bit_ex w
        rw [nDif_bit, Nat.testBit_and, Nat.testBit_two_pow] at hi
        simp only [Bool.and_eq_true, decide_eq_true_eq, Bool.not_eq_true'] at hi
        obtain ⟨⟨h1, h2⟩, h3⟩ := hi
        rw [← h1] at h2 h3
        rw [x4 r _ (by omega), Bool.and_eq_true, decide_eq_true_eq, decide_eq_true_eq] at h2
        exact ⟨by omega, h3⟩
      · intro ⟨w1, w2⟩ w
        have : (nDif (2 ^ bN k &&& ir r) st.1).testBit (bN k) = true := by
          rw [nDif_bit, Nat.testBit_and, Nat.testBit_two_pow, x4 r _ (by omega), w2, decide_eq_true (rfl : bN k = bN k), decide_eq_true hb, decide_eq_true (show (bT 0 (bN k)).toNat = r by omega)]
          rfl
        rw [w, Nat.zero_testBit] at this
        exact absurd this (by decide)
    by_cases c : (bT 0 (bN k) = (r : Int) ∧ st.1.testBit (bN k) = false) ∧ st.2 + bT 1 (bN k) ≤ 30
    · rw [if_pos ⟨hc.mpr c.1, c.2⟩, if_pos ⟨c.1.1, c.1.2, c.2⟩]
    · rw [if_neg (fun w => c ⟨hc.mp w.1, w.2⟩), if_neg (fun w => c ⟨⟨w.1, w.2.1⟩, w.2.2⟩)]
/-- how many come ahead of BUNDLE b with WORTH v -/
def lvC (B : Nat) (bT : Nat → Nat → Int) (v : Int) (b : Nat) : Nat := cnt B (fun o => decide (v < bT 2 o ∨ (bT 2 o = v ∧ o < b)))
theorem lv_step (hX : BgX n B M bT lT wt wo ro ir lb tr) (hO : OrdP B (dvF wo) bN) {v : Int} {b : Nat} (hb : b < B) : (bT 2 b = v → lvC B bT v (b + 1) = lvC B bT v b + 1 ∧ lvC B bT v b < B ∧ bN (lvC B bT v b) = b) ∧ (bT 2 b ≠ v → lvC B bT v (b + 1) = lvC B bT v b) := by
  constructor
  · intro hv
    obtain ⟨j, j1, j2⟩ := hO.2.1 b hb
    have h1 : lvC B bT v b = j := by
      refine ord_rank hO j1 (fun x hx => ?_)
      rw [decide_eq_true_eq, j2, bef_wo hX hx hb, hv]
    refine ⟨?_, by omega, by rw [h1]; exact j2⟩
    unfold lvC
    have := cnt_one (p := fun o => decide (v < bT 2 o ∨ (bT 2 o = v ∧ o < b))) (q := fun o => decide (v < bT 2 o ∨ (bT 2 o = v ∧ o < b + 1))) (b := b) (fun i hi => by
      have : (v < bT 2 i ∨ (bT 2 i = v ∧ i < b)) ↔ (v < bT 2 i ∨ (bT 2 i = v ∧ i < b + 1)) := by omega
      exact decide_eq_decide.mpr this) (decide_eq_false (by omega)) (decide_eq_true (by omega)) B
    rw [if_pos hb] at this
    exact this
  · intro hv
    refine cnt_cg B (fun i hi => decide_eq_decide.mpr ?_)
    by_cases e : i = b
    · subst e
      omega
    · omega
theorem tmV_e (hX : BgX n B M bT lT wt wo ro ir lb tr) (hO : OrdP B (dvF wo) bN) {v : Int} {st0 : Nat × Int} : ∀ k, k ≤ B → tmV bT r v k (fo (lvC B bT v 0) (fun i st => stB bT r (bN i) st) st0) = fo (lvC B bT v k) (fun i st => stB bT r (bN i) st) st0
  | 0, _ => rfl
  | k + 1, hk => by
    have ih := tmV_e hX hO (v := v) (st0 := st0) k (by omega)
    obtain ⟨s1, s2⟩ := lv_step hX hO (v := v) (b := k) (by omega)
    show tmS bT r v k (tmV bT r v k (fo (lvC B bT v 0) (fun i st => stB bT r (bN i) st) st0)) = _
    rw [ih]
    by_cases e : bT 2 k = v
    · obtain ⟨q1, q2, q3⟩ := s1 e
      rw [q1]
      show _ = stB bT r (bN (lvC B bT v k)) (fo (lvC B bT v k) (fun i st => stB bT r (bN i) st) st0)
      rw [q3]
      unfold tmS stB
      by_cases c : bT 0 k = (r : Int) ∧ (fo (lvC B bT v k) (fun i st => stB bT r (bN i) st) st0).1.testBit k = false ∧ (fo (lvC B bT v k) (fun i st => stB bT r (bN i) st) st0).2 + bT 1 k ≤ 30
      · rw [if_pos ⟨c.1, e, c.2⟩]
        unfold stB at c
        rw [if_pos c]
      · rw [if_neg (fun w => c ⟨w.1, w.2.2⟩)]
        unfold stB at c
        rw [if_neg c]
    · rw [s2 e]
      unfold tmS
      rw [if_neg (fun w => e w.2.1)]
theorem take_same (hX : BgX n B M bT lT wt wo ro ir lb tr) (hO : OrdP B (dvF wo) bN) (hr : r < n) : (tkF wt bN (ir r) tk B).1 = tmP B bT tk r := by
  have x9 := hX.2.2.2.2.2.2.2.2.1
  rw [tkS_e hX hO hr B (Nat.le_refl _)]
  unfold tmP
  have key : ∀ k, tmF B bT r tk k = fo (lvC B bT (99 - (k : Int)) 0) (fun i st => stB bT r (bN i) st) (tk, 0) := by
    intro k
    induction k with
    | zero =>
      have : lvC B bT (99 - ((0 : Nat) : Int)) 0 = 0 := by
        unfold lvC
        rw [cnt_cg (q := fun _ => false) B (fun i hi => decide_eq_false (by have := x9 i hi; omega))]
        clear hX hO x9
        induction B with
        | zero => rfl
        | succ b ih => rw [cnt_s, ih]; rfl
      rw [this]
      rfl
    | succ k ih =>
      show tmV bT r (99 - (k : Int)) B (tmF B bT r tk k) = _
      rw [ih, tmV_e hX hO B (Nat.le_refl _)]
      have : lvC B bT (99 - (k : Int)) B = lvC B bT (99 - ((k + 1 : Nat) : Int)) 0 := by
        unfold lvC
        exact cnt_cg B (fun i hi => decide_eq_decide.mpr (by omega))
      rw [this]
  rw [key 100]
  have : lvC B bT (99 - ((100 : Nat) : Int)) 0 = B := by
    unfold lvC
    rw [cnt_cg (q := fun i => decide (i < B)) B (fun i hi => by rw [decide_eq_true hi]; exact decide_eq_true (by have := x9 i hi; omega))]
    exact cnt_lt_n B B (Nat.le_refl _)
  rw [this]
/-- what was taken stays taken; one BUNDLE at least comes to it -/
theorem take_more (hX : BgX n B M bT lT wt wo ro ir lb tr) (hO : OrdP B (dvF wo) bN) (hr : r < n) (htk : tk < 2 ^ B) (hh : nDif (liF wt B) tk &&& ir r ≠ 0) : Sub tk (tmP B bT tk r) ∧ tmP B bT tk r < 2 ^ B ∧ ∃ i, i < B ∧ tk.testBit i = false ∧ (tmP B bT tk r).testBit i = true := by
  rw [← take_same hX hO hr, tkS_e hX hO hr B (Nat.le_refl _)]
  obtain ⟨b, hb⟩ := bit_ex hh
  obtain ⟨b1, b2, b3, b4⟩ := (here_bit hX hr).mp hb
  have key : ∀ k, k ≤ B → Sub tk (fo k (fun i st => stB bT r (bN i) st) (tk, 0)).1 ∧ (fo k (fun i st => stB bT r (bN i) st) (tk, 0)).1 < 2 ^ B ∧ (fo k (fun i st => stB bT r (bN i) st) (tk, 0) = (tk, 0) ∨ ∃ i, i < B ∧ tk.testBit i = false ∧ (fo k (fun i st => stB bT r (bN i) st) (tk, 0)).1.testBit i = true) ∧ ((∃ j, j < k ∧ bN j = b) → ∃ i, i < B ∧ tk.testBit i = false ∧ (fo k (fun i st => stB bT r (bN i) st) (tk, 0)).1.testBit i = true) := by
    intro k
    induction k with
    | zero => intro _; exact ⟨Sub.rf _, htk, Or.inl rfl, fun ⟨j, j1, _⟩ => absurd j1 (Nat.not_lt_zero _)⟩
    | succ k ih =>
      intro hk
      obtain ⟨i1, i2, i3, i4⟩ := ih (by omega)
      have e : fo (k + 1) (fun i st => stB bT r (bN i) st) (tk, 0) = stB bT r (bN k) (fo k (fun i st => stB bT r (bN i) st) (tk, 0)) := rfl
      rw [e]
      have hbk := hO.1 k (by omega)
      generalize fo k (fun i st => stB bT r (bN i) st) (tk, (0 : Int)) = st at *
      unfold stB
      by_cases c : bT 0 (bN k) = (r : Int) ∧ st.1.testBit (bN k) = false ∧ st.2 + bT 1 (bN k) ≤ 30
      · rw [if_pos c]
        have hnew : ∃ i, i < B ∧ tk.testBit i = false ∧ (st.1 ||| 2 ^ bN k).testBit i = true := by
          refine ⟨bN k, hbk, ?_, ?_⟩
          · cases w : tk.testBit (bN k) with
            | false => rfl
            | true => rw [i1 _ w] at c; exact absurd c.2.1 (by decide)
          · rw [or_bit, decide_eq_true (rfl : bN k = bN k), Bool.or_true]
        exact ⟨i1.tr (or_sub1 _ _), Nat.or_lt_two_pow i2 (Nat.pow_lt_pow_right (by decide) hbk), Or.inr hnew, fun _ => hnew⟩
      · rw [if_neg c]
        refine ⟨i1, i2, i3, fun ⟨j, j1, j2⟩ => ?_⟩
        by_cases ej : j = k
        · rcases i3 with i3 | i3
          · exfalso
            apply c
            rw [← ej, j2, i3]
            exact ⟨b2, b3, by show (0 : Int) + bT 1 b ≤ 30; omega⟩
          · exact i3
        · exact i4 ⟨j, by omega, j2⟩
  obtain ⟨k1, k2, k3, k4⟩ := key B (Nat.le_refl _)
  exact ⟨k1, k2, k4 (hO.2.1 b b1)⟩
end TK
