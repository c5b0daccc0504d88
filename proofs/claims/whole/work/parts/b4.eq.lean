/-! b4: BUNDLES: rooms, weights and trips are the same in both -/
theorem wsF_cg {T T' : Nat → Int} {s : Nat} : ∀ k, (∀ b, b < k → T b = T' b) → wsF T s k = wsF T' s k
  | 0, _ => rfl
  | k + 1, h => by
    show wsF T s k + bi s k * T k = wsF T' s k + bi s k * T' k
    rw [wsF_cg k (fun b hb => h b (by omega)), h k (by omega)]
theorem wsF_mono {T : Nat → Int} {p q : Nat} (hpq : Sub p q) : ∀ k, (∀ b, b < k → 0 ≤ T b) → wsF T p k ≤ wsF T q k
  | 0, _ => Int.le_refl _
  | k + 1, h => by
    have ih := wsF_mono hpq k (fun b hb => h b (by omega))
    have h1 := h k (by omega)
    show wsF T p k + bi p k * T k ≤ wsF T q k + bi q k * T k
    have h2 : bi p k * T k ≤ bi q k * T k := by
      unfold bi
      by_cases c : p.testBit k = true
      · rw [if_pos c, if_pos (hpq k c)]
        exact Int.le_refl _
      · rw [if_neg c, Int.zero_mul]
        split <;> omega
    omega
theorem roM_1 {T : Nat → Int} {s : Nat} {r : Int} : ∀ k b, (∀ i, b ≤ i → i < b + k → s.testBit i = true → T i = r) → roM T s k b r = r
  | 0, _, _ => rfl
  | k + 1, b, h => by
    unfold roM
    by_cases c : s.testBit b = true
    · rw [if_pos c, if_neg (fun w => w.2 (h b (Nat.le_refl _) (by omega) c).symm), h b (Nat.le_refl _) (by omega) c]
      exact roM_1 k (b + 1) (fun i h1 h2 => h i (by omega) (by omega))
    · rw [if_neg c]
      exact roM_1 k (b + 1) (fun i h1 h2 => h i (by omega) (by omega))
theorem roM_2 {T : Nat → Int} {s : Nat} {r : Int} : ∀ k b, (∀ i, b ≤ i → i < b + k → s.testBit i = true → T i = r) → (∃ i, b ≤ i ∧ i < b + k ∧ s.testBit i = true) → roM T s k b (-9) = r
  | 0, _, _, ⟨i, h1, h2, _⟩ => by omega
  | k + 1, b, h, he => by
    unfold roM
    by_cases c : s.testBit b = true
    · rw [if_pos c, if_neg (fun w => w.1 rfl), h b (Nat.le_refl _) (by omega) c]
      exact roM_1 k (b + 1) (fun i h1 h2 => h i (by omega) (by omega))
    · rw [if_neg c]
      refine roM_2 k (b + 1) (fun i h1 h2 => h i (by omega) (by omega)) ?_
      obtain ⟨i, h1, h2, h3⟩ := he
      have : i ≠ b := fun w => c (w ▸ h3)
      exact ⟨i, by omega, by omega, h3⟩
theorem roM_3 {T : Nat → Int} {s : Nat} {r : Int} (hr : r ≠ -9) : ∀ k b, (∃ i, b ≤ i ∧ i < b + k ∧ s.testBit i = true ∧ T i ≠ r) → roM T s k b r = -9
  | 0, _, ⟨i, h1, h2, _⟩ => by omega
  | k + 1, b, ⟨i, h1, h2, h3, h4⟩ => by
    unfold roM
    by_cases c : s.testBit b = true
    · rw [if_pos c]
      by_cases e : r = T b
      · rw [if_neg (fun w => w.2 e), ← e]
        have : i ≠ b := fun w => h4 (by rw [w]; exact e.symm)
        exact roM_3 hr k (b + 1) ⟨i, by omega, by omega, h3, h4⟩
      · rw [if_pos ⟨hr, e⟩]
    · rw [if_neg c]
      have : i ≠ b := fun w => c (w ▸ h3)
      exact roM_3 hr k (b + 1) ⟨i, by omega, by omega, h3, h4⟩
theorem roM_4 {T : Nat → Int} {s : Nat} : ∀ k b, (∀ i, b ≤ i → i < b + k → T i ≠ -9) → (∃ i j, b ≤ i ∧ i < b + k ∧ s.testBit i = true ∧ b ≤ j ∧ j < b + k ∧ s.testBit j = true ∧ T i ≠ T j) → roM T s k b (-9) = -9
  | 0, _, _, ⟨i, j, h1, h2, _⟩ => by omega
  | k + 1, b, h, ⟨i, j, h1, h2, h3, h4, h5, h6, h7⟩ => by
    unfold roM
    by_cases c : s.testBit b = true
    · rw [if_pos c, if_neg (fun w => w.1 rfl)]
      by_cases e : T i = T b
      · have : j ≠ b := fun w => h7 (by rw [w]; exact e)
        exact roM_3 (h b (Nat.le_refl _) (by omega)) k (b + 1) ⟨j, by omega, by omega, h6, fun w => h7 (by rw [w, e])⟩
      · have : i ≠ b := fun w => e (by rw [w])
        exact roM_3 (h b (Nat.le_refl _) (by omega)) k (b + 1) ⟨i, by omega, by omega, h3, e⟩
    · rw [if_neg c]
      have a1 : i ≠ b := fun w => c (w ▸ h3)
      have a2 : j ≠ b := fun w => c (w ▸ h6)
      exact roM_4 k (b + 1) (fun i h1 h2 => h i (by omega) (by omega)) ⟨i, j, by omega, by omega, h3, by omega, by omega, h6, h7⟩
/-- what the class knows of its BUNDLES, told by the model's rows -/
def BgX (n B M : Nat) (bT : Nat → Nat → Int) (lT wt wo ro : Nat → Int) (ir : Nat → Nat) (lb : Nat → Int) (tr : Nat → Nat → Int) : Prop :=
  (∀ s, s < 2 ^ B → wt s = wsF (bT 1) s B) ∧ (∀ s, s < 2 ^ B → wo s = wsF (bT 2) s B) ∧ (∀ b, b < B → ro b = bT 0 b) ∧ (∀ r i, r < 8 → (ir r).testBit i = (decide (i < B) && decide ((bT 0 i).toNat = r))) ∧ (∀ r, r < 8 → ir r < 1024) ∧ (∀ m, m < M → lb m = lT m ∧ TrI ro ir wt (lT m) (tr m) (2 ^ B)) ∧ (∀ m, m < 3 → (∀ i, i < 1024 → 0 ≤ tr m i ∧ tr m i ≤ 100) ∧ tr m 0 = 0) ∧ (∀ s, s < 1024 → (0 ≤ wt s ∧ wt s ≤ 10000) ∧ (0 ≤ wo s ∧ wo s ≤ 10000)) ∧ (∀ b, b < B → (0 ≤ bT 0 b ∧ bT 0 b < n) ∧ (1 ≤ bT 1 b ∧ bT 1 b ≤ 99) ∧ (0 ≤ bT 2 b ∧ bT 2 b ≤ 99) ∧ (0 ≤ bT 3 b ∧ bT 3 b ≤ 10)) ∧ (∀ m, m < M → 1 ≤ lT m ∧ lT m ≤ 99) ∧ n ≤ 8 ∧ B ≤ 10 ∧ M ≤ 3
section BX
variable {n B M : Nat} {bT : Nat → Nat → Int} {lT wt wo ro : Nat → Int} {ir : Nat → Nat} {lb : Nat → Int} {tr : Nat → Nat → Int}
theorem bit_B {s i : Nat} (hs : s < 2 ^ B) (h : s.testBit i = true) : i < B := by
  rcases Nat.lt_or_ge i B with w | w
  · exact w
  · rw [Nat.testBit_lt_two_pow (Nat.lt_of_lt_of_le hs (Nat.pow_le_pow_right (n := 2) (by decide) w))] at h
    exact absurd h (by decide)
theorem ir_sub (hX : BgX n B M bT lT wt wo ro ir lb tr) {s r : Nat} (hr : r < n) : Sub s (ir r) ↔ ∀ i, s.testBit i = true → i < B ∧ bT 0 i = (r : Int) := by
  obtain ⟨x1, x2, x3, x4, x5, x6, x7, x8, x9, x10, x11, x12, x13⟩ := hX
  constructor
  · intro h i hi
    have h1 := h i hi
    rw [x4 r i (by omega), Bool.and_eq_true, decide_eq_true_eq, decide_eq_true_eq] at h1
    have := x9 i h1.1
    exact ⟨h1.1, by omega⟩
  · intro h i hi
    obtain ⟨h1, h2⟩ := h i hi
    rw [x4 r i (by omega), Bool.and_eq_true, decide_eq_true_eq, decide_eq_true_eq]
    exact ⟨h1, by omega⟩
theorem roo_sub (hX : BgX n B M bT lT wt wo ro ir lb tr) {s r : Nat} (hs : s < 2 ^ B) (hs0 : s ≠ 0) (hr : r < n) : Sub s (ir r) ↔ rooM bT B s = (r : Int) := by
  have x9 := hX.2.2.2.2.2.2.2.2.1
  rw [ir_sub hX hr]
  unfold rooM
  obtain ⟨i, hi⟩ := bit_ex hs0
  have hiB := bit_B hs hi
  constructor
  · intro h
    exact roM_2 B 0 (fun j _ _ hj => (h j hj).2) ⟨i, Nat.zero_le _, by omega, hi⟩
  · intro h j hj
    have hjB := bit_B hs hj
    refine ⟨hjB, ?_⟩
    apply Classical.byContradiction
    intro w
    by_cases e : ∃ a, s.testBit a = true ∧ bT 0 a ≠ bT 0 j
    · obtain ⟨a, a1, a2⟩ := e
      have := roM_4 (T := bT 0) (s := s) B 0 (fun i _ h2 => by have := x9 i (by omega); omega) ⟨a, j, Nat.zero_le _, by have := bit_B hs a1; omega, a1, Nat.zero_le _, by omega, hj, a2⟩
      omega
    · have hall : ∀ a, s.testBit a = true → bT 0 a = bT 0 j := fun a ha => Classical.byContradiction fun q => e ⟨a, ha, q⟩
      have := roM_2 (T := bT 0) (s := s) (r := bT 0 j) B 0 (fun i _ _ h3 => hall i h3) ⟨i, Nat.zero_le _, by omega, hi⟩
      omega
theorem roo_same (hX : BgX n B M bT lT wt wo ro ir lb tr) {s : Nat} (hs : s < 2 ^ B) (hs0 : s ≠ 0) : roF ro ir s = rooM bT B s := by
  have hX' := hX
  obtain ⟨x1, x2, x3, x4, x5, x6, x7, x8, x9, x10, x11, x12, x13⟩ := hX
  have hl := low_B (by omega) x12 hs
  have hb : 2 ^ B ≤ 2 ^ 10 := Nat.pow_le_pow_right (by decide) x12
  have hlb := (low_b (s := s) (by omega) (by omega)).1
  have h9 := x9 _ hl
  obtain ⟨r, hr⟩ : ∃ r : Nat, bT 0 (lowI s) = r := ⟨(bT 0 (lowI s)).toNat, by omega⟩
  have hrn : r < n := by omega
  unfold roF
  rw [x3 _ hl, hr, Int.toNat_natCast]
  by_cases c : Sub s (ir r)
  · rw [if_pos (sub_iff.mpr c), (roo_sub hX' hs hs0 hrn).mp c]
  · rw [if_neg (fun w => c (sub_iff.mp w))]
    symm
    unfold rooM
    have : ∃ i, s.testBit i = true ∧ bT 0 i ≠ (r : Int) := by
      apply Classical.byContradiction
      intro w
      exact c ((ir_sub hX' hrn).mpr fun i hi => ⟨bit_B hs hi, Classical.byContradiction fun q => w ⟨i, hi, q⟩⟩)
    obtain ⟨i, i1, i2⟩ := this
    exact roM_4 B 0 (fun i _ h2 => by have := x9 i (by omega); omega) ⟨i, lowI s, Nat.zero_le _, by have := bit_B hs i1; omega, i1, Nat.zero_le _, by omega, hlb, by rw [hr]; exact i2⟩
theorem roo_r (hX : BgX n B M bT lT wt wo ro ir lb tr) (s : Nat) : rooM bT B s = -9 ∨ ∃ r : Nat, rooM bT B s = r ∧ r < n := rooM_b fun b hb => (hX.2.2.2.2.2.2.2.2.1 b hb).1
theorem tr_of (hX : BgX n B M bT lT wt wo ro ir lb tr) {m : Nat} (hm : m < M) : TrC (fun p => (tr m p).toNat) (fun s => wsF (bT 1) s B) (lT m) (SrP n ir) := by
  have hX' := hX
  obtain ⟨x1, x2, x3, x4, x5, x6, x7, x8, x9, x10, x11, x12, x13⟩ := hX
  obtain ⟨y1, y2, y3⟩ := (x6 m hm).2
  have hb : 2 ^ B ≤ 2 ^ 10 := Nat.pow_le_pow_right (by decide) x12
  -- a set in one ROOM
  have hsr : ∀ Q, SrP n ir Q → Q < 2 ^ B := by
    intro Q ⟨r, r1, r2⟩
    rcases Nat.lt_or_ge Q (2 ^ B) with w | w
    · exact w
    · exfalso
      obtain ⟨i, i1, i2⟩ := Nat.exists_ge_and_testBit_of_ge_two_pow w
      have := ((ir_sub hX' r1).mp r2 i i2).1
      omega
  have hok : ∀ Q, SrP n ir Q → Q ≠ 0 → TrP wt (lT m) (tr m) Q := by
    intro Q hQ h0
    have hlt := hsr Q hQ
    refine y3 Q (by omega) hlt ?_
    rw [roo_same hX' hlt h0]
    obtain ⟨r, r1, r2⟩ := hQ
    rw [(roo_sub hX' hlt h0 r1).mp r2]
    omega
  refine ⟨by show (tr m 0).toNat = 0; rw [y2]; rfl, fun Q hQ => ?_, fun Q p i hQ hL hp hpi hw => ?_, fun Q i hQ hL => ?_⟩
  · have h1 := y1 Q (by have := hsr Q hQ; omega)
    show (tr m Q).toNat ≤ 100
    omega
  · have hlt := hsr Q hQ
    have hQ0 : Q ≠ 0 := fun e => by rw [e] at hL; simp [Low] at hL
    have hLl := low_Low (s := Q) (by omega) (by omega)
    have hi : i = lowI Q := by
      rcases Nat.lt_trichotomy i (lowI Q) with w | w | w
      · have := hLl.2 i w
        rw [hL.1] at this
        exact absurd this (by decide)
      · exact w
      · have := hL.2 _ w
        rw [hLl.1] at this
        exact absurd this (by decide)
    have hpl : p < 2 ^ B := Nat.lt_of_le_of_lt hp.le hlt
    have h1 := (hok Q hQ hQ0).1 p hp (hi ▸ hpi) (by rw [x1 p hpl]; exact hw)
    have h2 := y1 Q (by omega)
    have h3 := y1 (nDif Q p) (by have := nDif_le Q p; omega)
    show (tr m Q).toNat ≤ 1 + (tr m (nDif Q p)).toNat
    omega
  · have hlt := hsr Q hQ
    have hQ0 : Q ≠ 0 := fun e => by rw [e] at hL; simp [Low] at hL
    have hLl := low_Low (s := Q) (by omega) (by omega)
    have hi : i = lowI Q := by
      rcases Nat.lt_trichotomy i (lowI Q) with w | w | w
      · have := hLl.2 i w
        rw [hL.1] at this
        exact absurd this (by decide)
      · exact w
      · have := hL.2 _ w
        rw [hLl.1] at this
        exact absurd this (by decide)
    have h2 := y1 Q (by omega)
    rcases (hok Q hQ hQ0).2 with h1 | ⟨q, q1, q2, q3, q4⟩
    · left
      show (tr m Q).toNat = 100
      omega
    · right
      have h3 := y1 (nDif Q q) (by have := nDif_le Q q; omega)
      refine ⟨q, q1, hi ▸ q2, ?_, ?_⟩
      · show wsF (bT 1) q B ≤ lT m
        rw [← x1 q (Nat.lt_of_le_of_lt q1.le hlt)]
        exact q3
      · show (tr m Q).toNat = 1 + (tr m (nDif Q q)).toNat
        omega
theorem dp_of (hX : BgX n B M bT lT wt wo ro ir lb tr) {m : Nat} (hm : m < M) {oN : Nat → Nat} {fc ac bc lc dc fm am bm : Nat → Int} {s : Int} (hL : LkV n fc ac bc lc dc fm am bm s) (hO : OrdP n dc oN) : DpV n B oN ir fc dc (fun s => wsF (bT 1) s B) (fun p => (tr m p).toNat) (lT m) := by
  have hT := tr_of hX hm
  obtain ⟨x1, x2, x3, x4, x5, x6, x7, x8, x9, x10, x11, x12, x13⟩ := hX
  obtain ⟨hR, hA, hB, hl, hd, hok, hch, hf0, hfb, h8, hb8, ⟨hs0, hs1⟩, hn1, hn⟩ := hL
  refine ⟨hO, hT, fun r r' i h1 h2 h3 h4 => ?_, fun i hi => ?_, fun r hr => ?_, fun r hr => x5 r (by omega), hn, x12, fun p q hpq => wsF_mono hpq B (fun b hb => by have := x9 b hb; omega)⟩
  · rw [x4 r i (by omega), Bool.and_eq_true, decide_eq_true_eq, decide_eq_true_eq] at h3
    rw [x4 r' i (by omega), Bool.and_eq_true, decide_eq_true_eq, decide_eq_true_eq] at h4
    omega
  · have h9 := x9 i hi
    refine ⟨(bT 0 i).toNat, by omega, ?_⟩
    rw [x4 _ i (by omega), Bool.and_eq_true, decide_eq_true_eq, decide_eq_true_eq]
    exact ⟨hi, rfl⟩
  · have h1 := hR r hr
    have h2 := hfb r hr
    omega
theorem ok_same (hX : BgX n B M bT lT wt wo ro ir lb tr) {m : Nat} {fc ac bc lc dc fm am bm : Nat → Int} {s : Int} (hL : LkV n fc ac bc lc dc fm am bm s) {p : Nat} {b : Int} (hp0 : p ≠ 0) (hp : p < 2 ^ B) (hb0 : 0 ≤ b) (hb1 : b ≤ 900000) : okM B bT fm am bm s (lT m) p b ↔ ∃ r, r < n ∧ Sub p (ir r) ∧ wsF (bT 1) p B ≤ lT m ∧ fc r ≠ -9 ∧ b + 2 * fc r ≤ dc r := by
  unfold okM
  have hRr := hL.1
  have hfb := hL.2.2.2.2.2.2.2.2.1
  constructor
  · intro ⟨h1, h2, h3, h4, h5, h6⟩
    obtain ⟨r, r1, r2⟩ := (roo_r hX p).resolve_left h2
    rw [r1, Int.toNat_natCast] at h6
    have h7 := (safe_same hL r2 hb0 (by omega) (Int.le_refl 0) (by decide)).mp h6
    exact ⟨r, r2, (roo_sub hX hp hp0 r2).mpr r1, h5, h7.1, by omega⟩
  · intro ⟨r, r1, r2, r3, r4, r5⟩
    have e := (roo_sub hX hp hp0 r1).mp r2
    rw [e, Int.toNat_natCast]
    have h1 := hRr r r1
    have h2 := hfb r r1
    exact ⟨by omega, by omega, by omega, by omega, r3, (safe_same hL r1 hb0 (by omega) (Int.le_refl 0) (by decide)).mpr ⟨r4, by omega⟩⟩
/-- the model's table told by finish() -/
theorem ou_same (hX : BgX n B M bT lT wt wo ro ir lb tr) {m : Nat} (hm : m < M) {oN : Nat → Nat} {fc ac bc lc dc fm am bm : Nat → Int} {s : Int} (hL : LkV n fc ac bc lc dc fm am bm s) (hO : OrdP n dc oN) {t : Int} (ht0 : 0 ≤ t) (ht1 : t ≤ 500000) {may : Nat} {v : Nat → Int} (hv : OuP (okM B bT fm am bm s (lT m)) (gM B bT fm) t may v (2 ^ B)) {S : Nat} (hS : S < 2 ^ B) : (Sub S may → v S = if finR oN ir fc dc (fun p => (tr m p).toNat) S n 0 t = -9 then 1000000 else finR oN ir fc dc (fun p => (tr m p).toNat) S n 0 t) ∧ (¬ Sub S may → v S = 1000000) := by
  constructor
  · intro hmay
    have hD := dp_of hX hm hL hO
    have h1 := dp_same hD ht0 ht1 hv (fun p b p0 p1 b0 b1 => ok_same hX hL p0 p1 b0 b1) (fun p w => by have := w.1; omega) (fun p b r p0 p1 r1 r2 r3 => by
      unfold gM
      rw [(roo_sub hX p1 p0 r1).mp r2, Int.toNat_natCast]
      have := hL.1 r r1
      omega) S S (Nat.le_refl _) hS hmay
    have h2 := finR_e (n := n) (od := oN) (ir := ir) (fa := fc) (due := dc) (tr := fun p => (tr m p).toNat) t S n 0 (by omega) (fun j hj => absurd hj (Nat.not_lt_zero _))
    have e0 : pfx oN ir fc (fun p => (tr m p).toNat) S 0 = 0 := rfl
    rw [e0, Int.add_zero] at h2
    by_cases c : canS n oN ir fc dc (fun p => (tr m p).toNat) t S
    · rw [h2.1 c, h1.1 c]
      have hb0 := pfx_mono hD c 0 n (by omega)
      rw [Nat.zero_add, e0] at hb0
      rw [if_neg (by omega)]
    · rw [h2.2 c, h1.2 c, if_pos rfl]
  · intro hmay
    have h0 : S ≠ 0 := fun e => hmay (by rw [e]; exact Sub.zero _)
    exact (hv S hS).2.2.1 h0 hmay
end BX
