/-! b1: SAFE is the same in both -/
theorem chX_sh (ah : Nat → Int) (c : Nat) (h : ah c ≠ -9) (h0 : 0 ≤ ah c) : ∀ j, chX ah c (j + 1) = chX ah (ah c).toNat j
  | 0 => by
    show nxA ah (c : Int) = (((ah c).toNat : Nat) : Int)
    unfold nxA
    rw [if_neg (by omega), Int.toNat_natCast]
    omega
  | j + 1 => by
    show nxA ah (chX ah c (j + 1)) = nxA ah (chX ah (ah c).toNat j)
    rw [chX_sh ah c h h0 j]
theorem chX_end (ah : Nat → Int) (c : Nat) (h : ah c = -9) : ∀ j, chX ah c (j + 1) = -9
  | 0 => by
    show nxA ah (c : Int) = -9
    unfold nxA
    rw [if_neg (by omega), Int.toNat_natCast, h]
  | j + 1 => by
    show nxA ah (chX ah c (j + 1)) = -9
    rw [chX_end ah c h j]
    rfl
/-- the class: t is early enough for each ROOM of the PATH -/
theorem chD_le {ah le fa : Nat → Int} {r : Nat} {T : Int} : ∀ k, T ≤ chD ah le fa r k ↔ T ≤ 1000000 ∧ ∀ j, j < k → chX ah r j ≠ -9 → le (chX ah r j).toNat = -9 ∨ T ≤ le (chX ah r j).toNat - 1 + fa (chX ah r j).toNat
  | 0 => ⟨fun h => ⟨h, fun j hj => absurd hj (by omega)⟩, fun h => h.1⟩
  | k + 1 => by
    have ih := chD_le (ah := ah) (le := le) (fa := fa) (r := r) (T := T) k
    show T ≤ duV le fa (chX ah r k) (chD ah le fa r k) ↔ _
    have key : T ≤ duV le fa (chX ah r k) (chD ah le fa r k) ↔ T ≤ chD ah le fa r k ∧ (chX ah r k ≠ -9 → le (chX ah r k).toNat = -9 ∨ T ≤ le (chX ah r k).toNat - 1 + fa (chX ah r k).toNat) := by
      unfold duV
      by_cases c1 : chX ah r k = -9
      · rw [if_pos c1]
        exact ⟨fun h => ⟨h, fun w => absurd c1 w⟩, fun h => h.1⟩
      · rw [if_neg c1]
        by_cases c2 : le (chX ah r k).toNat = -9
        · rw [if_pos c2]
          exact ⟨fun h => ⟨h, fun w => Or.inl c2⟩, fun h => h.1⟩
        · rw [if_neg c2]
          split
          · exact ⟨fun h => ⟨by omega, fun _ => Or.inr h⟩, fun h => (h.2 c1).resolve_left c2⟩
          · exact ⟨fun h => ⟨h, fun _ => Or.inr (by omega)⟩, fun h => h.1⟩
    rw [key, ih]
    constructor
    · intro ⟨⟨h1, h2⟩, h3⟩
      refine ⟨h1, fun j hj => ?_⟩
      by_cases e : j = k
      · rw [e]; exact h3
      · exact h2 j (by omega)
    · intro ⟨h1, h2⟩
      exact ⟨⟨h1, fun j hj => h2 j (by omega)⟩, h2 k (by omega)⟩
/-- the model -/
theorem siF_ch {fa ah bn : Nat → Int} {s t so : Int} {r : Nat} (hc : ChnV fa ah) (h0 : ah 0 = -9) : ∀ k c, c < 8 → (siF fa ah bn s r t so k c = true ↔ ∀ j, j < k → chX ah c j ≠ -9 → t + 2 * fa r - fa (chX ah c j).toNat < leM bn s (chX ah c j).toNat so)
  | 0, c, _ => ⟨fun _ j hj => absurd hj (by omega), fun _ => rfl⟩
  | k + 1, c, hc8 => by
    show (decide (t + 2 * fa r - fa c < leM bn s c so) && (if c = 0 ∨ ah c = -9 then true else siF fa ah bn s r t so k (ah c).toNat)) = true ↔ _
    have e0 : chX ah c 0 = (c : Int) := rfl
    rw [Bool.and_eq_true, decide_eq_true_eq]
    by_cases e : ah c = -9
    · have e2 : c = 0 ∨ ah c = -9 := Or.inr e
      rw [if_pos e2]
      constructor
      · intro ⟨h1, _⟩ j hj hn
        cases j with
        | zero =>
          rw [e0, Int.toNat_natCast]
          exact h1
        | succ j => exact absurd (chX_end ah c e j) hn
      · intro h1
        have := h1 0 (by omega) (by rw [e0]; omega)
        rw [e0, Int.toNat_natCast] at this
        exact ⟨this, rfl⟩
    · have ec : c ≠ 0 := fun w => e (by rw [w]; exact h0)
      rw [if_neg (fun w => w.elim ec e)]
      obtain ⟨a, ha, ha8, -⟩ := (hc c hc8).resolve_left e
      have hN : (ah c).toNat = a := by rw [ha]; exact Int.toNat_natCast _
      have hsh := chX_sh ah c e (by omega)
      rw [hN] at hsh ⊢
      rw [siF_ch hc h0 k a ha8]
      constructor
      · intro ⟨h1, h2⟩ j hj hn
        cases j with
        | zero =>
          rw [e0, Int.toNat_natCast]
          exact h1
        | succ j =>
          rw [hsh j] at hn ⊢
          exact h2 j (by omega) hn
      · intro h1
        refine ⟨?_, fun j hj hn => ?_⟩
        · have := h1 0 (by omega) (by rw [e0]; omega)
          rw [e0, Int.toNat_natCast] at this
          exact this
        · have := h1 (j + 1) (by omega)
          rw [hsh j] at this
          exact this hn
/-- a PATH comes nearer with each step -/
theorem chX_far {fa ah : Nat → Int} {n : Nat} (hn : n ≤ 8) (hc : ChnV fa ah) (hok : ∀ r, r < n → ah r = -9 ∨ (0 ≤ ah r ∧ ah r < n)) {r : Nat} (hr : r < n) : ∀ j, chX ah r j ≠ -9 → ∃ c : Nat, chX ah r j = c ∧ c < n ∧ fa c ≤ fa r ∧ j + cnt n (fun u => decide (fa u < fa c)) ≤ cnt n (fun u => decide (fa u < fa r))
  | 0, _ => ⟨r, rfl, hr, Int.le_refl _, by omega⟩
  | j + 1, h => by
    by_cases e : chX ah r j = -9
    · exact absurd (chX_stop e 1) h
    · obtain ⟨c, c1, c2, c3, c4⟩ := chX_far hn hc hok hr j e
      have e1 : chX ah r (j + 1) = ah c := by
        show nxA ah (chX ah r j) = _
        unfold nxA
        rw [if_neg e, c1, Int.toNat_natCast]
      rw [e1] at h ⊢
      obtain ⟨a, a1, a2, a3⟩ := (hc c (by omega)).resolve_left h
      have hb := (hok c c2).resolve_left h
      have han : a < n := by omega
      have hlt := cnt_lt (p := fun x => decide (fa x < fa a)) (q := fun x => decide (fa x < fa c)) (fun i hi => by
        have := of_decide_eq_true hi
        exact decide_eq_true (by omega)) (u := a) (decide_eq_false (by omega)) (decide_eq_true a3) n han
      exact ⟨a, a1, han, by omega, by omega⟩
theorem chX_n {fa ah : Nat → Int} {n : Nat} (hn : n ≤ 8) (hc : ChnV fa ah) (hok : ∀ r, r < n → ah r = -9 ∨ (0 ≤ ah r ∧ ah r < n)) {r : Nat} (hr : r < n) (j : Nat) (hj : n ≤ j) : chX ah r j = -9 := by
  apply Classical.byContradiction
  intro w
  obtain ⟨c, c1, c2, c3, c4⟩ := chX_far hn hc hok hr j w
  have := cnt_out (p := fun u => decide (fa u < fa r)) (u := r) (decide_eq_false (by omega)) n hr
  omega
theorem chX_cg {n : Nat} {ah ah' : Nat → Int} (hok : ∀ r, r < n → ah r = -9 ∨ (0 ≤ ah r ∧ ah r < n)) (he : ∀ r, r < n → ah r = ah' r) {r : Nat} (hr : r < n) : ∀ j, chX ah r j = chX ah' r j ∧ (chX ah r j = -9 ∨ (0 ≤ chX ah r j ∧ chX ah r j < n))
  | 0 => ⟨rfl, Or.inr ⟨by show (0 : Int) ≤ (r : Int); omega, by show (r : Int) < (n : Int); omega⟩⟩
  | j + 1 => by
    obtain ⟨h1, h2⟩ := chX_cg hok he hr j
    show nxA ah (chX ah r j) = nxA ah' (chX ah' r j) ∧ (nxA ah (chX ah r j) = -9 ∨ (0 ≤ nxA ah (chX ah r j) ∧ nxA ah (chX ah r j) < n))
    rw [← h1]
    unfold nxA
    by_cases e : chX ah r j = -9
    · rw [if_pos e, if_pos e]
      exact ⟨rfl, Or.inl rfl⟩
    · rw [if_neg e, if_neg e]
      have h3 := h2.resolve_left e
      have h4 := he (chX ah r j).toNat (by omega)
      have h5 := hok (chX ah r j).toNat (by omega)
      exact ⟨h4, h5⟩
/-- what both looks have in common -/
def LkV (n : Nat) (fc ac bc lc dc fm am bm : Nat → Int) (s : Int) : Prop := RelV n fc fm ∧ (∀ r, r < n → ac r = am r) ∧ RelV n bc bm ∧ (∀ r, r < n → lc r = lvV bc s r) ∧ (∀ r, r < n → dc r = chD ac lc fc r n) ∧ (∀ r, r < n → ac r = -9 ∨ (0 ≤ ac r ∧ ac r < n)) ∧ ChnV fm am ∧ fm 0 = 0 ∧ (∀ r, r < n → fm r = 1000000 ∨ fm r ≤ 210) ∧ Lt8 fm ∧ Lt8 bm ∧ (0 ≤ s ∧ s ≤ 30) ∧ 1 ≤ n ∧ n ≤ 8
theorem safe_same {n : Nat} {fc ac bc lc dc fm am bm : Nat → Int} {s : Int} (hL : LkV n fc ac bc lc dc fm am bm s) {r : Nat} (hr : r < n) {t so : Int} (ht0 : 0 ≤ t) (ht1 : t ≤ 900000) (hso0 : 0 ≤ so) (hso1 : so ≤ 10) : safM fm am bm s r t so = true ↔ (fc r ≠ -9 ∧ (t + so) + 2 * fc r ≤ dc r) := by
  obtain ⟨hR, hA, hB, hl, hd, hok, hch, hf0, hfb, h8, hb8, ⟨hs0, hs1⟩, hn1, hn⟩ := hL
  have ham0 : am 0 = -9 := by
    rcases hch 0 (by decide) with e | ⟨a, a1, a2, a3⟩
    · exact e
    · exfalso
      have := h8 a a2
      omega
  have hm := siF_ch (fa := fm) (ah := am) (bn := bm) (s := s) (t := t) (so := so) (r := r) hch ham0 1000001 r (by omega)
  unfold safM
  rw [hm, hd r hr, chD_le]
  have rr := hR r hr
  have fb := hfb r hr
  have hokm : ∀ r, r < n → am r = -9 ∨ (0 ≤ am r ∧ am r < n) := fun r hr => by rw [← hA r hr]; exact hok r hr
  constructor
  · intro h1
    have h2 := h1 0 (by decide) (by show (r : Int) ≠ -9; omega)
    have e0 : chX am r 0 = (r : Int) := rfl
    rw [e0, Int.toNat_natCast] at h2
    have hlr := leM_b (hb8 r (by omega)) hs0 hso0
    have hfr : fc r ≠ -9 := by omega
    refine ⟨hfr, by omega, fun j hj hx => ?_⟩
    obtain ⟨g1, g2⟩ := chX_cg hok hA hr j
    rw [g1] at hx g2
    rw [g1]
    obtain ⟨c, c1, c2, c3, c4⟩ := chX_far hn hch hokm hr j hx
    have h3 := h1 j (by omega) hx
    rw [c1, Int.toNat_natCast] at h3 ⊢
    have rc := hR c c2
    have bc' := hB c c2
    rw [hl c c2]
    unfold lvV
    unfold leM at h3
    by_cases e1 : bc c = -9
    · left
      rw [if_pos e1]
    · right
      rw [if_neg e1]
      rw [if_neg (show ¬ 1000000 ≤ bm c by omega)] at h3
      split at h3 <;> split <;> omega
  · intro ⟨hfr, h1, h2⟩ j hj hx
    obtain ⟨c, c1, c2, c3, c4⟩ := chX_far hn hch hokm hr j hx
    have hjn : j < n := by
      rcases Nat.lt_or_ge j n with w | w
      · exact w
      · exact absurd (chX_n hn hch hokm hr j w) hx
    obtain ⟨g1, g2⟩ := chX_cg hok hA hr j
    have h3 := h2 j hjn (by rw [g1]; exact hx)
    rw [g1, c1, Int.toNat_natCast] at h3
    rw [c1, Int.toNat_natCast]
    have rc := hR c c2
    have bc' := hB c c2
    rw [hl c c2] at h3
    unfold lvV at h3
    unfold leM
    by_cases e1 : bc c = -9
    · rw [if_pos (show 1000000 ≤ bm c by omega)]
      omega
    · rw [if_neg e1] at h3
      rw [if_neg (show ¬ 1000000 ≤ bm c by omega)]
      split at h3 <;> split <;> omega
