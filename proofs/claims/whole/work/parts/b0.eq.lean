/-! b0: BURNS, PATH and LEAVE are the same in both; FAR is 210 at most -/
theorem rel_low {n r : Nat} {f g : Nat → Int} {c : Int} (hR : RelV n f g) (hr : r < n) (h0 : 0 ≤ c) (h1 : c ≤ 900000) : RelV n (lowF f r c) (upF g r (if c < g r then c else g r)) := by
  have rr := hR r hr
  intro v hv
  have rv := hR v hv
  unfold lowF
  by_cases e : v = r
  · subst e
    by_cases c1 : f v = -9 ∨ c < f v
    · rw [if_pos c1, upF_s, upF_s, if_pos (by omega)]
      right; omega
    · rw [if_neg c1, upF_s, if_neg (by omega)]
      exact rv
  · rw [upF_n _ _ e]
    by_cases c1 : f r = -9 ∨ c < f r
    · rw [if_pos c1, upF_n _ _ e]
      exact rv
    · rw [if_neg c1]
      exact rv
theorem rel_fi {n F : Nat} {fi fT : Nat → Nat → Int} (hfi : FiV n F fi) (hT : ∀ f, f < F → fT 0 f = fi f 0 ∧ fT 1 f = fi f 1) : ∀ k, k ≤ F → ∀ {f g : Nat → Int}, RelV n f g → RelV n (fo k (stepFi fi) f) (fo k (fiM fT) g)
  | 0, _, f, g, h => h
  | k + 1, hk, f, g, h => by
    have ih := rel_fi hfi hT k (by omega) h
    have h1 := hfi k (by omega)
    obtain ⟨t0, t1⟩ := hT k (by omega)
    show RelV n (stepFi fi k (fo k (stepFi fi) f)) (fiM fT k (fo k (fiM fT) g))
    unfold stepFi fiM
    rw [t0, t1]
    exact rel_low ih (by omega) (by omega) (by omega)
theorem rel_rndB {n W sh : Nat} {tn : Nat → Int} {wy : Nat → Nat → Int} (ht : TnV tn) (hw : WyV n W wy) : ∀ k, k ≤ W → ∀ {f g : Nat → Int} {B0 : Int}, RelV n f g → OkV n f B0 → B0 + 720 * k ≤ 900000 → RelV n (fo k (stepBu tn wy sh) f) (fo k (eStp (fun _ => true) (fun w => (wy w 0).toNat) (fun w => (wy w 1).toNat) (cstBu tn wy sh)) g)
  | 0, _, f, g, B0, hR, _, _ => hR
  | k + 1, hk, f, g, B0, hR, hf, hB => by
    have ih := rel_rndB (sh := sh) ht hw k (by omega) hR hf (by omega)
    have hok := stepBu_ok (sh := sh) ht hw k (by omega) hf
    have hv := hw k (by omega)
    have hc := cst_b (sh := sh) (w := k) ht (by omega) (by omega : wy k 2 ≤ 30)
    show RelV n (stepBu tn wy sh k (fo k (stepBu tn wy sh) f)) (eStp (fun _ => true) (fun w => (wy w 0).toNat) (fun w => (wy w 1).toNat) (cstBu tn wy sh) k (fo k (eStp (fun _ => true) (fun w => (wy w 0).toNat) (fun w => (wy w 1).toNat) (cstBu tn wy sh)) g))
    unfold stepBu eStp
    rw [if_pos rfl]
    exact rel_stp ih (by omega) (by omega) hok (by omega) (by omega)
theorem rel_GB {n W sh : Nat} {tn : Nat → Int} {wy : Nat → Nat → Int} (ht : TnV tn) (hW : W ≤ 12) (hw : WyV n W wy) : ∀ k, k ≤ 8 → ∀ {f g : Nat → Int}, RelV n f g → OkV n f 99 → RelV n (fo k (rndBu tn W wy sh) f) (eG W (fun _ => true) (fun w => (wy w 0).toNat) (fun w => (wy w 1).toNat) (cstBu tn wy sh) g k)
  | 0, _, f, g, hR, _ => hR
  | k + 1, hk, f, g, hR, hf => by
    have ih := rel_GB (sh := sh) ht hW hw k (by omega) hR hf
    have hok := buC_ok (sh := sh) ht hW hw k hf
    rw [eG_s]
    exact rel_rndB ht hw W (Nat.le_refl _) ih hok (by omega)
def WTv (W : Nat) (wy wT : Nat → Nat → Int) : Prop := ∀ w, w < W → wT 0 w = wy w 0 ∧ wT 1 w = wy w 1 ∧ wT 2 w = wy w 2
theorem bur_rel {n W F sh : Nat} {tn : Nat → Int} {wy fi wT fT : Nat → Nat → Int} {b bn : Nat → Int} (hn : n ≤ 8) (hW : W ≤ 12) (ht : TnV tn) (hw : WyV n W wy) (hfi : FiV n F fi) (hT : WTv W wy wT) (hF : ∀ f, f < F → fT 0 f = fi f 0 ∧ fT 1 f = fi f 1) : RelV n (buC tn n W F wy fi sh b) (bnM W F sh tn wT fT bn 8) := by
  have h0 : RelV n (iniF n b) (b0M bn) := by
    intro r hr
    left
    unfold b0M tabF iniF
    rw [if_pos (by omega : r < 8), if_pos hr]
    exact ⟨rfl, rfl⟩
  have h1 := rel_fi hfi hF F (Nat.le_refl _) h0
  have h2 := rel_GB (sh := sh) ht hW hw n hn h1 (stepFi_ok hfi F (Nat.le_refl _) (iniF_ok n b 99))
  have hab : ∀ w, w < W → aM wT w < n ∧ bM wT w < n := fun w hw2 => by
    have hv := hw w hw2
    obtain ⟨t1, t2, t3⟩ := hT w hw2
    unfold aM bM
    rw [t1, t2]
    omega
  have hcs : ∀ w, w < W → sM tn wT sh w = cstBu tn wy sh w := fun w hw2 => by
    unfold sM cstBu
    rw [(hT w hw2).2.2]
    split
    · omega
    · omega
  intro r hr
  have e8 := eG_8 (op := fun _ => true) (c := sM tn wT sh) (F0 := b1M F fT bn) hn (fun w hw2 => by
    have hv := hw w hw2
    rw [hcs w hw2]
    exact (cst_b (sh := sh) (w := w) ht (by omega) (by omega : wy w 2 ≤ 30)).1) (fun w hw2 => by
    have hv := hw w hw2
    obtain ⟨t1, t2, t3⟩ := hT w hw2
    unfold aM bM
    rw [t1, t2]
    omega) hab (fun v hv => by
    have := h1 v hv
    show 0 ≤ fo F (fiM fT) (b0M bn) v
    omega) r hr
  have ec := eG_cg (op := fun _ => true) (op' := fun _ => true) (a' := fun w => (wy w 0).toNat) (b' := fun w => (wy w 1).toNat) (c := sM tn wT sh) (c' := cstBu tn wy sh) (F0 := b1M F fT bn) hab (fun w hw2 => by
    obtain ⟨t1, t2, t3⟩ := hT w hw2
    exact ⟨rfl, by unfold aM; rw [t1], by unfold bM; rw [t2], hcs w hw2⟩) (fun _ _ => rfl) n r hr
  have := h2 r hr
  unfold bnM
  rw [e8, ec]
  exact this
/-- PATH -/
theorem led_same {n a b : Nat} {fc fm A A' : Nat → Int} {x y m : Int} (hR : RelV n fc fm) (ha : a < n) (hb : b < n) (hm : 1 ≤ m ∧ m ≤ 30) (hx : x = (a : Int)) (hy : y = (b : Int)) (hA : ∀ r, r < n → A r = A' r) : ∀ r, r < n → ledF fc A x y m r = aheS fm a b m A' r := by
  subst hx
  subst hy
  have ra := hR a ha
  have rb := hR b hb
  intro r hr
  unfold ledF aheS
  rw [Int.toNat_natCast, Int.toNat_natCast, ← hA b hb]
  by_cases c : fc a ≠ -9 ∧ fc a + m = fc b
  · rw [if_pos c]
    have c2 : fm a < 1000000 ∧ fm a + m = fm b := by omega
    unfold lowF
    by_cases e : A b = -9 ∨ (a : Int) < A b
    · rw [if_pos e, if_pos ⟨c2, e⟩]
      unfold upF
      split
      · rfl
      · exact hA r hr
    · rw [if_neg e, if_neg (fun w => e w.2)]
      exact hA r hr
  · rw [if_neg c, if_neg (fun w => c (by omega))]
    exact hA r hr
theorem ah_same {n W sh : Nat} {wy wT : Nat → Nat → Int} {fc fm A ah : Nat → Int} (hn : n ≤ 8) (hw : WyV n W wy) (hT : WTv W wy wT) (hR : RelV n fc fm) : ∀ k, k ≤ W → ∀ r, r < n → fo k (stepAh fc wy sh) (iniF n A) r = ahM W sh wT fm ah k r
  | 0, _, r, hr => by
    show iniF n A r = a0M ah r
    unfold a0M tabF iniF
    rw [if_pos hr, if_pos (by omega : r < 8)]
  | k + 1, hk, r, hr => by
    have ih := ah_same (sh := sh) (A := A) (ah := ah) hn hw hT hR k (by omega)
    have hv := hw k (by omega)
    obtain ⟨t1, t2, t3⟩ := hT k (by omega)
    show stepAh fc wy sh k (fo k (stepAh fc wy sh) (iniF n A)) r = ahS sh wT fm k (ahM W sh wT fm ah k) r
    unfold stepAh ahS
    by_cases e : sh.testBit k = true
    · rw [if_pos e, if_pos e]
      exact ih r hr
    · rw [if_neg e, if_neg e]
      unfold aM bM
      rw [t1, t2, t3]
      exact led_same hR (by omega) (by omega) (by omega) (by omega) (by omega) (led_same hR (by omega) (by omega) (by omega) (by omega) (by omega) ih) r hr
theorem lv_rel {n : Nat} {bc bm le : Nat → Int} {s : Int} (hs : 0 ≤ s) (hR : RelV n bc bm) : RelV n (tabF n (lvV bc s) le) (fun r => leM bm s r 0) := by
  intro r hr
  have := hR r hr
  show (leM bm s r 0 = 1000000 ∧ tabF n (lvV bc s) le r = -9) ∨ (leM bm s r 0 = tabF n (lvV bc s) le r ∧ 0 ≤ tabF n (lvV bc s) le r ∧ tabF n (lvV bc s) le r ≤ 900000)
  unfold tabF lvV leM
  rw [if_pos hr]
  rcases this with ⟨h1, h2⟩ | ⟨h1, h2, h3⟩
  · left
    rw [if_pos h2, if_pos (show 1000000 ≤ bm r by omega)]
    exact ⟨rfl, rfl⟩
  · right
    rw [if_neg (show ¬ bc r = -9 by omega), if_neg (show ¬ 1000000 ≤ bm r by omega)]
    by_cases c : 0 < bc r - s
    · rw [if_pos c, if_neg (show ¬ bm r - 0 - s < 0 by omega)]
      omega
    · rw [if_neg c]
      split <;> omega
/-- FAR is 210 at most -/
theorem eG_far {n W : Nat} {op : Nat → Bool} {a b : Nat → Nat} {c F0 : Nat → Int} (hn : n ≤ 8) (hc : ∀ w, w < W → 1 ≤ c w ∧ c w ≤ 30) (hne : ∀ w, w < W → a w ≠ b w) (hab : ∀ w, w < W → a w < n ∧ b w < n) (h0 : ∀ v, 0 ≤ F0 v) (hF : ∀ v, v < n → F0 v = 0 ∨ F0 v = 1000000) : ∀ m v, v < n → cnt n (fun u => decide (eG W op a b c F0 n u < eG W op a b c F0 n v)) ≤ m → eG W op a b c F0 n v < 1000000 → eG W op a b c F0 n v ≤ 30 * m
  | m, v, hv, hm, hl => by
    have hbf := bf (n := n) (W := W) (op := op) (c := c) (fun w hw => (hc w hw).1) hne hab h0
    have hp := ePred_G (W := W) (op := op) (a := a) (b := b) (c := c) (F0 := F0) (fun w hw => by have := hc w hw; omega) hne n v
    rcases hp with e | ⟨w, w1, w2, w3⟩
    · have := hF v hv
      omega
    · have hcw := hc w w1
      have hcl := eG_cl (W := W) (op := op) (a := a) (b := b) (c := c) (F0 := F0) n w1 w2
      have e1 := hbf (a w) (hab w w1).1 1
      have e2 := hbf (b w) (hab w w1).2 1
      rw [e1, e2] at hcl
      -- the other end
      have key : ∃ u, u < n ∧ eG W op a b c F0 n u < eG W op a b c F0 n v ∧ eG W op a b c F0 n v ≤ eG W op a b c F0 n u + 30 := by
        rcases w3 with ⟨q1, q2⟩ | ⟨q1, q2⟩
        · rw [q1] at hcl
          exact ⟨a w, (hab w w1).1, by omega, by omega⟩
        · rw [q1] at hcl
          exact ⟨b w, (hab w w1).2, by omega, by omega⟩
      obtain ⟨u, u1, u2, u3⟩ := key
      have hlt := cnt_lt (p := fun x => decide (eG W op a b c F0 n x < eG W op a b c F0 n u)) (q := fun x => decide (eG W op a b c F0 n x < eG W op a b c F0 n v)) (fun i hi => by
        have := of_decide_eq_true hi
        exact decide_eq_true (by omega)) (u := u) (decide_eq_false (by omega)) (decide_eq_true u2) n u1
      match m, hm with
      | 0, hm => omega
      | m + 1, hm =>
        have := eG_far (op := op) hn hc hne hab h0 hF m u u1 (by omega) (by omega)
        omega
theorem far_b {n W sh : Nat} {wy wT : Nat → Nat → Int} {fa : Nat → Int} (hn : n ≤ 8) (hw : WyV n W wy) (hT : WTv W wy wT) : ∀ r, r < n → faM W sh wT fa 8 r = 1000000 ∨ faM W sh wT fa 8 r ≤ 210 := by
  intro r hr
  have hc : ∀ w, w < W → 1 ≤ cM wT w ∧ cM wT w ≤ 30 := fun w hw2 => by
    have hv := hw w hw2
    have t3 := (hT w hw2).2.2
    unfold cM
    omega
  have hne : ∀ w, w < W → aM wT w ≠ bM wT w := fun w hw2 => by
    have hv := hw w hw2
    obtain ⟨t1, t2, t3⟩ := hT w hw2
    unfold aM bM
    rw [t1, t2]
    omega
  have hab : ∀ w, w < W → aM wT w < n ∧ bM wT w < n := fun w hw2 => by
    have hv := hw w hw2
    obtain ⟨t1, t2, t3⟩ := hT w hw2
    unfold aM bM
    rw [t1, t2]
    omega
  have hF : ∀ v, v < n → f0M fa v = (fun r => if r = 0 then (0 : Int) else 1000000) v := fun v hv => by
    unfold f0M tabF
    rw [if_pos (by omega : v < 8)]
  have e8 := eG_8 (op := opM sh) (c := cM wT) (F0 := f0M fa) hn (fun w hw2 => (hc w hw2).1) hne hab (fun v hv => (f0M_b fa v (by omega)).1) r hr
  have ec := eG_cg (op := opM sh) (op' := opM sh) (a' := aM wT) (b' := bM wT) (c := cM wT) (c' := cM wT) (F0 := f0M fa) hab (fun w hw2 => ⟨rfl, rfl, rfl, rfl⟩) hF n r hr
  have hp0 : ∀ v : Nat, 0 ≤ (fun r => if r = 0 then (0 : Int) else 1000000) v := fun v => by
    show 0 ≤ (if v = 0 then (0 : Int) else 1000000)
    split <;> omega
  have hFF : ∀ v, v < n → (fun r => if r = 0 then (0 : Int) else 1000000) v = 0 ∨ (fun r => if r = 0 then (0 : Int) else 1000000) v = 1000000 := fun v _ => by
    show (if v = 0 then (0 : Int) else 1000000) = 0 ∨ (if v = 0 then (0 : Int) else 1000000) = 1000000
    split
    · left; rfl
    · right; rfl
  unfold faM
  rw [e8, ec]
  by_cases hl : eG W (opM sh) (aM wT) (bM wT) (cM wT) (fun r => if r = 0 then (0 : Int) else 1000000) n r < 1000000
  · right
    have hc7 := cnt_out (p := fun u => decide (eG W (opM sh) (aM wT) (bM wT) (cM wT) (fun r => if r = 0 then (0 : Int) else 1000000) n u < eG W (opM sh) (aM wT) (bM wT) (cM wT) (fun r => if r = 0 then (0 : Int) else 1000000) n r)) (u := r) (decide_eq_false (by omega)) n hr
    have := eG_far (op := opM sh) hn hc hne hab hp0 hFF 7 r hr (by omega) hl
    omega
  · left
    have hle := eG_le (W := W) (op := opM sh) (a := aM wT) (b := bM wT) (c := cM wT) (F0 := fun r => if r = 0 then (0 : Int) else 1000000) 0 r n
    rw [Nat.zero_add] at hle
    have h1 : eG W (opM sh) (aM wT) (bM wT) (cM wT) (fun r => if r = 0 then (0 : Int) else 1000000) 0 r ≤ 1000000 := by
      show (if r = 0 then (0 : Int) else 1000000) ≤ 1000000
      split <;> omega
    omega
