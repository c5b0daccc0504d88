/-! b5: answers are the same in both: way .. saved, sure .. price -/
def WTx (W : Nat) (wy wT : Nat → Nat → Int) : Prop := ∀ w, w < W → ∀ k, k < 4 → wT k w = wy w k
def FTx (F : Nat) (fi fT : Nat → Nat → Int) : Prop := ∀ f, f < F → ∀ k, k < 2 → fT k f = fi f k
section AN
variable {n W B M F D sh : Nat} {wy bu fi wT bT fT : Nat → Nat → Int} {lT wt wo ro ld mi miM feM : Nat → Int} {ir : Nat → Nat} {lb : Nat → Int} {tr : Nat → Nat → Int} {fe : Nat} {fc ac bc lc dc fm am bm : Nat → Int} {s x y t v : Int}
theorem way_same (h : WTx W wy wT) : awW W sh wy x y = amW W sh wT x y := by
  unfold awW amW
  by_cases c : 0 ≤ x ∧ x < W
  · rw [if_pos c]
    have hx := h x.toNat (by omega)
    by_cases y0 : y = 0
    · subst y0
      rw [if_pos (by omega), if_neg (by decide), if_pos rfl]
      exact (hx 0 (by decide)).symm
    by_cases y1 : y = 1
    · subst y1
      rw [if_pos (by omega), if_neg (by decide), if_neg (by decide), if_pos rfl]
      exact (hx 1 (by decide)).symm
    by_cases y2 : y = 2
    · subst y2
      rw [if_pos (by omega), if_neg (by decide), if_neg (by decide), if_neg (by decide), if_pos rfl]
      exact (hx 2 (by decide)).symm
    by_cases y3 : y = 3
    · subst y3
      rw [if_pos (by omega), if_neg (by decide), if_neg (by decide), if_neg (by decide), if_neg (by decide), if_pos rfl]
      exact (hx 3 (by decide)).symm
    rw [if_neg y0, if_neg y1, if_neg y2, if_neg y3]
    by_cases y4 : y = 4
    · subst y4
      rw [if_pos (by omega), if_pos rfl, if_pos rfl]
    · rw [if_neg (by omega), if_neg y4]
  · rw [if_neg (by omega), if_neg c]
theorem bun_same (h : ∀ b, b < B → ∀ k, k < 4 → bT k b = bu b k) : awB B fe bu x y = amB B fe bT x y := by
  unfold awB amB
  by_cases c : 0 ≤ x ∧ x < B
  · rw [if_pos c]
    have hx := h x.toNat (by omega)
    by_cases y0 : y = 0
    · subst y0
      rw [if_pos (by omega), if_neg (by decide), if_pos rfl]
      exact (hx 0 (by decide)).symm
    by_cases y1 : y = 1
    · subst y1
      rw [if_pos (by omega), if_neg (by decide), if_neg (by decide), if_pos rfl]
      exact (hx 1 (by decide)).symm
    by_cases y2 : y = 2
    · subst y2
      rw [if_pos (by omega), if_neg (by decide), if_neg (by decide), if_neg (by decide), if_pos rfl]
      exact (hx 2 (by decide)).symm
    by_cases y3 : y = 3
    · subst y3
      rw [if_pos (by omega), if_neg (by decide), if_neg (by decide), if_neg (by decide), if_neg (by decide), if_pos rfl]
      exact (hx 3 (by decide)).symm
    rw [if_neg y0, if_neg y1, if_neg y2, if_neg y3]
    by_cases y4 : y = 4
    · subst y4
      rw [if_pos (by omega), if_pos rfl, if_pos rfl]
    · rw [if_neg (by omega), if_neg y4]
  · rw [if_neg (by omega), if_neg c]
theorem LkV.lv (hL : LkV n fc ac bc lc dc fm am bm s) : RelV n lc (fun r => leM bm s r 0) := by
  obtain ⟨hR, hA, hB, hl, hd, hok, hch, hf0, hfb, h8, hb8, ⟨hs0, hs1⟩, hn1, hn⟩ := hL
  have := lv_rel (le := fun _ => 0) hs0 hB
  intro r hr
  have h1 := this r hr
  unfold tabF at h1
  rw [if_pos hr] at h1
  rw [hl r hr]
  exact h1
theorem unL_e {a b : Int} (h : (b = 1000000 ∧ a = -9) ∨ (b = a ∧ 0 ≤ a ∧ a ≤ 900000)) : unL b = a := by
  unfold unL
  split <;> omega
theorem room_same (hL : LkV n fc ac bc lc dc fm am bm s) : awR n fc ac bc lc x y = amR n fm am bm s x y := by
  have hlv := hL.lv
  obtain ⟨hR, hA, hB, hl, hd, hok, hch, hf0, hfb, h8, hb8, ⟨hs0, hs1⟩, hn1, hn⟩ := hL
  unfold awR amR
  by_cases c : 0 ≤ x ∧ x < n
  · rw [if_pos c]
    have hx : x.toNat < n := by omega
    by_cases hy : 0 ≤ y ∧ y ≤ 3
    · rw [if_pos (show (0 ≤ x ∧ x < (n : Int)) ∧ 0 ≤ y ∧ y ≤ 3 from ⟨c, hy⟩)]
      by_cases y0 : y = 0
      · rw [if_pos y0, if_pos y0]
        exact (unL_e (hR _ hx)).symm
      rw [if_neg y0, if_neg y0]
      by_cases y1 : y = 1
      · rw [if_pos y1, if_pos y1, hA _ hx]
        have := hok _ hx
        rw [hA _ hx] at this
        unfold unL
        rw [if_neg (by omega)]
      rw [if_neg y1, if_neg y1]
      by_cases y2 : y = 2
      · rw [if_pos y2, if_pos y2]
        exact (unL_e (hB _ hx)).symm
      rw [if_neg y2, if_neg y2, if_pos (by omega)]
      exact (unL_e (hlv _ hx)).symm
    · rw [if_neg (show ¬ y = 0 by omega), if_neg (show ¬ y = 1 by omega), if_neg (show ¬ y = 2 by omega), if_neg (show ¬ y = 3 by omega), if_neg (show ¬ ((0 ≤ x ∧ x < (n : Int)) ∧ 0 ≤ y ∧ y ≤ 3) from fun w => hy w.2)]
  · rw [if_neg c, if_neg (fun w => c w.1)]
theorem and_same {a b : Nat} (ha : a < 1024) (hb : b < 1024) : bAnd ((a : Nat) : Int) ((b : Nat) : Int) = ((b &&& a : Nat) : Int) := by
  rw [Nat.and_comm]
  exact bAnd_n (by omega)
theorem bar_same (hX : BgX n B M bT lT wt wo ro ir lb tr) (hL : LkV n fc ac bc lc dc fm am bm s) (hld : ∀ m, m < M → lT m = ld m) (hfe : feM 0 = ((fe : Nat) : Int)) (hfe1 : fe < 1024) {m S : Nat} (hm : m < M) (hS0 : S ≠ 0) (hS : S < 2 ^ B) : barF wt ld ro ir fe fc m S = hinM B bT lT feM fm m S := by
  have hb : 2 ^ B ≤ 2 ^ 10 := Nat.pow_le_pow_right (by decide) hX.2.2.2.2.2.2.2.2.2.2.2.1
  unfold barF hinM
  rw [roo_same hX hS hS0, hX.1 S hS, hld m hm, hfe, and_same (by omega) hfe1]
  by_cases c1 : ld m < wsF (bT 1) S B
  · rw [if_pos c1, if_pos c1]
  rw [if_neg c1, if_neg c1]
  by_cases c2 : rooM bT B S = -9
  · rw [if_pos c2, if_pos c2]
  rw [if_neg c2, if_neg c2]
  by_cases c3 : fe &&& S ≠ 0
  · rw [if_pos c3, if_pos (show ((fe &&& S : Nat) : Int) ≠ 0 by omega)]
  rw [if_neg c3, if_neg (show ¬ ((fe &&& S : Nat) : Int) ≠ 0 by omega)]
  obtain ⟨r, r1, r2⟩ := (roo_r hX S).resolve_left c2
  rw [r1, Int.toNat_natCast]
  have := hL.1 r r2
  by_cases c4 : fc r = -9
  · rw [if_pos c4, if_pos (show fm r = 1000000 by omega)]
  · rw [if_neg c4, if_neg (show ¬ fm r = 1000000 by omega)]
theorem hin_r (hX : BgX n B M bT lT wt wo ro ir lb tr) {m S : Nat} (h : hinM B bT lT feM fm m S = 0) : ∃ r : Nat, rooM bT B S = r ∧ r < n ∧ fm r ≠ 1000000 := by
  unfold hinM at h
  split at h
  · exact absurd h (by decide)
  · split at h
    · exact absurd h (by decide)
    · rename_i c
      obtain ⟨r, r1, r2⟩ := (roo_r hX S).resolve_left c
      rw [r1, Int.toNat_natCast] at h
      refine ⟨r, r1, r2, fun w => ?_⟩
      split at h
      · exact absurd h (by decide)
      · first
          | exact absurd h (by decide)
          | (rw [if_pos w] at h; exact absurd h (by decide))
theorem why_same (hX : BgX n B M bT lT wt wo ro ir lb tr) (hL : LkV n fc ac bc lc dc fm am bm s) (hld : ∀ m, m < M → lT m = ld m) (hfe : feM 0 = ((fe : Nat) : Int)) (hfe1 : fe < 1024) (hmi : ∀ i, i < 3 → miM i = mi i ∧ 0 ≤ mi i ∧ mi i ≤ 900000) : awY M B wt ld ro ir fe fc dc mi x y = amY M B bT lT feM fm am bm miM s x y := by
  unfold awY amY
  by_cases c : (0 ≤ x ∧ x < M) ∧ 1 ≤ y ∧ y < (2 ^ B : Nat)
  · rw [if_pos c, if_pos c]
    have hm : x.toNat < M := by omega
    have hS0 : y.toNat ≠ 0 := by omega
    have hS : y.toNat < 2 ^ B := by omega
    have hM3 := hX.2.2.2.2.2.2.2.2.2.2.2.2
    have hmm := hmi x.toNat (by omega)
    unfold whyF whyM
    rw [bar_same hX hL hld hfe hfe1 hm hS0 hS, roo_same hX hS hS0]
    by_cases c1 : hinM B bT lT feM fm x.toNat y.toNat = 0
    · rw [if_neg (fun w => w c1)]
      obtain ⟨r, r1, r2, r3⟩ := hin_r hX c1
      rw [r1, Int.toNat_natCast, hmm.1]
      have hs := safe_same hL r2 hmm.2.1 hmm.2.2 (Int.le_refl 0) (by decide)
      rw [Int.add_zero] at hs
      by_cases c2 : safM fm am bm s r (mi x.toNat) 0 = true
      · rw [if_pos (hs.mp c2), if_neg (fun w => w.2 c2)]
        exact c1.symm
      · rw [if_neg (fun w => c2 (hs.mpr w)), if_pos ⟨c1, c2⟩]
    · rw [if_pos c1, if_neg (fun w => c1 w.1)]
  · rw [if_neg c, if_neg c]
theorem far_same (hX : BgX n B M bT lT wt wo ro ir lb tr) (hL : LkV n fc ac bc lc dc fm am bm s) (hy : amY M B bT lT feM fm am bm miM s x y = 0) : fc (roF ro ir y.toNat).toNat = fm (rooM bT B y.toNat).toNat ∧ 0 ≤ fc (roF ro ir y.toNat).toNat ∧ fc (roF ro ir y.toNat).toNat ≤ 210 ∧ (0 ≤ x ∧ x < M) ∧ 1 ≤ y ∧ y < (2 ^ B : Nat) := by
  unfold amY at hy
  by_cases c : (0 ≤ x ∧ x < M) ∧ 1 ≤ y ∧ y < (2 ^ B : Nat)
  · rw [if_pos c] at hy
    have h1 : hinM B bT lT feM fm x.toNat y.toNat = 0 := by
      unfold whyM at hy
      split at hy
      · exact absurd hy (by decide)
      · exact hy
    obtain ⟨r, r1, r2, r3⟩ := hin_r hX h1
    rw [roo_same hX (by omega) (by omega), r1, Int.toNat_natCast]
    have h2 := hL.1 r r2
    have h3 := hL.2.2.2.2.2.2.2.2.1 r r2
    exact ⟨by omega, by omega, by omega, c⟩
  · rw [if_neg c] at hy
    exact absurd hy (by decide)
theorem fet_same (hX : BgX n B M bT lT wt wo ro ir lb tr) (hL : LkV n fc ac bc lc dc fm am bm s) (hld : ∀ m, m < M → lT m = ld m) (hfe : feM 0 = ((fe : Nat) : Int)) (hfe1 : fe < 1024) (hmi : ∀ i, i < 3 → miM i = mi i ∧ 0 ≤ mi i ∧ mi i ≤ 900000) : awF M B wt ld ro ir fe fc dc mi x y = amF M B bT lT feM fm am bm miM s x y ∧ (∀ i, i < 3 → mimF M B bT lT feM fm am bm miM s x y i = miF M B wt ld ro ir fe fc dc mi x y i ∧ mi i ≤ miF M B wt ld ro ir fe fc dc mi x y i ∧ miF M B wt ld ro ir fe fc dc mi x y i ≤ mi i + 420 ∧ (M ≤ i → miF M B wt ld ro ir fe fc dc mi x y i = mi i)) ∧ femF M B bT lT feM fm am bm miM s x y 0 = ((feF M B wt ld ro ir fe fc dc mi x y : Nat) : Int) ∧ feF M B wt ld ro ir fe fc dc mi x y < 1024 ∧ (fe < 2 ^ B → feF M B wt ld ro ir fe fc dc mi x y < 2 ^ B) := by
  have hw := why_same (x := x) (y := y) hX hL hld hfe hfe1 hmi
  have hB10 := hX.2.2.2.2.2.2.2.2.2.2.2.1
  have hM3 := hX.2.2.2.2.2.2.2.2.2.2.2.2
  have hb : 2 ^ B ≤ 2 ^ 10 := Nat.pow_le_pow_right (by decide) hB10
  unfold awF amF mimF miF femF feF
  rw [hw]
  by_cases c : amY M B bT lT feM fm am bm miM s x y = 0
  · obtain ⟨h1, h2, h3, ⟨x0, x1⟩, y0, y1⟩ := far_same hX hL c
    rw [c, if_neg (by decide), if_neg (by decide), if_pos rfl, if_pos rfl, if_pos rfl, if_pos rfl, if_pos rfl]
    have hx3 := hmi x.toNat (by omega)
    refine ⟨by rw [hx3.1, h1], fun i hi => ?_, ?_, ?_, fun hf => ?_⟩
    · unfold upF
      by_cases e : i = x.toNat
      · rw [if_pos e, if_pos e, hx3.1, h1, e]
        rw [h1] at h2 h3
        exact ⟨rfl, by omega, by omega, fun w => by omega⟩
      · rw [if_neg e, if_neg e]
        have := hmi i hi
        exact ⟨this.1, Int.le_refl _, by omega, fun _ => rfl⟩
    · rw [upF_s, hfe]
      obtain ⟨k, rfl⟩ : ∃ k : Nat, y = k := ⟨y.toNat, by omega⟩
      rw [Int.toNat_natCast]
      exact bOr_n (by omega) (by omega)
    · have h1 : fe < 2 ^ 10 := hfe1
      have h2 : y.toNat < 2 ^ 10 := by omega
      exact Nat.or_lt_two_pow h1 h2
    · exact Nat.or_lt_two_pow hf (by omega)
  · rw [if_neg c, if_neg c, if_neg c, if_neg c, if_neg c]
    refine ⟨?_, fun i hi => ⟨(hmi i hi).1, Int.le_refl _, by omega, fun _ => rfl⟩, hfe, hfe1, fun h => h⟩
    by_cases c1 : amY M B bT lT feM fm am bm miM s x y = -1
    · rw [if_pos c1, if_pos c1]
    · rw [if_neg c1, if_neg c1, if_pos (by exact c)]
theorem man_same (hld : ∀ m, m < M → lT m = ld m) (hM3 : M ≤ 3) (hmi : ∀ i, i < 3 → miM i = mi i) : awM M ld mi x y = amM M lT miM x y := by
  unfold awM amM
  by_cases c : (0 ≤ x ∧ x < M) ∧ 0 ≤ y ∧ y ≤ 1
  · rw [if_pos c, if_pos c, hld _ (by omega), hmi _ (by omega)]
  · rw [if_neg c, if_neg c]
theorem sav_same (hX : BgX n B M bT lT wt wo ro ir lb tr) (hfe : fe < 2 ^ B) (hmi : ∀ i, i < 3 → miM i = mi i ∧ 0 ≤ mi i) (hz : ∀ i, M ≤ i → i < 3 → mi i = 0) : awV wo mi fe x = amV M B bT miM fe x := by
  have hM3 := hX.2.2.2.2.2.2.2.2.2.2.2.2
  have h2 : ltF mi 3 = lsM miM M := by
    have h3 : ∀ k, k ≤ 3 → ltF mi k = lsM miM k ∧ 0 ≤ ltF mi k := by
      intro k
      induction k with
      | zero => intro _; exact ⟨rfl, Int.le_refl _⟩
      | succ k ih =>
        intro hk
        obtain ⟨i1, i2⟩ := ih (by omega)
        have h1 := hmi k (by omega)
        show (if ltF mi k < mi k then mi k else ltF mi k) = (if lsM miM k < miM k then miM k else lsM miM k) ∧ 0 ≤ (if ltF mi k < mi k then mi k else ltF mi k)
        rw [h1.1, ← i1]
        refine ⟨rfl, ?_⟩
        split <;> omega
    have h4 : ∀ j, M + j ≤ 3 → ltF mi (M + j) = ltF mi M := by
      intro j
      induction j with
      | zero => intro _; rfl
      | succ j ih =>
        intro hj
        have e : ltF mi (M + (j + 1)) = if ltF mi (M + j) < mi (M + j) then mi (M + j) else ltF mi (M + j) := rfl
        rw [e, hz (M + j) (by omega) (by omega), ih (by omega)]
        have := (h3 M hM3).2
        rw [if_neg (by omega)]
    have h5 := h4 (3 - M) (by omega)
    rw [show M + (3 - M) = 3 by omega] at h5
    rw [h5, (h3 M hM3).1]
  unfold awV amV
  rw [hX.2.1 fe hfe, h2]
theorem sur_same (hX : BgX n B M bT lT wt wo ro ir lb tr) (hL : LkV n fc ac bc lc dc fm am bm s) (hld : ∀ m, m < M → lT m = ld m) (hfe : feM 0 = ((fe : Nat) : Int)) (hfe1 : fe < 1024) {ch : Nat → Int} {m S : Nat} (hm : m < M) (hS0 : S ≠ 0) (hS : S < 2 ^ B) (ht0 : 0 ≤ t) (ht1 : t ≤ 900000) : sureF wt ld ro ir fe fc dc ch m S t = smF B bT lT feM fm am bm ch s m S t := by
  unfold sureF smF
  rw [bar_same hX hL hld hfe hfe1 hm hS0 hS, roo_same hX hS hS0]
  by_cases c1 : hinM B bT lT feM fm m S ≠ 0
  · rw [if_pos c1, if_pos c1]
  · rw [if_neg c1, if_neg c1]
    obtain ⟨r, r1, r2, r3⟩ := hin_r hX (Classical.not_not.mp c1)
    rw [r1, Int.toNat_natCast]
    have key : ∀ k, k ≤ 5 → fo k (fun k a => if fc r ≠ -9 ∧ t + (k : Int) + 2 * fc r ≤ dc r then a + ch k else a) 0 = fo k (fun k a => a + (if safM fm am bm s r t (k : Int) = true then ch k else 0)) (0 : Int) := by
      intro k
      induction k with
      | zero => intro _; rfl
      | succ k ih =>
        intro hk
        show (if fc r ≠ -9 ∧ t + (k : Int) + 2 * fc r ≤ dc r then fo k (fun k a => if fc r ≠ -9 ∧ t + (k : Int) + 2 * fc r ≤ dc r then a + ch k else a) 0 + ch k else fo k (fun k a => if fc r ≠ -9 ∧ t + (k : Int) + 2 * fc r ≤ dc r then a + ch k else a) 0) = fo k (fun k a => a + (if safM fm am bm s r t (k : Int) = true then ch k else 0)) (0 : Int) + (if safM fm am bm s r t (k : Int) = true then ch k else 0)
        rw [ih (by omega)]
        have hs := safe_same hL r2 ht0 ht1 (so := (k : Int)) (by omega) (by omega)
        by_cases c2 : safM fm am bm s r t (k : Int) = true
        · rw [if_pos c2, if_pos (hs.mp c2)]
        · rw [if_neg c2, if_neg (fun w => c2 (hs.mpr w)), Int.add_zero]
    exact key 5 (Nat.le_refl _)
theorem sure_same (hX : BgX n B M bT lT wt wo ro ir lb tr) (hL : LkV n fc ac bc lc dc fm am bm s) (hld : ∀ m, m < M → lT m = ld m) (hfe : feM 0 = ((fe : Nat) : Int)) (hfe1 : fe < 1024) {ch : Nat → Int} : awS M B wt ld ro ir fe fc dc ch x y t = amS M B bT lT feM fm am bm ch s x y t := by
  unfold awS amS
  by_cases c : ((0 ≤ x ∧ x < M) ∧ 1 ≤ y ∧ y < (2 ^ B : Nat)) ∧ 0 ≤ t ∧ t ≤ 999
  · rw [if_pos c, if_pos c]
    exact sur_same hX hL hld hfe hfe1 (by omega) (by omega) (by omega) (by omega) (by omega)
  · rw [if_neg c, if_neg c]
theorem last_same (hX : BgX n B M bT lT wt wo ro ir lb tr) (hL : LkV n fc ac bc lc dc fm am bm s) (hld : ∀ m, m < M → lT m = ld m) (hfe : feM 0 = ((fe : Nat) : Int)) (hfe1 : fe < 1024) {ch : Nat → Int} : awL M B wt ld ro ir fe fc dc ch x y v = amL M B bT lT feM fm am bm ch s x y v := by
  unfold awL amL
  by_cases c : ((0 ≤ x ∧ x < M) ∧ 1 ≤ y ∧ y < (2 ^ B : Nat)) ∧ 1 ≤ v ∧ v ≤ 10
  · rw [if_pos c, if_pos c]
    have key : ∀ k, k ≤ 201 → laF (fun t => decide (v ≤ sureF wt ld ro ir fe fc dc ch x.toNat y.toNat t)) k = lmF (fun t => decide (v ≤ smF B bT lT feM fm am bm ch s x.toNat y.toNat t)) k := by
      intro k
      induction k with
      | zero => intro _; rfl
      | succ k ih =>
        intro hk
        show (if decide (v ≤ sureF wt ld ro ir fe fc dc ch x.toNat y.toNat k) = true then (k : Int) else laF (fun t => decide (v ≤ sureF wt ld ro ir fe fc dc ch x.toNat y.toNat t)) k) = (if decide (v ≤ smF B bT lT feM fm am bm ch s x.toNat y.toNat k) = true then (k : Int) else lmF (fun t => decide (v ≤ smF B bT lT feM fm am bm ch s x.toNat y.toNat t)) k)
        rw [ih (by omega), sur_same (t := (k : Int)) hX hL hld hfe hfe1 (by omega) (by omega) (by omega) (by omega) (by omega)]
    exact key 201 (Nat.le_refl _)
  · rw [if_neg c, if_neg c]
theorem lost_same (hL : LkV n fc ac bc lc dc fm am bm s) (hbu : ∀ b, b < B → ∀ k, k < 4 → bT k b = bu b k) (hb0 : ∀ b, b < B → 0 ≤ bT 0 b ∧ bT 0 b < n) : awT B fe bu bc x y = amT B fe bT bm x y := by
  unfold awT amT
  by_cases c : (0 ≤ x ∧ x ≤ 999) ∧ 0 ≤ y ∧ y ≤ 1
  · rw [if_pos c, if_pos c]
    have key : ∀ k, k ≤ B → loF fe bu bc x 0 k = (lbF fe bT bm x k).1 ∧ loF fe bu bc x 1 k = (lbF fe bT bm x k).2 := by
      intro k
      induction k with
      | zero => intro _; exact ⟨rfl, rfl⟩
      | succ k ih =>
        intro hk
        obtain ⟨i1, i2⟩ := ih (by omega)
        show loS fe bu bc x 0 k (loF fe bu bc x 0 k) = (lbS fe bT bm x k (lbF fe bT bm x k)).1 ∧ loS fe bu bc x 1 k (loF fe bu bc x 1 k) = (lbS fe bT bm x k (lbF fe bT bm x k)).2
        unfold loS lbS
        rw [i1, i2]
        have e0 := hbu k (by omega) 0 (by decide)
        have e2 := hbu k (by omega) 2 (by decide)
        have e3 := hbu k (by omega) 3 (by decide)
        have h0 := hb0 k (by omega)
        rw [← e0, ← e2, ← e3]
        have hr := hL.2.2.1 (bT 0 k).toNat (by omega)
        cases hf : fe.testBit k with
        | true => simp
        | false =>
          by_cases cb : bm (bT 0 k).toNat ≤ x
          · have c2 : bc (bT 0 k).toNat ≠ -9 ∧ bc (bT 0 k).toNat ≤ x := by omega
            simp [cb, c2]
          · have c2 : ¬ (bc (bT 0 k).toNat ≠ -9 ∧ bc (bT 0 k).toNat ≤ x) := by omega
            simp [cb, c2]
    obtain ⟨k1, k2⟩ := key B (Nat.le_refl _)
    by_cases y0 : y = 0
    · rw [if_pos y0, y0]
      exact k1
    · rw [if_neg y0, show y = 1 by omega]
      exact k2
  · rw [if_neg c, if_neg c]
theorem load_same (hL : LkV n fc ac bc lc dc fm am bm s) : awU n fc x y t v = amU n fm x y t v := by
  unfold awU amU
  by_cases c : (0 ≤ x ∧ x < n) ∧ (1 ≤ y ∧ y ≤ 40) ∧ (0 ≤ t ∧ t ≤ 999) ∧ 0 ≤ v ∧ v ≤ 1
  · rw [if_pos c, if_pos c]
    have hr := hL.1 x.toNat (by omega)
    by_cases e : fc x.toNat = -9
    · rw [if_pos e, if_pos (by omega)]
    · rw [if_neg e, if_neg (show ¬ fm x.toNat = 1000000 by omega), show fm x.toNat = fc x.toNat by omega, chn_e, run_e (by omega)]
  · rw [if_neg c, if_neg c]
theorem edge_same (hL : LkV n fc ac bc lc dc fm am bm s) : awE n fc x t = amE n fm x t := by
  unfold awE amE
  by_cases c : (0 ≤ x ∧ x < n) ∧ (0 ≤ t ∧ t ≤ 999)
  · rw [if_pos c, if_pos c]
    have hr := hL.1 x.toNat (by omega)
    by_cases e : fc x.toNat = -9
    · rw [if_pos e, if_pos (by omega)]
    · rw [if_neg e, if_neg (show ¬ fm x.toNat = 1000000 by omega), show fm x.toNat = fc x.toNat by omega, ed_e (by omega)]
  · rw [if_neg c, if_neg c]
theorem pri_same (hX : BgX n B M bT lT wt wo ro ir lb tr) (hL : LkV n fc ac bc lc dc fm am bm s) (hbu : ∀ b, b < B → ∀ k, k < 4 → bT k b = bu b k) {b : Nat} (hb : b < B) : prV bu lc fc sh x b = pmV bT (fun r => leM bm s r 0) fm sh x b := by
  have e0 := hbu b hb 0 (by decide)
  have e1 := hbu b hb 1 (by decide)
  have e2 := hbu b hb 2 (by decide)
  have e3 := hbu b hb 3 (by decide)
  have h9 := (hX.2.2.2.2.2.2.2.2.1 b hb).1
  have hr := hL.1 (bT 0 b).toNat (by omega)
  have hl := hL.lv (bT 0 b).toNat (by omega)
  have o1 : ozF (lc (bT 0 b).toNat) = ozM ((fun r => leM bm s r 0) (bT 0 b).toNat) := by
    unfold ozF ozM
    split <;> split <;> omega
  have o2 : ozF (fc (bT 0 b).toNat) = if fm (bT 0 b).toNat = 1000000 then 0 else fm (bT 0 b).toNat := by
    unfold ozF
    split <;> split <;> omega
  unfold prV pmV
  rw [← e0, ← e1, ← e2, ← e3, o1, o2, bcF_pop]
end AN
