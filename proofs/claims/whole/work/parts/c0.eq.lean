/-! c0: a RUN: whose turn it is, where he goes -/
def FreV (men : Nat) (fr fre : Nat → Int) : Prop := ∀ i, i < men → (fr i = -1 ∧ fre i = 1000000) ∨ (fr i = fre i ∧ 0 ≤ fr i ∧ fr i < 1000000)
theorem ff_ag {men : Nat} {fr fre : Nat → Int} (hF : FreV men fr fre) : ∀ j, j < men → (fre (agF fre j) = 1000000 ∧ ffF fr (j + 1) = -9) ∨ (fre (agF fre j) < 1000000 ∧ ffF fr (j + 1) = ((agF fre j : Nat) : Int))
  | 0, h => by
    have e : ffF fr 1 = ffS fr 0 (-9) := rfl
    have ea : agF fre 0 = 0 := rfl
    rw [e, ea]
    unfold ffS
    have := hF 0 h
    by_cases c : fr 0 = -1
    · rw [if_pos c]
      left
      exact ⟨by omega, rfl⟩
    · rw [if_neg c, if_pos (Or.inl rfl)]
      right
      exact ⟨by omega, rfl⟩
  | j + 1, h => by
    have ih := ff_ag hF j (by omega)
    have hj := hF (j + 1) h
    have hle := agF_le fre j
    have ha := hF (agF fre j) (by omega)
    have e : ffF fr (j + 1 + 1) = ffS fr (j + 1) (ffF fr (j + 1)) := rfl
    have ea : agF fre (j + 1) = if fre (j + 1) < fre (agF fre j) then j + 1 else agF fre j := rfl
    rw [e, ea]
    unfold ffS
    rcases ih with ⟨i1, i2⟩ | ⟨i1, i2⟩
    · rw [i2]
      by_cases c : fr (j + 1) = -1
      · rw [if_pos c, if_neg (show ¬ fre (j + 1) < fre (agF fre j) by omega)]
        exact Or.inl ⟨i1, rfl⟩
      · rw [if_neg c, if_pos (show fre (j + 1) < fre (agF fre j) by omega), if_pos (Or.inl rfl)]
        exact Or.inr ⟨by omega, rfl⟩
    · rw [i2, Int.toNat_natCast]
      by_cases c : fr (j + 1) = -1
      · rw [if_pos c, if_neg (show ¬ fre (j + 1) < fre (agF fre j) by omega)]
        exact Or.inr ⟨i1, rfl⟩
      · rw [if_neg c]
        by_cases c2 : fre (j + 1) < fre (agF fre j)
        · rw [if_pos c2, if_pos (show (((agF fre j : Nat) : Int) = -9 ∨ fr (j + 1) < fr (agF fre j)) by omega)]
          exact Or.inr ⟨by omega, rfl⟩
        · rw [if_neg c2, if_neg (show ¬ (((agF fre j : Nat) : Int) = -9 ∨ fr (j + 1) < fr (agF fre j)) by omega)]
          exact Or.inr ⟨i1, rfl⟩
section GO
variable {n B M : Nat} {bT : Nat → Nat → Int} {lT wt wo ro : Nat → Int} {ir oN bN : Nat → Nat} {lb : Nat → Int} {tr : Nat → Nat → Int} {fc ac bc lc dc fm am bm : Nat → Int} {s t : Int} {tk rule : Nat}
theorem li_bit (hX : BgX n B M bT lT wt wo ro ir lb tr) : ∀ k, k ≤ B → ∀ i, (liF wt k).testBit i = (decide (i < k) && decide (bT 1 i ≤ 30))
  | 0, _, i => by
    show (0 : Nat).testBit i = _
    rw [Nat.zero_testBit, decide_eq_false (by omega)]
    rfl
  | k + 1, hk, i => by
    have ih := li_bit hX k (by omega) i
    have e : liF wt (k + 1) = if wt (2 ^ k) ≤ 30 then liF wt k ||| 2 ^ k else liF wt k := rfl
    rw [e, wt_pow hX (by omega)]
    by_cases c : bT 1 k ≤ 30
    · rw [if_pos c, or_bit, ih]
      by_cases ei : k = i
      · subst ei
        rw [decide_eq_true (rfl : k = k), decide_eq_true (Nat.lt_succ_self k), decide_eq_true c, Bool.or_true]
        rfl
      · rw [decide_eq_false ei, Bool.or_false]
        by_cases c2 : i < k
        · rw [decide_eq_true c2, decide_eq_true (show i < k + 1 by omega)]
        · rw [decide_eq_false c2, decide_eq_false (show ¬ i < k + 1 by omega)]
    · rw [if_neg c, ih]
      by_cases ei : k = i
      · subst ei
        rw [decide_eq_false c, Bool.and_false, Bool.and_false]
      · by_cases c2 : i < k
        · rw [decide_eq_true c2, decide_eq_true (show i < k + 1 by omega)]
        · rw [decide_eq_false c2, decide_eq_false (show ¬ i < k + 1 by omega)]
/-- what is light and not taken in a ROOM -/
theorem here_bit (hX : BgX n B M bT lT wt wo ro ir lb tr) {r i : Nat} (hr : r < n) : (nDif (liF wt B) tk &&& ir r).testBit i = true ↔ i < B ∧ bT 0 i = (r : Int) ∧ tk.testBit i = false ∧ bT 1 i ≤ 30 := by
  have x4 := hX.2.2.2.1
  have x9 := hX.2.2.2.2.2.2.2.2.1
  have x11 := hX.2.2.2.2.2.2.2.2.2.2.1
  rw [Nat.testBit_and, nDif_bit, li_bit hX B (Nat.le_refl _), x4 r i (by omega)]
  simp only [Bool.and_eq_true, decide_eq_true_eq, Bool.not_eq_true']
  constructor
  · intro ⟨⟨⟨h1, h2⟩, h3⟩, h4, h5⟩
    have := x9 i h1
    exact ⟨h1, by omega, h3, h2⟩
  · intro ⟨h1, h2, h3, h4⟩
    exact ⟨⟨⟨h1, h4⟩, h3⟩, h1, by omega⟩
theorem here_max (hX : BgX n B M bT lT wt wo ro ir lb tr) {r : Nat} (hr : r < n) : ∀ k, k ≤ B → (mgF bT tk r k = -9 ∧ riF wo (nDif (liF wt B) tk &&& ir r) k = 0 ∧ ∀ i, i < k → (nDif (liF wt B) tk &&& ir r).testBit i = false) ∨ (mgF bT tk r k = riF wo (nDif (liF wt B) tk &&& ir r) k ∧ 0 ≤ mgF bT tk r k ∧ mgF bT tk r k ≤ 99 ∧ ∃ i, i < k ∧ (nDif (liF wt B) tk &&& ir r).testBit i = true)
  | 0, _ => Or.inl ⟨rfl, rfl, fun i hi => absurd hi (Nat.not_lt_zero _)⟩
  | k + 1, hk => by
    have ih := here_max hX hr k (by omega)
    have x9 := (hX.2.2.2.2.2.2.2.2.1 k (by omega)).2.2.1
    have hb := here_bit hX (tk := tk) (i := k) hr
    have e1 : mgF bT tk r (k + 1) = mgS bT tk r k (mgF bT tk r k) := rfl
    have e2 : riF wo (nDif (liF wt B) tk &&& ir r) (k + 1) = if (nDif (liF wt B) tk &&& ir r).testBit k = true then (if riF wo (nDif (liF wt B) tk &&& ir r) k < wo (2 ^ k) then wo (2 ^ k) else riF wo (nDif (liF wt B) tk &&& ir r) k) else riF wo (nDif (liF wt B) tk &&& ir r) k := rfl
    rw [e1, e2, wo_pow hX (by omega)]
    unfold mgS
    generalize (nDif (liF wt B) tk &&& ir r) = H at *
    by_cases c : H.testBit k = true
    · have c2 := hb.mp c
      rw [if_pos c]
      right
      refine ⟨?_, ?_, ?_, k, Nat.lt_succ_self k, c⟩
      · rcases ih with ⟨i1, i2, i3⟩ | ⟨i1, i2, i3, i4⟩
        · rw [if_pos (show (bT 0 k = (r : Int) ∧ tk.testBit k = false ∧ bT 1 k ≤ 30) ∧ mgF bT tk r k < bT 2 k from ⟨c2.2, by omega⟩), i2]
          split <;> omega
        · rw [← i1]
          by_cases c3 : mgF bT tk r k < bT 2 k
          · rw [if_pos ⟨c2.2, c3⟩, if_pos c3]
          · rw [if_neg (fun w => c3 w.2), if_neg c3]
      · split
        · omega
        · rename_i c3
          have : ¬ mgF bT tk r k < bT 2 k := fun w => c3 ⟨c2.2, w⟩
          omega
      · split
        · omega
        · rcases ih with ⟨i1, i2, i3⟩ | ⟨i1, i2, i3, i4⟩ <;> omega
    · rw [if_neg c, if_neg (fun w => c (hb.mpr ⟨by omega, w.1⟩))]
      rcases ih with ⟨i1, i2, i3⟩ | ⟨i1, i2, i3, i, i4, i5⟩
      · left
        refine ⟨i1, i2, fun i hi => ?_⟩
        by_cases ei : i = k
        · rw [ei]
          simpa using c
        · exact i3 i (by omega)
      · exact Or.inr ⟨i1, i2, i3, i, by omega, i5⟩
theorem here_0 (hX : BgX n B M bT lT wt wo ro ir lb tr) {r : Nat} (hr : r < n) : nDif (liF wt B) tk &&& ir r = 0 ↔ mgF bT tk r B = -9 := by
  rcases here_max hX (tk := tk) hr B (Nat.le_refl _) with ⟨i1, i2, i3⟩ | ⟨i1, i2, i3, i, i4, i5⟩
  · refine ⟨fun _ => i1, fun _ => Nat.eq_of_testBit_eq fun i => ?_⟩
    rw [Nat.zero_testBit]
    cases e : (nDif (liF wt B) tk &&& ir r).testBit i with
    | false => rfl
    | true =>
      have := ((here_bit hX hr).mp e).1
      rw [i3 i this] at e
      exact absurd e (by decide)
  · refine ⟨fun w => ?_, fun w => by omega⟩
    rw [w, Nat.zero_testBit] at i5
    exact absurd i5 (by decide)
/-- where he goes -/
theorem goal_same (hX : BgX n B M bT lT wt wo ro ir lb tr) (hL : LkV n fc ac bc lc dc fm am bm s) (hru : rule ≤ 2) (ht0 : 0 ≤ t) (ht1 : t ≤ 900000) : ∀ k, k ≤ n → ((goF (rkF lc fc wo B rule) ir fc dc (nDif (liF wt B) tk) t k).1 = -9 ∧ snF (fun r => gbP B bT fm am bm s rule tk r t) k = (-9, 1000001)) ∨ (goF (rkF lc fc wo B rule) ir fc dc (nDif (liF wt B) tk) t k = snF (fun r => gbP B bT fm am bm s rule tk r t) k ∧ (snF (fun r => gbP B bT fm am bm s rule tk r t) k).2 ≤ 1000000 ∧ ∃ g : Nat, (snF (fun r => gbP B bT fm am bm s rule tk r t) k).1 = (g : Int) ∧ g < k ∧ nDif (liF wt B) tk &&& ir g ≠ 0 ∧ fc g ≠ -9 ∧ t + 2 * fc g ≤ dc g)
  | 0, _ => Or.inl ⟨rfl, rfl⟩
  | k + 1, hk => by
    have ih := goal_same hX hL hru ht0 ht1 k (by omega)
    have hs := safe_same hL (r := k) (by omega) ht0 ht1 (Int.le_refl 0) (by decide)
    rw [Int.add_zero] at hs
    have h0 := here_0 hX (tk := tk) (r := k) (by omega)
    have hmx := here_max hX (tk := tk) (r := k) (by omega) B (Nat.le_refl _)
    have hR := hL.1 k (by omega)
    have hlv := hL.lv k (by omega)
    have hfb := hL.2.2.2.2.2.2.2.2.1 k (by omega)
    have e1 : goF (rkF lc fc wo B rule) ir fc dc (nDif (liF wt B) tk) t (k + 1) = goS (rkF lc fc wo B rule) ir fc dc (nDif (liF wt B) tk) t k (goF (rkF lc fc wo B rule) ir fc dc (nDif (liF wt B) tk) t k) := rfl
    have e2 : snF (fun r => gbP B bT fm am bm s rule tk r t) (k + 1) = snS (fun r => gbP B bT fm am bm s rule tk r t) k (snF (fun r => gbP B bT fm am bm s rule tk r t) k) := rfl
    rw [e1, e2]
    generalize hgo : goF (rkF lc fc wo B rule) ir fc dc (nDif (liF wt B) tk) t k = gc at *
    generalize hsn : snF (fun r => gbP B bT fm am bm s rule tk r t) k = gm at *
    unfold goS snS
    dsimp only
    by_cases c : nDif (liF wt B) tk &&& ir k ≠ 0 ∧ fc k ≠ -9 ∧ t + 2 * fc k ≤ dc k
    · obtain ⟨c1, c2⟩ := c
      have c3 : mgF bT tk k B ≠ -9 := fun w => c1 (h0.mpr w)
      have hb : gbP B bT fm am bm s rule tk k t = rkF lc fc wo B rule (nDif (liF wt B) tk &&& ir k) k ∧ gbP B bT fm am bm s rule tk k t ≤ 1000000 := by
        clear ih
        unfold gbP gbM rkF
        rw [if_neg (fun w => w.elim c3 (fun w => w.elim (fun q => by omega) (fun q => by rw [hs.mpr c2] at q; exact absurd q (by decide))))]
        by_cases r0 : rule = 0
        · rw [if_pos r0, if_pos r0]
          unfold orN
          dsimp only at hlv
          split <;> omega
        · rw [if_neg r0, if_neg r0]
          by_cases r1 : rule = 1
          · rw [if_pos r1, if_pos r1]
            rcases hmx with w | w
            · exact absurd w.1 c3
            · omega
          · rw [if_neg r1, if_neg r1]
            omega
      rw [if_neg c1, if_pos c2]
      right
      rw [← hb.1]
      rcases ih with ⟨i1, i2⟩ | ⟨i1, i2, g, i3, i4, i5⟩
      · rw [if_pos (Or.inl i1), i2, if_pos (show gbP B bT fm am bm s rule tk k t < ((-9 : Int), (1000001 : Int)).2 by show gbP B bT fm am bm s rule tk k t < (1000001 : Int); omega)]
        exact ⟨rfl, hb.2, k, rfl, Nat.lt_succ_self k, c1, c2⟩
      · have hne : gc.1 ≠ -9 := by rw [i1, i3]; omega
        by_cases c4 : gbP B bT fm am bm s rule tk k t < gm.2
        · rw [if_pos (Or.inr (by rw [i1]; exact c4)), if_pos c4]
          exact ⟨rfl, hb.2, k, rfl, Nat.lt_succ_self k, c1, c2⟩
        · rw [if_neg (fun w => w.elim hne (fun q => c4 (by rw [← i1]; exact q))), if_neg c4]
          exact ⟨i1, i2, g, i3, by omega, i5⟩
    · have hb : gbP B bT fm am bm s rule tk k t = 1000001 := by
        unfold gbP gbM
        refine if_pos ?_
        by_cases c1 : nDif (liF wt B) tk &&& ir k = 0
        · exact Or.inl (h0.mp c1)
        · right; right
          have : ¬ safM fm am bm s k t 0 = true := fun w => c ⟨c1, hs.mp w⟩
          simpa using this
      have hkeep : (if nDif (liF wt B) tk &&& ir k = 0 then gc else if fc k ≠ -9 ∧ t + 2 * fc k ≤ dc k then if gc.1 = -9 ∨ rkF lc fc wo B rule (nDif (liF wt B) tk &&& ir k) k < gc.2 then ((k : Int), rkF lc fc wo B rule (nDif (liF wt B) tk &&& ir k) k) else gc else gc) = gc := by
        by_cases c1 : nDif (liF wt B) tk &&& ir k = 0
        · rw [if_pos c1]
        · rw [if_neg c1, if_neg (fun w => c ⟨c1, w⟩)]
      rw [hkeep]
      simp only [hb]
      rcases ih with ⟨i1, i2⟩ | ⟨i1, i2, g, i3, i4, i5⟩
      · left
        refine ⟨i1, ?_⟩
        rw [i2, if_neg (show ¬ (1000001 : Int) < ((-9 : Int), (1000001 : Int)).2 by show ¬ (1000001 : Int) < 1000001; omega)]
      · right
        rw [if_neg (by omega)]
        exact ⟨i1, i2, g, i3, by omega, i5⟩
end GO
