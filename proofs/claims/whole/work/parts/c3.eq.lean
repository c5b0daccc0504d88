/-! c3: a RUN, turn by turn -/
theorem enF_hi {ou : Nat → Int} {C : Int} (hC : 0 ≤ C) : ∀ k, (∀ i, i < k → ou i ≤ C) → 0 ≤ enF ou k ∧ enF ou k ≤ C
  | 0, _ => ⟨Int.le_refl _, hC⟩
  | k + 1, h => by
    have ih := enF_hi hC k (fun i hi => h i (by omega))
    have h1 := h k (by omega)
    show 0 ≤ (if enF ou k < ou k then ou k else enF ou k) ∧ (if enF ou k < ou k then ou k else enF ou k) ≤ C
    split <;> omega
def RnI (men B : Nat) (sta : Int) (tk oc : Nat) (fr ou : Nat → Int) (st : RuS) : Prop := st.1 = tk ∧ tk < 2 ^ B ∧ oc ≤ cnt 10 (fun i => tk.testBit i) ∧ FreV men fr st.2.2.1 ∧ (∀ i, i < men → fr i ≠ -1 → fr i ≤ 431 * oc) ∧ (∀ e, e < 5000 → st.2.2.2 e = ctF ou ((e : Nat) : Int) oc ∧ ctF ou ((e : Nat) : Int) oc ≤ sta) ∧ st.2.1 = enF ou oc ∧ ∀ i, i < oc → 0 ≤ ou i ∧ ou i ≤ 431 * oc
def potF (men tk : Nat) (fr : Nat → Int) : Nat := (10 - cnt 10 (fun i => tk.testBit i)) + cnt men (fun i => decide (fr i ≠ -1))
section RN
variable {n B M : Nat} {bT : Nat → Nat → Int} {lT wt wo ro : Nat → Int} {ir bN : Nat → Nat} {lb : Nat → Int} {tr : Nat → Nat → Int} {fc ac bc lc dc fm am bm fr ou : Nat → Int} {s sta : Int} {tk oc rule men : Nat} {st : RuS}
theorem run_step (hX : BgX n B M bT lT wt wo ro ir lb tr) (hL : LkV n fc ac bc lc dc fm am bm s) (hO : OrdP B (dvF wo) bN) (hru : rule ≤ 2) (hm1 : 1 ≤ men) (hm9 : men ≤ 9) (hs1 : 1 ≤ sta) (hI : RnI men B sta tk oc fr ou st) (hlt : st.2.2.1 (agF st.2.2.1 (men - 1)) < 1000000) :
    RuV (gbP B bT fm am bm s rule) fm n sta st (agF st.2.2.1 (men - 1)) ∧ ∃ tk' oc' fr' ou', (∀ k, cgF (rkF lc fc wo B rule) wt bN ir fc dc B n (liF wt B) men sta (k + 1) tk oc fr ou = cgF (rkF lc fc wo B rule) wt bN ir fc dc B n (liF wt B) men sta k tk' oc' fr' ou') ∧ RnI men B sta tk' oc' fr' ou' (ruN (gbP B bT fm am bm s rule) (tmP B bT) fm n sta st (agF st.2.2.1 (men - 1))) ∧ potF men tk' fr' + 1 ≤ potF men tk fr := by
  obtain ⟨rs, ends, fre, oi⟩ := st
  obtain ⟨r1, r2, r3, r4, r5, r6, r7, r8⟩ := hI
  dsimp only at r1 r4 r6 r7 hlt
  subst r1
  have hB10 := hX.2.2.2.2.2.2.2.2.2.2.2.1
  have hn8 := hX.2.2.2.2.2.2.2.2.2.2.1
  have hb : 2 ^ B ≤ 2 ^ 10 := Nat.pow_le_pow_right (by decide) hB10
  have hc10 := cnt_le (fun i => rs.testBit i) 10
  have hagle := agF_le fre (men - 1)
  have hff := ff_ag r4 (men - 1) (by omega)
  rw [show men - 1 + 1 = men by omega] at hff
  obtain ⟨m, hme⟩ : ∃ m, agF fre (men - 1) = m := ⟨_, rfl⟩
  rw [hme] at hff hlt hagle
  show RuV (gbP B bT fm am bm s rule) fm n sta (rs, ends, fre, oi) (agF fre (men - 1)) ∧ ∃ tk' oc' fr' ou', _ ∧ RnI men B sta tk' oc' fr' ou' (ruN (gbP B bT fm am bm s rule) (tmP B bT) fm n sta (rs, ends, fre, oi) (agF fre (men - 1))) ∧ _
  rw [hme]
  have hmm : m < men := by omega
  have hffm : ffF fr men = ((m : Nat) : Int) := by
    rcases hff with w | w
    · omega
    · exact w.2
  have hfm := r4 m hmm
  have hfrm : fr m = fre m ∧ 0 ≤ fr m ∧ fr m ≤ 431 * oc ∧ fr m ≠ -1 := by
    have h1 : fr m = fre m ∧ 0 ≤ fr m ∧ fr m < 1000000 := by omega
    exact ⟨h1.1, h1.2.1, r5 m hmm (by omega), by omega⟩
  have hg := goal_same (t := fre m) (tk := rs) hX hL hru (by omega) (by omega) n (Nat.le_refl _)
  have hends : 0 ≤ ends ∧ ends ≤ 431 * oc := by
    rw [r7]
    exact enF_hi (by omega) oc (fun i hi => (r8 i hi).2)
  have hoib : ∀ e, e < 5000 → 0 ≤ oi e ∧ oi e ≤ 10 := fun e he => by
    have h1 := (r6 e he).1
    have h2 := ctF_b ou ((e : Nat) : Int) oc
    omega
  have hrue : ruF (gbP B bT fm am bm s rule) n (rs, ends, fre, oi) m = (snF (fun r => gbP B bT fm am bm s rule rs r (fre m)) n).1 := rfl
  rcases hg with ⟨g1, g2⟩ | ⟨g1, g2, g, g3, g4, g5, g6, g7⟩
  · -- he stays out
    have hru9 : ruF (gbP B bT fm am bm s rule) n (rs, ends, fre, oi) m = -9 := by rw [hrue, g2]
    refine ⟨⟨by omega, by show rs < 1024; omega, ⟨hends.1, by show ends ≤ 5000; omega⟩, ⟨by show 0 ≤ fre m; omega, by show fre m ≤ 1000000; omega⟩, hoib, fun w => absurd hru9 w⟩, rs, oc, upF fr m (-1), ou, fun k => ?_, ?_, ?_⟩
    · show (if ffF fr men = -9 then _ else if (goF (rkF lc fc wo B rule) ir fc dc (nDif (liF wt B) rs) (fr (ffF fr men).toNat) n).1 = -9 ∨ 10 ≤ oc then cgF (rkF lc fc wo B rule) wt bN ir fc dc B n (liF wt B) men sta k rs oc (upF fr (ffF fr men).toNat (-1)) ou else _) = _
      rw [hffm, if_neg (by omega), Int.toNat_natCast, hfrm.1, if_pos (Or.inl g1)]
    · unfold ruN
      rw [if_pos hru9]
      refine ⟨rfl, r2, r3, fun i hi => ?_, fun i hi hne => ?_, r6, r7, r8⟩
      · show (upF fr m (-1) i = -1 ∧ upF fre m 1000000 i = 1000000) ∨ (upF fr m (-1) i = upF fre m 1000000 i ∧ 0 ≤ upF fr m (-1) i ∧ upF fr m (-1) i < 1000000)
        unfold upF
        by_cases e : i = m
        · rw [if_pos e, if_pos e]
          exact Or.inl ⟨rfl, rfl⟩
        · rw [if_neg e, if_neg e]
          exact r4 i hi
      · unfold upF at hne ⊢
        by_cases e : i = m
        · rw [if_pos e] at hne
          exact absurd rfl hne
        · rw [if_neg e] at hne ⊢
          exact r5 i hi hne
    · unfold potF
      have := cnt_lt (p := fun i => decide (upF fr m (-1) i ≠ -1)) (q := fun i => decide (fr i ≠ -1)) (fun i hi => by
        have h1 := of_decide_eq_true hi
        unfold upF at h1
        by_cases e : i = m
        · rw [if_pos e] at h1
          exact absurd rfl h1
        · rw [if_neg e] at h1
          exact decide_eq_true h1) (u := m) (by rw [upF_s]; rfl) (decide_eq_true hfrm.2.2.2) men hmm
      omega
  · -- he goes
    have hrug : ruF (gbP B bT fm am bm s rule) n (rs, ends, fre, oi) m = ((g : Nat) : Int) := by rw [hrue, g3]
    have hne : ruF (gbP B bT fm am bm s rule) n (rs, ends, fre, oi) m ≠ -9 := by rw [hrug]; omega
    have hgf := hL.1 g g4
    have hgb := hL.2.2.2.2.2.2.2.2.1 g g4
    obtain ⟨t1, t2, i, t3, t4, t5⟩ := take_more hX hO g4 r2 g5
    have hcnt := cnt_lt (p := fun i => rs.testBit i) (q := fun i => (tmP B bT rs g).testBit i) (fun i hi => t1 i hi) (u := i) t4 t5 10 (by omega)
    have hc10' := cnt_le (fun i => (tmP B bT rs g).testBit i) 10
    have hoc9 : oc ≤ 9 := by omega
    obtain ⟨E, hE⟩ : ∃ E : Nat, fre m + 2 * fm g = ((E : Nat) : Int) := ⟨(fre m + 2 * fm g).toNat, by omega⟩
    obtain ⟨j, j1, j2, j3, j4⟩ := out_same (ou := ou) (oi := oi) (oc := oc) (E := E) (sta := sta) (by omega) (by omega) hs1 r6
    have hEE : ruE (gbP B bT fm am bm s rule) fm n sta (rs, ends, fre, oi) m = E + j := by
      unfold ruE
      rw [hrug, Int.toNat_natCast]
      show eoF oi sta (fre m + 2 * fm g).toNat = E + j
      rw [hE, Int.toNat_natCast]
      exact j3
    have hEb : (E + j : Nat) ≤ 431 * oc + 429 := by omega
    refine ⟨⟨by omega, by show rs < 1024; omega, ⟨hends.1, by show ends ≤ 5000; omega⟩, ⟨by show 0 ≤ fre m; omega, by show fre m ≤ 1000000; omega⟩, hoib, fun _ => ?_⟩, tmP B bT rs g, oc + 1, upF fr m (((E + j : Nat) : Int) + 1), upF ou oc ((E + j : Nat) : Int), fun k => ?_, ?_, ?_⟩
    · rw [hrug, Int.toNat_natCast, hEE]
      refine ⟨by show fre m + 2 * fm g ≤ 4500; omega, by omega, ?_⟩
      show oi (E + j) ≠ sta
      have := (r6 (E + j) (by omega)).1
      omega
    · have hgN : (goF (rkF lc fc wo B rule) ir fc dc (nDif (liF wt B) rs) (fre m) n).1 = ((g : Nat) : Int) := by rw [g1, g3]
      show (if ffF fr men = -9 then _ else if (goF (rkF lc fc wo B rule) ir fc dc (nDif (liF wt B) rs) (fr (ffF fr men).toNat) n).1 = -9 ∨ 10 ≤ oc then _ else cgF (rkF lc fc wo B rule) wt bN ir fc dc B n (liF wt B) men sta k (tkF wt bN (ir (goF (rkF lc fc wo B rule) ir fc dc (nDif (liF wt B) rs) (fr (ffF fr men).toNat) n).1.toNat) rs B).1 (oc + 1) (upF fr (ffF fr men).toNat (ouF ou oc sta (fr (ffF fr men).toNat + 2 * fc (goF (rkF lc fc wo B rule) ir fc dc (nDif (liF wt B) rs) (fr (ffF fr men).toNat) n).1.toNat) + 1)) (upF ou oc (ouF ou oc sta (fr (ffF fr men).toNat + 2 * fc (goF (rkF lc fc wo B rule) ir fc dc (nDif (liF wt B) rs) (fr (ffF fr men).toNat) n).1.toNat)))) = _
      rw [hffm, if_neg (by omega), Int.toNat_natCast, hfrm.1, hgN, if_neg (by omega), Int.toNat_natCast, take_same hX hO g4, show fre m + 2 * fc g = ((E : Nat) : Int) by omega, j2]
    · unfold ruN
      rw [if_neg hne, hrug, Int.toNat_natCast, hEE]
      have hup : ∀ x, ctF (upF ou oc ((E + j : Nat) : Int)) x (oc + 1) = if ((E + j : Nat) : Int) = x then ctF ou x oc + 1 else ctF ou x oc := fun x => by
        rw [ctF_s, ctF_up oc (Nat.le_refl _), upF_s]
      refine ⟨rfl, t2, by omega, fun i hi => ?_, fun i hi hne2 => ?_, fun e he => ?_, ?_, fun i hi => ?_⟩
      · show (upF fr m (((E + j : Nat) : Int) + 1) i = -1 ∧ upF fre m (((E + j : Nat) : Int) + 1) i = 1000000) ∨ (upF fr m (((E + j : Nat) : Int) + 1) i = upF fre m (((E + j : Nat) : Int) + 1) i ∧ 0 ≤ upF fr m (((E + j : Nat) : Int) + 1) i ∧ upF fr m (((E + j : Nat) : Int) + 1) i < 1000000)
        unfold upF
        by_cases e : i = m
        · rw [if_pos e, if_pos e]
          right
          exact ⟨rfl, by omega, by omega⟩
        · rw [if_neg e, if_neg e]
          exact r4 i hi
      · unfold upF at hne2 ⊢
        by_cases e : i = m
        · rw [if_pos e]
          omega
        · rw [if_neg e] at hne2 ⊢
          have := r5 i hi hne2
          omega
      · show upF oi (E + j) (oi (E + j) + 1) e = ctF (upF ou oc ((E + j : Nat) : Int)) ((e : Nat) : Int) (oc + 1) ∧ ctF (upF ou oc ((E + j : Nat) : Int)) ((e : Nat) : Int) (oc + 1) ≤ sta
        rw [hup]
        have h6 := r6 e he
        by_cases ee : e = E + j
        · subst ee
          rw [upF_s, if_pos rfl]
          omega
        · rw [upF_n _ _ ee, if_neg (by omega)]
          exact h6
      · show (if ends < ((E + j : Nat) : Int) then ((E + j : Nat) : Int) else ends) = enF (upF ou oc ((E + j : Nat) : Int)) (oc + 1)
        show _ = if enF (upF ou oc ((E + j : Nat) : Int)) oc < upF ou oc ((E + j : Nat) : Int) oc then upF ou oc ((E + j : Nat) : Int) oc else enF (upF ou oc ((E + j : Nat) : Int)) oc
        rw [enF_up oc (Nat.le_refl _), upF_s, r7]
      · unfold upF
        by_cases ei : i = oc
        · rw [if_pos ei]
          omega
        · rw [if_neg ei]
          have := r8 i (by omega)
          omega
    · unfold potF
      have hsame : cnt men (fun i => decide (upF fr m (((E + j : Nat) : Int) + 1) i ≠ -1)) = cnt men (fun i => decide (fr i ≠ -1)) := by
        refine cnt_cg men (fun i hi => ?_)
        unfold upF
        by_cases e : i = m
        · rw [if_pos e, e]
          rw [decide_eq_true (show (((E + j : Nat) : Int) + 1) ≠ -1 by omega), decide_eq_true hfrm.2.2.2]
        · rw [if_neg e]
      rw [hsame]
      omega
theorem run_all (hX : BgX n B M bT lT wt wo ro ir lb tr) (hL : LkV n fc ac bc lc dc fm am bm s) (hO : OrdP B (dvF wo) bN) (hru : rule ≤ 2) (hm1 : 1 ≤ men) (hm9 : men ≤ 9) (hs1 : 1 ≤ sta) : ∀ K (tk oc : Nat) (fr ou : Nat → Int) (st : RuS), RnI men B sta tk oc fr ou st → potF men tk fr ≤ K → ∃ tk' oc' fr' ou', cgF (rkF lc fc wo B rule) wt bN ir fc dc B n (liF wt B) men sta K tk oc fr ou = (tk', oc', fr', ou') ∧ RnI men B sta tk' oc' fr' ou' (mgR (ruN (gbP B bT fm am bm s rule) (tmP B bT) fm n sta) men K st) ∧ ¬ (mgR (ruN (gbP B bT fm am bm s rule) (tmP B bT) fm n sta) men K st).2.2.1 (agF (mgR (ruN (gbP B bT fm am bm s rule) (tmP B bT) fm n sta) men K st).2.2.1 (men - 1)) < 1000000
  | 0, tk, oc, fr, ou, st, hI, hp => by
    refine ⟨tk, oc, fr, ou, rfl, hI, fun w => ?_⟩
    have w : st.2.2.1 (agF st.2.2.1 (men - 1)) < 1000000 := w
    have hle := agF_le st.2.2.1 (men - 1)
    have hF := hI.2.2.2.1 (agF st.2.2.1 (men - 1)) (by omega)
    have hc0 : cnt men (fun i => decide (fr i ≠ -1)) = 0 := by
      unfold potF at hp
      omega
    have := cnt_lt (p := fun _ => false) (q := fun i => decide (fr i ≠ -1)) (fun i hi => absurd hi (by decide)) (u := agF st.2.2.1 (men - 1)) rfl (decide_eq_true (by omega)) men (by omega)
    omega
  | K + 1, tk, oc, fr, ou, st, hI, hp => by
    by_cases c : st.2.2.1 (agF st.2.2.1 (men - 1)) < 1000000
    · obtain ⟨-, tk', oc', fr', ou', h1, h2, h3⟩ := run_step (rule := rule) hX hL hO hru hm1 hm9 hs1 hI c
      obtain ⟨a, b, f, o, q1, q2, q3⟩ := run_all hX hL hO hru hm1 hm9 hs1 K tk' oc' fr' ou' _ h2 (by omega)
      have e : mgR (ruN (gbP B bT fm am bm s rule) (tmP B bT) fm n sta) men (K + 1) st = mgR (ruN (gbP B bT fm am bm s rule) (tmP B bT) fm n sta) men K (ruN (gbP B bT fm am bm s rule) (tmP B bT) fm n sta st (agF st.2.2.1 (men - 1))) := by
        show (if st.2.2.1 (agF st.2.2.1 (men - 1)) < 1000000 then _ else _) = _
        rw [if_pos c]
      rw [e]
      exact ⟨a, b, f, o, by rw [h1, q1], q2, q3⟩
    · have e : mgR (ruN (gbP B bT fm am bm s rule) (tmP B bT) fm n sta) men (K + 1) st = st := by
        show (if st.2.2.1 (agF st.2.2.1 (men - 1)) < 1000000 then _ else _) = _
        rw [if_neg c]
      have hff := ff_ag hI.2.2.2.1 (men - 1) (by omega)
      rw [show men - 1 + 1 = men by omega] at hff
      have hff9 : ffF fr men = -9 := by
        rcases hff with w | w
        · exact w.2
        · exact absurd w.1 c
      rw [e]
      refine ⟨tk, oc, fr, ou, ?_, hI, c⟩
      show (if ffF fr men = -9 then (tk, oc, fr, ou) else _) = _
      rw [if_pos hff9]
theorem run_0 {fr0 ou0 fre oi : Nat → Int} (hm9 : men ≤ 9) (hs1 : 1 ≤ sta) : RnI men B sta 0 0 (tabF 9 (fun _ => 0) fr0) ou0 (0, 0, tabF men (fun _ => 0) fre, tabF 5000 (fun _ => 0) oi) ∧ potF men 0 (tabF 9 (fun _ => 0) fr0) ≤ 19 := by
  refine ⟨⟨rfl, Nat.two_pow_pos B, Nat.zero_le _, fun i hi => ?_, fun i hi _ => ?_, fun e he => ?_, rfl, fun i hi => absurd hi (Nat.not_lt_zero _)⟩, ?_⟩
  · right
    show tabF 9 (fun _ => 0) fr0 i = tabF men (fun _ => 0) fre i ∧ 0 ≤ tabF 9 (fun _ => 0) fr0 i ∧ tabF 9 (fun _ => 0) fr0 i < 1000000
    unfold tabF
    rw [if_pos (show i < 9 by omega), if_pos hi]
    dsimp only
    omega
  · unfold tabF
    rw [if_pos (show i < 9 by omega)]
    dsimp only
    omega
  · show tabF 5000 (fun _ => 0) oi e = 0 ∧ (0 : Int) ≤ sta
    unfold tabF
    rw [if_pos he]
    dsimp only
    omega
  · unfold potF
    have := cnt_le (fun i => decide (tabF 9 (fun _ => 0) fr0 i ≠ -1)) men
    omega
end RN
