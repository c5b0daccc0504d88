/-! c7: BEST DOORS are the same in both -/
theorem ad_bit {wT : Nat → Nat → Int} {D W : Nat} (h : ∀ w, w < W → wT 3 w = if D.testBit w then 1 else 0) : ∀ k, k ≤ W → ∀ i, (adF wT k).testBit i = (decide (i < k) && D.testBit i)
  | 0, _, i => by
    show (0 : Nat).testBit i = _
    rw [Nat.zero_testBit, decide_eq_false (by omega)]
    rfl
  | k + 1, hk, i => by
    have ih := ad_bit h k (by omega) i
    show (adF wT k ||| ((wT 3 k).toNat * 2 ^ k)).testBit i = _
    rw [h k (by omega)]
    by_cases c : D.testBit k = true
    · rw [if_pos c, show (1 : Int).toNat * 2 ^ k = 2 ^ k by simp, or_bit, ih]
      by_cases e : k = i
      · subst e
        rw [c, decide_eq_true (rfl : k = k), decide_eq_true (Nat.lt_succ_self k), Bool.or_true]
        rfl
      · rw [decide_eq_false e, Bool.or_false]
        by_cases c2 : i < k
        · rw [decide_eq_true c2, decide_eq_true (show i < k + 1 by omega)]
        · rw [decide_eq_false c2, decide_eq_false (show ¬ i < k + 1 by omega)]
    · rw [if_neg c, show (0 : Int).toNat * 2 ^ k = 0 by simp, Nat.or_zero, ih]
      by_cases e : k = i
      · subst e
        rw [Bool.eq_false_iff.mpr c, Bool.and_false, Bool.and_false]
      · by_cases c2 : i < k
        · rw [decide_eq_true c2, decide_eq_true (show i < k + 1 by omega)]
        · rw [decide_eq_false c2, decide_eq_false (show ¬ i < k + 1 by omega)]
theorem ad_D {n W B M F D : Nat} {wy bu fi wT : Nat → Nat → Int} {ld : Nat → Int} (hV : HoV n W B M F D wy bu ld fi) (hW : WTx W wy wT) : adF wT W = D := by
  have h : ∀ w, w < W → wT 3 w = if D.testBit w then 1 else 0 := fun w hw => by
    rw [hW w hw 3 (by decide)]
    exact (hV.2.2.2.2.2.2.1 w hw).2.2.2.2.2.2.2
  apply Nat.eq_of_testBit_eq
  intro i
  rw [ad_bit h W (Nat.le_refl _)]
  cases e : D.testBit i with
  | false => rw [Bool.and_false]
  | true =>
    rw [decide_eq_true (hV.2.2.2.2.2.2.2.1 i e)]
    rfl
section DS
variable {n W B M F D : Nat} {wy bu fi wT bT fT : Nat → Nat → Int} {ld lT tn tnM wt wo ro : Nat → Int} {ir : Nat → Nat} {lb : Nat → Int} {tr : Nat → Nat → Int}
theorem doo_same (hV : HoV n W B M F D wy bu ld fi) (ht : TnV tn) (hW : WTx W wy wT) (hF : FTx F fi fT) (h0 : tnM 0 = tn 0) (h1 : tnM 1 = tn 1) (h2 : tnM 2 = tn 2) (hX : BgX n B M bT lT wt wo ro ir lb tr) (hM1 : 1 ≤ M) :
    ∃ vd : Nat → Nat → Int, (∀ S, ∀ fa0 ah0 bn0 le0 du0 od0 fc ac bc lc dc oc oN, DrV n W F wy fi tn S fa0 ah0 bn0 le0 du0 od0 fc ac bc lc dc oc → AtV n fc ac bc lc dc oc oN → OrdP n dc oN → ∀ T, T < 2 ^ B → finR oN ir fc dc (fun p => (tr 0 p).toNat) T n 0 0 = vd S T) ∧
      (∀ S, ∀ (fa ah bn w : Nat → Int), OuP (okM B bT (faM W S wT fa 8) (ahM W S wT (faM W S wT fa 8) ah W) (bnM W F S tnM wT fT bn 8) (tnM 2) (lT 0)) (gM B bT (faM W S wT fa 8)) 0 (2 ^ B - 1) w (2 ^ B) → ∀ T, T < 2 ^ B → w T = vtF (2 ^ B - 1) (vd S) T) ∧
      ∀ x, amD D (fun S => wo (bstF wo (vd S) (2 ^ B - 1) (2 ^ B - 1))) x = amD (adF wT W) (dvM B bT (fun S => vtF (2 ^ B - 1) (vd S))) x := by
  have hb1 : 1 ≤ 2 ^ B := Nat.one_le_two_pow
  have hall : ∀ T, T < 2 ^ B → Sub T (2 ^ B - 1) := fun T hT i hi => by
    rw [Nat.testBit_two_pow_sub_one]
    exact decide_eq_true (bit_B hT hi)
  have key : ∀ S : Nat, ∃ f : Nat → Int, (∀ fa0 ah0 bn0 le0 du0 od0 fc ac bc lc dc oc oN, DrV n W F wy fi tn S fa0 ah0 bn0 le0 du0 od0 fc ac bc lc dc oc → AtV n fc ac bc lc dc oc oN → OrdP n dc oN → ∀ T, T < 2 ^ B → finR oN ir fc dc (fun p => (tr 0 p).toNat) T n 0 0 = f T) ∧
      (∀ (fa ah bn w : Nat → Int), OuP (okM B bT (faM W S wT fa 8) (ahM W S wT (faM W S wT fa 8) ah W) (bnM W F S tnM wT fT bn 8) (tnM 2) (lT 0)) (gM B bT (faM W S wT fa 8)) 0 (2 ^ B - 1) w (2 ^ B) → ∀ T, T < 2 ^ B → w T = vtF (2 ^ B - 1) f T) ∧ ∀ T, f T = -9 ∨ (0 ≤ f T ∧ f T ≤ 900000) := by
    intro S
    obtain ⟨fc0, ac0, bc0, lc0, dc0, oc0, hD0⟩ : ∃ fc ac bc lc dc oc, DrV n W F wy fi tn S (fun _ => 0) (fun _ => 0) (fun _ => 0) (fun _ => 0) (fun _ => 0) (fun _ => 0) fc ac bc lc dc oc := ⟨_, _, _, _, _, _, rfl, rfl, rfl, rfl, rfl, rfl⟩
    obtain ⟨oN0, hav0, hop0⟩ := dr_av hV ht hD0
    refine ⟨fun T => finR oN0 ir fc0 dc0 (fun p => (tr 0 p).toNat) T n 0 0, ?_, ?_, ?_⟩
    · intro fa0 ah0 bn0 le0 du0 od0 fc ac bc lc dc oc oN hD hav hop T hT
      have l0 := dr_lk (fa := fun _ => 0) (ah := fun _ => 0) (bn := fun _ => 0) hV ht hW hF h0 h1 hD0
      have l1 := dr_lk (fa := fun _ => 0) (ah := fun _ => 0) (bn := fun _ => 0) hV ht hW hF h0 h1 hD
      have hcg := lk_cg l1 l0
      have hou := ord_un hop hop0 (fun r hr => (hcg r hr).2)
      exact finR_cg (fun j hj => ⟨hou j hj, hop.1 j hj⟩) hcg n 0 0 (by omega)
    · intro fa ah bn w hw T hT
      have l0 := dr_lk (fa := fa) (ah := ah) (bn := bn) hV ht hW hF h0 h1 hD0
      rw [h2] at hw
      have q := (ou_same hX (m := 0) (by omega) l0 hop0 (Int.le_refl 0) (by decide) hw hT).1 (hall T hT)
      rw [q]
      unfold vtF
      rw [if_pos (sub_iff.mpr (hall T hT))]
    · intro T
      have l0 := dr_lk (fa := fun _ => 0) (ah := fun _ => 0) (bn := fun _ => 0) hV ht hW hF h0 h1 hD0
      exact fin_b (dp_of hX (m := 0) (by omega) l0 hop0) (Int.le_refl 0) (by decide) T
  obtain ⟨vd, hvd⟩ := Classical.axiomOfChoice key
  refine ⟨vd, fun S => (hvd S).1, fun S => (hvd S).2.1, fun x => ?_⟩
  rw [ad_D hV hW]
  have : (fun S => wo (bstF wo (vd S) (2 ^ B - 1) (2 ^ B - 1))) = dvM B bT (fun S => vtF (2 ^ B - 1) (vd S)) := by
    funext S
    have hbs := bst_same (wo := wo) (wo' := fun S => wsF (bT 2) S B) (fin := vd S) (U := 2 ^ B - 1) (B := B) (by omega) (fun T hT => hX.2.1 T hT) (hvd S).2.2
    have hle := bst_le wo (vd S) (2 ^ B - 1) (2 ^ B - 1)
    unfold dvM
    rw [← hbs]
    exact hX.2.1 _ (by omega)
  rw [this]
end DS
