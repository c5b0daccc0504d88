/-! 99: both readers, ITEM by ITEM -/
def HT (H : HS) (T : MT) : Prop := (T.1 0 1 = ((H.1.1 : Nat) : Int) ∧ T.1 1 1 = ((H.1.2.1 : Nat) : Int) ∧ T.1 2 1 = ((H.1.2.2.1 : Nat) : Int) ∧ T.1 3 1 = ((H.1.2.2.2.1 : Nat) : Int) ∧ T.1 4 1 = ((H.1.2.2.2.2.1 : Nat) : Int)) ∧ (∀ w, w < H.1.2.1 → ∀ k, k < 4 → T.2.1 k (12 + w) = H.2.1 w k) ∧ (∀ b, b < H.1.2.2.1 → ∀ k, k < 4 → T.2.2.1 k (10 + b) = H.2.2.1 b k) ∧ (∀ m, m < H.1.2.2.2.1 → T.2.2.2.1 (3 + m) = H.2.2.2.1 m) ∧ (∀ f, f < H.1.2.2.2.2.1 → ∀ k, k < 2 → T.2.2.2.2 k (4 + f) = H.2.2.2.2 f k)
def IZ (tx : Nat → Int) (len : Nat) (R' : RS) (H' : HS) (x : MS × MT) : Prop := ∃ dr', Z0 tx len dr' R' x.1 ∧ (R'.2.2.2.2 = -1 → HT H' x.2 ∧ dr' = ((popN H'.1.2.2.2.2.2 : Nat) : Int))
theorem nvM_0 (tx : Nat → Int) (len p : Nat) : 0 ≤ nvM tx len p := by
  unfold nvM
  split
  · omega
  · split
    · omega
    · split
      · refine (vaF_b _ (fun i hi => ?_)).1
        exact diF_d tx len (nxS tx len p) (nxS tx len p + i) (by omega) (by omega)
      · omega
theorem popN_or {D W : Nat} (hW : W < 12) (hb : D.testBit W = false) : popN (D ||| 2 ^ W) = popN D + 1 := by
  have h1 := bcF_pop (D ||| 2 ^ W)
  have h2 := bcF_pop D
  have key : ∀ k, bcF (D ||| 2 ^ W) k = bcF D k + (if W < k then 1 else 0) := by
    intro k
    induction k with
    | zero => rfl
    | succ k ih =>
      show bcF (D ||| 2 ^ W) k + bi (D ||| 2 ^ W) k = bcF D k + bi D k + _
      rw [ih]
      unfold bi
      rw [or_bit]
      by_cases e : W = k
      · subst e
        rw [hb, if_neg (by omega), if_pos (by simp), if_neg (by simp), if_pos (by omega)]
        try omega
      · rw [decide_eq_false e, Bool.or_false]
        by_cases c : W < k
        · rw [if_pos c, if_pos (show W < k + 1 by omega)]
          omega
        · rw [if_neg c, if_neg (show ¬ W < k + 1 by omega)]
          omega
  have := key 12
  rw [if_pos hW] at this
  omega
section IT
variable {tx : Nat → Int} {len : Nat} {dr : Int} {R : RS} {S : MS} {H : HS} {T : MT}
theorem Z1.m9 (h : Z1 tx len dr R S) (hf : R.2.2.2.2 = -1) : S = tkM tx len R.1 dr := (h.resolve_right fun w => w.1 hf).2
theorem iz_rm (hZ : Z1 tx len dr R S) (hT : HT H T) (hd : dr = ((popN H.1.2.2.2.2.2 : Nat) : Int)) : IZ tx len (rmR tx len R) (rmH tx len R H) (mtHead tx len T S) := by
  have h1 := Z1_nm (lo := 1) (hi := 8) hZ
  refine ⟨dr, Z1_nx h1.1, fun hf => ?_⟩
  have hv := h1.2 hf
  have hb := nmV_b (tx := tx) (len := len) (R := R) (lo := 1) (hi := 8) (by decide)
  have hs : (nuR tx len 1 8 S).2.2.2.2.1 = -9 := by rw [h1.1.m9 hf]; rfl
  obtain ⟨⟨t0, t1, t2, t3, t4⟩, tw, tb, tm, tf⟩ := hT
  refine ⟨⟨⟨?_, t1, t2, t3, t4⟩, tw, tb, tm, tf⟩, hd⟩
  show cU T.1 0 (if (nuR tx len 1 8 S).2.2.2.2.1 = -9 then S.2.2.2.1 else 1) 0 1 = (((nmV tx len 1 8 R).toNat : Nat) : Int)
  rw [cU_s, if_pos hs, hv]
  rw [hv] at hb
  omega
theorem iz_wy3 {n : Nat} (hZ : Z1 tx len dr R S) : Z1 tx len dr (wR3 tx len n R) (mwR2 tx len n S) := by
  have a1 := Z1_nm (lo := 0) (hi := (n : Int) - 1) hZ
  have b2 := Z1_nm (lo := 0) (hi := (n : Int) - 1) a1.1
  by_cases f1 : (wR1 tx len n R).2.2.2.2 = -1
  · have va : wVa tx len n R = S.2.2.2.1 := a1.2 f1
    have hS1 : mwR1 tx len n S = tkM tx len (wR1 tx len n R).1 dr := a1.1.m9 f1
    by_cases c : nuB 0 ((n : Int) - 1) (mwR1 tx len n S) = true
    · have ce := nuB_e c
      have h2 : Z1 tx len dr (wR2 tx len n R) (duR tx len true (mwR1 tx len n S)) := by
        have := b2.1
        unfold nuR at this
        have c' : nuB 0 ((n : Int) - 1) (duR tx len (nuB 0 ((n : Int) - 1) S) S) = true := c
        rw [c'] at this
        exact this
      have f2 : (wR2 tx len n R).2.2.2.2 = -1 := by
        rcases h2 with w | w
        · exact w.1
        · exfalso
          have h9 : (duR tx len true (mwR1 tx len n S)).2.2.2.2.1 = -9 := by
            rw [hS1]
            rfl
          omega
      have vb : wVb tx len n R = (mwR1 tx len n S).2.2.2.1 := b2.2 f2
      have hw2 : (wR2 tx len n R).2.1 = nxS tx len (wR1 tx len n R).1 := by
        unfold wR2 nmR
        split
        · rfl
        · rfl
      by_cases e : wVb tx len n R = wVa tx len n R
      · have e3 : wR3 tx len n R = rfR (wR2 tx len n R) := if_pos e
        have eb : mwB2 tx len n S = false := by
          unfold mwB2
          rw [decide_eq_false (p := (mwR1 tx len n S).2.2.2.1 < (n : Int) ∧ (mwR1 tx len n S).2.2.2.1 ≠ S.2.2.2.1) (fun w => w.2 (by rw [← vb, e, va])), Bool.and_false]
        have e4 : (mwR2 tx len n S).2.2.2.2.1 = ((nxS tx len (wR1 tx len n R).1 : Nat) : Int) := by
          unfold mwR2
          rw [eb, hS1]
          rfl
        refine Or.inr ?_
        rw [e3, rfR_s f2, hw2, e4]
        omega
      · have e3 : wR3 tx len n R = wR2 tx len n R := if_neg e
        have eb : mwB2 tx len n S = true := by
          unfold mwB2
          rw [decide_eq_true ce.1, decide_eq_true (p := (mwR1 tx len n S).2.2.2.1 < (n : Int) ∧ (mwR1 tx len n S).2.2.2.1 ≠ S.2.2.2.1) ⟨by omega, fun w => e (by rw [vb, va, w])⟩]
          rfl
        rw [e3]
        unfold mwR2
        rw [eb]
        exact h2
    · have c0 : nuB 0 ((n : Int) - 1) (mwR1 tx len n S) = false := by simpa using c
      have hv0 := nvM_0 tx len (wR1 tx len n R).1
      have eb : mwB2 tx len n S = false := by
        by_cases w : mwB2 tx len n S = true
        · exfalso
          unfold mwB2 at w
          rw [Bool.and_eq_true, decide_eq_true_eq, decide_eq_true_eq] at w
          apply c
          unfold nuB
          rw [decide_eq_true w.1, decide_eq_true (p := 0 ≤ (mwR1 tx len n S).2.2.2.1 ∧ (mwR1 tx len n S).2.2.2.1 ≤ (n : Int) - 1) ⟨by rw [hS1]; exact hv0, by omega⟩]
          rfl
        · simpa using w
      have h2 : Z1 tx len dr (wR2 tx len n R) (mwR2 tx len n S) := by
        have := b2.1
        unfold nuR at this
        have c' : nuB 0 ((n : Int) - 1) (duR tx len (nuB 0 ((n : Int) - 1) S) S) = false := c0
        rw [c'] at this
        unfold mwR2
        rw [eb]
        exact this
      have f2 : (wR2 tx len n R).2.2.2.2 ≠ -1 := by
        intro w
        have h9 := h2.m9 w
        unfold mwR2 at h9
        rw [eb, hS1] at h9
        have h8 : ((nxS tx len (wR1 tx len n R).1 : Nat) : Int) = -9 := congrArg (fun x : MS => x.2.2.2.2.1) h9
        omega
      have e3 : (wR3 tx len n R).2.2.2.2 = (wR2 tx len n R).2.2.2.2 := by
        unfold wR3
        split
        · exact rfR_k f2
        · rfl
      have h3 := h2.resolve_left fun w => f2 w.1
      refine Or.inr ?_
      rw [e3]
      exact h3
  · have h1 := a1.1.resolve_left fun w => f1 w.1
    have e2 : (wR2 tx len n R).2.2.2.2 = (wR1 tx len n R).2.2.2.2 := nmR_k f1
    have e3 : (wR3 tx len n R).2.2.2.2 = (wR1 tx len n R).2.2.2.2 := by
      unfold wR3
      split
      · rw [rfR_k (by rw [e2]; exact f1), e2]
      · exact e2
    have h9 : (mwR1 tx len n S).2.2.2.2.1 = (wR1 tx len n R).2.2.2.2 := h1.2.2
    have h0 : 0 ≤ (wR1 tx len n R).2.2.2.2 := h1.2.1
    refine Or.inr ?_
    rw [e3]
    refine ⟨f1, h0, ?_⟩
    unfold mwR2
    rw [duR_k (by omega)]
    exact h9
theorem iz_wy (hW : H.1.2.1 < 12) (hD : H.1.2.2.2.2.2.testBit H.1.2.1 = false) (hZ : Z1 tx len dr R S) (hT : HT H T) (hd : dr = ((popN H.1.2.2.2.2.2 : Nat) : Int)) : IZ tx len (wyR tx len R H) (wyH tx len R H) (mtWay tx len T S) := by
  have hn : (T.1 0 1).toNat = H.1.1 := by rw [hT.1.1]; exact Int.toNat_natCast _
  have hw : (T.1 1 1).toNat = H.1.2.1 := by rw [hT.1.2.1]; exact Int.toNat_natCast _
  have a1 := Z1_nm (lo := 0) (hi := (H.1.1 : Int) - 1) hZ
  have b2 := Z1_nm (lo := 0) (hi := (H.1.1 : Int) - 1) a1.1
  have a2 := iz_wy3 (n := H.1.1) hZ
  have a3 := Z1_nm (lo := 1) (hi := 30) a2
  have a5 : Z0 tx len dr (wR5 tx len H.1.1 R) (mwR3 tx len H.1.1 S) := Z1_nx a3.1
  unfold wyR wyH mtWay
  have hw12 : ¬ 12 ≤ H.1.2.1 := by omega
  rw [if_neg hw12, if_neg hw12, hn, hw]
  -- what is told, if there is no fault
  have hval : (wR5 tx len H.1.1 R).2.2.2.2 = -1 → wVa tx len H.1.1 R = S.2.2.2.1 ∧ wVb tx len H.1.1 R = (mwR1 tx len H.1.1 S).2.2.2.1 ∧ wVc tx len H.1.1 R = (mwR2 tx len H.1.1 S).2.2.2.1 := by
    intro f5
    have f4 : (wR4 tx len H.1.1 R).2.2.2.2 = -1 := f5
    have f3 := (nmR_f f4).2
    have f2 := (wR3_f f3).2
    have f1 := (nmR_f f2).2
    exact ⟨a1.2 f1, b2.2 f2, a3.2 f4⟩
  have hHT : ∀ (D' : Nat) (dv : Int) (row : Nat → Int), (row 0 = S.2.2.2.1 ∧ row 1 = (mwR1 tx len H.1.1 S).2.2.2.1 ∧ row 2 = (mwR2 tx len H.1.1 S).2.2.2.1 ∧ row 3 = dv) → HT ((H.1.1, H.1.2.1 + 1, H.1.2.2.1, H.1.2.2.2.1, H.1.2.2.2.2.1, D'), rowU H.2.1 H.1.2.1 row, H.2.2) (cU T.1 1 (T.1 1 1 + 1), fun k => upF (T.2.1 k) (12 + H.1.2.1) (pk4 S.2.2.2.1 (mwR1 tx len H.1.1 S).2.2.2.1 (mwR2 tx len H.1.1 S).2.2.2.1 dv k), T.2.2) := by
    intro D' dv row ⟨r0, r1, r2, r3⟩
    obtain ⟨⟨t0, t1, t2, t3, t4⟩, tw, tb, tm, tf⟩ := hT
    refine ⟨⟨?_, ?_, ?_, ?_, ?_⟩, fun w hw k hk => ?_, tb, tm, tf⟩
    · show cU T.1 1 (T.1 1 1 + 1) 0 1 = _
      rw [cU_n _ _ (by decide)]; exact t0
    · show cU T.1 1 (T.1 1 1 + 1) 1 1 = ((H.1.2.1 + 1 : Nat) : Int)
      rw [cU_s, t1]; omega
    · show cU T.1 1 (T.1 1 1 + 1) 2 1 = _
      rw [cU_n _ _ (by decide)]; exact t2
    · show cU T.1 1 (T.1 1 1 + 1) 3 1 = _
      rw [cU_n _ _ (by decide)]; exact t3
    · show cU T.1 1 (T.1 1 1 + 1) 4 1 = _
      rw [cU_n _ _ (by decide)]; exact t4
    · show upF (T.2.1 k) (12 + H.1.2.1) (pk4 S.2.2.2.1 (mwR1 tx len H.1.1 S).2.2.2.1 (mwR2 tx len H.1.1 S).2.2.2.1 dv k) (12 + w) = (if w = H.1.2.1 then row else H.2.1 w) k
      have hw' : w < H.1.2.1 + 1 := hw
      by_cases e : w = H.1.2.1
      · subst e
        rw [upF_s, if_pos rfl]
        unfold pk4
        have : k = 0 ∨ k = 1 ∨ k = 2 ∨ k = 3 := by omega
        rcases this with rfl | rfl | rfl | rfl
        · exact r0.symm
        · exact r1.symm
        · exact r2.symm
        · exact r3.symm
      · rw [upF_n _ _ (by omega), if_neg e]
        exact tw w (by omega) k hk
  by_cases f5 : (wR5 tx len H.1.1 R).2.2.2.2 = -1
  · obtain ⟨va, vb, vc⟩ := hval f5
    obtain ⟨-, p, p1, p2, p3, p4⟩ := a5.resolve_right fun w => w.1 f5
    have tk := (tok_same tx len p).1
    have hrow : ∀ (f : Nat → Int), wRow tx len H.1.1 R f 0 = S.2.2.2.1 ∧ wRow tx len H.1.1 R f 1 = (mwR1 tx len H.1.1 S).2.2.2.1 ∧ wRow tx len H.1.1 R f 2 = (mwR2 tx len H.1.1 S).2.2.2.1 ∧ wRow tx len H.1.1 R f 3 = 0 := fun f => ⟨va, vb, vc, rfl⟩
    by_cases k6 : (wR5 tx len H.1.1 R).2.2.1 = 6
    · rw [if_pos k6, if_pos k6]
      have hm : mwD tx len H.1.1 S = true := by
        unfold mwD
        rw [p4]
        have : nkM tx len p = 3 := by rw [tk, ← p3, k6]; decide
        show (decide (nkM tx len p = 3) && decide ((-9 : Int) = -9)) = true
        rw [this]
        rfl
      rw [hm, if_pos rfl]
      have e5 : mwR5 tx len H.1.1 S = mwR4 tx len H.1.1 S := by unfold mwR5; rw [hm, if_pos rfl]
      rw [e5]
      by_cases c6 : 6 ≤ popN H.1.2.2.2.2.2
      · have e6 : wR6 tx len H.1.1 R H.1.2.2.2.2.2 = rfR (wR5 tx len H.1.1 R) := if_pos c6
        have e7 : (nxR tx len (wR6 tx len H.1.1 R H.1.2.2.2.2.2)).2.2.2.2 = ((nxS tx len p : Nat) : Int) := by
          rw [nxR_k, e6, rfR_s f5, p2]
        have e8 : (mwR4 tx len H.1.1 S).2.2.2.2.1 = ((nxS tx len p : Nat) : Int) := by
          unfold mwR4
          rw [p4]
          have : decide ((tkM tx len p dr).2.2.2.2.2 < 6) = false := decide_eq_false (by show ¬ dr < 6; omega)
          rw [this]
          rfl
        refine ⟨0, Or.inr ?_, fun w => ?_⟩
        · rw [e7]
          exact ⟨by omega, by omega, e8⟩
        · exfalso
          rw [e7] at w
          omega
      · have e6 : wR6 tx len H.1.1 R H.1.2.2.2.2.2 = wR5 tx len H.1.1 R := if_neg c6
        rw [e6]
        refine ⟨dr + 1, Or.inl ⟨f5, (wR5 tx len H.1.1 R).1, rfl, rfl, rfl, ?_⟩, fun _ => ⟨hHT _ 1 _ ?_, ?_⟩⟩
        · show mwR4 tx len H.1.1 S = _
          unfold mwR4
          rw [p4]
          have : decide ((tkM tx len p dr).2.2.2.2.2 < 6) = true := decide_eq_true (by show dr < 6; omega)
          rw [this, duR_t rfl, p1]
          rfl
        · obtain ⟨q0, q1, q2, q3⟩ := hrow (H.2.1 H.1.2.1)
          exact ⟨q0, q1, q2, rfl⟩
        · show dr + 1 = ((popN (H.1.2.2.2.2.2 ||| 2 ^ H.1.2.1) : Nat) : Int)
          rw [popN_or hW hD, hd]
          omega
    · rw [if_neg k6, if_neg k6]
      have hm : mwD tx len H.1.1 S = false := by
        unfold mwD
        rw [p4]
        have : nkM tx len p ≠ 3 := by
          rw [tk, ← p3]
          exact fun w => k6 (mapK_3.mp w)
        show (decide (nkM tx len p = 3) && decide ((-9 : Int) = -9)) = false
        rw [decide_eq_false this]
        rfl
      have e5 : mwR5 tx len H.1.1 S = mwR3 tx len H.1.1 S := by unfold mwR5; rw [hm, if_neg (by decide)]
      rw [e5, hm, if_neg (by decide)]
      exact ⟨dr, a5, fun _ => ⟨hHT _ 0 _ (hrow _), hd⟩⟩
  · have q := a5.resolve_left fun w => f5 w.1
    have hm : mwD tx len H.1.1 S = false := by
      unfold mwD
      rw [decide_eq_false (p := (mwR3 tx len H.1.1 S).2.2.2.2.1 = -9) (by omega), Bool.and_false]
    have e5 : mwR5 tx len H.1.1 S = mwR3 tx len H.1.1 S := by unfold mwR5; rw [hm, if_neg (by decide)]
    rw [e5]
    have e9 : (if (wR5 tx len H.1.1 R).2.2.1 = 6 then nxR tx len (wR6 tx len H.1.1 R H.1.2.2.2.2.2) else wR5 tx len H.1.1 R).2.2.2.2 = (wR5 tx len H.1.1 R).2.2.2.2 := by
      split
      · rw [nxR_k]
        unfold wR6
        split
        · exact rfR_k f5
        · rfl
      · rfl
    refine ⟨dr, Or.inr ?_, fun w => absurd (e9.symm.trans w) f5⟩
    rw [e9]
    exact q
theorem iz_bu (hB : H.1.2.2.1 < 10) (hZ : Z1 tx len dr R S) (hT : HT H T) (hd : dr = ((popN H.1.2.2.2.2.2 : Nat) : Int)) : IZ tx len (buR tx len R H) (buH tx len R H) (mtBun tx len T S) := by
  obtain ⟨⟨t0, t1, t2, t3, t4⟩, tw, tb, tm, tf⟩ := hT
  have hw : (T.1 2 1).toNat = H.1.2.2.1 := by rw [t2]; exact Int.toNat_natCast _
  have a1 : Z1 tx len dr (bR1 tx len H.1.1 R) (mbR1 tx len T S) ∧ ((bR1 tx len H.1.1 R).2.2.2.2 = -1 → bV1 tx len H.1.1 R = S.2.2.2.1) := by
    unfold mbR1
    rw [t0]
    exact Z1_nm hZ
  have a2 : Z1 tx len dr (bR2 tx len H.1.1 R) (mbR2 tx len T S) ∧ ((bR2 tx len H.1.1 R).2.2.2.2 = -1 → bV2 tx len H.1.1 R = (mbR1 tx len T S).2.2.2.1) := Z1_nm a1.1
  have a3 : Z1 tx len dr (bR3 tx len H.1.1 R) (mbR3 tx len T S) ∧ ((bR3 tx len H.1.1 R).2.2.2.2 = -1 → bV3 tx len H.1.1 R = (mbR2 tx len T S).2.2.2.1) := Z1_nm a2.1
  have a4 : Z1 tx len dr (bR4 tx len H.1.1 R) (mbR4 tx len T S) ∧ ((bR4 tx len H.1.1 R).2.2.2.2 = -1 → bV4 tx len H.1.1 R = (mbR3 tx len T S).2.2.2.1) := Z1_nm a3.1
  have hw12 : ¬ 10 ≤ H.1.2.2.1 := by omega
  unfold buR buH mtBun
  rw [if_neg hw12, if_neg hw12, hw]
  refine ⟨dr, Z1_nx a4.1, fun f5 => ⟨?_, hd⟩⟩
  have f4 : (bR4 tx len H.1.1 R).2.2.2.2 = -1 := f5
  have f3 := (nmR_f f4).2
  have f2 := (nmR_f f3).2
  have f1 := (nmR_f f2).2
  have v1 := a1.2 f1
  have v2 := a2.2 f2
  have v3 := a3.2 f3
  have v4 := a4.2 f4
  refine ⟨⟨?_, ?_, ?_, ?_, ?_⟩, tw, fun w hw k hk => ?_, tm, tf⟩
  · show cU T.1 2 (T.1 2 1 + 1) 0 1 = _
    rw [cU_n _ _ (by decide)]; exact t0
  · show cU T.1 2 (T.1 2 1 + 1) 1 1 = _
    rw [cU_n _ _ (by decide)]; exact t1
  · show cU T.1 2 (T.1 2 1 + 1) 2 1 = ((H.1.2.2.1 + 1 : Nat) : Int)
    rw [cU_s, t2]; omega
  · show cU T.1 2 (T.1 2 1 + 1) 3 1 = _
    rw [cU_n _ _ (by decide)]; exact t3
  · show cU T.1 2 (T.1 2 1 + 1) 4 1 = _
    rw [cU_n _ _ (by decide)]; exact t4
  · show upF (T.2.2.1 k) (10 + H.1.2.2.1) (pk4 S.2.2.2.1 (mbR1 tx len T S).2.2.2.1 (mbR2 tx len T S).2.2.2.1 (mbR3 tx len T S).2.2.2.1 k) (10 + w) = (if w = H.1.2.2.1 then bRow tx len H.1.1 R (H.2.2.1 H.1.2.2.1) else H.2.2.1 w) k
    have hw' : w < H.1.2.2.1 + 1 := hw
    by_cases e : w = H.1.2.2.1
    · subst e
      rw [upF_s, if_pos rfl]
      unfold pk4
      have : k = 0 ∨ k = 1 ∨ k = 2 ∨ k = 3 := by omega
      rcases this with rfl | rfl | rfl | rfl
      · exact v1.symm
      · exact v2.symm
      · exact v3.symm
      · exact v4.symm
    · rw [upF_n _ _ (by omega), if_neg e]
      exact tb w (by omega) k hk
theorem iz_ma (hM : H.1.2.2.2.1 < 3) (hZ : Z1 tx len dr R S) (hT : HT H T) (hd : dr = ((popN H.1.2.2.2.2.2 : Nat) : Int)) : IZ tx len (maR tx len R H) (maH tx len R H) (mtMan tx len T S) := by
  obtain ⟨⟨t0, t1, t2, t3, t4⟩, tw, tb, tm, tf⟩ := hT
  have hw : (T.1 3 1).toNat = H.1.2.2.2.1 := by rw [t3]; exact Int.toNat_natCast _
  have a1 : Z1 tx len dr (mR1 tx len R) (nuR tx len 1 99 S) ∧ ((mR1 tx len R).2.2.2.2 = -1 → mV1 tx len R = S.2.2.2.1) := Z1_nm hZ
  have hw12 : ¬ 3 ≤ H.1.2.2.2.1 := by omega
  unfold maR maH mtMan
  rw [if_neg hw12, if_neg hw12, hw]
  refine ⟨dr, Z1_nx a1.1, fun f5 => ⟨?_, hd⟩⟩
  have v1 := a1.2 f5
  refine ⟨⟨?_, ?_, ?_, ?_, ?_⟩, tw, tb, fun w hw => ?_, tf⟩
  · show cU T.1 3 (T.1 3 1 + 1) 0 1 = _
    rw [cU_n _ _ (by decide)]; exact t0
  · show cU T.1 3 (T.1 3 1 + 1) 1 1 = _
    rw [cU_n _ _ (by decide)]; exact t1
  · show cU T.1 3 (T.1 3 1 + 1) 2 1 = _
    rw [cU_n _ _ (by decide)]; exact t2
  · show cU T.1 3 (T.1 3 1 + 1) 3 1 = ((H.1.2.2.2.1 + 1 : Nat) : Int)
    rw [cU_s, t3]; omega
  · show cU T.1 3 (T.1 3 1 + 1) 4 1 = _
    rw [cU_n _ _ (by decide)]; exact t4
  · show upF T.2.2.2.1 (3 + H.1.2.2.2.1) S.2.2.2.1 (3 + w) = upF H.2.2.2.1 H.1.2.2.2.1 (mV1 tx len R) w
    have hw' : w < H.1.2.2.2.1 + 1 := hw
    by_cases e : w = H.1.2.2.2.1
    · subst e
      rw [upF_s, upF_s]
      exact v1.symm
    · rw [upF_n _ _ (by omega), upF_n _ _ e]
      exact tm w (by omega)
theorem iz_fi (hF : H.1.2.2.2.2.1 < 4) (hZ : Z1 tx len dr R S) (hT : HT H T) (hd : dr = ((popN H.1.2.2.2.2.2 : Nat) : Int)) : IZ tx len (fiR tx len R H) (fiH tx len R H) (mtFir tx len T S) := by
  obtain ⟨⟨t0, t1, t2, t3, t4⟩, tw, tb, tm, tf⟩ := hT
  have hw : (T.1 4 1).toNat = H.1.2.2.2.2.1 := by rw [t4]; exact Int.toNat_natCast _
  have a1 : Z1 tx len dr (bR1 tx len H.1.1 R) (mbR1 tx len T S) ∧ ((bR1 tx len H.1.1 R).2.2.2.2 = -1 → bV1 tx len H.1.1 R = S.2.2.2.1) := by
    unfold mbR1
    rw [t0]
    exact Z1_nm hZ
  have a2 : Z1 tx len dr (fR2 tx len H.1.1 R) (mfR2 tx len T S) ∧ ((fR2 tx len H.1.1 R).2.2.2.2 = -1 → fV2 tx len H.1.1 R = (mbR1 tx len T S).2.2.2.1) := Z1_nm a1.1
  have hw12 : ¬ 4 ≤ H.1.2.2.2.2.1 := by omega
  unfold fiR fiH mtFir
  rw [if_neg hw12, if_neg hw12, hw]
  refine ⟨dr, Z1_nx a2.1, fun f5 => ⟨?_, hd⟩⟩
  have f2 : (fR2 tx len H.1.1 R).2.2.2.2 = -1 := f5
  have f1 := (nmR_f f2).2
  have v1 := a1.2 f1
  have v2 := a2.2 f2
  refine ⟨⟨?_, ?_, ?_, ?_, ?_⟩, tw, tb, tm, fun w hw k hk => ?_⟩
  · show cU T.1 4 (T.1 4 1 + 1) 0 1 = _
    rw [cU_n _ _ (by decide)]; exact t0
  · show cU T.1 4 (T.1 4 1 + 1) 1 1 = _
    rw [cU_n _ _ (by decide)]; exact t1
  · show cU T.1 4 (T.1 4 1 + 1) 2 1 = _
    rw [cU_n _ _ (by decide)]; exact t2
  · show cU T.1 4 (T.1 4 1 + 1) 3 1 = _
    rw [cU_n _ _ (by decide)]; exact t3
  · show cU T.1 4 (T.1 4 1 + 1) 4 1 = ((H.1.2.2.2.2.1 + 1 : Nat) : Int)
    rw [cU_s, t4]; omega
  · show upF (T.2.2.2.2 k) (4 + H.1.2.2.2.2.1) (pk4 S.2.2.2.1 (mbR1 tx len T S).2.2.2.1 0 0 k) (4 + w) = (if w = H.1.2.2.2.2.1 then fRow tx len H.1.1 R (H.2.2.2.2 H.1.2.2.2.2.1) else H.2.2.2.2 w) k
    have hw' : w < H.1.2.2.2.2.1 + 1 := hw
    by_cases e : w = H.1.2.2.2.2.1
    · subst e
      rw [upF_s, if_pos rfl]
      unfold pk4
      have : k = 0 ∨ k = 1 := by omega
      rcases this with rfl | rfl
      · exact v1.symm
      · exact v2.symm
    · rw [upF_n _ _ (by omega), if_neg e]
      exact tf w (by omega) k hk
end IT
