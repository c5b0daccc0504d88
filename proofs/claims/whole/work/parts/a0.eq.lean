/-! a0: the whole text -/
theorem HoV_D {H : HS} (h : HoVH H) : H.1.2.2.2.2.2.testBit H.1.2.1 = false := by
  cases e : H.1.2.2.2.2.2.testBit H.1.2.1 with
  | false => rfl
  | true => exact absurd (h.2.2.2.2.2.2.2.1 _ e) (Nat.lt_irrefl _)
theorem em_I (H : HS) : HsI 0 (emH H) := by
  refine ⟨?_, fun _ => rfl⟩
  show HoV 1 0 0 0 0 0 _ _ _ _
  exact ⟨⟨by omega, by omega⟩, by omega, by omega, by omega, by omega, by omega, fun w hw => by omega, fun w hw => by simp at hw, fun w hw => by omega, fun w hw => by omega, fun w hw => by omega⟩
section IT
variable {tx : Nat → Int} {len : Nat} {dr : Int} {R : RS} {S : MS} {H : HS} {T : MT} {i : Nat}
theorem iz_c {x : MS × MT} (h : IZ tx len R H x) : IZ tx len (itC tx len R) H (mtD tx len x) := by
  obtain ⟨dr', hZ, hT⟩ := h
  by_cases f : R.2.2.2.2 = -1
  · obtain ⟨-, p, p1, p2, p3, p4⟩ := hZ.resolve_right fun w => w.1 f
    have tk := (tok_same tx len p).1
    by_cases k1 : R.2.2.1 = 1
    · have e1 : itC tx len R = nxR tx len R := by unfold itC; rw [if_pos k1]
      have e2 : decide (x.1.2.2.1 = 8) = true := decide_eq_true (by rw [p4]; show nkM tx len p = 8; rw [tk, ← p3, k1]; decide)
      refine ⟨dr', ?_, fun _ => hT f⟩
      rw [e1]
      show Z0 tx len dr' (nxR tx len R) (duR tx len (decide (x.1.2.2.1 = 8)) x.1)
      rw [e2]
      exact Z1_nx (Z0_go hZ)
    · have e1 : itC tx len R = nxR tx len (rfR R) := by unfold itC; rw [if_neg k1]
      have e2 : decide (x.1.2.2.1 = 8) = false := decide_eq_false (by
        rw [p4]
        show ¬ nkM tx len p = 8
        rw [tk, ← p3]
        exact fun w => k1 (mapK_8.mp w))
      have q := Z0_no hZ (R' := itC tx len R) (by rw [e1]; rfl)
      refine ⟨dr', Or.inr ⟨q.1, q.2.1, ?_⟩, fun w => absurd w q.1⟩
      show (duR tx len (decide (x.1.2.2.1 = 8)) x.1).2.2.2.2.1 = _
      rw [e2]
      exact q.2.2
  · have q := hZ.resolve_left fun w => f w.1
    have e1 : (itC tx len R).2.2.2.2 = R.2.2.2.2 := by
      unfold itC
      rw [nxR_k]
      split
      · rfl
      · exact rfR_k f
    refine ⟨dr', Or.inr ?_, fun w => absurd (e1.symm.trans w) f⟩
    rw [e1]
    refine ⟨f, q.2.1, ?_⟩
    show (duR tx len _ x.1).2.2.2.2.1 = _
    rw [duR_k (by omega)]
    exact q.2.2
theorem wyR_k (f : R.2.2.2.2 ≠ -1) : (wyR tx len R H).2.2.2.2 = R.2.2.2.2 := by
  have e1 : (wR1 tx len H.1.1 R).2.2.2.2 = R.2.2.2.2 := nmR_k f
  have e2 : (wR2 tx len H.1.1 R).2.2.2.2 = R.2.2.2.2 := (nmR_k (by rw [e1]; exact f)).trans e1
  have e3 : (wR3 tx len H.1.1 R).2.2.2.2 = R.2.2.2.2 := by
    unfold wR3
    split
    · exact (rfR_k (by rw [e2]; exact f)).trans e2
    · exact e2
  have e5 : (wR5 tx len H.1.1 R).2.2.2.2 = R.2.2.2.2 := (nmR_k (tx := tx) (len := len) (lo := 1) (hi := 30) (by rw [e3]; exact f)).trans e3
  unfold wyR
  split
  · exact rfR_k f
  · split
    · rw [nxR_k]
      unfold wR6
      split
      · exact (rfR_k (by rw [e5]; exact f)).trans e5
      · exact e5
    · exact e5
theorem itB_k (f : R.2.2.2.2 ≠ -1) : (itB tx len R H).2.2.2.2 = R.2.2.2.2 := by
  unfold itB
  split
  · exact nmR_k f
  · split
    · exact wyR_k f
    · split
      · unfold buR
        split
        · exact rfR_k f
        · have e1 : (bR1 tx len H.1.1 R).2.2.2.2 = R.2.2.2.2 := nmR_k f
          have e2 : (bR2 tx len H.1.1 R).2.2.2.2 = R.2.2.2.2 := (nmR_k (by rw [e1]; exact f)).trans e1
          have e3 : (bR3 tx len H.1.1 R).2.2.2.2 = R.2.2.2.2 := (nmR_k (by rw [e2]; exact f)).trans e2
          exact (nmR_k (tx := tx) (len := len) (lo := 0) (hi := 10) (by rw [e3]; exact f)).trans e3
      · split
        · unfold maR
          split
          · exact rfR_k f
          · exact nmR_k (tx := tx) (len := len) (lo := 1) (hi := 99) f
        · split
          · unfold fiR
            split
            · exact rfR_k f
            · have e1 : (bR1 tx len H.1.1 R).2.2.2.2 = R.2.2.2.2 := nmR_k f
              exact (nmR_k (tx := tx) (len := len) (lo := 0) (hi := 99) (by rw [e1]; exact f)).trans e1
          · exact rfR_k f
theorem itC_k (f : R.2.2.2.2 ≠ -1) : (itC tx len R).2.2.2.2 = R.2.2.2.2 := by
  unfold itC
  rw [nxR_k]
  split
  · rfl
  · exact rfR_k f
theorem it_same (hI : HsI i H) (hf : R.2.2.2.2 = -1) (hZ : Z0 tx len dr R S) (hT : HT H T) (hd : dr = ((popN H.1.2.2.2.2.2 : Nat) : Int)) : IZ tx len (itC tx len (itB tx len (itA R i) H)) (itH tx len (itA R i) H) (mtI tx len i S T) := by
  obtain ⟨-, p, p1, p2, p3, p4⟩ := hZ.resolve_right fun w => w.1 hf
  have tk := (tok_same tx len p).1
  have hs : S.2.2.1 = mapK R.2.2.1 := by rw [p4, p3]; exact tk
  have h9 : S.2.2.2.2.1 = -9 := by rw [p4]; rfl
  have m1 : S.2.2.1 = 1 ↔ R.2.2.1 = 4 := by rw [hs]; unfold mapK; (repeat' split) <;> omega
  have m2 : S.2.2.1 = 2 ↔ R.2.2.1 = 5 := by rw [hs]; unfold mapK; (repeat' split) <;> omega
  have m4 : S.2.2.1 = 4 ↔ R.2.2.1 = 7 := by rw [hs]; unfold mapK; (repeat' split) <;> omega
  have m5 : S.2.2.1 = 5 ↔ R.2.2.1 = 8 := by rw [hs]; unfold mapK; (repeat' split) <;> omega
  have m6 : S.2.2.1 = 6 ↔ R.2.2.1 = 9 := by rw [hs]; unfold mapK; (repeat' split) <;> omega
  obtain ⟨t0, t1, t2, t3, t4⟩ := hT.1
  have hIs : mtIs i S T = true ↔ (S.2.2.1 = 1 ∧ i = 0) ∨ (S.2.2.1 ≠ 1 ∧ 0 < i ∧ ((S.2.2.1 = 2 ∧ H.1.2.1 < 12) ∨ (S.2.2.1 = 4 ∧ H.1.2.2.1 < 10) ∨ (S.2.2.1 = 5 ∧ H.1.2.2.2.1 < 3) ∨ (S.2.2.1 = 6 ∧ H.1.2.2.2.2.1 < 4))) := by
    unfold mtIs
    by_cases s1 : S.2.2.1 = 1
    · rw [if_pos s1, decide_eq_true_eq]
      omega
    · rw [if_neg s1]
      simp only [Bool.and_eq_true, Bool.or_eq_true, decide_eq_true_eq]
      omega
  have hgo := Z0_go hZ
  unfold mtI
  by_cases e : mtIs i S T = true
  · rw [if_pos e]
    have e2 := hIs.mp e
    have h4 : R.2.2.1 = 4 ↔ i = 0 := by omega
    have eA : itA R i = R := by unfold itA; rw [if_pos h4]
    rw [eA]
    refine iz_c ?_
    unfold itB itH mtG
    by_cases k4 : R.2.2.1 = 4
    · rw [if_pos k4, if_pos k4, if_pos (m1.mpr k4)]
      exact iz_rm hgo hT hd
    rw [if_neg k4, if_neg k4, if_neg (fun w => k4 (m1.mp w))]
    by_cases k5 : R.2.2.1 = 5
    · rw [if_pos k5, if_pos k5, if_pos (m2.mpr k5)]
      refine iz_wy (by omega) ?_ hgo hT hd
      exact HoV_D hI.1
    rw [if_neg k5, if_neg k5, if_neg (fun w => k5 (m2.mp w))]
    by_cases k7 : R.2.2.1 = 7
    · rw [if_pos k7, if_pos k7, if_pos (m4.mpr k7)]
      exact iz_bu (by omega) hgo hT hd
    rw [if_neg k7, if_neg k7, if_neg (fun w => k7 (m4.mp w))]
    by_cases k8 : R.2.2.1 = 8
    · rw [if_pos k8, if_pos k8, if_pos (m5.mpr k8)]
      exact iz_ma (by omega) hgo hT hd
    rw [if_neg k8, if_neg k8, if_neg (fun w => k8 (m5.mp w))]
    have k9 : R.2.2.1 = 9 := by omega
    rw [if_pos k9, if_pos k9]
    exact iz_fi (by omega) hgo hT hd
  · rw [if_neg e]
    have e2 : ¬ ((S.2.2.1 = 1 ∧ i = 0) ∨ (S.2.2.1 ≠ 1 ∧ 0 < i ∧ ((S.2.2.1 = 2 ∧ H.1.2.1 < 12) ∨ (S.2.2.1 = 4 ∧ H.1.2.2.1 < 10) ∨ (S.2.2.1 = 5 ∧ H.1.2.2.2.1 < 3) ∨ (S.2.2.1 = 6 ∧ H.1.2.2.2.2.1 < 4)))) := fun w => e (hIs.mpr w)
    have key : (itC tx len (itB tx len (itA R i) H)).2.2.2.2 = (rfR R).2.2.2.2 := by
      have r1 : (rfR R).2.2.2.2 ≠ -1 := by rw [rfR_s hf]; omega
      by_cases h4 : R.2.2.1 = 4 ↔ i = 0
      · have eA : itA R i = R := by unfold itA; rw [if_pos h4]
        have eB : itB tx len R H = rfR R := by
          unfold itB
          by_cases k4 : R.2.2.1 = 4
          · exfalso
            exact e2 (Or.inl ⟨m1.mpr k4, h4.mp k4⟩)
          rw [if_neg k4]
          have i0 : 0 < i := Nat.pos_of_ne_zero (fun q => k4 (h4.mpr q))
          have n1 : S.2.2.1 ≠ 1 := fun q => k4 (m1.mp q)
          by_cases k5 : R.2.2.1 = 5
          · have c5 : 12 ≤ H.1.2.1 := Nat.le_of_not_lt fun w => e2 (Or.inr ⟨n1, i0, Or.inl ⟨m2.mpr k5, w⟩⟩)
            rw [if_pos k5]
            unfold wyR
            rw [if_pos c5]
          rw [if_neg k5]
          by_cases k7 : R.2.2.1 = 7
          · have c5 : 10 ≤ H.1.2.2.1 := Nat.le_of_not_lt fun w => e2 (Or.inr ⟨n1, i0, Or.inr (Or.inl ⟨m4.mpr k7, w⟩)⟩)
            rw [if_pos k7]
            unfold buR
            rw [if_pos c5]
          rw [if_neg k7]
          by_cases k8 : R.2.2.1 = 8
          · have c5 : 3 ≤ H.1.2.2.2.1 := Nat.le_of_not_lt fun w => e2 (Or.inr ⟨n1, i0, Or.inr (Or.inr (Or.inl ⟨m5.mpr k8, w⟩))⟩)
            rw [if_pos k8]
            unfold maR
            rw [if_pos c5]
          rw [if_neg k8]
          by_cases k9 : R.2.2.1 = 9
          · have c5 : 4 ≤ H.1.2.2.2.2.1 := Nat.le_of_not_lt fun w => e2 (Or.inr ⟨n1, i0, Or.inr (Or.inr (Or.inr ⟨m6.mpr k9, w⟩))⟩)
            rw [if_pos k9]
            unfold fiR
            rw [if_pos c5]
          rw [if_neg k9]
        rw [eA, eB, itC_k r1]
      · have eA : itA R i = rfR R := by unfold itA; rw [if_neg h4]
        rw [eA, itC_k (by rw [itB_k r1]; exact r1), itB_k r1]
    have q := Z0_no hZ key
    exact ⟨dr, Or.inr q, fun w => absurd w q.1⟩
theorem rd_same : ∀ k (i : Nat) (R : RS) (H : HS) (S : MS) (T : MT) (dr : Int), Z0 tx len dr R S → (R.2.2.2.2 = -1 → HsI i H ∧ HT H T ∧ dr = ((popN H.1.2.2.2.2.2 : Nat) : Int)) → (rdL tx len k i R H).1 = (mhL tx len k i S T).1 ∧ IZ tx len (rdL tx len k i R H).2.1 (rdL tx len k i R H).2.2 ((mhL tx len k i S T).2.1, (mhL tx len k i S T).2.2)
  | 0, i, R, H, S, T, dr, hZ, hT => ⟨rfl, dr, hZ, fun w => (hT w).2⟩
  | k + 1, i, R, H, S, T, dr, hZ, hT => by
    unfold rdL mhL
    by_cases hf : R.2.2.2.2 = -1
    · obtain ⟨-, p, p1, p2, p3, p4⟩ := hZ.resolve_right fun w => w.1 hf
      have tk := (tok_same tx len p).1
      have h9 : S.2.2.2.2.1 = -9 := by rw [p4]; rfl
      have m0 : S.2.2.1 = 0 ↔ R.2.2.1 = 0 := by
        rw [p4, p3]
        show nkM tx len p = 0 ↔ _
        rw [tk]
        unfold mapK
        (repeat' split) <;> omega
      by_cases s0 : R.2.2.1 = 0
      · rw [if_pos (Or.inl s0), if_pos (Or.inr (m0.mpr s0))]
        exact ⟨rfl, dr, hZ, fun w => (hT w).2⟩
      · rw [if_neg (fun w => w.elim s0 (fun q => q hf)), if_neg (fun w => w.elim (fun q => q h9) (fun q => s0 (m0.mp q)))]
        obtain ⟨hI, hH, hd⟩ := hT hf
        obtain ⟨dr', z1, z2⟩ := it_same (tx := tx) (len := len) hI hf hZ hH hd
        refine rd_same k (i + 1) _ _ _ _ dr' z1 (fun w => ⟨?_, z2 w⟩)
        have c1 := (itC_f w).1
        have c2 := itA_f (itB_f c1)
        have c3 := itH_V (tx := tx) (len := len) (R := itA R i) hI (by rw [itA_k]; exact c2.2) c1
        exact c3
    · have q := hZ.resolve_left fun w => hf w.1
      rw [if_pos (Or.inr hf), if_pos (Or.inl (by omega))]
      exact ⟨rfl, dr, hZ, fun w => absurd w hf⟩
theorem re_same : (reF tx len R H).1 = (mhF tx len T).1 ∧ (((reF tx len R H).2.1.2.2.2.2 = -1 ∧ (mhF tx len T).2.1.2.2.2.2.1 = -9 ∧ HT (reF tx len R H).2.2 (mhF tx len T).2.2) ∨ ((reF tx len R H).2.1.2.2.2.2 ≠ -1 ∧ 0 ≤ (reF tx len R H).2.1.2.2.2.2 ∧ (mhF tx len T).2.1.2.2.2.2.1 = (reF tx len R H).2.1.2.2.2.2)) := by
  have h0 : popN 0 = 0 := by decide +kernel
  have hem : HsI 0 (emH H) := em_I H
  have := rd_same (tx := tx) (len := len) (len + 1) 0 (nxR tx len (0, R.2.1, R.2.2.1, R.2.2.2.1, -1)) (emH H) (nxE tx len 0, nxS tx len 0, nkM tx len 0, nvM tx len 0, -9, 0) (mh0 T) 0 (Or.inl ⟨rfl, 0, rfl, rfl, rfl, rfl⟩) (fun _ => ⟨hem, ⟨⟨rfl, rfl, rfl, rfl, rfl⟩, fun w hw => absurd hw (Nat.not_lt_zero _), fun w hw => absurd hw (Nat.not_lt_zero _), fun w hw => absurd hw (Nat.not_lt_zero _), fun w hw => absurd hw (Nat.not_lt_zero _)⟩, by show (0 : Int) = ((popN 0 : Nat) : Int); rw [h0]; rfl⟩)
  refine ⟨this.1, ?_⟩
  obtain ⟨dr', z1, z2⟩ := this.2
  rcases z1 with ⟨f, p, p1, p2, p3, p4⟩ | ⟨f, f0, f1⟩
  · left
    refine ⟨f, ?_, (z2 f).1⟩
    have := congrArg (fun x : MS => x.2.2.2.2.1) p4
    exact this
  · right
    exact ⟨f, f0, f1⟩
end IT
