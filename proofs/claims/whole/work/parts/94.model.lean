/-! 94: what an ITEM keeps; how the model's reader goes on -/
theorem nxS_ge (tx : Nat → Int) (len p : Nat) : p ≤ nxS tx len p := chF_ge _ _ _
theorem nxS_le {tx : Nat → Int} {len p : Nat} (h : p ≤ len) : nxS tx len p ≤ len := by
  have := chF_le (fun i => decide (tx i ≠ 32)) (len - p) p
  unfold nxS skF
  omega
theorem nxE_gt {tx : Nat → Int} {len p : Nat} (h : nxS tx len p < len) : nxS tx len p < nxE tx len p := by
  unfold nxE
  rw [if_neg (by omega)]
  split
  · rename_i e
    exact chF_gt h (by simp [e])
  · split
    · rename_i e
      exact chF_gt h (by simp [e])
    · omega
theorem nxE_ge {tx : Nat → Int} {len p : Nat} (h : p ≤ len) : p ≤ nxE tx len p := by
  have h1 := nxS_ge tx len p
  by_cases e : nxS tx len p < len
  · have := nxE_gt e
    omega
  · unfold nxE
    rw [if_pos (by omega)]
    exact h1
theorem nkM_lt {tx : Nat → Int} {len p : Nat} (h : nkM tx len p ≠ 0) : nxS tx len p < len := by
  rcases Nat.lt_or_ge (nxS tx len p) len with e | e
  · exact e
  · exact absurd (by unfold nkM; rw [if_pos e]) h
section MXF
variable {tx : Nat → Int} {len : Nat} {R : MS} {T : MT} {is : Bool} {lo hi : Int} {i : Nat}
theorem duR_f (h : (duR tx len is R).2.2.2.2.1 = -9) : R.2.2.2.2.1 = -9 ∧ is = true ∧ duR tx len is R = nmx tx len R := by
  unfold duR at h ⊢
  by_cases e : R.2.2.2.2.1 = -9
  · rw [if_pos e] at h ⊢
    by_cases b : is = true
    · rw [if_pos b]
      exact ⟨e, b, rfl⟩
    · rw [if_neg b] at h
      exfalso
      have : ((R.2.1 : Nat) : Int) = -9 := h
      omega
  · rw [if_neg e] at h
    exact absurd h e
theorem duR_n (h : R.2.2.2.2.1 ≠ -9) : duR tx len is R = R := if_neg h
theorem duR_t (h : R.2.2.2.2.1 = -9) : duR tx len true R = nmx tx len R := by unfold duR; rw [if_pos h, if_pos rfl]
theorem duR_p (hV : MsV len R) : R.1 ≤ (duR tx len is R).1 := by
  unfold duR
  split
  · split
    · exact nxE_ge hV.1.1
    · exact Nat.le_refl _
  · exact Nat.le_refl _
theorem nuR_f (h : (nuR tx len lo hi R).2.2.2.2.1 = -9) : R.2.2.2.2.1 = -9 ∧ nuB lo hi R = true ∧ nuR tx len lo hi R = nmx tx len R := duR_f h
theorem nuB_e (h : nuB lo hi R = true) : R.2.2.1 = 7 ∧ lo ≤ R.2.2.2.1 ∧ R.2.2.2.1 ≤ hi := by
  unfold nuB at h
  rw [Bool.and_eq_true, decide_eq_true_eq, decide_eq_true_eq] at h
  exact h
theorem mwR3_f {n1 : Nat} (h : (mwR5 tx len n1 R).2.2.2.2.1 = -9) : (mwR3 tx len n1 R).2.2.2.2.1 = -9 := by
  unfold mwR5 at h
  split at h
  · have h2 : (duR tx len (decide ((mwR3 tx len n1 R).2.2.2.2.2 < 6)) (mwR3 tx len n1 R)).2.2.2.2.1 = -9 := h
    exact (duR_f h2).1
  · exact h
theorem mwR_f {n1 : Nat} (hV : MsV len R) (hd : R.2.2.2.2.2 ≤ 19) (h : (mwR5 tx len n1 R).2.2.2.2.1 = -9) : R.2.2.2.2.1 = -9 ∧ nuB 0 ((n1 : Int) - 1) R = true ∧ R.1 ≤ (mwR5 tx len n1 R).1 := by
  have h3 := nuR_f (mwR3_f h)
  have h2 := duR_f (is := mwB2 tx len n1 R) h3.1
  have h1 := nuR_f h2.1
  refine ⟨h1.1, h1.2.1, ?_⟩
  have v1 : MsV len (mwR1 tx len n1 R) := duR_v hV
  have v2 : MsV len (mwR2 tx len n1 R) := duR_v v1
  have v3 : MsV len (mwR3 tx len n1 R) := duR_v v2
  have p1 : R.1 ≤ (mwR1 tx len n1 R).1 := duR_p hV
  have p2 : (mwR1 tx len n1 R).1 ≤ (mwR2 tx len n1 R).1 := duR_p v1
  have p3 : (mwR2 tx len n1 R).1 ≤ (mwR3 tx len n1 R).1 := duR_p v2
  have p4 : (mwR3 tx len n1 R).1 ≤ (mwR5 tx len n1 R).1 := by
    unfold mwR5
    split
    · exact duR_p (is := decide ((mwR3 tx len n1 R).2.2.2.2.2 < 6)) v3
    · exact Nat.le_refl _
  omega
theorem mtG_f {s : Int} (hV : MsV len R) (hd : R.2.2.2.2.2 ≤ 19) (h : (mtG tx len T s R).1.2.2.2.2.1 = -9) : R.2.2.2.2.1 = -9 ∧ R.2.2.1 = 7 ∧ R.1 ≤ (mtG tx len T s R).1.1 := by
  unfold mtG at h ⊢
  by_cases s1 : s = 1
  · rw [if_pos s1] at h ⊢
    have h1 := nuR_f (lo := 1) (hi := 8) h
    exact ⟨h1.1, (nuB_e h1.2.1).1, duR_p (is := nuB 1 8 R) hV⟩
  rw [if_neg s1] at h ⊢
  by_cases s2 : s = 2
  · rw [if_pos s2] at h ⊢
    have h1 := mwR_f hV hd h
    exact ⟨h1.1, (nuB_e h1.2.1).1, h1.2.2⟩
  rw [if_neg s2] at h ⊢
  have v1 : MsV len (mbR1 tx len T R) := duR_v hV
  have v2 : MsV len (mbR2 tx len T R) := duR_v v1
  have v3 : MsV len (mbR3 tx len T R) := duR_v v2
  have p1 : R.1 ≤ (mbR1 tx len T R).1 := duR_p hV
  by_cases s4 : s = 4
  · rw [if_pos s4] at h ⊢
    have q4 := nuR_f (lo := 0) (hi := 10) h
    have q3 := nuR_f (lo := 0) (hi := 99) q4.1
    have q2 := nuR_f (lo := 1) (hi := 99) q3.1
    have q1 := nuR_f (lo := 0) (hi := T.1 0 1 - 1) q2.1
    have p2 : (mbR1 tx len T R).1 ≤ (mbR2 tx len T R).1 := duR_p v1
    have p3 : (mbR2 tx len T R).1 ≤ (mbR3 tx len T R).1 := duR_p v2
    have p4 : (mbR3 tx len T R).1 ≤ (mbR4 tx len T R).1 := duR_p v3
    exact ⟨q1.1, (nuB_e q1.2.1).1, (by show R.1 ≤ (mbR4 tx len T R).1; omega)⟩
  rw [if_neg s4] at h ⊢
  by_cases s5 : s = 5
  · rw [if_pos s5] at h ⊢
    have h1 := nuR_f (lo := 1) (hi := 99) h
    exact ⟨h1.1, (nuB_e h1.2.1).1, duR_p (is := nuB 1 99 R) hV⟩
  rw [if_neg s5] at h ⊢
  have q2 := nuR_f (lo := 0) (hi := 99) h
  have q1 := nuR_f (lo := 0) (hi := T.1 0 1 - 1) q2.1
  have p2 : (mbR1 tx len T R).1 ≤ (mfR2 tx len T R).1 := duR_p v1
  exact ⟨q1.1, (nuB_e q1.2.1).1, (by show R.1 ≤ (mfR2 tx len T R).1; omega)⟩
theorem mtG_v {s : Int} (hV : MsV len R) (hd : R.2.2.2.2.2 ≤ 19) : MsV len (mtG tx len T s R).1 := by
  unfold mtG
  split
  · exact duR_v hV
  · split
    · exact mwR5_v hV hd
    · split
      · exact duR_v (duR_v (duR_v (duR_v hV)))
      · split
        · exact duR_v hV
        · exact duR_v (duR_v hV)
/-- an ITEM without a fault takes a byte at least -/
theorem mtI_p (hV : MsV len R) (hd : R.2.2.2.2.2 ≤ 19) (hf : R.2.2.2.2.1 = -9) (h : (mtI tx len i R T).1.2.2.2.2.1 = -9) : mtIs i R T = true ∧ R.1 + 1 ≤ (mtI tx len i R T).1.1 ∧ (mtG tx len T R.2.2.1 (nmx tx len R)).1.2.2.1 = 8 ∧ (mtG tx len T R.2.2.1 (nmx tx len R)).1.2.2.2.2.1 = -9 ∧ mtI tx len i R T = (nmx tx len (mtG tx len T R.2.2.1 (nmx tx len R)).1, (mtG tx len T R.2.2.1 (nmx tx len R)).2) := by
  unfold mtI at h ⊢
  by_cases e : mtIs i R T = true
  · rw [if_pos e] at h ⊢
    rw [duR_t hf] at h ⊢
    have hV0 : MsV len (nmx tx len R) := nmx_v hV
    unfold mtD at h ⊢
    dsimp only at h ⊢
    have h1 := duR_f h
    have h2 := mtG_f hV0 hd h1.1
    have hV1 : MsV len (mtG tx len T R.2.2.1 (nmx tx len R)).1 := mtG_v hV0 hd
    have h3 : nkM tx len R.1 = 7 := h2.2.1
    have h4 := nkM_lt (tx := tx) (len := len) (p := R.1) (by omega)
    have h5 := nxE_gt h4
    have h6 := nxS_ge tx len R.1
    have h7 : nxE tx len R.1 ≤ (mtG tx len T R.2.2.1 (nmx tx len R)).1.1 := h2.2.2
    have h8 := duR_p (tx := tx) (is := decide ((mtG tx len T R.2.2.1 (nmx tx len R)).1.2.2.1 = 8)) hV1
    refine ⟨e, by omega, of_decide_eq_true h1.2.1, h1.1, ?_⟩
    rw [h1.2.2]
  · rw [if_neg e] at h
    exact absurd (duR_f h).2.1 (by decide)
theorem mtIs_c (hc : CnV T) (h : mtIs i R T = true) : (R.2.2.1 = 1 ∨ R.2.2.1 = 2 ∨ R.2.2.1 = 4 ∨ R.2.2.1 = 5 ∨ R.2.2.1 = 6) ∧ (R.2.2.1 = 2 → T.1 1 1 < 12) ∧ (R.2.2.1 = 4 → T.1 2 1 < 10) ∧ (R.2.2.1 = 5 → T.1 3 1 < 3) ∧ (R.2.2.1 = 6 → T.1 4 1 < 4) ∧ (R.2.2.1 = 1 ↔ i = 0) := by
  unfold mtIs at h
  by_cases s1 : R.2.2.1 = 1
  · rw [if_pos s1, decide_eq_true_eq] at h
    omega
  · rw [if_neg s1] at h
    simp only [Bool.and_eq_true, Bool.or_eq_true, decide_eq_true_eq] at h
    omega
theorem cU_s (c : Nat → Nat → Int) (k : Nat) (v : Int) : cU c k v k 1 = v := by
  show (if k = k then upF (c k) 1 v else c k) 1 = v
  rw [if_pos rfl]
  exact upF_s _ _ _
theorem cU_n (c : Nat → Nat → Int) {k j : Nat} (v : Int) (e : j ≠ k) : cU c k v j = c j := by
  show (if j = k then upF (c k) 1 v else c j) = c j
  rw [if_neg e]
theorem mtI_v (hV : MsV len R) (hc : CnV T) (hd : R.2.2.2.2.2 ≤ T.1 1 1) : MsV len (mtI tx len i R T).1 ∧ CnV (mtI tx len i R T).2 ∧ (mtI tx len i R T).1.2.2.2.2.2 ≤ (mtI tx len i R T).2.1 1 1 := by
  have hd19 : R.2.2.2.2.2 ≤ 19 := by have := hc.2.1; omega
  unfold mtI
  by_cases e : mtIs i R T = true
  · rw [if_pos e]
    have hV0 : MsV len (duR tx len true R) := duR_v hV
    have hd0 : (duR tx len true R).2.2.2.2.2 = R.2.2.2.2.2 := duR_d
    have hV1 : MsV len (mtG tx len T R.2.2.1 (duR tx len true R)).1 := mtG_v hV0 (by omega)
    obtain ⟨k0, k2, k4, k5, k6, k1⟩ := mtIs_c hc e
    generalize duR tx len true R = R0 at *
    have key : CnV (mtG tx len T R.2.2.1 R0).2 ∧ (mtG tx len T R.2.2.1 R0).1.2.2.2.2.2 ≤ (mtG tx len T R.2.2.1 R0).2.1 1 1 := by
      obtain ⟨c0, c1, c2, c3, c4⟩ := hc
      unfold mtG
      by_cases s1 : R.2.2.1 = 1
      · rw [if_pos s1]
        have hq : (nuR tx len 1 8 R0).2.2.2.2.1 = -9 → 1 ≤ R0.2.2.2.1 ∧ R0.2.2.2.1 ≤ 8 := fun q => (nuB_e (nuR_f q).2.1).2
        have hdn : (nuR tx len 1 8 R0).2.2.2.2.2 = R0.2.2.2.2.2 := duR_d
        have a0 := cU_s T.1 0 (if (nuR tx len 1 8 R0).2.2.2.2.1 = -9 then R0.2.2.2.1 else 1)
        have a1 := cU_n T.1 (k := 0) (j := 1) (if (nuR tx len 1 8 R0).2.2.2.2.1 = -9 then R0.2.2.2.1 else 1) (by decide)
        have a2 := cU_n T.1 (k := 0) (j := 2) (if (nuR tx len 1 8 R0).2.2.2.2.1 = -9 then R0.2.2.2.1 else 1) (by decide)
        have a3 := cU_n T.1 (k := 0) (j := 3) (if (nuR tx len 1 8 R0).2.2.2.2.1 = -9 then R0.2.2.2.1 else 1) (by decide)
        have a4 := cU_n T.1 (k := 0) (j := 4) (if (nuR tx len 1 8 R0).2.2.2.2.1 = -9 then R0.2.2.2.1 else 1) (by decide)
        unfold mtHead CnV
        dsimp only
        rw [a0, a1, a2, a3, a4, hdn]
        refine ⟨⟨?_, c1, c2, c3, c4⟩, by omega⟩
        split
        · exact hq (by assumption)
        · omega
      rw [if_neg s1]
      by_cases s2 : R.2.2.1 = 2
      · rw [if_pos s2]
        have hdn := mwR5_d (tx := tx) (len := len) (n1 := (T.1 0 1).toNat) (R := R0)
        have a1 := cU_s T.1 1 (T.1 1 1 + 1)
        have a0 := cU_n T.1 (k := 1) (j := 0) (T.1 1 1 + 1) (by decide)
        have a2 := cU_n T.1 (k := 1) (j := 2) (T.1 1 1 + 1) (by decide)
        have a3 := cU_n T.1 (k := 1) (j := 3) (T.1 1 1 + 1) (by decide)
        have a4 := cU_n T.1 (k := 1) (j := 4) (T.1 1 1 + 1) (by decide)
        have w12 := k2 s2
        unfold mtWay CnV
        dsimp only
        rw [a0, a1, a2, a3, a4]
        exact ⟨⟨c0, by omega, c2, c3, c4⟩, by omega⟩
      rw [if_neg s2]
      by_cases s4 : R.2.2.1 = 4
      · rw [if_pos s4]
        have hdn : (mbR4 tx len T R0).2.2.2.2.2 = R0.2.2.2.2.2 := by
          unfold mbR4 nuR
          rw [duR_d]
          unfold mbR3 nuR
          rw [duR_d]
          unfold mbR2 nuR
          rw [duR_d]
          unfold mbR1 nuR
          rw [duR_d]
        have a2 := cU_s T.1 2 (T.1 2 1 + 1)
        have a0 := cU_n T.1 (k := 2) (j := 0) (T.1 2 1 + 1) (by decide)
        have a1 := cU_n T.1 (k := 2) (j := 1) (T.1 2 1 + 1) (by decide)
        have a3 := cU_n T.1 (k := 2) (j := 3) (T.1 2 1 + 1) (by decide)
        have a4 := cU_n T.1 (k := 2) (j := 4) (T.1 2 1 + 1) (by decide)
        have w12 := k4 s4
        unfold mtBun CnV
        dsimp only
        rw [a0, a1, a2, a3, a4]
        exact ⟨⟨c0, c1, by omega, c3, c4⟩, by omega⟩
      rw [if_neg s4]
      by_cases s5 : R.2.2.1 = 5
      · rw [if_pos s5]
        have hdn : (nuR tx len 1 99 R0).2.2.2.2.2 = R0.2.2.2.2.2 := duR_d
        have a3 := cU_s T.1 3 (T.1 3 1 + 1)
        have a0 := cU_n T.1 (k := 3) (j := 0) (T.1 3 1 + 1) (by decide)
        have a1 := cU_n T.1 (k := 3) (j := 1) (T.1 3 1 + 1) (by decide)
        have a2 := cU_n T.1 (k := 3) (j := 2) (T.1 3 1 + 1) (by decide)
        have a4 := cU_n T.1 (k := 3) (j := 4) (T.1 3 1 + 1) (by decide)
        have w12 := k5 s5
        unfold mtMan CnV
        dsimp only
        rw [a0, a1, a2, a3, a4]
        exact ⟨⟨c0, c1, c2, by omega, c4⟩, by omega⟩
      rw [if_neg s5]
      have hdn : (mfR2 tx len T R0).2.2.2.2.2 = R0.2.2.2.2.2 := by
        unfold mfR2 nuR
        rw [duR_d]
        unfold mbR1 nuR
        rw [duR_d]
      have a4 := cU_s T.1 4 (T.1 4 1 + 1)
      have a0 := cU_n T.1 (k := 4) (j := 0) (T.1 4 1 + 1) (by decide)
      have a1 := cU_n T.1 (k := 4) (j := 1) (T.1 4 1 + 1) (by decide)
      have a2 := cU_n T.1 (k := 4) (j := 2) (T.1 4 1 + 1) (by decide)
      have a3 := cU_n T.1 (k := 4) (j := 3) (T.1 4 1 + 1) (by decide)
      have w12 := k6 (by omega)
      unfold mtFir CnV
      dsimp only
      rw [a0, a1, a2, a3, a4]
      exact ⟨⟨c0, c1, c2, c3, by omega⟩, by omega⟩
    refine ⟨duR_v hV1, key.1, ?_⟩
    show (duR tx len (decide ((mtG tx len T R.2.2.1 R0).1.2.2.1 = 8)) (mtG tx len T R.2.2.1 R0).1).2.2.2.2.2 ≤ _
    rw [duR_d]
    exact key.2
  · rw [if_neg e]
    refine ⟨duR_v hV, hc, ?_⟩
    show (duR tx len false R).2.2.2.2.2 ≤ T.1 1 1
    rw [duR_d]
    exact hd
end MXF
