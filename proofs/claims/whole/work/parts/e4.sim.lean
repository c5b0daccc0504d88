/-! e4: run -/
section SRN
variable {X : Cx} {d N : Nat} {h h' : AH} {z : Nat} {len o o2 n W B M F D fe sh : Nat} {tc : Int64} {wy bu fi : Nat → Nat → Int} {ld tx tn ch mi m0 m1 : Nat → Int} {f0 s0 f1 s1 : Nat} {ke k0 k1 : Int} {wt wo ro : Nat → Int} {ir : Nat → Nat} {od lb : Nat → Int} {tr : Nat → Nat → Int} {fa ah bn le du oa : Nat → Int} {T : MT} {RM : MS} {y8 y9 y10 : Int} {tb tnM am1 am2 am3 miM feM ks ik : Nat → Int} {x y v t : Int}
theorem rni_b {men : Nat} {sta : Int} {tk oc : Nat} {fr ou : Nat → Int} {st : RuS} (hB : B ≤ 10) (hI : RnI men B sta tk oc fr ou st) : (∀ i, i < men → 0 ≤ st.2.2.1 i ∧ st.2.2.1 i ≤ 1000000) ∧ st.1 < 1024 ∧ 0 ≤ st.2.1 ∧ st.2.1 ≤ 5000 := by
  obtain ⟨r1, r2, r3, r4, r5, r6, r7, r8⟩ := hI
  have hb := pow_B hB
  have hc10 := cnt_le (fun i => tk.testBit i) 10
  have he := enF_hi (ou := ou) (C := 431 * (oc : Int)) (by omega) oc (fun i hi => (r8 i hi).2)
  refine ⟨fun i hi => ?_, by omega, by omega, by omega⟩
  have := r4 i hi
  omega
set_option maxHeartbeats 1000000 in
theorem op_run (S : Sim N h) (hd : 13 ≤ d) (hN : N ≤ 64) (rx : InR x) (ry : InR y) (rv : InR v) : PairP X d mF_run mM_run [vI x, vI y, vI v] N h z := by
  obtain ⟨len, o, o2, n, W, B, M, F, D, fe, sh, tc, wy, bu, fi, ld, tx, tn, ch, mi, m0, m1, f0, s0, f1, s1, ke, k0, k1, wt, wo, ro, ir, od, lb, tr, fa, ah, bn, le, du, oa, T, RM, y8, y9, y10, tb, tnM, am1, am2, am3, miM, feM, ks, ik, hC, hM, hS⟩ := S
  have hS0 := hS
  have hC0 := hC
  have hM0 := hM
  obtain ⟨x0, hH, hPl, hB, hA, g122, g81, g17, hI0, hI1, hX, hoo⟩ := hC0
  obtain ⟨m00, g124, hmm, g141, g142, g143, g144, g145, g146, g147, g148, g149, ⟨z1, g150⟩, ⟨z2, g151⟩, ⟨z3, g152⟩, ⟨z4, g153⟩, ⟨z5, g154⟩⟩ := hM0
  obtain ⟨⟨ht, hch, htx, hlen, hfeB, hsh, hmi, hi0, hi1⟩, ⟨hV, hV2, hW, hbu, hld, hF, e125, e126, e131, e136, e138⟩, ⟨hBX, ⟨bN, hob, hOb⟩, hw0, hwo0⟩, ⟨htb, htn, hsh4, hmie, hfe0, him0, him1⟩, ⟨fa0, ah0, bn0, le0, du0, od0, hDr⟩⟩ := hS0
  have mo := m00.trans (mR_e _ _ _ _ _ _)
  obtain ⟨g125, g126, g127, g128, g129, g130, g131, g132, g133, g134, g135, g136, g137, g138, g139, g140⟩ := mcl_h hmm
  have htM : TnV tnM := tnv_cg ht htn
  obtain ⟨oN, av, hO⟩ := dr_av hV ht hDr
  have hL := dr_lk (fa := am1) (ah := am2) (bn := am3) hV ht hW hF (htn 0 (by omega)) (htn 1 (by omega)) hDr
  rw [← htn 2 (by omega)] at hL
  have hV' := hV
  obtain ⟨⟨v1, v2⟩, v3, v4, v5, v6, v7, v8, v9, v10, v11, v12⟩ := hV'
  have hb := pow_B v4
  have hfe : fe < 1024 := by omega
  have bv := bgv_of hBX
  have hmi6 : ∀ i, i < 3 → 0 ≤ mi i ∧ mi i ≤ 1000000 := fun i hi => by have := hmi i hi; omega
  have hmi2 : ∀ i, i < 3 → miM i = mi i ∧ 0 ≤ mi i ∧ mi i ≤ 200000 := fun i hi => by have := hmi i hi; exact ⟨hmie i hi, by omega⟩
  have hmi9 : ∀ i, i < 3 → miM i = mi i ∧ 0 ≤ mi i ∧ mi i ≤ 900000 := fun i hi => by have := hmi i hi; exact ⟨hmie i hi, by omega⟩
  have hmM : ∀ i, i < 3 → 0 ≤ miM i ∧ miM i ≤ 200000 := fun i hi => by have := hmi2 i hi; omega
  have hmM6 : ∀ i, i < 3 → 0 ≤ miM i ∧ miM i ≤ 1000000 := fun i hi => by have := hmi2 i hi; omega
  have hf0 : 0 ≤ feM 0 := by omega
  have hf1 : feM 0 < 1024 := by omega
  obtain ⟨hfa, hah, hbn, hle, hdu, hoa⟩ := av
  by_cases hx : (0 ≤ x ∧ x ≤ 2) ∧ (1 ≤ y ∧ y ≤ 9) ∧ 0 ≤ v ∧ v ≤ 2
  · obtain ⟨⟨x1, x2⟩, ⟨y11, y12⟩, w1, w2⟩ := hx
    obtain ⟨rule, rfl⟩ := Int.eq_ofNat_of_zero_le x1
    obtain ⟨men, rfl⟩ := Int.eq_ofNat_of_zero_le (show (0 : Int) ≤ y by omega)
    obtain ⟨hxR, hxH, hxA, hxS, ⟨oc0, tk0, fr0, ou0, hCr⟩, hxl⟩ := hX
    have h3 := htn 3 (by omega)
    have hs1 : 1 ≤ tnM 3 := htM.2.2.2.2.2.2.1
    have hm1 : 1 ≤ men := by omega
    have hm9 : men ≤ 9 := by omega
    have hru : rule ≤ 2 := by omega
    have hr0 := run_0 (B := B) (fr0 := fr0) (ou0 := ou0) (fre := z4) (oi := z5) hm9 hs1
    obtain ⟨tk, oc, fr, ou, c1, c2, c3⟩ := run_all hBX hL hOb hru hm1 hm9 hs1 19 0 0 _ _ _ hr0.1 hr0.2
    have hbd := rni_b v4 c2
    obtain ⟨F', hF'⟩ : ∃ F', mgR (ruN (gbP B T.2.2.1 (faM W sh T.2.1 am1 8) (ahM W sh T.2.1 (faM W sh T.2.1 am1 8) am2 W) (bnM W F sh tnM T.2.1 T.2.2.2.2 am3 8) (tnM 2) rule) (tmP B T.2.2.1) (faM W sh T.2.1 am1 8) n (tnM 3)) men 19 (0, 0, tabF men (fun _ => 0) z4, tabF 5000 (fun _ => 0) z5) = F' := ⟨_, rfl⟩
    rw [hF'] at c2 c3 hbd
    refine pair_mk (a := awN wo tk oc ou v) (b := amN B T.2.2.1 F' v) (P := fun h1 => (∃ oc tk fr ou, CrC h1 119 88 oc tk fr ou) ∧ ∀ b, (b < 119 ∨ 122 ≤ b) → h1 b = h b) (call_mono (cF_runI (rule := rule) (men := men) (bN := bN) (by omega) x0 hB hA g81 (by rw [← h3]; exact ⟨hs1, htM.2.2.2.2.2.2.2⟩) hCr v2 v4 bv (fun i hi => ⟨hob i hi, hOb.1 i hi⟩) ⟨hfa, hah, hbn, hle, hdu, hoa⟩ hru hm1 hm9 w1 w2) ?_) ?_ ?_
    · rintro _ h1 _ ⟨rfl, ⟨tk', oc', fr', ou', q1, q2, rfl⟩, q3⟩
      rw [← h3, c1] at q1
      simp only [Prod.mk.injEq] at q1
      obtain ⟨rfl, rfl, rfl, rfl⟩ := q1
      exact ⟨rfl, rfl, ⟨_, _, _, _, q2⟩, q3⟩
    · obtain ⟨r1, r2, r3, r4, r5, r6, r7, r8⟩ := c2
      unfold awN amN
      rw [r1, r7, hBX.2.1 tk r2]
    · rintro h1 ⟨hCr1, hf1⟩
      have hC1 : CS h1 len o o2 n W B M F D fe sh tc wy bu fi ld tx tn ch mi m0 m1 f0 s0 f1 s1 ke k0 k1 wt wo ro ir od lb tr fa ah bn le du oa := by
        refine hC.frX (fun b b1 b2 => hf1 b (by omega)) ?_ ?_ hCr1
        · obtain ⟨n1, a, b, c, e, f, g, hq⟩ := hxA
          exact ⟨n1, a, b, c, e, f, g, hq.fr (fun b _ _ => hf1 b (by omega))⟩
        · obtain ⟨men, who, ab, gn, hq, hr⟩ := hxS
          exact ⟨men, who, ab, gn, hq.fr (fun b _ _ => hf1 b (by omega)), hr⟩
      have hM1 : MS2 h1 len tc ch T RM y8 y9 y10 tb tnM am1 am2 am3 miM feM ks ik := hM.fr (fun b b1 b2 => hf1 b (by omega))
      have g153' : h1 153 = some (cI 9 z4) := (hf1 _ (by omega)).trans g153
      have g154' : h1 154 = some (cI 5000 z5) := (hf1 _ (by omega)).trans g154
      have hM1' := hM1
      refine ⟨hf1 0 (by omega), hf1 123 (by omega), ?_⟩
      obtain ⟨m00, g124, hmm, g141, g142, g143, g144, g145, g146, g147, g148, g149, ⟨z1, g150⟩, ⟨z2, g151⟩, ⟨z3, g152⟩, ⟨z4, g153⟩, ⟨z5, g154⟩⟩ := hM1
      have mo := m00.trans (mR_e _ _ _ _ _ _)
      obtain ⟨g125, g126, g127, g128, g129, g130, g131, g132, g133, g134, g135, g136, g137, g138, g139, g140⟩ := mcl_h hmm
      refine call_mono (cM_runI (rule := rule) (men := men) (K := 19) (F' := F') (Inv := fun st => ∃ tk oc fr ou, RnI men B (tnM 3) tk oc fr ou st) (by omega) mo g126 e126 g127 g128 g129 g138 e138 g139 g140 g141 hsh4 hsh g143 g144 g145 hV2 htM g153' g154' g125 e125 g131 e131 g132 g133 g134 hru hm1 hm9 w1 w2 ⟨_, _, _, _, hr0.1⟩ ?_ ?_ hF' c3 ⟨hbd.2.1, hbd.2.2.1, hbd.2.2.2⟩) ?_
      · rintro st ⟨_, _, _, _, hi⟩
        exact (rni_b v4 hi).1
      · rintro st ⟨_, _, _, _, hi⟩ hlt
        obtain ⟨u1, tk', oc', fr', ou', _, u2, _⟩ := run_step hBX hL hOb hru hm1 hm9 hs1 hi hlt
        exact ⟨u1, tk', oc', fr', ou', u2⟩
      · rintro _ h2 _ ⟨rfl, rfl, k, hk, a1, a2, a3, a4⟩
        obtain ⟨q0, q1, q2, q3, q4⟩ := ro_lk (h' := k) hM1' (Or.inr hk)
        refine ⟨rfl, rfl, ?_, sim_x hC1 hM1' hS ⟨⟨y8, (F'.1 : Nat), F'.2.1, a1⟩, ?_, ?_, ?_, ?_, ?_, ?_, ?_, ⟨_, a2⟩, ⟨_, a3⟩⟩⟩
        · rw [a4 0 (by omega) (by omega) (by omega), q0 0 (by omega) (by omega)]
          exact hf1 0 (by omega)
        · intro b b1 b2 b3
          rw [a4 b (by omega) (by omega) (by omega), q0 b (by omega) (by omega)]
        · rw [a4 _ (by omega) (by omega) (by omega)]
          exact q1
        · rw [a4 _ (by omega) (by omega) (by omega)]
          exact q2
        · rw [a4 _ (by omega) (by omega) (by omega)]
          exact q3
        · rw [a4 _ (by omega) (by omega) (by omega)]
          exact q4
        · rw [a4 _ (by omega) (by omega) (by omega), q0 _ (by omega) (by omega)]
          exact ⟨_, g151⟩
        · rw [a4 _ (by omega) (by omega) (by omega), q0 _ (by omega) (by omega)]
          exact ⟨_, g152⟩
  · exact pair_ro hC hM hS (cF_runN rx ry rv hx) rfl (cM_runN (by omega) rx ry rv hx) (fun h' e => ro_h hM e)
end SRN
