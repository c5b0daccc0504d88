/-! e7: keep, back, tune -/
section SW
variable {X : Cx} {d N : Nat} {h h' : AH} {z : Nat} {len o o2 n W B M F D fe sh : Nat} {tc : Int64} {wy bu fi : Nat → Nat → Int} {ld tx tn ch mi m0 m1 : Nat → Int} {f0 s0 f1 s1 : Nat} {ke k0 k1 : Int} {wt wo ro : Nat → Int} {ir : Nat → Nat} {od lb : Nat → Int} {tr : Nat → Nat → Int} {fa ah bn le du oa : Nat → Int} {T : MT} {RM : MS} {y8 y9 y10 : Int} {tb tnM am1 am2 am3 miM feM ks ik : Nat → Int} {x y v t : Int}
theorem lt3 {i : Nat} (hi : i < 3) : i = 0 ∨ i = 1 ∨ i = 2 := by omega
theorem miK_v (mi : Nat → Int) {c : Nat} (hc : c ≤ 1) : (∀ i, i < 3 → miK mi c 3 (3 * (1 + c) + i) = mi i) ∧ ∀ c' i, c' ≤ 1 → c' ≠ c → i < 3 → miK mi c 3 (3 * (1 + c') + i) = mi (3 * (1 + c') + i) := by
  have e : c = 0 ∨ c = 1 := by omega
  constructor
  · intro i hi
    rcases e with rfl | rfl <;> rcases lt3 hi with rfl | rfl | rfl <;> rfl
  · intro c' i h1 h2 hi
    rcases e with rfl | rfl
    · obtain rfl : c' = 1 := by omega
      rcases lt3 hi with rfl | rfl | rfl <;> rfl
    · obtain rfl : c' = 0 := by omega
      rcases lt3 hi with rfl | rfl | rfl <;> rfl
theorem miB_v (mi : Nat → Int) {c : Nat} (hc : c ≤ 1) : (∀ i, i < 3 → miB mi c 3 i = mi (3 * (1 + c) + i)) ∧ ∀ i, 3 ≤ i → miB mi c 3 i = mi i := by
  have e : c = 0 ∨ c = 1 := by omega
  constructor
  · intro i hi
    rcases e with rfl | rfl <;> rcases lt3 hi with rfl | rfl | rfl <;> rfl
  · intro i hi
    show upF (upF (upF mi 0 _) 1 _) 2 _ i = mi i
    unfold upF
    rw [if_neg (show i ≠ 2 by omega), if_neg (show i ≠ 1 by omega), if_neg (show i ≠ 0 by omega)]
theorem ImM.keep {c : Nat} (hc : c ≤ 1) (h1 : ∀ i, i < 3 → miM i = mi i) (h2 : feM 0 = ((fe : Nat) : Int)) (h3 : tnM 4 = ((sh : Nat) : Int)) : ImM c (tabF 3 mi m0) fe sh 1 (miK miM c 3) (upF feM (1 + c) (feM 0)) (upF ks c (tnM 4)) (upF ik c 1) := by
  refine ⟨if_pos rfl, fun _ => ⟨fun i hi => ?_, ?_, ?_⟩⟩
  · rw [(miK_v miM hc).1 i hi, h1 i hi, tab3 _ _ hi]
  · rw [show upF feM (1 + c) (feM 0) (1 + c) = feM 0 from if_pos rfl, h2]
  · rw [show upF ks c (tnM 4) c = tnM 4 from if_pos rfl, h3]
theorem ImM.oth {c c' f s : Nat} {m : Nat → Int} {k u w : Int} (hc : c ≤ 1) (hc' : c' ≤ 1) (hn : c' ≠ c) (hi : ImM c' m f s k miM feM ks ik) : ImM c' m f s k (miK miM c 3) (upF feM (1 + c) u) (upF ks c w) (upF ik c 1) := by
  obtain ⟨a, b⟩ := hi
  refine ⟨(if_neg hn).trans a, fun e => ?_⟩
  obtain ⟨b1, b2, b3⟩ := b e
  exact ⟨fun i hi => ((miK_v miM hc).2 c' i hc' hn hi).trans (b1 i hi), (if_neg (show 1 + c' ≠ 1 + c by omega)).trans b2, (if_neg hn).trans b3⟩
theorem mv_tab (hm : MiV N M mi) : MiV N M (tabF 3 mi m0) := fun i hi => by
  rw [tab3 _ _ hi]
  exact hm i hi
set_option maxHeartbeats 1000000 in
theorem op_keep (S : Sim N h) (hd : 13 ≤ d) (hN : N ≤ 64) (rx : InR x) : PairP X d mF_keep mM_keep [vI x] N h z := by
  obtain ⟨len, o, o2, n, W, B, M, F, D, fe, sh, tc, wy, bu, fi, ld, tx, tn, ch, mi, m0, m1, f0, s0, f1, s1, ke, k0, k1, wt, wo, ro, ir, od, lb, tr, fa, ah, bn, le, du, oa, T, RM, y8, y9, y10, tb, tnM, am1, am2, am3, miM, feM, ks, ik, hC, hM, hS⟩ := S
  have hS0 := hS
  have hC0 := hC
  have hM0 := hM
  obtain ⟨x0, hH, hPl, hB, hA, g122, g81, g17, hI0, hI1, hX, hoo⟩ := hC0
  obtain ⟨m00, g124, hmm, g141, g142, g143, g144, g145, g146, g147, g148, g149, ⟨z1, g150⟩, ⟨z2, g151⟩, ⟨z3, g152⟩, ⟨z4, g153⟩, ⟨z5, g154⟩⟩ := hM0
  obtain ⟨⟨ht, hch, htx, hlen, hfeB, hsh, hmi, hi0, hi1⟩, ⟨hV, hV2, hW, hbu, hld, hF, e125, e126, e131, e136, e138⟩, ⟨hBX, ⟨bN, hob, hOb⟩, hw0, hwo0⟩, ⟨htb, htn, hsh4, hmie, hfe0, him0, him1⟩, ⟨fa0, ah0, bn0, le0, du0, od0, hDr⟩⟩ := hS0
  have mo := m00.trans (mR_e _ _ _ _ _ _)
  obtain ⟨g125, g126, g127, g128, g129, g130, g131, g132, g133, g134, g135, g136, g137, g138, g139, g140⟩ := mcl_h hmm
  have htM : TnV tnM := tnv_cg ht htn
  obtain ⟨oN, av, hO⟩ := dr_av hV ht hDr
  have hL := dr_lk (fa := am1) (ah := am2) (bn := am3) hV ht hW hF (htn 0 (by omega)) (htn 1 (by omega)) hDr
  rw [← htn 2 (by omega)] at hL
  have hV' := hV
  obtain ⟨⟨v1, v2⟩, v3, v4, v5, v6, v7, v8, v9, v10, v11, v12⟩ := hV'
  have hb := pow_B v4
  have hfe : fe < 1024 := by omega
  have bv := bgv_of hBX
  have hmi6 : ∀ i, i < 3 → 0 ≤ mi i ∧ mi i ≤ 1000000 := fun i hi => by have := hmi i hi; omega
  have hmi2 : ∀ i, i < 3 → miM i = mi i ∧ 0 ≤ mi i ∧ mi i ≤ 200000 := fun i hi => by have := hmi i hi; exact ⟨hmie i hi, by omega⟩
  have hmi9 : ∀ i, i < 3 → miM i = mi i ∧ 0 ≤ mi i ∧ mi i ≤ 900000 := fun i hi => by have := hmi i hi; exact ⟨hmie i hi, by omega⟩
  have hmM : ∀ i, i < 3 → 0 ≤ miM i ∧ miM i ≤ 200000 := fun i hi => by have := hmi2 i hi; omega
  have hmM6 : ∀ i, i < 3 → 0 ≤ miM i ∧ miM i ≤ 1000000 := fun i hi => by have := hmi2 i hi; omega
  have hf0 : 0 ≤ feM 0 := by omega
  have hf1 : feM 0 < 1024 := by omega
  obtain ⟨hfa, hah, hbn, hle, hdu, hoa⟩ := av
  by_cases e0 : x = 0
  · subst e0
    refine pair_mk (cF_keepI (p := 84) (by omega) x0 hPl hfe (Or.inl rfl) rfl hI0) (bcF_pop fe).symm ?_
    rintro h1 ⟨hP1, hcf⟩
    have hc1 := hC.pl (h' := h1) (fun b b1 b2 => hcf b (by omega) (by omega)) ((hcf _ (by omega) (by omega)).trans g81) (hPl.frr (hcf _ (by omega) (by omega)) (hcf _ (by omega) (by omega))) hP1 (hI1.frr (hcf _ (by omega) (by omega)) (hcf _ (by omega) (by omega))) (hA.fr (fun b _ _ => hcf b (by omega) (by omega)))
    have hM1 : MS2 h1 len tc ch T RM y8 y9 y10 tb tnM am1 am2 am3 miM feM ks ik := hM.fr (fun b b1 b2 => hcf b (by omega) (by omega))
    have hM1' := hM1
    refine ⟨hcf 0 (by omega) (by omega), hcf 123 (by omega) (by omega), ?_⟩
    obtain ⟨m00, g124, hmm, g141, g142, g143, g144, g145, g146, g147, g148, g149, ⟨z1, g150⟩, ⟨z2, g151⟩, ⟨z3, g152⟩, ⟨z4, g153⟩, ⟨z5, g154⟩⟩ := hM1
    have mo := m00.trans (mR_e _ _ _ _ _ _)
    obtain ⟨g125, g126, g127, g128, g129, g130, g131, g132, g133, g134, g135, g136, g137, g138, g139, g140⟩ := mcl_h hmm
    refine call_mono (cM_keepI (c := 0) (s := fe) (by omega) mo g146 g147 g141 g148 g149 (by omega) hfe0 hfe) ?_
    rintro _ h2 _ ⟨rfl, rfl, h2e⟩
    have hf2 : ∀ b, (b < 146 ∨ 149 < b) → h2 b = h1 b := fun b hb => by rw [h2e, upA_n _ _ (by omega), upA_n _ _ (by omega), upA_n _ _ (by omega), upA_n _ _ (by omega)]
    have hm2 := hM1'.pl (h' := h2) (fun b b1 b2 b3 b4 => hf2 b b4) ((hf2 _ (by omega)).trans g141) (by rw [h2e, upA_n _ _ (by omega), upA_n _ _ (by omega), upA_n _ _ (by omega)]; exact upA_s _ _ _) (by rw [h2e, upA_n _ _ (by omega), upA_n _ _ (by omega)]; exact upA_s _ _ _) (by rw [h2e, upA_n _ _ (by omega)]; exact upA_s _ _ _) (by rw [h2e]; exact upA_s _ _ _)
    obtain ⟨⟨p1, p2, p3, p4, p5, p6, p7, p8, p9⟩, hS1, hS2, ⟨s1', s2', s3', s4', s5', s6', s7'⟩, hS4⟩ := hS.mono
    exact ⟨rfl, rfl, (hf2 0 (by omega)).trans (hcf 0 (by omega) (by omega)), _, _, _, _, _, _, _, _, _, _, _, _, _, _, _, _, _, _, _, _, _, _, _, _, _, _, _, _, _, _, _, _, _, _, _, _, _, _, _, _, _, _, _, _, _, _, _, _, _, _, _, _, _, _, _, _, hc1.fr (fun b hb => hf2 b (by omega)), hm2, ⟨p1, p2, p3, p4, p5, p6, p7, ⟨Or.inr rfl, fun _ => ⟨p5, p6, mv_tab p7⟩⟩, p9⟩, hS1, hS2, ⟨s1', s2', s3', fun i hi => (miK_l miM 0 3 (by omega) i hi).trans (s4' i hi), s5', ImM.keep (by omega) s4' s5' s3', s7'.oth (by omega) (by omega) (by omega)⟩, hS4⟩
  by_cases e1 : x = 1
  · subst e1
    refine pair_mk (cF_keepI (p := 86) (by omega) x0 hPl hfe (Or.inr rfl) rfl hI1) (bcF_pop fe).symm ?_
    rintro h1 ⟨hP1, hcf⟩
    have hc1 := hC.pl (h' := h1) (fun b b1 b2 => hcf b (by omega) (by omega)) ((hcf _ (by omega) (by omega)).trans g81) (hPl.frr (hcf _ (by omega) (by omega)) (hcf _ (by omega) (by omega))) (hI0.frr (hcf _ (by omega) (by omega)) (hcf _ (by omega) (by omega))) hP1 (hA.fr (fun b _ _ => hcf b (by omega) (by omega)))
    have hM1 : MS2 h1 len tc ch T RM y8 y9 y10 tb tnM am1 am2 am3 miM feM ks ik := hM.fr (fun b b1 b2 => hcf b (by omega) (by omega))
    have hM1' := hM1
    refine ⟨hcf 0 (by omega) (by omega), hcf 123 (by omega) (by omega), ?_⟩
    obtain ⟨m00, g124, hmm, g141, g142, g143, g144, g145, g146, g147, g148, g149, ⟨z1, g150⟩, ⟨z2, g151⟩, ⟨z3, g152⟩, ⟨z4, g153⟩, ⟨z5, g154⟩⟩ := hM1
    have mo := m00.trans (mR_e _ _ _ _ _ _)
    obtain ⟨g125, g126, g127, g128, g129, g130, g131, g132, g133, g134, g135, g136, g137, g138, g139, g140⟩ := mcl_h hmm
    refine call_mono (cM_keepI (c := 1) (s := fe) (by omega) mo g146 g147 g141 g148 g149 (by omega) hfe0 hfe) ?_
    rintro _ h2 _ ⟨rfl, rfl, h2e⟩
    have hf2 : ∀ b, (b < 146 ∨ 149 < b) → h2 b = h1 b := fun b hb => by rw [h2e, upA_n _ _ (by omega), upA_n _ _ (by omega), upA_n _ _ (by omega), upA_n _ _ (by omega)]
    have hm2 := hM1'.pl (h' := h2) (fun b b1 b2 b3 b4 => hf2 b b4) ((hf2 _ (by omega)).trans g141) (by rw [h2e, upA_n _ _ (by omega), upA_n _ _ (by omega), upA_n _ _ (by omega)]; exact upA_s _ _ _) (by rw [h2e, upA_n _ _ (by omega), upA_n _ _ (by omega)]; exact upA_s _ _ _) (by rw [h2e, upA_n _ _ (by omega)]; exact upA_s _ _ _) (by rw [h2e]; exact upA_s _ _ _)
    obtain ⟨⟨p1, p2, p3, p4, p5, p6, p7, p8, p9⟩, hS1, hS2, ⟨s1', s2', s3', s4', s5', s6', s7'⟩, hS4⟩ := hS.mono
    exact ⟨rfl, rfl, (hf2 0 (by omega)).trans (hcf 0 (by omega) (by omega)), _, _, _, _, _, _, _, _, _, _, _, _, _, _, _, _, _, _, _, _, _, _, _, _, _, _, _, _, _, _, _, _, _, _, _, _, _, _, _, _, _, _, _, _, _, _, _, _, _, _, _, _, _, _, _, _, hc1.fr (fun b hb => hf2 b (by omega)), hm2, ⟨p1, p2, p3, p4, p5, p6, p7, p8, ⟨Or.inr rfl, fun _ => ⟨p5, p6, mv_tab p7⟩⟩⟩, hS1, hS2, ⟨s1', s2', s3', fun i hi => (miK_l miM 1 3 (by omega) i hi).trans (s4' i hi), s5', s6'.oth (by omega) (by omega) (by omega), ImM.keep (by omega) s4' s5' s3'⟩, hS4⟩
  exact pair_ro hC hM hS (cF_keepN rx (by omega)) rfl (cM_keepN (by omega) rx (by omega)) (fun h' e => ro_h hM e)
theorem dr_of {f s n' : Nat} (hD : DrC h' 99 n W F wy fi tn s fa ah bn le du oa) : ∃ fa' ah' bn' le' du' oa', AtC h' 99 n fa' ah' bn' le' du' oa' ∧ DrE n W F wy fi tn s fa' ah' bn' le' du' oa' := by
  obtain ⟨fa', ah', bn', le', du', od', hA, q⟩ := hD
  exact ⟨fa', ah', bn', le', du', od', hA, fa, ah, bn, le, du, oa, q⟩
theorem tn_up {tnM : Nat → Int} {w : Int} (htn : ∀ k, k < 4 → tnM k = tn k) : ∀ k, k < 4 → upF tnM 4 w k = tn k := fun k hk => (if_neg (show k ≠ 4 by omega)).trans (htn k hk)
set_option maxHeartbeats 1000000 in
theorem op_back (S : Sim N h) (hd : 13 ≤ d) (hN : N ≤ 64) (rx : InR x) : PairP X d mF_back mM_back [vI x] N h z := by
  obtain ⟨len, o, o2, n, W, B, M, F, D, fe, sh, tc, wy, bu, fi, ld, tx, tn, ch, mi, m0, m1, f0, s0, f1, s1, ke, k0, k1, wt, wo, ro, ir, od, lb, tr, fa, ah, bn, le, du, oa, T, RM, y8, y9, y10, tb, tnM, am1, am2, am3, miM, feM, ks, ik, hC, hM, hS⟩ := S
  have hS0 := hS
  have hC0 := hC
  have hM0 := hM
  obtain ⟨x0, hH, hPl, hB, hA, g122, g81, g17, hI0, hI1, hX, hoo⟩ := hC0
  obtain ⟨m00, g124, hmm, g141, g142, g143, g144, g145, g146, g147, g148, g149, ⟨z1, g150⟩, ⟨z2, g151⟩, ⟨z3, g152⟩, ⟨z4, g153⟩, ⟨z5, g154⟩⟩ := hM0
  obtain ⟨⟨ht, hch, htx, hlen, hfeB, hsh, hmi, hi0, hi1⟩, ⟨hV, hV2, hW, hbu, hld, hF, e125, e126, e131, e136, e138⟩, ⟨hBX, ⟨bN, hob, hOb⟩, hw0, hwo0⟩, ⟨htb, htn, hsh4, hmie, hfe0, him0, him1⟩, ⟨fa0, ah0, bn0, le0, du0, od0, hDr⟩⟩ := hS0
  have mo := m00.trans (mR_e _ _ _ _ _ _)
  obtain ⟨g125, g126, g127, g128, g129, g130, g131, g132, g133, g134, g135, g136, g137, g138, g139, g140⟩ := mcl_h hmm
  have htM : TnV tnM := tnv_cg ht htn
  obtain ⟨oN, av, hO⟩ := dr_av hV ht hDr
  have hL := dr_lk (fa := am1) (ah := am2) (bn := am3) hV ht hW hF (htn 0 (by omega)) (htn 1 (by omega)) hDr
  rw [← htn 2 (by omega)] at hL
  have hV' := hV
  obtain ⟨⟨v1, v2⟩, v3, v4, v5, v6, v7, v8, v9, v10, v11, v12⟩ := hV'
  have hb := pow_B v4
  have hfe : fe < 1024 := by omega
  have bv := bgv_of hBX
  have hmi6 : ∀ i, i < 3 → 0 ≤ mi i ∧ mi i ≤ 1000000 := fun i hi => by have := hmi i hi; omega
  have hmi2 : ∀ i, i < 3 → miM i = mi i ∧ 0 ≤ mi i ∧ mi i ≤ 200000 := fun i hi => by have := hmi i hi; exact ⟨hmie i hi, by omega⟩
  have hmi9 : ∀ i, i < 3 → miM i = mi i ∧ 0 ≤ mi i ∧ mi i ≤ 900000 := fun i hi => by have := hmi i hi; exact ⟨hmie i hi, by omega⟩
  have hmM : ∀ i, i < 3 → 0 ≤ miM i ∧ miM i ≤ 200000 := fun i hi => by have := hmi2 i hi; omega
  have hmM6 : ∀ i, i < 3 → 0 ≤ miM i ∧ miM i ≤ 1000000 := fun i hi => by have := hmi2 i hi; omega
  have hf0 : 0 ≤ feM 0 := by omega
  have hf1 : feM 0 < 1024 := by omega
  obtain ⟨hfa, hah, hbn, hle, hdu, hoa⟩ := av
  by_cases e0 : x = 0
  · subst e0
    rcases hi0.1 with ek | ek
    · exact pair_ro hC hM hS (cF_back0 (p := 84) x0 (Or.inl rfl) rfl (by rw [ek] at hI0; exact hI0)) rfl (cM_back0 (c := 0) (by omega) mo g149 (by omega) (him0.1.trans ek)) (fun h' e => ro_h hM e)
    · obtain ⟨hfB0, hs40, hmv0⟩ := hi0.2 ek
      obtain ⟨i1, i2, i3⟩ := him0.2 ek
      refine pair_mk (cF_back1 (p := 84) (by omega) x0 hPl hH hV g81 ht hA (by omega) (by omega) (by omega) hs40 (Or.inl rfl) rfl (by rw [ek] at hI0; exact hI0)) (bcF_pop f0).symm ?_
      rintro h1 ⟨hP1, hD1, hcf⟩
      obtain ⟨fa', ah', bn', le', du', oa', hA1, hDE⟩ := dr_of (f := 0) (n' := 0) hD1
      have hc1 := hC.pl (h' := h1) (fun b b1 b2 => hcf b (by omega) (by omega) (by omega)) ((hcf _ (by omega) (by omega) (by omega)).trans g81) hP1 (hI0.frr (hcf _ (by omega) (by omega) (by omega)) (hcf _ (by omega) (by omega) (by omega))) (hI1.frr (hcf _ (by omega) (by omega) (by omega)) (hcf _ (by omega) (by omega) (by omega))) hA1
      have hM1 : MS2 h1 len tc ch T RM y8 y9 y10 tb tnM am1 am2 am3 miM feM ks ik := hM.fr (fun b b1 b2 => hcf b (by omega) (by omega) (by omega))
      have hM1' := hM1
      refine ⟨hcf 0 (by omega) (by omega) (by omega), hcf 123 (by omega) (by omega) (by omega), ?_⟩
      obtain ⟨m00, g124, hmm, g141, g142, g143, g144, g145, g146, g147, g148, g149, ⟨z1, g150⟩, ⟨z2, g151⟩, ⟨z3, g152⟩, ⟨z4, g153⟩, ⟨z5, g154⟩⟩ := hM1
      have mo := m00.trans (mR_e _ _ _ _ _ _)
      obtain ⟨g125, g126, g127, g128, g129, g130, g131, g132, g133, g134, g135, g136, g137, g138, g139, g140⟩ := mcl_h hmm
      refine call_mono (cM_back1 (c := 0) (s := f0) (by omega) mo g146 g147 g141 g148 g149 (by omega) (him0.1.trans ek) i2 (by omega)) ?_
      rintro _ h2 _ ⟨rfl, rfl, h2e⟩
      have hf2 : ∀ b, b ≠ 146 → b ≠ 147 → b ≠ 141 → h2 b = h1 b := fun b b1 b2 b3 => by rw [h2e, upA_n _ _ b3, upA_n _ _ b2, upA_n _ _ b1]
      have hm2 := hM1'.pl (h' := h2) (fun b b1 b2 b3 b4 => hf2 b (by omega) (by omega) (by omega)) (by rw [h2e]; exact upA_s _ _ _) (by rw [h2e, upA_n _ _ (by omega), upA_n _ _ (by omega)]; exact upA_s _ _ _) (by rw [h2e, upA_n _ _ (by omega)]; exact upA_s _ _ _) ((hf2 _ (by omega) (by omega) (by omega)).trans g148) ((hf2 _ (by omega) (by omega) (by omega)).trans g149)
      obtain ⟨⟨p1, p2, p3, p4, p5, p6, p7, p8, p9⟩, hS1, hS2, ⟨s1', s2', s3', s4', s5', s6', s7'⟩, hS4⟩ := hS.mono
      have hmb := miB_v miM (c := 0) (by omega)
      have hfu : ∀ i, 1 ≤ i → upF feM 0 (feM (1 + 0)) i = feM i := fun i hi => if_neg (show i ≠ 0 by omega)
      exact ⟨rfl, rfl, (hf2 0 (by omega) (by omega) (by omega)).trans (hcf 0 (by omega) (by omega) (by omega)), _, _, _, _, _, _, _, _, _, _, _, _, _, _, _, _, _, _, _, _, _, _, _, _, _, _, _, _, _, _, _, _, _, _, _, _, _, _, _, _, _, _, _, _, _, _, _, _, _, _, _, _, _, _, _, _, hc1.fr (fun b hb => hf2 b (by omega) (by omega) (by omega)), hm2, ⟨p1, p2, p3, p4, hfB0, hs40, (mv_tab hmv0).mono, p8, p9⟩, hS1, hS2, ⟨s1', tn_up s2', i3, fun i hi => by rw [hmb.1 i hi, i1 i hi, tab3 _ _ hi], i2, s6'.cg hmb.2 hfu, s7'.cg hmb.2 hfu⟩, hDE⟩
  by_cases e1 : x = 1
  · subst e1
    rcases hi1.1 with ek | ek
    · exact pair_ro hC hM hS (cF_back0 (p := 86) x0 (Or.inr rfl) rfl (by rw [ek] at hI1; exact hI1)) rfl (cM_back0 (c := 1) (by omega) mo g149 (by omega) (him1.1.trans ek)) (fun h' e => ro_h hM e)
    · obtain ⟨hfB0, hs40, hmv0⟩ := hi1.2 ek
      obtain ⟨i1, i2, i3⟩ := him1.2 ek
      refine pair_mk (cF_back1 (p := 86) (by omega) x0 hPl hH hV g81 ht hA (by omega) (by omega) (by omega) hs40 (Or.inr rfl) rfl (by rw [ek] at hI1; exact hI1)) (bcF_pop f1).symm ?_
      rintro h1 ⟨hP1, hD1, hcf⟩
      obtain ⟨fa', ah', bn', le', du', oa', hA1, hDE⟩ := dr_of (f := 0) (n' := 0) hD1
      have hc1 := hC.pl (h' := h1) (fun b b1 b2 => hcf b (by omega) (by omega) (by omega)) ((hcf _ (by omega) (by omega) (by omega)).trans g81) hP1 (hI0.frr (hcf _ (by omega) (by omega) (by omega)) (hcf _ (by omega) (by omega) (by omega))) (hI1.frr (hcf _ (by omega) (by omega) (by omega)) (hcf _ (by omega) (by omega) (by omega))) hA1
      have hM1 : MS2 h1 len tc ch T RM y8 y9 y10 tb tnM am1 am2 am3 miM feM ks ik := hM.fr (fun b b1 b2 => hcf b (by omega) (by omega) (by omega))
      have hM1' := hM1
      refine ⟨hcf 0 (by omega) (by omega) (by omega), hcf 123 (by omega) (by omega) (by omega), ?_⟩
      obtain ⟨m00, g124, hmm, g141, g142, g143, g144, g145, g146, g147, g148, g149, ⟨z1, g150⟩, ⟨z2, g151⟩, ⟨z3, g152⟩, ⟨z4, g153⟩, ⟨z5, g154⟩⟩ := hM1
      have mo := m00.trans (mR_e _ _ _ _ _ _)
      obtain ⟨g125, g126, g127, g128, g129, g130, g131, g132, g133, g134, g135, g136, g137, g138, g139, g140⟩ := mcl_h hmm
      refine call_mono (cM_back1 (c := 1) (s := f1) (by omega) mo g146 g147 g141 g148 g149 (by omega) (him1.1.trans ek) i2 (by omega)) ?_
      rintro _ h2 _ ⟨rfl, rfl, h2e⟩
      have hf2 : ∀ b, b ≠ 146 → b ≠ 147 → b ≠ 141 → h2 b = h1 b := fun b b1 b2 b3 => by rw [h2e, upA_n _ _ b3, upA_n _ _ b2, upA_n _ _ b1]
      have hm2 := hM1'.pl (h' := h2) (fun b b1 b2 b3 b4 => hf2 b (by omega) (by omega) (by omega)) (by rw [h2e]; exact upA_s _ _ _) (by rw [h2e, upA_n _ _ (by omega), upA_n _ _ (by omega)]; exact upA_s _ _ _) (by rw [h2e, upA_n _ _ (by omega)]; exact upA_s _ _ _) ((hf2 _ (by omega) (by omega) (by omega)).trans g148) ((hf2 _ (by omega) (by omega) (by omega)).trans g149)
      obtain ⟨⟨p1, p2, p3, p4, p5, p6, p7, p8, p9⟩, hS1, hS2, ⟨s1', s2', s3', s4', s5', s6', s7'⟩, hS4⟩ := hS.mono
      have hmb := miB_v miM (c := 1) (by omega)
      have hfu : ∀ i, 1 ≤ i → upF feM 0 (feM (1 + 1)) i = feM i := fun i hi => if_neg (show i ≠ 0 by omega)
      exact ⟨rfl, rfl, (hf2 0 (by omega) (by omega) (by omega)).trans (hcf 0 (by omega) (by omega) (by omega)), _, _, _, _, _, _, _, _, _, _, _, _, _, _, _, _, _, _, _, _, _, _, _, _, _, _, _, _, _, _, _, _, _, _, _, _, _, _, _, _, _, _, _, _, _, _, _, _, _, _, _, _, _, _, _, _, hc1.fr (fun b hb => hf2 b (by omega) (by omega) (by omega)), hm2, ⟨p1, p2, p3, p4, hfB0, hs40, (mv_tab hmv0).mono, p8, p9⟩, hS1, hS2, ⟨s1', tn_up s2', i3, fun i hi => by rw [hmb.1 i hi, i1 i hi, tab3 _ _ hi], i2, s6'.cg hmb.2 hfu, s7'.cg hmb.2 hfu⟩, hDE⟩
  exact pair_ro hC hM hS (cF_backN rx (by omega)) rfl (cM_backN (by omega) rx (by omega)) (fun h' e => ro_h hM e)
theorem tm_up {wT : Nat → Nat → Int} {tnM : Nat → Int} (htn : ∀ k, k < 4 → tnM k = tn k) (h4 : tnM 4 = ((sh : Nat) : Int)) (hx : 0 ≤ x ∧ x ≤ 4) (hD : adF wT W = D) : (∀ k, k < 4 → tmN wT W tnM x v k = tnN tn x v k) ∧ tmN wT W tnM x v 4 = ((shN D sh x v : Nat) : Int) := by
  unfold tmN tnN shN
  by_cases e : x = 4
  · subst e
    rw [if_pos rfl, if_pos rfl, if_pos rfl, hD]
    exact ⟨fun k hk => (if_neg (show k ≠ (4 : Int).toNat by omega)).trans (htn k hk), if_pos rfl⟩
  · rw [if_neg e, if_neg e, if_neg e]
    refine ⟨fun k hk => ?_, (if_neg (show 4 ≠ x.toNat by omega)).trans h4⟩
    unfold upF
    by_cases c : k = x.toNat
    · rw [if_pos c, if_pos c]
    · rw [if_neg c, if_neg c]
      exact htn k hk
theorem shN_lt (hD : D < 4096) (hs : sh < 4096) : shN D sh x v < 4096 := by
  unfold shN
  split
  · exact Nat.lt_of_le_of_lt Nat.and_le_right hD
  · exact hs
set_option maxHeartbeats 1000000 in
theorem op_tune (S : Sim N h) (hd : 13 ≤ d) (hN : N ≤ 64) (rx : InR x) (rv : InR v) : PairP X d mF_tune mM_tune [vI x, vI v] N h z := by
  obtain ⟨len, o, o2, n, W, B, M, F, D, fe, sh, tc, wy, bu, fi, ld, tx, tn, ch, mi, m0, m1, f0, s0, f1, s1, ke, k0, k1, wt, wo, ro, ir, od, lb, tr, fa, ah, bn, le, du, oa, T, RM, y8, y9, y10, tb, tnM, am1, am2, am3, miM, feM, ks, ik, hC, hM, hS⟩ := S
  have hS0 := hS
  have hC0 := hC
  have hM0 := hM
  obtain ⟨x0, hH, hPl, hB, hA, g122, g81, g17, hI0, hI1, hX, hoo⟩ := hC0
  obtain ⟨m00, g124, hmm, g141, g142, g143, g144, g145, g146, g147, g148, g149, ⟨z1, g150⟩, ⟨z2, g151⟩, ⟨z3, g152⟩, ⟨z4, g153⟩, ⟨z5, g154⟩⟩ := hM0
  obtain ⟨⟨ht, hch, htx, hlen, hfeB, hsh, hmi, hi0, hi1⟩, ⟨hV, hV2, hW, hbu, hld, hF, e125, e126, e131, e136, e138⟩, ⟨hBX, ⟨bN, hob, hOb⟩, hw0, hwo0⟩, ⟨htb, htn, hsh4, hmie, hfe0, him0, him1⟩, ⟨fa0, ah0, bn0, le0, du0, od0, hDr⟩⟩ := hS0
  have mo := m00.trans (mR_e _ _ _ _ _ _)
  obtain ⟨g125, g126, g127, g128, g129, g130, g131, g132, g133, g134, g135, g136, g137, g138, g139, g140⟩ := mcl_h hmm
  have htM : TnV tnM := tnv_cg ht htn
  obtain ⟨oN, av, hO⟩ := dr_av hV ht hDr
  have hL := dr_lk (fa := am1) (ah := am2) (bn := am3) hV ht hW hF (htn 0 (by omega)) (htn 1 (by omega)) hDr
  rw [← htn 2 (by omega)] at hL
  have hV' := hV
  obtain ⟨⟨v1, v2⟩, v3, v4, v5, v6, v7, v8, v9, v10, v11, v12⟩ := hV'
  have hb := pow_B v4
  have hfe : fe < 1024 := by omega
  have bv := bgv_of hBX
  have hmi6 : ∀ i, i < 3 → 0 ≤ mi i ∧ mi i ≤ 1000000 := fun i hi => by have := hmi i hi; omega
  have hmi2 : ∀ i, i < 3 → miM i = mi i ∧ 0 ≤ mi i ∧ mi i ≤ 200000 := fun i hi => by have := hmi i hi; exact ⟨hmie i hi, by omega⟩
  have hmi9 : ∀ i, i < 3 → miM i = mi i ∧ 0 ≤ mi i ∧ mi i ≤ 900000 := fun i hi => by have := hmi i hi; exact ⟨hmie i hi, by omega⟩
  have hmM : ∀ i, i < 3 → 0 ≤ miM i ∧ miM i ≤ 200000 := fun i hi => by have := hmi2 i hi; omega
  have hmM6 : ∀ i, i < 3 → 0 ≤ miM i ∧ miM i ≤ 1000000 := fun i hi => by have := hmi2 i hi; omega
  have hf0 : 0 ≤ feM 0 := by omega
  have hf1 : feM 0 < 1024 := by omega
  obtain ⟨hfa, hah, hbn, hle, hdu, hoa⟩ := av
  have l1 := hX.2.2.2.2.2.1
  have l2 := hX.2.2.2.2.2.2.1
  by_cases hok : tuOk x v
  · have hok' := hok
    obtain ⟨q0, q1, q2⟩ := hok'
    have h3 : ∀ w, w < W → T.2.1 3 w = 0 ∨ T.2.1 3 w = 1 := fun w hw => by
      rw [hW w hw 3 (by decide), (v8 w hw).2.2.2.2.2.2.2]
      split
      · exact Or.inr rfl
      · exact Or.inl rfl
    have hAD : adF T.2.1 W = D := ad_D hV hW
    obtain ⟨tm1, tm2⟩ := tm_up (v := v) htn hsh4 q0 hAD
    refine pair_mk (b := tnM x.toNat) (cF_tuneI (by omega) x0 hPl hH hV g81 ht hA l1 l2 (by omega) (by omega) hsh hok) ?_ ?_
    · by_cases e : x = 4
      · subst e
        rw [if_pos rfl]
        exact hsh4.symm
      · rw [if_neg e]
        exact (htn x.toNat (by omega)).symm
    rintro h1 ⟨g81', ht', hP1, hD1, hcf⟩
    obtain ⟨fa', ah', bn', le', du', oa', hA1, hDE⟩ := dr_of (f := 0) (n' := 0) hD1
    have hc1 := hC.pl (h' := h1) (fun b b1 b2 => hcf b (by omega) (by omega) (by omega)) g81' hP1 (hI0.frr (hcf _ (by omega) (by omega) (by omega)) (hcf _ (by omega) (by omega) (by omega))) (hI1.frr (hcf _ (by omega) (by omega) (by omega)) (hcf _ (by omega) (by omega) (by omega))) hA1
    have hM1 : MS2 h1 len tc ch T RM y8 y9 y10 tb tnM am1 am2 am3 miM feM ks ik := hM.fr (fun b b1 b2 => hcf b (by omega) (by omega) (by omega))
    have hM1' := hM1
    refine ⟨hcf 0 (by omega) (by omega) (by omega), hcf 123 (by omega) (by omega) (by omega), ?_⟩
    obtain ⟨m00, g124, hmm, g141, g142, g143, g144, g145, g146, g147, g148, g149, ⟨z1, g150⟩, ⟨z2, g151⟩, ⟨z3, g152⟩, ⟨z4, g153⟩, ⟨z5, g154⟩⟩ := hM1
    have mo := m00.trans (mR_e _ _ _ _ _ _)
    obtain ⟨g125, g126, g127, g128, g129, g130, g131, g132, g133, g134, g135, g136, g137, g138, g139, g140⟩ := mcl_h hmm
    refine call_mono (cM_tuneI (by omega) mo g126 e126 g130 g141 v3 h3 hok) ?_
    rintro _ h2 _ ⟨rfl, rfl, h2e⟩
    have hf2 : ∀ b, b ≠ 141 → h2 b = h1 b := fun b hb => by rw [h2e, upA_n _ _ hb]
    have hm2 := hM1'.pl (h' := h2) (fun b b1 b2 b3 b4 => hf2 b b3) (by rw [h2e]; exact upA_s _ _ _) ((hf2 _ (by omega)).trans g146) ((hf2 _ (by omega)).trans g147) ((hf2 _ (by omega)).trans g148) ((hf2 _ (by omega)).trans g149)
    obtain ⟨⟨p1, p2, p3, p4, p5, p6, p7, p8, p9⟩, hS1, hS2, ⟨s1', s2', s3', s4', s5', s6', s7'⟩, hS4⟩ := hS.mono
    exact ⟨rfl, rfl, (hf2 0 (by omega)).trans (hcf 0 (by omega) (by omega) (by omega)), _, _, _, _, _, _, _, _, _, _, _, _, _, _, _, _, _, _, _, _, _, _, _, _, _, _, _, _, _, _, _, _, _, _, _, _, _, _, _, _, _, _, _, _, _, _, _, _, _, _, _, _, _, _, _, _, hc1.fr (fun b hb => hf2 b (by omega)), hm2, ⟨ht', p2, p3, p4, p5, shN_lt v7 p6, p7, p8, p9⟩, hS1, hS2, ⟨s1', tm1, tm2, s4', s5', s6', s7'⟩, hDE⟩
  · exact pair_ro hC hM hS (cF_tuneN x0 l1 l2 rx rv hok) rfl (cM_tuneN (by omega) mo rx rv hok) (fun h' e => ro_h hM e)
end SW
