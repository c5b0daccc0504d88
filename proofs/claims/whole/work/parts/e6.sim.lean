/-! e6: price, anew, fetch -/
section SV
variable {X : Cx} {d N : Nat} {h h' : AH} {z : Nat} {len o o2 n W B M F D fe sh : Nat} {tc : Int64} {wy bu fi : Nat → Nat → Int} {ld tx tn ch mi m0 m1 : Nat → Int} {f0 s0 f1 s1 : Nat} {ke k0 k1 : Int} {wt wo ro : Nat → Int} {ir : Nat → Nat} {od lb : Nat → Int} {tr : Nat → Nat → Int} {fa ah bn le du oa : Nat → Int} {T : MT} {RM : MS} {y8 y9 y10 : Int} {tb tnM am1 am2 am3 miM feM ks ik : Nat → Int} {x y v t : Int}
theorem CS.pl {fe' sh' f0' s0' f1' s1' : Nat} {k0' k1' : Int} {mi' m0' m1' tn' fa' ah' bn' le' du' oa' : Nat → Int} (hc : CS h len o o2 n W B M F D fe sh tc wy bu fi ld tx tn ch mi m0 m1 f0 s0 f1 s1 ke k0 k1 wt wo ro ir od lb tr fa ah bn le du oa) (e : ∀ b, b < 123 → (b < 81 ∨ (88 ≤ b ∧ b < 99) ∨ 106 ≤ b) → h' b = h b) (e81 : h' 81 = some (cI 4 tn')) (hP : PlC h' 82 mi' fe' sh' ke) (hI0 : PlC h' 84 m0' f0' s0' k0') (hI1 : PlC h' 86 m1' f1' s1' k1') (hA : AtC h' 99 n fa' ah' bn' le' du' oa') : CS h' len o o2 n W B M F D fe' sh' tc wy bu fi ld tx tn' ch mi' m0' m1' f0' s0' f1' s1' ke k0' k1' wt wo ro ir od lb tr fa' ah' bn' le' du' oa' := by
  obtain ⟨c1, c2, c3, c4, c5, c6, c7, c8, c9, c10, c11, c12⟩ := hc
  obtain ⟨⟨rl, R, r1, r2⟩, ⟨H2, hH⟩, ⟨n1, a, b, c, e1, f, g, hA1⟩, ⟨men, who, ab, gn, s1', s2'⟩, ⟨oc, tk, fr, ou, hC⟩, l1, l2, hS⟩ := c11
  refine ⟨(e _ (by omega) (by omega)).trans c1, HoC.fr c2 (fun b _ _ => e b (by omega) (by omega)), hP, c4.fr (fun b _ _ => e b (by omega) (by omega)), hA, (e _ (by omega) (by omega)).trans c6, e81, (e _ (by omega) (by omega)).trans c8, hI0, hI1, ?_, c12⟩
  refine ⟨⟨rl, R, (e 18 (by omega) (by omega)).trans r1, r2⟩, ⟨H2, ?_⟩, ⟨n1, a, b, c, e1, f, g, hA1.fr (fun b _ _ => e b (by omega) (by omega))⟩, ⟨men, who, ab, gn, s1'.fr (fun b _ _ => e b (by omega) (by omega)), s2'⟩, ⟨oc, tk, fr, ou, hC.fr (fun b _ _ => e b (by omega) (by omega))⟩, (e 1 (by omega) (by omega)).trans l1, (e 2 (by omega) (by omega)).trans l2, ?_⟩
  · exact HoC.fr hH (fun b _ _ => e b (by omega) (by omega))
  · intro i hi
    exact ⟨(e _ (by omega) (by omega)).trans (hS i hi).1, (e _ (by omega) (by omega)).trans (hS i hi).2⟩
theorem MS2.pl {tn' mi' fe' ks' ik' : Nat → Int} (hm : MS2 h len tc ch T RM y8 y9 y10 tb tnM am1 am2 am3 miM feM ks ik) (e : ∀ b, 123 ≤ b → b < 155 → b ≠ 141 → (b < 146 ∨ 149 < b) → h' b = h b) (e141 : h' 141 = some (cI 5 tn')) (e146 : h' 146 = some (cI 9 mi')) (e147 : h' 147 = some (cI 3 fe')) (e148 : h' 148 = some (cI 2 ks')) (e149 : h' 149 = some (cZ 2 ik')) : MS2 h' len tc ch T RM y8 y9 y10 tb tn' am1 am2 am3 mi' fe' ks' ik' := by
  obtain ⟨c1, c2, c3, c4, c5, c6, c7, c8, c9, c10, c11, c12, ⟨f1, e1⟩, ⟨f2, e2⟩, ⟨f3, e3⟩, ⟨f4, e4⟩, ⟨f5, e5⟩⟩ := hm
  exact ⟨(e _ (by omega) (by omega) (by omega) (by omega)).trans c1, (e _ (by omega) (by omega) (by omega) (by omega)).trans c2, fun a h1 h2 => (e _ (by omega) (by omega) (by omega) (by omega)).trans (c3 a h1 h2), e141, (e _ (by omega) (by omega) (by omega) (by omega)).trans c5, (e _ (by omega) (by omega) (by omega) (by omega)).trans c6, (e _ (by omega) (by omega) (by omega) (by omega)).trans c7, (e _ (by omega) (by omega) (by omega) (by omega)).trans c8, e146, e147, e148, e149, ⟨f1, (e _ (by omega) (by omega) (by omega) (by omega)).trans e1⟩, ⟨f2, (e _ (by omega) (by omega) (by omega) (by omega)).trans e2⟩, ⟨f3, (e _ (by omega) (by omega) (by omega) (by omega)).trans e3⟩, ⟨f4, (e _ (by omega) (by omega) (by omega) (by omega)).trans e4⟩, ⟨f5, (e _ (by omega) (by omega) (by omega) (by omega)).trans e5⟩⟩
theorem ImM.cg {c f s : Nat} {m miM' feM' : Nat → Int} {k : Int} (hi : ImM c m f s k miM feM ks ik) (h1 : ∀ i, 3 ≤ i → miM' i = miM i) (h2 : ∀ i, 1 ≤ i → feM' i = feM i) : ImM c m f s k miM' feM' ks ik := by
  obtain ⟨a, b⟩ := hi
  refine ⟨a, fun e => ?_⟩
  obtain ⟨b1, b2, b3⟩ := b e
  exact ⟨fun i hi => by rw [h1 _ (by omega)]; exact b1 i hi, by rw [h2 _ (by omega)]; exact b2, b3⟩
set_option maxHeartbeats 1000000 in
theorem op_price (S : Sim N h) (hd : 13 ≤ d) (hN : N ≤ 64) (rx : InR x) (ry : InR y) : PairP X d mF_price mM_price [vI x, vI y] N h z := by
  obtain ⟨len, o, o2, n, W, B, M, F, D, fe, sh, tc, wy, bu, fi, ld, tx, tn, ch, mi, m0, m1, f0, s0, f1, s1, ke, k0, k1, wt, wo, ro, ir, od, lb, tr, fa, ah, bn, le, du, oa, T, RM, y8, y9, y10, tb, tnM, am1, am2, am3, miM, feM, ks, ik, hC, hM, hS⟩ := S
  have hS0 := hS
  have hC0 := hC
  have hM0 := hM
  obtain ⟨x0, hH, hPl, hB, hA, g122, g81, g17, hI0, hI1, hX, hoo⟩ := hC0
  obtain ⟨m00, g124, hmm, g141, g142, g143, g144, g145, g146, g147, g148, g149, ⟨z1, g150⟩, ⟨z2, g151⟩, ⟨z3, g152⟩, ⟨z4, g153⟩, ⟨z5, g154⟩⟩ := hM0
  obtain ⟨⟨ht, hch, htx, hlen, hfeB, hsh, hmi, hi0, hi1⟩, ⟨hV, hV2, hW, hbu, hld, hF, e125, e126, e131, e136, e138⟩, ⟨hBX, ⟨bN, hob, hOb⟩, hw0, hwo0⟩, ⟨htb, htn, hsh4, hmie, hfe0, him0, him1⟩, ⟨fa0, ah0, bn0, le0, du0, od0, hDr⟩⟩ := hS0
  have mo := m00.trans (mR_e _ _ _ _ _ _)
  obtain ⟨g125, g126, g127, g128, g129, g130, g131, g132, g133, g134, g135, g136, g137, g138, g139, g140⟩ := mcl_h hmm
  have htM : TnV tnM := tnv_cg ht htn
  obtain ⟨oN, av, hO⟩ := dr_av hV ht hDr
  have hL := dr_lk (fa := am1) (ah := am2) (bn := am3) hV ht hW hF (htn 0 (by omega)) (htn 1 (by omega)) hDr
  rw [← htn 2 (by omega)] at hL
  have hV' := hV
  obtain ⟨⟨v1, v2⟩, v3, v4, v5, v6, v7, v8, v9, v10, v11, v12⟩ := hV'
  have hb := pow_B v4
  have hfe : fe < 1024 := by omega
  have bv := bgv_of hBX
  have hmi6 : ∀ i, i < 3 → 0 ≤ mi i ∧ mi i ≤ 1000000 := fun i hi => by have := hmi i hi; omega
  have hmi2 : ∀ i, i < 3 → miM i = mi i ∧ 0 ≤ mi i ∧ mi i ≤ 200000 := fun i hi => by have := hmi i hi; exact ⟨hmie i hi, by omega⟩
  have hmi9 : ∀ i, i < 3 → miM i = mi i ∧ 0 ≤ mi i ∧ mi i ≤ 900000 := fun i hi => by have := hmi i hi; exact ⟨hmie i hi, by omega⟩
  have hmM : ∀ i, i < 3 → 0 ≤ miM i ∧ miM i ≤ 200000 := fun i hi => by have := hmi2 i hi; omega
  have hmM6 : ∀ i, i < 3 → 0 ≤ miM i ∧ miM i ≤ 1000000 := fun i hi => by have := hmi2 i hi; omega
  have hf0 : 0 ≤ feM 0 := by omega
  have hf1 : feM 0 < 1024 := by omega
  obtain ⟨hfa, hah, hbn, hle, hdu, hoa⟩ := av
  by_cases hx : (0 ≤ x ∧ x ≤ 5) ∧ 0 ≤ y ∧ y < B
  · obtain ⟨⟨x1, x2⟩, w1, w2⟩ := hx
    obtain ⟨b, rfl⟩ := Int.eq_ofNat_of_zero_le w1
    have hbB : b < B := by omega
    refine pair_mk (cF_priceI (b := b) (by omega) x0 hH hV hPl hA hsh (by omega) hle hfa hbB x1 x2) (pri_same hBX hL hbu hbB) ?_
    intro h1 h1e
    have hc1 : CS h1 len o o2 n W B M F D fe sh (prT tc x) wy bu fi ld tx tn ch mi m0 m1 f0 s0 f1 s1 ke k0 k1 wt wo ro ir od lb tr fa ah bn le du oa := by
      subst h1e
      exact hC.put (fun b b1 b2 b3 b4 => upA_n _ _ b2) (upA_s _ _ _) ((upA_n _ _ (by omega)).trans g17) ((upA_n _ _ (by omega)).trans g122)
    have hf1 : ∀ b, b ≠ 16 → h1 b = h b := fun b hb => by rw [h1e]; exact upA_n _ _ hb
    have hM1 : MS2 h1 len tc ch T RM y8 y9 y10 tb tnM am1 am2 am3 miM feM ks ik := hM.fr (fun b b1 b2 => hf1 b (by omega))
    have hM1' := hM1
    refine ⟨hf1 0 (by omega), hf1 123 (by omega), ?_⟩
    obtain ⟨m00, g124, hmm, g141, g142, g143, g144, g145, g146, g147, g148, g149, ⟨z1, g150⟩, ⟨z2, g151⟩, ⟨z3, g152⟩, ⟨z4, g153⟩, ⟨z5, g154⟩⟩ := hM1
    have mo := m00.trans (mR_e _ _ _ _ _ _)
    obtain ⟨g125, g126, g127, g128, g129, g130, g131, g132, g133, g134, g135, g136, g137, g138, g139, g140⟩ := mcl_h hmm
    refine call_mono (cM_priceI (b := b) (by omega) mo g126 e126 g127 g128 g129 g138 e138 g139 g140 g141 hsh4 hsh g143 g144 g145 hV2 htM g131 e131 g132 g133 g134 g135 hbB x1 x2) ?_
    rintro _ h2 _ ⟨rfl, rfl, k, hk, h2e⟩
    obtain ⟨l1, l2, l3, l4⟩ := hk
    have hm2 : MS2 (upA k 123 (mR (pmT tc x) len RM y8 y9 y10)) len (pmT tc x) ch T RM y8 y9 y10 tb tnM _ _ _ miM feM ks ik := hM1'.put (fun b b1 b2 b3 => (upA_n _ _ (by omega)).trans (l4 b (by omega) (by omega) (by omega))) (upA_s _ _ _) ((upA_n _ _ (by omega)).trans ((l4 _ (by omega) (by omega) (by omega)).trans g124)) ((upA_n _ _ (by omega)).trans ((l4 _ (by omega) (by omega) (by omega)).trans g142)) ((upA_n _ _ (by omega)).trans l1) ((upA_n _ _ (by omega)).trans l3) ((upA_n _ _ (by omega)).trans l2)
    have h2e' : h2 = upA k 123 (mR (pmT tc x) len RM y8 y9 y10) := h2e
    rw [← h2e'] at hm2
    have hf2 : ∀ b, b < 123 → h2 b = h1 b := fun b hb => by
      rw [h2e', upA_n _ _ (by omega)]
      exact l4 b (by omega) (by omega) (by omega)
    rw [← prT_e] at hm2
    exact ⟨rfl, rfl, (hf2 0 (by omega)).trans (hf1 0 (by omega)), len, o, o2, n, W, B, M, F, D, fe, sh, prT tc x, wy, bu, fi, ld, tx, tn, ch, mi, m0, m1, f0, s0, f1, s1, ke, k0, k1, wt, wo, ro, ir, od, lb, tr, fa, ah, bn, le, du, oa, T, RM, y8, y9, y10, tb, tnM, _, _, _, miM, feM, ks, ik, hc1.fr hf2, hm2, hS.mono⟩
  · exact pair_ro hC hM hS (cF_priceN (by omega) x0 hH v4 rx ry hx) rfl (cM_priceN (by omega) mo g131 e131 v4 rx ry hx) (fun h' e => ro_h hM e)
theorem mi0_h (mi : Nat → Int) : (∀ i, i < 3 → mi0M mi i = 0) ∧ ∀ i, 3 ≤ i → mi0M mi i = mi i := by
  unfold mi0M upF
  constructor
  · intro i hi
    by_cases e2 : i = 2
    · rw [if_pos e2]
    rw [if_neg e2]
    by_cases e1 : i = 1
    · rw [if_pos e1]
    rw [if_neg e1, if_pos (show i = 0 by omega)]
  · intro i hi
    rw [if_neg (show i ≠ 2 by omega), if_neg (show i ≠ 1 by omega), if_neg (show i ≠ 0 by omega)]
theorem tab3 (g f : Nat → Int) {i : Nat} (hi : i < 3) : tabF 3 g f i = g i := if_pos hi
set_option maxHeartbeats 1000000 in
theorem op_anew (S : Sim N h) (hd : 13 ≤ d) (hN : N ≤ 64) : PairP X d mF_anew mM_anew [] N h z := by
  obtain ⟨len, o, o2, n, W, B, M, F, D, fe, sh, tc, wy, bu, fi, ld, tx, tn, ch, mi, m0, m1, f0, s0, f1, s1, ke, k0, k1, wt, wo, ro, ir, od, lb, tr, fa, ah, bn, le, du, oa, T, RM, y8, y9, y10, tb, tnM, am1, am2, am3, miM, feM, ks, ik, hC, hM, hS⟩ := S
  have hS0 := hS
  have hC0 := hC
  have hM0 := hM
  obtain ⟨x0, hH, hPl, hB, hA, g122, g81, g17, hI0, hI1, hX, hoo⟩ := hC0
  obtain ⟨m00, g124, hmm, g141, g142, g143, g144, g145, g146, g147, g148, g149, ⟨z1, g150⟩, ⟨z2, g151⟩, ⟨z3, g152⟩, ⟨z4, g153⟩, ⟨z5, g154⟩⟩ := hM0
  obtain ⟨⟨ht, hch, htx, hlen, hfeB, hsh, hmi, hi0, hi1⟩, ⟨hV, hV2, hW, hbu, hld, hF, e125, e126, e131, e136, e138⟩, ⟨hBX, ⟨bN, hob, hOb⟩, hw0, hwo0⟩, ⟨htb, htn, hsh4, hmie, hfe0, him0, him1⟩, ⟨fa0, ah0, bn0, le0, du0, od0, hDr⟩⟩ := hS0
  have mo := m00.trans (mR_e _ _ _ _ _ _)
  obtain ⟨g125, g126, g127, g128, g129, g130, g131, g132, g133, g134, g135, g136, g137, g138, g139, g140⟩ := mcl_h hmm
  have htM : TnV tnM := tnv_cg ht htn
  obtain ⟨oN, av, hO⟩ := dr_av hV ht hDr
  have hL := dr_lk (fa := am1) (ah := am2) (bn := am3) hV ht hW hF (htn 0 (by omega)) (htn 1 (by omega)) hDr
  rw [← htn 2 (by omega)] at hL
  have hV' := hV
  obtain ⟨⟨v1, v2⟩, v3, v4, v5, v6, v7, v8, v9, v10, v11, v12⟩ := hV'
  have hb := pow_B v4
  have hfe : fe < 1024 := by omega
  have bv := bgv_of hBX
  have hmi6 : ∀ i, i < 3 → 0 ≤ mi i ∧ mi i ≤ 1000000 := fun i hi => by have := hmi i hi; omega
  have hmi2 : ∀ i, i < 3 → miM i = mi i ∧ 0 ≤ mi i ∧ mi i ≤ 200000 := fun i hi => by have := hmi i hi; exact ⟨hmie i hi, by omega⟩
  have hmi9 : ∀ i, i < 3 → miM i = mi i ∧ 0 ≤ mi i ∧ mi i ≤ 900000 := fun i hi => by have := hmi i hi; exact ⟨hmie i hi, by omega⟩
  have hmM : ∀ i, i < 3 → 0 ≤ miM i ∧ miM i ≤ 200000 := fun i hi => by have := hmi2 i hi; omega
  have hmM6 : ∀ i, i < 3 → 0 ≤ miM i ∧ miM i ≤ 1000000 := fun i hi => by have := hmi2 i hi; omega
  have hf0 : 0 ≤ feM 0 := by omega
  have hf1 : feM 0 < 1024 := by omega
  obtain ⟨hfa, hah, hbn, hle, hdu, hoa⟩ := av
  refine pair_mk (cF_anew (by omega) x0 hPl hfe) (bcF_pop fe).symm ?_
  rintro h1 ⟨hP1, hf1⟩
  have hc1 : CS h1 len o o2 n W B M F D 0 sh tc wy bu fi ld tx tn ch (tabF 3 (fun _ => 0) mi) m0 m1 f0 s0 f1 s1 ke k0 k1 wt wo ro ir od lb tr fa ah bn le du oa := hC.pl (fun b b1 b2 => hf1 b (by omega) (by omega)) ((hf1 _ (by omega) (by omega)).trans g81) hP1 (hI0.frr (hf1 _ (by omega) (by omega)) (hf1 _ (by omega) (by omega))) (hI1.frr (hf1 _ (by omega) (by omega)) (hf1 _ (by omega) (by omega))) (hA.fr (fun b _ _ => hf1 b (by omega) (by omega)))
  have hM1 : MS2 h1 len tc ch T RM y8 y9 y10 tb tnM am1 am2 am3 miM feM ks ik := hM.fr (fun b b1 b2 => hf1 b (by omega) (by omega))
  have hM1' := hM1
  refine ⟨hf1 0 (by omega) (by omega), hf1 123 (by omega) (by omega), ?_⟩
  obtain ⟨m00, g124, hmm, g141, g142, g143, g144, g145, g146, g147, g148, g149, ⟨z1, g150⟩, ⟨z2, g151⟩, ⟨z3, g152⟩, ⟨z4, g153⟩, ⟨z5, g154⟩⟩ := hM1
  have mo := m00.trans (mR_e _ _ _ _ _ _)
  obtain ⟨g125, g126, g127, g128, g129, g130, g131, g132, g133, g134, g135, g136, g137, g138, g139, g140⟩ := mcl_h hmm
  refine call_mono (cM_anew (by omega) mo g146 g147 hfe0 hfe) ?_
  rintro _ h2 _ ⟨rfl, rfl, h2e⟩
  have hf2 : ∀ b, b ≠ 146 → b ≠ 147 → h2 b = h1 b := fun b b1 b2 => by rw [h2e]; exact (upA_n _ _ b1).trans (upA_n _ _ b2)
  have q146 : h2 146 = some (cI 9 (mi0M miM)) := by rw [h2e]; exact upA_s _ _ _
  have q147 : h2 147 = some (cI 3 (upF feM 0 0)) := by rw [h2e]; exact (upA_n _ _ (by omega)).trans (upA_s _ _ _)
  have hm2 : MS2 h2 len tc ch T RM y8 y9 y10 tb tnM am1 am2 am3 (mi0M miM) (upF feM 0 0) ks ik := hM1'.pl (fun b b1 b2 b3 b4 => hf2 b (by omega) (by omega)) ((hf2 _ (by omega) (by omega)).trans g141) q146 q147 ((hf2 _ (by omega) (by omega)).trans g148) ((hf2 _ (by omega) (by omega)).trans g149)
  have hm0 := mi0_h miM
  have hfu : ∀ i, 1 ≤ i → upF feM 0 0 i = feM i := fun i hi => if_neg (show i ≠ 0 by omega)
  obtain ⟨⟨p1, p2, p3, p4, p5, p6, p7, p8, p9⟩, hS1, hS2, ⟨s1', s2', s3', s4', s5', s6', s7'⟩, hS4⟩ := hS.mono
  exact ⟨rfl, rfl, (hf2 0 (by omega) (by omega)).trans (hf1 0 (by omega) (by omega)), len, o, o2, n, W, B, M, F, D, 0, sh, tc, wy, bu, fi, ld, tx, tn, ch, tabF 3 (fun _ => 0) mi, m0, m1, f0, s0, f1, s1, ke, k0, k1, wt, wo, ro, ir, od, lb, tr, fa, ah, bn, le, du, oa, T, RM, y8, y9, y10, tb, tnM, am1, am2, am3, mi0M miM, upF feM 0 0, ks, ik, hc1.fr (fun b hb => hf2 b (by omega) (by omega)), hm2, ⟨p1, p2, p3, p4, Nat.two_pow_pos B, p6, fun i hi => by rw [tab3 _ _ hi]; exact ⟨by omega, fun _ => rfl⟩, p8, p9⟩, hS1, hS2, ⟨s1', s2', s3', fun i hi => by rw [hm0.1 i hi, tab3 _ _ hi], rfl, s6'.cg hm0.2 hfu, s7'.cg hm0.2 hfu⟩, hS4⟩
theorem fet_hi {bT : Nat → Nat → Int} {lT miM : Nat → Int} {fm am bm : Nat → Int} {s : Int} (hX : BgX n B M bT lT wt wo ro ir lb tr) (hL : LkV n fa ah bn le du fm am bm s) : (∀ i, 3 ≤ i → mimF M B bT lT feM fm am bm miM s x y i = miM i) ∧ ∀ i, 1 ≤ i → femF M B bT lT feM fm am bm miM s x y i = feM i := by
  unfold mimF femF
  by_cases c : amY M B bT lT feM fm am bm miM s x y = 0
  · obtain ⟨_, _, _, u, _⟩ := far_same hX hL c
    have hM3 := hX.2.2.2.2.2.2.2.2.2.2.2.2
    rw [if_pos c, if_pos c]
    exact ⟨fun i hi => if_neg (show i ≠ x.toNat by omega), fun i hi => if_neg (show i ≠ 0 by omega)⟩
  · rw [if_neg c, if_neg c]
    exact ⟨fun _ _ => rfl, fun _ _ => rfl⟩
set_option maxHeartbeats 1000000 in
theorem op_fetch (S : Sim N h) (hd : 13 ≤ d) (hN : N ≤ 64) (rx : InR x) (ry : InR y) : PairP X d mF_fetch mM_fetch [vI x, vI y] N h z := by
  obtain ⟨len, o, o2, n, W, B, M, F, D, fe, sh, tc, wy, bu, fi, ld, tx, tn, ch, mi, m0, m1, f0, s0, f1, s1, ke, k0, k1, wt, wo, ro, ir, od, lb, tr, fa, ah, bn, le, du, oa, T, RM, y8, y9, y10, tb, tnM, am1, am2, am3, miM, feM, ks, ik, hC, hM, hS⟩ := S
  have hS0 := hS
  have hC0 := hC
  have hM0 := hM
  obtain ⟨x0, hH, hPl, hB, hA, g122, g81, g17, hI0, hI1, hX, hoo⟩ := hC0
  obtain ⟨m00, g124, hmm, g141, g142, g143, g144, g145, g146, g147, g148, g149, ⟨z1, g150⟩, ⟨z2, g151⟩, ⟨z3, g152⟩, ⟨z4, g153⟩, ⟨z5, g154⟩⟩ := hM0
  obtain ⟨⟨ht, hch, htx, hlen, hfeB, hsh, hmi, hi0, hi1⟩, ⟨hV, hV2, hW, hbu, hld, hF, e125, e126, e131, e136, e138⟩, ⟨hBX, ⟨bN, hob, hOb⟩, hw0, hwo0⟩, ⟨htb, htn, hsh4, hmie, hfe0, him0, him1⟩, ⟨fa0, ah0, bn0, le0, du0, od0, hDr⟩⟩ := hS0
  have mo := m00.trans (mR_e _ _ _ _ _ _)
  obtain ⟨g125, g126, g127, g128, g129, g130, g131, g132, g133, g134, g135, g136, g137, g138, g139, g140⟩ := mcl_h hmm
  have htM : TnV tnM := tnv_cg ht htn
  obtain ⟨oN, av, hO⟩ := dr_av hV ht hDr
  have hL := dr_lk (fa := am1) (ah := am2) (bn := am3) hV ht hW hF (htn 0 (by omega)) (htn 1 (by omega)) hDr
  rw [← htn 2 (by omega)] at hL
  have hV' := hV
  obtain ⟨⟨v1, v2⟩, v3, v4, v5, v6, v7, v8, v9, v10, v11, v12⟩ := hV'
  have hb := pow_B v4
  have hfe : fe < 1024 := by omega
  have bv := bgv_of hBX
  have hmi6 : ∀ i, i < 3 → 0 ≤ mi i ∧ mi i ≤ 1000000 := fun i hi => by have := hmi i hi; omega
  have hmi2 : ∀ i, i < 3 → miM i = mi i ∧ 0 ≤ mi i ∧ mi i ≤ 200000 := fun i hi => by have := hmi i hi; exact ⟨hmie i hi, by omega⟩
  have hmi9 : ∀ i, i < 3 → miM i = mi i ∧ 0 ≤ mi i ∧ mi i ≤ 900000 := fun i hi => by have := hmi i hi; exact ⟨hmie i hi, by omega⟩
  have hmM : ∀ i, i < 3 → 0 ≤ miM i ∧ miM i ≤ 200000 := fun i hi => by have := hmi2 i hi; omega
  have hmM6 : ∀ i, i < 3 → 0 ≤ miM i ∧ miM i ≤ 1000000 := fun i hi => by have := hmi2 i hi; omega
  have hf0 : 0 ≤ feM 0 := by omega
  have hf1 : feM 0 < 1024 := by omega
  obtain ⟨hfa, hah, hbn, hle, hdu, hoa⟩ := av
  obtain ⟨t1, t2, t3, t4, t5⟩ := fet_same (x := x) (y := y) hBX hL hld hfe0 hfe hmi9
  refine pair_mk (cF_fetch (by omega) x0 hH hPl hB hA hV bv hfe hfa hdu hmi6 rx ry) t1 ?_
  rintro h1 ⟨hP1, hcf⟩
  have hc1 := hC.pl (h' := h1) (fun b b1 b2 => hcf b (by omega) (by omega)) ((hcf _ (by omega) (by omega)).trans g81) hP1 (hI0.frr (hcf _ (by omega) (by omega)) (hcf _ (by omega) (by omega))) (hI1.frr (hcf _ (by omega) (by omega)) (hcf _ (by omega) (by omega))) (hA.fr (fun b _ _ => hcf b (by omega) (by omega)))
  have hM1 : MS2 h1 len tc ch T RM y8 y9 y10 tb tnM am1 am2 am3 miM feM ks ik := hM.fr (fun b b1 b2 => hcf b (by omega) (by omega))
  have hM1' := hM1
  refine ⟨hcf 0 (by omega) (by omega), hcf 123 (by omega) (by omega), ?_⟩
  obtain ⟨m00, g124, hmm, g141, g142, g143, g144, g145, g146, g147, g148, g149, ⟨z1, g150⟩, ⟨z2, g151⟩, ⟨z3, g152⟩, ⟨z4, g153⟩, ⟨z5, g154⟩⟩ := hM1
  have mo := m00.trans (mR_e _ _ _ _ _ _)
  obtain ⟨g125, g126, g127, g128, g129, g130, g131, g132, g133, g134, g135, g136, g137, g138, g139, g140⟩ := mcl_h hmm
  refine call_mono (cM_fetch (by omega) mo g126 e126 g127 g128 g129 g138 e138 g139 g140 g141 hsh4 hsh g143 g144 g145 g131 e131 g132 g133 g136 e136 g137 g146 g147 hV2 htM hmM6 hf0 hf1 rx ry) ?_
  rintro _ h2 _ ⟨rfl, rfl, r146, r147, k, hk, hf2⟩
  have hro := ro_lk (h' := k) hM1' hk
  obtain ⟨a1, a2, a3, hMk⟩ := hM1'.rdo hro
  have hm2 := hMk.pl (h' := h2) (fun b b1 b2 b3 b4 => hf2 b (by omega) (by omega)) ((hf2 _ (by omega) (by omega)).trans hMk.2.2.2.1) r146 r147 ((hf2 _ (by omega) (by omega)).trans hMk.2.2.2.2.2.2.2.2.2.2.1) ((hf2 _ (by omega) (by omega)).trans hMk.2.2.2.2.2.2.2.2.2.2.2.1)
  obtain ⟨hhi, hhf⟩ := fet_hi (x := x) (y := y) (feM := feM) (miM := miM) hBX hL
  have hfk : ∀ b, b < 123 → h2 b = h1 b := fun b hb => (hf2 b (by omega) (by omega)).trans (hro.1 b (by omega) (by omega))
  obtain ⟨⟨p1, p2, p3, p4, p5, p6, p7, p8, p9⟩, hS1, hS2, ⟨s1', s2', s3', s4', s5', s6', s7'⟩, hS4⟩ := hS.mono
  refine ⟨rfl, rfl, (hfk 0 (by omega)).trans (hcf 0 (by omega) (by omega)), _, _, _, _, _, _, _, _, _, _, _, _, _, _, _, _, _, _, _, _, _, _, _, _, _, _, _, _, _, _, _, _, _, _, _, _, _, _, _, _, _, _, _, _, _, _, _, _, _, _, _, _, _, _, _, _, hc1.fr hfk, hm2, ⟨p1, p2, p3, p4, t5 hfeB, p6, fun i hi => ?_, p8, p9⟩, hS1, hS2, ⟨s1', s2', s3', fun i hi => (t2 i hi).1, t3, s6'.cg hhi hhf, s7'.cg hhi hhf⟩, hS4⟩
  have u1 := t2 i hi
  have u2 := hmi i hi
  refine ⟨by omega, fun w => ?_⟩
  rw [u1.2.2.2 w]
  exact u2.2 w
end SV
