/-! e5: chance, clear, type, price -/
section SU
variable {X : Cx} {d N : Nat} {h h' : AH} {z : Nat} {len o o2 n W B M F D fe sh : Nat} {tc : Int64} {wy bu fi : Nat → Nat → Int} {ld tx tn ch mi m0 m1 : Nat → Int} {f0 s0 f1 s1 : Nat} {ke k0 k1 : Int} {wt wo ro : Nat → Int} {ir : Nat → Nat} {od lb : Nat → Int} {tr : Nat → Nat → Int} {fa ah bn le du oa : Nat → Int} {T : MT} {RM : MS} {y8 y9 y10 : Int} {tb tnM am1 am2 am3 miM feM ks ik : Nat → Int} {x y v t : Int}
theorem CS.put {len' : Nat} {tc' : Int64} {tx' ch' : Nat → Int} (hc : CS h len o o2 n W B M F D fe sh tc wy bu fi ld tx tn ch mi m0 m1 f0 s0 f1 s1 ke k0 k1 wt wo ro ir od lb tr fa ah bn le du oa) (e : ∀ b, b < 123 → b ≠ 16 → b ≠ 17 → b ≠ 122 → h' b = h b) (e16 : h' 16 = some (xO len' o o2 tc')) (e17 : h' 17 = some (cI 400 tx')) (e122 : h' 122 = some (cI 5 ch')) : CS h' len' o o2 n W B M F D fe sh tc' wy bu fi ld tx' tn ch' mi m0 m1 f0 s0 f1 s1 ke k0 k1 wt wo ro ir od lb tr fa ah bn le du oa := by
  obtain ⟨c1, c2, c3, c4, c5, c6, c7, c8, c9, c10, c11, c12⟩ := hc
  obtain ⟨⟨rl, R, r1, r2⟩, ⟨H2, hH⟩, ⟨n1, a, b, c, e1, f, g, hA⟩, ⟨men, who, ab, gn, s1', s2'⟩, ⟨oc, tk, fr, ou, hC⟩, l1, l2, hS⟩ := c11
  refine ⟨e16, HoC.fr c2 (fun b _ _ => e b (by omega) (by omega) (by omega) (by omega)), c3.frr (e _ (by omega) (by omega) (by omega) (by omega)) (e _ (by omega) (by omega) (by omega) (by omega)), c4.fr (fun b _ _ => e b (by omega) (by omega) (by omega) (by omega)), c5.fr (fun b _ _ => e b (by omega) (by omega) (by omega) (by omega)), e122, (e 81 (by omega) (by omega) (by omega) (by omega)).trans c7, e17, c9.frr (e _ (by omega) (by omega) (by omega) (by omega)) (e _ (by omega) (by omega) (by omega) (by omega)), c10.frr (e _ (by omega) (by omega) (by omega) (by omega)) (e _ (by omega) (by omega) (by omega) (by omega)), ?_, c12⟩
  refine ⟨⟨rl, R, (e 18 (by omega) (by omega) (by omega) (by omega)).trans r1, r2⟩, ⟨H2, ?_⟩, ⟨n1, a, b, c, e1, f, g, hA.fr (fun b _ _ => e b (by omega) (by omega) (by omega) (by omega))⟩, ⟨men, who, ab, gn, s1'.fr (fun b _ _ => e b (by omega) (by omega) (by omega) (by omega)), s2'⟩, ⟨oc, tk, fr, ou, hC.fr (fun b _ _ => e b (by omega) (by omega) (by omega) (by omega))⟩, (e 1 (by omega) (by omega) (by omega) (by omega)).trans l1, (e 2 (by omega) (by omega) (by omega) (by omega)).trans l2, ?_⟩
  · exact HoC.fr hH (fun b _ _ => e b (by omega) (by omega) (by omega) (by omega))
  · intro i hi
    exact ⟨(e _ (by omega) (by omega) (by omega) (by omega)).trans (hS i hi).1, (e _ (by omega) (by omega) (by omega) (by omega)).trans (hS i hi).2⟩
theorem MS2.put {len' : Nat} {tc' : Int64} {tb' ch' a1 a2 a3 : Nat → Int} (hm : MS2 h len tc ch T RM y8 y9 y10 tb tnM am1 am2 am3 miM feM ks ik) (e : ∀ b, 124 < b → b ≠ 142 → (b < 143 ∨ 145 < b) → h' b = h b) (e123 : h' 123 = some (mR tc' len' RM y8 y9 y10)) (e124 : h' 124 = some (cB 400 tb')) (e142 : h' 142 = some (cI 5 ch')) (e143 : h' 143 = some (cI 8 a1)) (e144 : h' 144 = some (cI 8 a2)) (e145 : h' 145 = some (cI 8 a3)) : MS2 h' len' tc' ch' T RM y8 y9 y10 tb' tnM a1 a2 a3 miM feM ks ik := by
  obtain ⟨c1, c2, c3, c4, c5, c6, c7, c8, c9, c10, c11, c12, ⟨f1, e1⟩, ⟨f2, e2⟩, ⟨f3, e3⟩, ⟨f4, e4⟩, ⟨f5, e5⟩⟩ := hm
  exact ⟨e123, e124, fun a h1 h2 => (e _ (by omega) (by omega) (by omega)).trans (c3 a h1 h2), (e _ (by omega) (by omega) (by omega)).trans c4, e142, e143, e144, e145, (e _ (by omega) (by omega) (by omega)).trans c9, (e _ (by omega) (by omega) (by omega)).trans c10, (e _ (by omega) (by omega) (by omega)).trans c11, (e _ (by omega) (by omega) (by omega)).trans c12, ⟨f1, (e _ (by omega) (by omega) (by omega)).trans e1⟩, ⟨f2, (e _ (by omega) (by omega) (by omega)).trans e2⟩, ⟨f3, (e _ (by omega) (by omega) (by omega)).trans e3⟩, ⟨f4, (e _ (by omega) (by omega) (by omega)).trans e4⟩, ⟨f5, (e _ (by omega) (by omega) (by omega)).trans e5⟩⟩
theorem chv_N (hc : ChV ch) (hok : chOk ch x y v) : ChV (chN ch x y v) := by
  obtain ⟨⟨x0, x1⟩, ⟨y0, y1⟩, v0, v1⟩ := hok
  obtain ⟨c1, c2⟩ := hc
  have h0 := c1 0 (by omega)
  have h1 := c1 1 (by omega)
  have h2 := c1 2 (by omega)
  have h3 := c1 3 (by omega)
  have h4 := c1 4 (by omega)
  obtain ⟨a, rfl⟩ := Int.eq_ofNat_of_zero_le x0
  obtain ⟨b, rfl⟩ := Int.eq_ofNat_of_zero_le y0
  rw [Int.toNat_natCast] at v1
  unfold ChV chN
  rw [Int.toNat_natCast, Int.toNat_natCast]
  have ha : a = 0 ∨ a = 1 ∨ a = 2 ∨ a = 3 ∨ a = 4 := by omega
  have hb : b = 0 ∨ b = 1 ∨ b = 2 ∨ b = 3 ∨ b = 4 := by omega
  clear x0 x1 y0 y1 c1
  have key : ∀ f : Nat → Int, (0 ≤ f 0 ∧ 0 ≤ f 1 ∧ 0 ≤ f 2 ∧ 0 ≤ f 3 ∧ 0 ≤ f 4) ∧ f 0 + f 1 + f 2 + f 3 + f 4 = 10 → (∀ k, k < 5 → 0 ≤ f k) ∧ f 0 + f 1 + f 2 + f 3 + f 4 = 10 := by
    rintro f ⟨⟨q0, q1, q2, q3, q4⟩, q5⟩
    refine ⟨fun k hk => ?_, q5⟩
    have : k = 0 ∨ k = 1 ∨ k = 2 ∨ k = 3 ∨ k = 4 := by omega
    rcases this with rfl | rfl | rfl | rfl | rfl <;> assumption
  apply key
  rcases ha with rfl | rfl | rfl | rfl | rfl <;> rcases hb with rfl | rfl | rfl | rfl | rfl <;> simp [upF] <;> omega
set_option maxHeartbeats 1000000 in
theorem op_chance (S : Sim N h) (hd : 13 ≤ d) (hN : N ≤ 64) (rx : InR x) (ry : InR y) (rv : InR v) : PairP X d mF_chance mM_chance [vI x, vI y, vI v] N h z := by
  obtain ⟨len, o, o2, n, W, B, M, F, D, fe, sh, tc, wy, bu, fi, ld, tx, tn, ch, mi, m0, m1, f0, s0, f1, s1, ke, k0, k1, wt, wo, ro, ir, od, lb, tr, fa, ah, bn, le, du, oa, T, RM, y8, y9, y10, tb, tnM, am1, am2, am3, miM, feM, ks, ik, hC, hM, hS⟩ := S
  have hS0 := hS
  have hC0 := hC
  have hM0 := hM
  obtain ⟨x0, hH, hPl, hB, hA, g122, g81, g17, hI0, hI1, hX, hoo⟩ := hC0
  obtain ⟨m00, g124, hmm, g141, g142, g143, g144, g145, g146, g147, g148, g149, ⟨z1, g150⟩, ⟨z2, g151⟩, ⟨z3, g152⟩, ⟨z4, g153⟩, ⟨z5, g154⟩⟩ := hM0
  obtain ⟨⟨ht, hch, htx, hlen, hfeB, hsh, hmi, hi0, hi1⟩, ⟨hV, hV2, hW, hbu, hld, hF, e125, e126, e131, e136, e138⟩, ⟨hBX, ⟨bN, hob, hOb⟩, hw0, hwo0⟩, ⟨htb, htn, hsh4, hmie, hfe0, him0, him1⟩, ⟨fa0, ah0, bn0, le0, du0, od0, hDr⟩⟩ := hS0
  have mo := m00.trans (mR_e _ _ _ _ _ _)
  obtain ⟨g125, g126, g127, g128, g129, g130, g131, g132, g133, g134, g135, g136, g137, g138, g139, g140⟩ := mcl_h hmm
  have htM : TnV tnM := tnv_cg ht htn
  obtain ⟨oN, av, hO⟩ := dr_av hV ht hDr
  have hL := dr_lk (fa := am1) (ah := am2) (bn := am3) hV ht hW hF (htn 0 (by omega)) (htn 1 (by omega)) hDr
  rw [← htn 2 (by omega)] at hL
  have hV' := hV
  obtain ⟨⟨v1, v2⟩, v3, v4, v5, v6, v7, v8, v9, v10, v11, v12⟩ := hV'
  have hb := pow_B v4
  have hfe : fe < 1024 := by omega
  have bv := bgv_of hBX
  have hmi6 : ∀ i, i < 3 → 0 ≤ mi i ∧ mi i ≤ 1000000 := fun i hi => by have := hmi i hi; omega
  have hmi2 : ∀ i, i < 3 → miM i = mi i ∧ 0 ≤ mi i ∧ mi i ≤ 200000 := fun i hi => by have := hmi i hi; exact ⟨hmie i hi, by omega⟩
  have hmi9 : ∀ i, i < 3 → miM i = mi i ∧ 0 ≤ mi i ∧ mi i ≤ 900000 := fun i hi => by have := hmi i hi; exact ⟨hmie i hi, by omega⟩
  have hmM : ∀ i, i < 3 → 0 ≤ miM i ∧ miM i ≤ 200000 := fun i hi => by have := hmi2 i hi; omega
  have hmM6 : ∀ i, i < 3 → 0 ≤ miM i ∧ miM i ≤ 1000000 := fun i hi => by have := hmi2 i hi; omega
  have hf0 : 0 ≤ feM 0 := by omega
  have hf1 : feM 0 < 1024 := by omega
  obtain ⟨hfa, hah, hbn, hle, hdu, hoa⟩ := av
  by_cases hx : chOk ch x y v
  · refine pair_mk (cF_chanceI x0 g122 hch hx) rfl ?_
    rintro h1 rfl
    refine ⟨upA_n _ _ (by omega), upA_n _ _ (by omega), ?_⟩
    refine call_mono (cM_chanceI (ch := ch) (by omega) ((upA_n _ _ (by omega)).trans mo) ((upA_n _ _ (by omega)).trans g142) hch hx) ?_
    rintro _ h2 _ ⟨rfl, rfl, rfl⟩
    have hc1 : CS (upA h 122 (cI 5 (chN ch x y v))) len o o2 n W B M F D fe sh tc wy bu fi ld tx tn (chN ch x y v) mi m0 m1 f0 s0 f1 s1 ke k0 k1 wt wo ro ir od lb tr fa ah bn le du oa := hC.put (fun b b1 b2 b3 b4 => upA_n _ _ b4) ((upA_n _ _ (by omega)).trans x0) ((upA_n _ _ (by omega)).trans g17) (upA_s _ _ _)
    have hm1 : MS2 (upA h 122 (cI 5 (chN ch x y v))) len tc ch T RM y8 y9 y10 tb tnM am1 am2 am3 miM feM ks ik := hM.fr (fun b b1 b2 => upA_n _ _ (by omega))
    have hm2 : MS2 (upA (upA h 122 (cI 5 (chN ch x y v))) 142 (cI 5 (chN ch x y v))) len tc (chN ch x y v) T RM y8 y9 y10 tb tnM am1 am2 am3 miM feM ks ik := hm1.put (fun b b1 b2 b3 => upA_n _ _ b2) ((upA_n _ _ (by omega)).trans hm1.1) ((upA_n _ _ (by omega)).trans hm1.2.1) (upA_s _ _ _) ((upA_n _ _ (by omega)).trans hm1.2.2.2.2.2.1) ((upA_n _ _ (by omega)).trans hm1.2.2.2.2.2.2.1) ((upA_n _ _ (by omega)).trans hm1.2.2.2.2.2.2.2.1)
    obtain ⟨⟨p1, p2, p3⟩, hSr⟩ := hS.mono
    exact ⟨rfl, rfl, (upA_n _ _ (by omega)).trans (upA_n _ _ (by omega)), len, o, o2, n, W, B, M, F, D, fe, sh, tc, wy, bu, fi, ld, tx, tn, chN ch x y v, mi, m0, m1, f0, s0, f1, s1, ke, k0, k1, wt, wo, ro, ir, od, lb, tr, fa, ah, bn, le, du, oa, T, RM, y8, y9, y10, tb, tnM, am1, am2, am3, miM, feM, ks, ik, hc1.fr (fun b hb => upA_n _ _ (by omega)), hm2, ⟨p1, chv_N p2 hx, p3⟩, hSr⟩
  · exact pair_ro hC hM hS (cF_chanceN x0 g122 hch rx ry rv hx) rfl (cM_chanceN (by omega) mo g142 hch rx ry rv hx) (fun h' e => ro_h hM e)
set_option maxHeartbeats 1000000 in
theorem op_clear (S : Sim N h) (hd : 13 ≤ d) (hN : N ≤ 64) : PairP X d mF_clear mM_clear [] N h z := by
  obtain ⟨len, o, o2, n, W, B, M, F, D, fe, sh, tc, wy, bu, fi, ld, tx, tn, ch, mi, m0, m1, f0, s0, f1, s1, ke, k0, k1, wt, wo, ro, ir, od, lb, tr, fa, ah, bn, le, du, oa, T, RM, y8, y9, y10, tb, tnM, am1, am2, am3, miM, feM, ks, ik, hC, hM, hS⟩ := S
  have hS0 := hS
  have hC0 := hC
  have hM0 := hM
  obtain ⟨x0, hH, hPl, hB, hA, g122, g81, g17, hI0, hI1, hX, hoo⟩ := hC0
  obtain ⟨m00, g124, hmm, g141, g142, g143, g144, g145, g146, g147, g148, g149, ⟨z1, g150⟩, ⟨z2, g151⟩, ⟨z3, g152⟩, ⟨z4, g153⟩, ⟨z5, g154⟩⟩ := hM0
  obtain ⟨⟨ht, hch, htx, hlen, hfeB, hsh, hmi, hi0, hi1⟩, ⟨hV, hV2, hW, hbu, hld, hF, e125, e126, e131, e136, e138⟩, ⟨hBX, ⟨bN, hob, hOb⟩, hw0, hwo0⟩, ⟨htb, htn, hsh4, hmie, hfe0, him0, him1⟩, ⟨fa0, ah0, bn0, le0, du0, od0, hDr⟩⟩ := hS0
  have mo := m00.trans (mR_e _ _ _ _ _ _)
  obtain ⟨g125, g126, g127, g128, g129, g130, g131, g132, g133, g134, g135, g136, g137, g138, g139, g140⟩ := mcl_h hmm
  have htM : TnV tnM := tnv_cg ht htn
  obtain ⟨oN, av, hO⟩ := dr_av hV ht hDr
  have hL := dr_lk (fa := am1) (ah := am2) (bn := am3) hV ht hW hF (htn 0 (by omega)) (htn 1 (by omega)) hDr
  rw [← htn 2 (by omega)] at hL
  have hV' := hV
  obtain ⟨⟨v1, v2⟩, v3, v4, v5, v6, v7, v8, v9, v10, v11, v12⟩ := hV'
  have hb := pow_B v4
  have hfe : fe < 1024 := by omega
  have bv := bgv_of hBX
  have hmi6 : ∀ i, i < 3 → 0 ≤ mi i ∧ mi i ≤ 1000000 := fun i hi => by have := hmi i hi; omega
  have hmi2 : ∀ i, i < 3 → miM i = mi i ∧ 0 ≤ mi i ∧ mi i ≤ 200000 := fun i hi => by have := hmi i hi; exact ⟨hmie i hi, by omega⟩
  have hmi9 : ∀ i, i < 3 → miM i = mi i ∧ 0 ≤ mi i ∧ mi i ≤ 900000 := fun i hi => by have := hmi i hi; exact ⟨hmie i hi, by omega⟩
  have hmM : ∀ i, i < 3 → 0 ≤ miM i ∧ miM i ≤ 200000 := fun i hi => by have := hmi2 i hi; omega
  have hmM6 : ∀ i, i < 3 → 0 ≤ miM i ∧ miM i ≤ 1000000 := fun i hi => by have := hmi2 i hi; omega
  have hf0 : 0 ≤ feM 0 := by omega
  have hf1 : feM 0 < 1024 := by omega
  obtain ⟨hfa, hah, hbn, hle, hdu, hoa⟩ := av
  refine pair_mk (cF_clear x0 hlen) rfl ?_
  rintro h1 rfl
  refine ⟨upA_n _ _ (by omega), upA_n _ _ (by omega), ?_⟩
  refine call_mono (cM_clear (ty := len) ((upA_n _ _ (by omega)).trans mo) rfl hlen) ?_
  rintro _ h2 _ ⟨rfl, rfl, rfl⟩
  have hc1 : CS (upA h 16 (xO 0 o o2 tc)) 0 o o2 n W B M F D fe sh tc wy bu fi ld tx tn ch mi m0 m1 f0 s0 f1 s1 ke k0 k1 wt wo ro ir od lb tr fa ah bn le du oa := hC.put (fun b b1 b2 b3 b4 => upA_n _ _ b2) (upA_s _ _ _) ((upA_n _ _ (by omega)).trans g17) ((upA_n _ _ (by omega)).trans g122)
  have hm1 : MS2 (upA h 16 (xO 0 o o2 tc)) len tc ch T RM y8 y9 y10 tb tnM am1 am2 am3 miM feM ks ik := hM.fr (fun b b1 b2 => upA_n _ _ (by omega))
  have hm2 : MS2 (upA (upA h 16 (xO 0 o o2 tc)) 123 (mR tc 0 RM y8 y9 y10)) 0 tc ch T RM y8 y9 y10 tb tnM am1 am2 am3 miM feM ks ik := hm1.put (fun b b1 b2 b3 => upA_n _ _ (by omega)) (upA_s _ _ _) ((upA_n _ _ (by omega)).trans hm1.2.1) ((upA_n _ _ (by omega)).trans hm1.2.2.2.2.1) ((upA_n _ _ (by omega)).trans hm1.2.2.2.2.2.1) ((upA_n _ _ (by omega)).trans hm1.2.2.2.2.2.2.1) ((upA_n _ _ (by omega)).trans hm1.2.2.2.2.2.2.2.1)
  obtain ⟨⟨p1, p2, p3, p4, p5⟩, hSr⟩ := hS.mono
  exact ⟨rfl, rfl, (upA_n _ _ (by omega)).trans (upA_n _ _ (by omega)), 0, o, o2, n, W, B, M, F, D, fe, sh, tc, wy, bu, fi, ld, tx, tn, ch, mi, m0, m1, f0, s0, f1, s1, ke, k0, k1, wt, wo, ro, ir, od, lb, tr, fa, ah, bn, le, du, oa, T, RM, y8, y9, y10, tb, tnM, am1, am2, am3, miM, feM, ks, ik, hc1.fr (fun b hb => upA_n _ _ (by omega)), hm2, ⟨p1, p2, p3, Nat.zero_le _, p5⟩, hSr⟩
set_option maxHeartbeats 1000000 in
theorem op_type {w : Int64} (S : Sim N h) (hd : 13 ≤ d) (hN : N ≤ 64) (rx : InR x) : PairP X d mF_type mM_type [vL w, vI x] N h z := by
  obtain ⟨len, o, o2, n, W, B, M, F, D, fe, sh, tc, wy, bu, fi, ld, tx, tn, ch, mi, m0, m1, f0, s0, f1, s1, ke, k0, k1, wt, wo, ro, ir, od, lb, tr, fa, ah, bn, le, du, oa, T, RM, y8, y9, y10, tb, tnM, am1, am2, am3, miM, feM, ks, ik, hC, hM, hS⟩ := S
  have hS0 := hS
  have hC0 := hC
  have hM0 := hM
  obtain ⟨x0, hH, hPl, hB, hA, g122, g81, g17, hI0, hI1, hX, hoo⟩ := hC0
  obtain ⟨m00, g124, hmm, g141, g142, g143, g144, g145, g146, g147, g148, g149, ⟨z1, g150⟩, ⟨z2, g151⟩, ⟨z3, g152⟩, ⟨z4, g153⟩, ⟨z5, g154⟩⟩ := hM0
  obtain ⟨⟨ht, hch, htx, hlen, hfeB, hsh, hmi, hi0, hi1⟩, ⟨hV, hV2, hW, hbu, hld, hF, e125, e126, e131, e136, e138⟩, ⟨hBX, ⟨bN, hob, hOb⟩, hw0, hwo0⟩, ⟨htb, htn, hsh4, hmie, hfe0, him0, him1⟩, ⟨fa0, ah0, bn0, le0, du0, od0, hDr⟩⟩ := hS0
  have mo := m00.trans (mR_e _ _ _ _ _ _)
  obtain ⟨g125, g126, g127, g128, g129, g130, g131, g132, g133, g134, g135, g136, g137, g138, g139, g140⟩ := mcl_h hmm
  have htM : TnV tnM := tnv_cg ht htn
  obtain ⟨oN, av, hO⟩ := dr_av hV ht hDr
  have hL := dr_lk (fa := am1) (ah := am2) (bn := am3) hV ht hW hF (htn 0 (by omega)) (htn 1 (by omega)) hDr
  rw [← htn 2 (by omega)] at hL
  have hV' := hV
  obtain ⟨⟨v1, v2⟩, v3, v4, v5, v6, v7, v8, v9, v10, v11, v12⟩ := hV'
  have hb := pow_B v4
  have hfe : fe < 1024 := by omega
  have bv := bgv_of hBX
  have hmi6 : ∀ i, i < 3 → 0 ≤ mi i ∧ mi i ≤ 1000000 := fun i hi => by have := hmi i hi; omega
  have hmi2 : ∀ i, i < 3 → miM i = mi i ∧ 0 ≤ mi i ∧ mi i ≤ 200000 := fun i hi => by have := hmi i hi; exact ⟨hmie i hi, by omega⟩
  have hmi9 : ∀ i, i < 3 → miM i = mi i ∧ 0 ≤ mi i ∧ mi i ≤ 900000 := fun i hi => by have := hmi i hi; exact ⟨hmie i hi, by omega⟩
  have hmM : ∀ i, i < 3 → 0 ≤ miM i ∧ miM i ≤ 200000 := fun i hi => by have := hmi2 i hi; omega
  have hmM6 : ∀ i, i < 3 → 0 ≤ miM i ∧ miM i ≤ 1000000 := fun i hi => by have := hmi2 i hi; omega
  have hf0 : 0 ≤ feM 0 := by omega
  have hf1 : feM 0 < 1024 := by omega
  obtain ⟨hfa, hah, hbn, hle, hdu, hoa⟩ := av
  by_cases hx : 1 ≤ x ∧ x ≤ 8
  · by_cases hx2 : 400 < len + x
    · exact pair_ro hC hM hS (cF_typeF x0 hlen hx hx2) rfl (cM_typeF (by omega) mo rfl hlen hx hx2) (fun h' e => ro_h hM e)
    · obtain ⟨c, rfl⟩ := Int.eq_ofNat_of_zero_le (show (0 : Int) ≤ x by omega)
      refine pair_mk (cF_typeI (v := w) (c := c) x0 g17 (by omega) (by omega) (by omega)) rfl ?_
      rintro h1 rfl
      refine ⟨(upA_n _ _ (by omega)).trans (upA_n _ _ (by omega)), (upA_n _ _ (by omega)).trans (upA_n _ _ (by omega)), ?_⟩
      refine call_mono (cM_typeI (v := w) (c := c) (len := len) (tx := tb) (by omega) ((upA_n _ _ (by omega)).trans ((upA_n _ _ (by omega)).trans mo)) rfl ((upA_n _ _ (by omega)).trans ((upA_n _ _ (by omega)).trans g124)) (by omega) (by omega) (by omega)) ?_
      rintro _ h2 _ ⟨rfl, rfl, h2e⟩
      have hc1 : CS (upA (upA h 17 (cI 400 (tyF w len c tx c))) 16 (xO (len + c) o o2 tc)) (len + c) o o2 n W B M F D fe sh tc wy bu fi ld (tyF w len c tx c) tn ch mi m0 m1 f0 s0 f1 s1 ke k0 k1 wt wo ro ir od lb tr fa ah bn le du oa := hC.put (fun b b1 b2 b3 b4 => (upA_n _ _ b2).trans (upA_n _ _ b3)) (upA_s _ _ _) ((upA_n _ _ (by omega)).trans (upA_s _ _ _)) ((upA_n _ _ (by omega)).trans ((upA_n _ _ (by omega)).trans g122))
      have hm1 : MS2 (upA (upA h 17 (cI 400 (tyF w len c tx c))) 16 (xO (len + c) o o2 tc)) len tc ch T RM y8 y9 y10 tb tnM am1 am2 am3 miM feM ks ik := hM.fr (fun b b1 b2 => (upA_n _ _ (by omega)).trans (upA_n _ _ (by omega)))
      have z1 : upA (upA h 17 (cI 400 (tyF w len c tx c))) 16 (xO (len + c) o o2 tc) 0 = h 0 := (upA_n _ _ (by omega)).trans (upA_n _ _ (by omega))
      generalize upA (upA h 17 (cI 400 (tyF w len c tx c))) 16 (xO (len + c) o o2 tc) = g at hc1 hm1 h2e z1
      subst h2e
      have hm2 : MS2 (upA (upA g 124 (cB 400 (tyN w len c tb c))) 123 (mR tc (len + c) RM y8 y9 y10)) (len + c) tc ch T RM y8 y9 y10 (tyN w len c tb c) tnM am1 am2 am3 miM feM ks ik := hm1.put (fun b b1 b2 b3 => (upA_n _ _ (by omega)).trans (upA_n _ _ (by omega))) (upA_s _ _ _) ((upA_n _ _ (by omega)).trans (upA_s _ _ _)) ((upA_n _ _ (by omega)).trans ((upA_n _ _ (by omega)).trans hm1.2.2.2.2.1)) ((upA_n _ _ (by omega)).trans ((upA_n _ _ (by omega)).trans hm1.2.2.2.2.2.1)) ((upA_n _ _ (by omega)).trans ((upA_n _ _ (by omega)).trans hm1.2.2.2.2.2.2.1)) ((upA_n _ _ (by omega)).trans ((upA_n _ _ (by omega)).trans hm1.2.2.2.2.2.2.2.1))
      obtain ⟨⟨p1, p2, p3, p4, p5⟩, hS1, hS2, ⟨s1', s2'⟩, hS4⟩ := hS.mono
      have htb2 := tb_type (v := w) (len := len) (c := c) (by omega) s1' c (Nat.le_refl _)
      exact ⟨rfl, rfl, (upA_n _ _ (by omega)).trans ((upA_n _ _ (by omega)).trans z1), len + c, o, o2, n, W, B, M, F, D, fe, sh, tc, wy, bu, fi, ld, tyF w len c tx c, tn, ch, mi, m0, m1, f0, s0, f1, s1, ke, k0, k1, wt, wo, ro, ir, od, lb, tr, fa, ah, bn, le, du, oa, T, RM, y8, y9, y10, tyN w len c tb c, tnM, am1, am2, am3, miM, feM, ks, ik, hc1.fr (fun b hb => (upA_n _ _ (by omega)).trans (upA_n _ _ (by omega))), hm2, ⟨p1, p2, fun i hi => (htb2 i hi).2, by omega, p5⟩, hS1, hS2, ⟨htb2, s2'⟩, hS4⟩
  · exact pair_ro hC hM hS (cF_typeN x0 hlen rx hx) rfl (cM_typeN (by omega) mo rx hx) (fun h' e => ro_h hM e)
end SU
