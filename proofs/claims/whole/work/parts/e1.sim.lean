/-! e1: calls that only read -/
theorem mcl_h {h : AH} {T : MT} (hm : ∀ a, 125 ≤ a → a ≤ 140 → h a = some (mcl T a)) : h 125 = some (cI 2 (T.1 0)) ∧ h 126 = some (cI 2 (T.1 1)) ∧ h 127 = some (cI 24 (T.2.1 0)) ∧ h 128 = some (cI 24 (T.2.1 1)) ∧ h 129 = some (cI 24 (T.2.1 2)) ∧ h 130 = some (cI 24 (T.2.1 3)) ∧ h 131 = some (cI 2 (T.1 2)) ∧ h 132 = some (cI 20 (T.2.2.1 0)) ∧ h 133 = some (cI 20 (T.2.2.1 1)) ∧ h 134 = some (cI 20 (T.2.2.1 2)) ∧ h 135 = some (cI 20 (T.2.2.1 3)) ∧ h 136 = some (cI 2 (T.1 3)) ∧ h 137 = some (cI 6 T.2.2.2.1) ∧ h 138 = some (cI 2 (T.1 4)) ∧ h 139 = some (cI 8 (T.2.2.2.2 0)) ∧ h 140 = some (cI 8 (T.2.2.2.2 1)) := ⟨hm 125 (by omega) (by omega), hm 126 (by omega) (by omega), hm 127 (by omega) (by omega), hm 128 (by omega) (by omega), hm 129 (by omega) (by omega), hm 130 (by omega) (by omega), hm 131 (by omega) (by omega), hm 132 (by omega) (by omega), hm 133 (by omega) (by omega), hm 134 (by omega) (by omega), hm 135 (by omega) (by omega), hm 136 (by omega) (by omega), hm 137 (by omega) (by omega), hm 138 (by omega) (by omega), hm 139 (by omega) (by omega), hm 140 (by omega) (by omega)⟩
theorem tnv_cg {tn tnM : Nat → Int} (ht : TnV tn) (h : ∀ k, k < 4 → tnM k = tn k) : TnV tnM := by
  unfold TnV
  rw [h 0 (by omega), h 1 (by omega), h 2 (by omega), h 3 (by omega)]
  exact ht
theorem pow_B {B : Nat} (hB : B ≤ 10) : 2 ^ B ≤ 1024 := Nat.pow_le_pow_right (n := 2) (i := B) (j := 10) (by decide) hB
section SO
variable {X : Cx} {d N : Nat} {h h' : AH} {z : Nat} {len o o2 n W B M F D fe sh : Nat} {tc : Int64} {wy bu fi : Nat → Nat → Int} {ld tx tn ch mi m0 m1 : Nat → Int} {f0 s0 f1 s1 : Nat} {ke k0 k1 : Int} {wt wo ro : Nat → Int} {ir : Nat → Nat} {od lb : Nat → Int} {tr : Nat → Nat → Int} {fa ah bn le du oa : Nat → Int} {T : MT} {RM : MS} {y8 y9 y10 : Int} {tb tnM am1 am2 am3 miM feM ks ik : Nat → Int} {x y v t : Int}
theorem bgv_of {bT : Nat → Nat → Int} {lT : Nat → Int} (hX : BgX n B M bT lT wt wo ro ir lb tr) : BgV n B ro ir wt wo := by
  obtain ⟨b1, b2, b3, b4, b5, b6, b7, b8, b9, b10, b11⟩ := hX
  exact ⟨fun b hb => by rw [b3 b hb]; exact (b9 b hb).1, b5, b8⟩
theorem op_way (S : Sim N h) (hd : 13 ≤ d) (hN : N ≤ 64) (rx : InR x) (ry : InR y) : PairP X d mF_way mM_way [vI x, vI y] N h z := by
  obtain ⟨len, o, o2, n, W, B, M, F, D, fe, sh, tc, wy, bu, fi, ld, tx, tn, ch, mi, m0, m1, f0, s0, f1, s1, ke, k0, k1, wt, wo, ro, ir, od, lb, tr, fa, ah, bn, le, du, oa, T, RM, y8, y9, y10, tb, tnM, am1, am2, am3, miM, feM, ks, ik, hC, hM, hS⟩ := S
  have hS0 := hS
  have hC0 := hC
  have hM0 := hM
  obtain ⟨x0, hH, hPl, hB, hA, g122, g81, g17, hI0, hI1, hX, hoo⟩ := hC0
  obtain ⟨m00, g124, hmm, g141, g142, g143, g144, g145, g146, g147, g148, g149, ⟨z1, g150⟩, ⟨z2, g151⟩, ⟨z3, g152⟩, ⟨z4, g153⟩, ⟨z5, g154⟩⟩ := hM0
  obtain ⟨⟨ht, hch, htx, hlen, hfeB, hsh, hmi, hi0, hi1⟩, ⟨hV, hV2, hW, hbu, hld, hF, e125, e126, e131, e136, e138⟩, ⟨hBX, ⟨bN, hob, hOb⟩, hw0, hwo0⟩, ⟨htb, htn, hsh4, hmie, hfe0, him0, him1⟩, ⟨fa0, ah0, bn0, le0, du0, od0, hDr⟩⟩ := hS0
  have m0 := m00.trans (mR_e _ _ _ _ _ _)
  obtain ⟨g125, g126, g127, g128, g129, g130, g131, g132, g133, g134, g135, g136, g137, g138, g139, g140⟩ := mcl_h hmm
  have htM : TnV tnM := tnv_cg ht htn
  obtain ⟨oN, av, hO⟩ := dr_av hV ht hDr
  have hL := dr_lk (fa := am1) (ah := am2) (bn := am3) hV ht hW hF (htn 0 (by omega)) (htn 1 (by omega)) hDr
  rw [← htn 2 (by omega)] at hL
  have hV' := hV
  obtain ⟨⟨v1, v2⟩, v3, v4, v5, v6, v7, v8, v9, v10, v11, v12⟩ := hV'
  have hb := pow_B v4
  have hfe : fe < 1024 := by omega
  have bv := bgv_of hBX
  have hmi6 : ∀ i, i < 3 → 0 ≤ mi i ∧ mi i ≤ 1000000 := fun i hi => by have := hmi i hi; omega
  have hmi2 : ∀ i, i < 3 → miM i = mi i ∧ 0 ≤ mi i ∧ mi i ≤ 200000 := fun i hi => by have := hmi i hi; exact ⟨hmie i hi, by omega⟩
  have hmi9 : ∀ i, i < 3 → miM i = mi i ∧ 0 ≤ mi i ∧ mi i ≤ 900000 := fun i hi => by have := hmi i hi; exact ⟨hmie i hi, by omega⟩
  have hmM : ∀ i, i < 3 → 0 ≤ miM i ∧ miM i ≤ 200000 := fun i hi => by have := hmi2 i hi; omega
  have hmM6 : ∀ i, i < 3 → 0 ≤ miM i ∧ miM i ≤ 1000000 := fun i hi => by have := hmi2 i hi; omega
  have hf0 : 0 ≤ feM 0 := by omega
  have hf1 : feM 0 < 1024 := by omega
  obtain ⟨hfa, hah, hbn, hle, hdu, hoa⟩ := av
  exact pair_ro hC hM hS (cF_way (by omega) x0 hH hV hPl hsh rx ry) (way_same hW) (cM_way (by omega) m0 g126 e126 g127 g128 g129 g130 g141 hsh4 hsh hV2 rx ry) (fun h' e => ro_h hM e)
theorem op_bundle (S : Sim N h) (hd : 13 ≤ d) (hN : N ≤ 64) (rx : InR x) (ry : InR y) : PairP X d mF_bundle mM_bundle [vI x, vI y] N h z := by
  obtain ⟨len, o, o2, n, W, B, M, F, D, fe, sh, tc, wy, bu, fi, ld, tx, tn, ch, mi, m0, m1, f0, s0, f1, s1, ke, k0, k1, wt, wo, ro, ir, od, lb, tr, fa, ah, bn, le, du, oa, T, RM, y8, y9, y10, tb, tnM, am1, am2, am3, miM, feM, ks, ik, hC, hM, hS⟩ := S
  have hS0 := hS
  have hC0 := hC
  have hM0 := hM
  obtain ⟨x0, hH, hPl, hB, hA, g122, g81, g17, hI0, hI1, hX, hoo⟩ := hC0
  obtain ⟨m00, g124, hmm, g141, g142, g143, g144, g145, g146, g147, g148, g149, ⟨z1, g150⟩, ⟨z2, g151⟩, ⟨z3, g152⟩, ⟨z4, g153⟩, ⟨z5, g154⟩⟩ := hM0
  obtain ⟨⟨ht, hch, htx, hlen, hfeB, hsh, hmi, hi0, hi1⟩, ⟨hV, hV2, hW, hbu, hld, hF, e125, e126, e131, e136, e138⟩, ⟨hBX, ⟨bN, hob, hOb⟩, hw0, hwo0⟩, ⟨htb, htn, hsh4, hmie, hfe0, him0, him1⟩, ⟨fa0, ah0, bn0, le0, du0, od0, hDr⟩⟩ := hS0
  have m0 := m00.trans (mR_e _ _ _ _ _ _)
  obtain ⟨g125, g126, g127, g128, g129, g130, g131, g132, g133, g134, g135, g136, g137, g138, g139, g140⟩ := mcl_h hmm
  have htM : TnV tnM := tnv_cg ht htn
  obtain ⟨oN, av, hO⟩ := dr_av hV ht hDr
  have hL := dr_lk (fa := am1) (ah := am2) (bn := am3) hV ht hW hF (htn 0 (by omega)) (htn 1 (by omega)) hDr
  rw [← htn 2 (by omega)] at hL
  have hV' := hV
  obtain ⟨⟨v1, v2⟩, v3, v4, v5, v6, v7, v8, v9, v10, v11, v12⟩ := hV'
  have hb := pow_B v4
  have hfe : fe < 1024 := by omega
  have bv := bgv_of hBX
  have hmi6 : ∀ i, i < 3 → 0 ≤ mi i ∧ mi i ≤ 1000000 := fun i hi => by have := hmi i hi; omega
  have hmi2 : ∀ i, i < 3 → miM i = mi i ∧ 0 ≤ mi i ∧ mi i ≤ 200000 := fun i hi => by have := hmi i hi; exact ⟨hmie i hi, by omega⟩
  have hmi9 : ∀ i, i < 3 → miM i = mi i ∧ 0 ≤ mi i ∧ mi i ≤ 900000 := fun i hi => by have := hmi i hi; exact ⟨hmie i hi, by omega⟩
  have hmM : ∀ i, i < 3 → 0 ≤ miM i ∧ miM i ≤ 200000 := fun i hi => by have := hmi2 i hi; omega
  have hmM6 : ∀ i, i < 3 → 0 ≤ miM i ∧ miM i ≤ 1000000 := fun i hi => by have := hmi2 i hi; omega
  have hf0 : 0 ≤ feM 0 := by omega
  have hf1 : feM 0 < 1024 := by omega
  obtain ⟨hfa, hah, hbn, hle, hdu, hoa⟩ := av
  exact pair_ro hC hM hS (cF_bundle (by omega) x0 hH hV hPl hfe rx ry) (bun_same hbu) (cM_bundle (by omega) m0 g131 e131 g132 g133 g134 g135 g147 hfe0 hfe hV2 rx ry) (fun h' e => ro_h hM e)
theorem op_room (S : Sim N h) (hd : 13 ≤ d) (hN : N ≤ 64) (rx : InR x) (ry : InR y) : PairP X d mF_room mM_room [vI x, vI y] N h z := by
  obtain ⟨len, o, o2, n, W, B, M, F, D, fe, sh, tc, wy, bu, fi, ld, tx, tn, ch, mi, m0, m1, f0, s0, f1, s1, ke, k0, k1, wt, wo, ro, ir, od, lb, tr, fa, ah, bn, le, du, oa, T, RM, y8, y9, y10, tb, tnM, am1, am2, am3, miM, feM, ks, ik, hC, hM, hS⟩ := S
  have hS0 := hS
  have hC0 := hC
  have hM0 := hM
  obtain ⟨x0, hH, hPl, hB, hA, g122, g81, g17, hI0, hI1, hX, hoo⟩ := hC0
  obtain ⟨m00, g124, hmm, g141, g142, g143, g144, g145, g146, g147, g148, g149, ⟨z1, g150⟩, ⟨z2, g151⟩, ⟨z3, g152⟩, ⟨z4, g153⟩, ⟨z5, g154⟩⟩ := hM0
  obtain ⟨⟨ht, hch, htx, hlen, hfeB, hsh, hmi, hi0, hi1⟩, ⟨hV, hV2, hW, hbu, hld, hF, e125, e126, e131, e136, e138⟩, ⟨hBX, ⟨bN, hob, hOb⟩, hw0, hwo0⟩, ⟨htb, htn, hsh4, hmie, hfe0, him0, him1⟩, ⟨fa0, ah0, bn0, le0, du0, od0, hDr⟩⟩ := hS0
  have m0 := m00.trans (mR_e _ _ _ _ _ _)
  obtain ⟨g125, g126, g127, g128, g129, g130, g131, g132, g133, g134, g135, g136, g137, g138, g139, g140⟩ := mcl_h hmm
  have htM : TnV tnM := tnv_cg ht htn
  obtain ⟨oN, av, hO⟩ := dr_av hV ht hDr
  have hL := dr_lk (fa := am1) (ah := am2) (bn := am3) hV ht hW hF (htn 0 (by omega)) (htn 1 (by omega)) hDr
  rw [← htn 2 (by omega)] at hL
  have hV' := hV
  obtain ⟨⟨v1, v2⟩, v3, v4, v5, v6, v7, v8, v9, v10, v11, v12⟩ := hV'
  have hb := pow_B v4
  have hfe : fe < 1024 := by omega
  have bv := bgv_of hBX
  have hmi6 : ∀ i, i < 3 → 0 ≤ mi i ∧ mi i ≤ 1000000 := fun i hi => by have := hmi i hi; omega
  have hmi2 : ∀ i, i < 3 → miM i = mi i ∧ 0 ≤ mi i ∧ mi i ≤ 200000 := fun i hi => by have := hmi i hi; exact ⟨hmie i hi, by omega⟩
  have hmi9 : ∀ i, i < 3 → miM i = mi i ∧ 0 ≤ mi i ∧ mi i ≤ 900000 := fun i hi => by have := hmi i hi; exact ⟨hmie i hi, by omega⟩
  have hmM : ∀ i, i < 3 → 0 ≤ miM i ∧ miM i ≤ 200000 := fun i hi => by have := hmi2 i hi; omega
  have hmM6 : ∀ i, i < 3 → 0 ≤ miM i ∧ miM i ≤ 1000000 := fun i hi => by have := hmi2 i hi; omega
  have hf0 : 0 ≤ feM 0 := by omega
  have hf1 : feM 0 < 1024 := by omega
  obtain ⟨hfa, hah, hbn, hle, hdu, hoa⟩ := av
  exact pair_ro hC hM hS (cF_room (by omega) x0 hH v2 hA rx ry hfa hah hbn hle) (room_same hL) (cM_room (by omega) m0 g125 e125 g126 e126 g127 g128 g129 g138 e138 g139 g140 g141 hsh4 hsh g143 g144 g145 hV2 htM rx ry) (fun h' e => ro_lk hM e)
theorem op_man (S : Sim N h) (hd : 13 ≤ d) (hN : N ≤ 64) (rx : InR x) (ry : InR y) : PairP X d mF_man mM_man [vI x, vI y] N h z := by
  obtain ⟨len, o, o2, n, W, B, M, F, D, fe, sh, tc, wy, bu, fi, ld, tx, tn, ch, mi, m0, m1, f0, s0, f1, s1, ke, k0, k1, wt, wo, ro, ir, od, lb, tr, fa, ah, bn, le, du, oa, T, RM, y8, y9, y10, tb, tnM, am1, am2, am3, miM, feM, ks, ik, hC, hM, hS⟩ := S
  have hS0 := hS
  have hC0 := hC
  have hM0 := hM
  obtain ⟨x0, hH, hPl, hB, hA, g122, g81, g17, hI0, hI1, hX, hoo⟩ := hC0
  obtain ⟨m00, g124, hmm, g141, g142, g143, g144, g145, g146, g147, g148, g149, ⟨z1, g150⟩, ⟨z2, g151⟩, ⟨z3, g152⟩, ⟨z4, g153⟩, ⟨z5, g154⟩⟩ := hM0
  obtain ⟨⟨ht, hch, htx, hlen, hfeB, hsh, hmi, hi0, hi1⟩, ⟨hV, hV2, hW, hbu, hld, hF, e125, e126, e131, e136, e138⟩, ⟨hBX, ⟨bN, hob, hOb⟩, hw0, hwo0⟩, ⟨htb, htn, hsh4, hmie, hfe0, him0, him1⟩, ⟨fa0, ah0, bn0, le0, du0, od0, hDr⟩⟩ := hS0
  have m0 := m00.trans (mR_e _ _ _ _ _ _)
  obtain ⟨g125, g126, g127, g128, g129, g130, g131, g132, g133, g134, g135, g136, g137, g138, g139, g140⟩ := mcl_h hmm
  have htM : TnV tnM := tnv_cg ht htn
  obtain ⟨oN, av, hO⟩ := dr_av hV ht hDr
  have hL := dr_lk (fa := am1) (ah := am2) (bn := am3) hV ht hW hF (htn 0 (by omega)) (htn 1 (by omega)) hDr
  rw [← htn 2 (by omega)] at hL
  have hV' := hV
  obtain ⟨⟨v1, v2⟩, v3, v4, v5, v6, v7, v8, v9, v10, v11, v12⟩ := hV'
  have hb := pow_B v4
  have hfe : fe < 1024 := by omega
  have bv := bgv_of hBX
  have hmi6 : ∀ i, i < 3 → 0 ≤ mi i ∧ mi i ≤ 1000000 := fun i hi => by have := hmi i hi; omega
  have hmi2 : ∀ i, i < 3 → miM i = mi i ∧ 0 ≤ mi i ∧ mi i ≤ 200000 := fun i hi => by have := hmi i hi; exact ⟨hmie i hi, by omega⟩
  have hmi9 : ∀ i, i < 3 → miM i = mi i ∧ 0 ≤ mi i ∧ mi i ≤ 900000 := fun i hi => by have := hmi i hi; exact ⟨hmie i hi, by omega⟩
  have hmM : ∀ i, i < 3 → 0 ≤ miM i ∧ miM i ≤ 200000 := fun i hi => by have := hmi2 i hi; omega
  have hmM6 : ∀ i, i < 3 → 0 ≤ miM i ∧ miM i ≤ 1000000 := fun i hi => by have := hmi2 i hi; omega
  have hf0 : 0 ≤ feM 0 := by omega
  have hf1 : feM 0 < 1024 := by omega
  obtain ⟨hfa, hah, hbn, hle, hdu, hoa⟩ := av
  exact pair_ro hC hM hS (cF_man (by omega) x0 hH hV hPl rx ry hmi6) (man_same hld v5 hmie) (cM_man (by omega) m0 g136 e136 g137 g146 v5 rx ry (fun m hm => by rw [hld m hm]; exact v11 m hm) hmM6) (fun h' e => ro_h hM e)
theorem op_why (S : Sim N h) (hd : 13 ≤ d) (hN : N ≤ 64) (rx : InR x) (ry : InR y) : PairP X d mF_why mM_why [vI x, vI y] N h z := by
  obtain ⟨len, o, o2, n, W, B, M, F, D, fe, sh, tc, wy, bu, fi, ld, tx, tn, ch, mi, m0, m1, f0, s0, f1, s1, ke, k0, k1, wt, wo, ro, ir, od, lb, tr, fa, ah, bn, le, du, oa, T, RM, y8, y9, y10, tb, tnM, am1, am2, am3, miM, feM, ks, ik, hC, hM, hS⟩ := S
  have hS0 := hS
  have hC0 := hC
  have hM0 := hM
  obtain ⟨x0, hH, hPl, hB, hA, g122, g81, g17, hI0, hI1, hX, hoo⟩ := hC0
  obtain ⟨m00, g124, hmm, g141, g142, g143, g144, g145, g146, g147, g148, g149, ⟨z1, g150⟩, ⟨z2, g151⟩, ⟨z3, g152⟩, ⟨z4, g153⟩, ⟨z5, g154⟩⟩ := hM0
  obtain ⟨⟨ht, hch, htx, hlen, hfeB, hsh, hmi, hi0, hi1⟩, ⟨hV, hV2, hW, hbu, hld, hF, e125, e126, e131, e136, e138⟩, ⟨hBX, ⟨bN, hob, hOb⟩, hw0, hwo0⟩, ⟨htb, htn, hsh4, hmie, hfe0, him0, him1⟩, ⟨fa0, ah0, bn0, le0, du0, od0, hDr⟩⟩ := hS0
  have m0 := m00.trans (mR_e _ _ _ _ _ _)
  obtain ⟨g125, g126, g127, g128, g129, g130, g131, g132, g133, g134, g135, g136, g137, g138, g139, g140⟩ := mcl_h hmm
  have htM : TnV tnM := tnv_cg ht htn
  obtain ⟨oN, av, hO⟩ := dr_av hV ht hDr
  have hL := dr_lk (fa := am1) (ah := am2) (bn := am3) hV ht hW hF (htn 0 (by omega)) (htn 1 (by omega)) hDr
  rw [← htn 2 (by omega)] at hL
  have hV' := hV
  obtain ⟨⟨v1, v2⟩, v3, v4, v5, v6, v7, v8, v9, v10, v11, v12⟩ := hV'
  have hb := pow_B v4
  have hfe : fe < 1024 := by omega
  have bv := bgv_of hBX
  have hmi6 : ∀ i, i < 3 → 0 ≤ mi i ∧ mi i ≤ 1000000 := fun i hi => by have := hmi i hi; omega
  have hmi2 : ∀ i, i < 3 → miM i = mi i ∧ 0 ≤ mi i ∧ mi i ≤ 200000 := fun i hi => by have := hmi i hi; exact ⟨hmie i hi, by omega⟩
  have hmi9 : ∀ i, i < 3 → miM i = mi i ∧ 0 ≤ mi i ∧ mi i ≤ 900000 := fun i hi => by have := hmi i hi; exact ⟨hmie i hi, by omega⟩
  have hmM : ∀ i, i < 3 → 0 ≤ miM i ∧ miM i ≤ 200000 := fun i hi => by have := hmi2 i hi; omega
  have hmM6 : ∀ i, i < 3 → 0 ≤ miM i ∧ miM i ≤ 1000000 := fun i hi => by have := hmi2 i hi; omega
  have hf0 : 0 ≤ feM 0 := by omega
  have hf1 : feM 0 < 1024 := by omega
  obtain ⟨hfa, hah, hbn, hle, hdu, hoa⟩ := av
  refine pair_ro hC hM hS (cF_why (by omega) x0 hH hPl hB hA hV bv hfe hfa hdu hmi6 rx ry) (why_same hBX hL hld hfe0 hfe hmi9) (cM_why (by omega) m0 g126 e126 g127 g128 g129 g138 e138 g139 g140 g141 hsh4 hsh g143 g144 g145 g131 e131 g132 g133 g136 e136 g137 g146 g147 hV2 htM hmM6 hf0 hf1 rx ry) (fun h' e => ?_)
  refine ro_lk (W := W) (F := F) (sh := sh) (wT := T.2.1) (fT := T.2.2.2.2) hM ?_
  by_cases c : (0 ≤ x ∧ x < M) ∧ 1 ≤ y ∧ y < (2 ^ B : Nat)
  · exact Or.inr (e.1 c)
  · exact Or.inl (e.2 c)
theorem op_saved (S : Sim N h) (hd : 13 ≤ d) (hN : N ≤ 64) (rx : InR x) : PairP X d mF_saved mM_saved [vI x] N h z := by
  obtain ⟨len, o, o2, n, W, B, M, F, D, fe, sh, tc, wy, bu, fi, ld, tx, tn, ch, mi, m0, m1, f0, s0, f1, s1, ke, k0, k1, wt, wo, ro, ir, od, lb, tr, fa, ah, bn, le, du, oa, T, RM, y8, y9, y10, tb, tnM, am1, am2, am3, miM, feM, ks, ik, hC, hM, hS⟩ := S
  have hS0 := hS
  have hC0 := hC
  have hM0 := hM
  obtain ⟨x0, hH, hPl, hB, hA, g122, g81, g17, hI0, hI1, hX, hoo⟩ := hC0
  obtain ⟨m00, g124, hmm, g141, g142, g143, g144, g145, g146, g147, g148, g149, ⟨z1, g150⟩, ⟨z2, g151⟩, ⟨z3, g152⟩, ⟨z4, g153⟩, ⟨z5, g154⟩⟩ := hM0
  obtain ⟨⟨ht, hch, htx, hlen, hfeB, hsh, hmi, hi0, hi1⟩, ⟨hV, hV2, hW, hbu, hld, hF, e125, e126, e131, e136, e138⟩, ⟨hBX, ⟨bN, hob, hOb⟩, hw0, hwo0⟩, ⟨htb, htn, hsh4, hmie, hfe0, him0, him1⟩, ⟨fa0, ah0, bn0, le0, du0, od0, hDr⟩⟩ := hS0
  have m0 := m00.trans (mR_e _ _ _ _ _ _)
  obtain ⟨g125, g126, g127, g128, g129, g130, g131, g132, g133, g134, g135, g136, g137, g138, g139, g140⟩ := mcl_h hmm
  have htM : TnV tnM := tnv_cg ht htn
  obtain ⟨oN, av, hO⟩ := dr_av hV ht hDr
  have hL := dr_lk (fa := am1) (ah := am2) (bn := am3) hV ht hW hF (htn 0 (by omega)) (htn 1 (by omega)) hDr
  rw [← htn 2 (by omega)] at hL
  have hV' := hV
  obtain ⟨⟨v1, v2⟩, v3, v4, v5, v6, v7, v8, v9, v10, v11, v12⟩ := hV'
  have hb := pow_B v4
  have hfe : fe < 1024 := by omega
  have bv := bgv_of hBX
  have hmi6 : ∀ i, i < 3 → 0 ≤ mi i ∧ mi i ≤ 1000000 := fun i hi => by have := hmi i hi; omega
  have hmi2 : ∀ i, i < 3 → miM i = mi i ∧ 0 ≤ mi i ∧ mi i ≤ 200000 := fun i hi => by have := hmi i hi; exact ⟨hmie i hi, by omega⟩
  have hmi9 : ∀ i, i < 3 → miM i = mi i ∧ 0 ≤ mi i ∧ mi i ≤ 900000 := fun i hi => by have := hmi i hi; exact ⟨hmie i hi, by omega⟩
  have hmM : ∀ i, i < 3 → 0 ≤ miM i ∧ miM i ≤ 200000 := fun i hi => by have := hmi2 i hi; omega
  have hmM6 : ∀ i, i < 3 → 0 ≤ miM i ∧ miM i ≤ 1000000 := fun i hi => by have := hmi2 i hi; omega
  have hf0 : 0 ≤ feM 0 := by omega
  have hf1 : feM 0 < 1024 := by omega
  obtain ⟨hfa, hah, hbn, hle, hdu, hoa⟩ := av
  exact pair_ro hC hM hS (cF_saved (by omega) x0 hPl hB rx hfe (fun p hp => (bv.2.2 p hp).2) hmi6) (sav_same hBX hfeB (fun i hi => by have := hmi9 i hi; omega) (fun i h1 h2 => (hmi i h2).2 h1)) (cM_saved (by omega) m0 g131 e131 g134 g136 e136 g146 g147 hfe0 hfe v4 v5 (fun b hb => by have := hbu b hb 2 (by omega); have := v10 b hb; omega) hmM6 rx) (fun h' e => ro_h hM e)
theorem op_sure (S : Sim N h) (hd : 13 ≤ d) (hN : N ≤ 64) (rx : InR x) (ry : InR y) (rt : InR t) : PairP X d mF_sure mM_sure [vI x, vI y, vI t] N h z := by
  obtain ⟨len, o, o2, n, W, B, M, F, D, fe, sh, tc, wy, bu, fi, ld, tx, tn, ch, mi, m0, m1, f0, s0, f1, s1, ke, k0, k1, wt, wo, ro, ir, od, lb, tr, fa, ah, bn, le, du, oa, T, RM, y8, y9, y10, tb, tnM, am1, am2, am3, miM, feM, ks, ik, hC, hM, hS⟩ := S
  have hS0 := hS
  have hC0 := hC
  have hM0 := hM
  obtain ⟨x0, hH, hPl, hB, hA, g122, g81, g17, hI0, hI1, hX, hoo⟩ := hC0
  obtain ⟨m00, g124, hmm, g141, g142, g143, g144, g145, g146, g147, g148, g149, ⟨z1, g150⟩, ⟨z2, g151⟩, ⟨z3, g152⟩, ⟨z4, g153⟩, ⟨z5, g154⟩⟩ := hM0
  obtain ⟨⟨ht, hch, htx, hlen, hfeB, hsh, hmi, hi0, hi1⟩, ⟨hV, hV2, hW, hbu, hld, hF, e125, e126, e131, e136, e138⟩, ⟨hBX, ⟨bN, hob, hOb⟩, hw0, hwo0⟩, ⟨htb, htn, hsh4, hmie, hfe0, him0, him1⟩, ⟨fa0, ah0, bn0, le0, du0, od0, hDr⟩⟩ := hS0
  have m0 := m00.trans (mR_e _ _ _ _ _ _)
  obtain ⟨g125, g126, g127, g128, g129, g130, g131, g132, g133, g134, g135, g136, g137, g138, g139, g140⟩ := mcl_h hmm
  have htM : TnV tnM := tnv_cg ht htn
  obtain ⟨oN, av, hO⟩ := dr_av hV ht hDr
  have hL := dr_lk (fa := am1) (ah := am2) (bn := am3) hV ht hW hF (htn 0 (by omega)) (htn 1 (by omega)) hDr
  rw [← htn 2 (by omega)] at hL
  have hV' := hV
  obtain ⟨⟨v1, v2⟩, v3, v4, v5, v6, v7, v8, v9, v10, v11, v12⟩ := hV'
  have hb := pow_B v4
  have hfe : fe < 1024 := by omega
  have bv := bgv_of hBX
  have hmi6 : ∀ i, i < 3 → 0 ≤ mi i ∧ mi i ≤ 1000000 := fun i hi => by have := hmi i hi; omega
  have hmi2 : ∀ i, i < 3 → miM i = mi i ∧ 0 ≤ mi i ∧ mi i ≤ 200000 := fun i hi => by have := hmi i hi; exact ⟨hmie i hi, by omega⟩
  have hmi9 : ∀ i, i < 3 → miM i = mi i ∧ 0 ≤ mi i ∧ mi i ≤ 900000 := fun i hi => by have := hmi i hi; exact ⟨hmie i hi, by omega⟩
  have hmM : ∀ i, i < 3 → 0 ≤ miM i ∧ miM i ≤ 200000 := fun i hi => by have := hmi2 i hi; omega
  have hmM6 : ∀ i, i < 3 → 0 ≤ miM i ∧ miM i ≤ 1000000 := fun i hi => by have := hmi2 i hi; omega
  have hf0 : 0 ≤ feM 0 := by omega
  have hf1 : feM 0 < 1024 := by omega
  obtain ⟨hfa, hah, hbn, hle, hdu, hoa⟩ := av
  exact pair_ro hC hM hS (cF_sure (by omega) x0 hH hPl hB hA g122 hV bv hch hfe hfa hdu rx ry rt) (sure_same hBX hL hld hfe0 hfe) (cM_sure (by omega) m0 g126 e126 g127 g128 g129 g138 e138 g139 g140 g141 hsh4 hsh g143 g144 g145 hV2 htM g131 e131 g132 g133 g136 e136 g137 g142 g147 hch hf0 hf1 rx ry rt) (fun h' e => ro_lk hM e)
theorem op_last (S : Sim N h) (hd : 13 ≤ d) (hN : N ≤ 64) (rx : InR x) (ry : InR y) (rv : InR v) : PairP X d mF_last mM_last [vI x, vI y, vI v] N h z := by
  obtain ⟨len, o, o2, n, W, B, M, F, D, fe, sh, tc, wy, bu, fi, ld, tx, tn, ch, mi, m0, m1, f0, s0, f1, s1, ke, k0, k1, wt, wo, ro, ir, od, lb, tr, fa, ah, bn, le, du, oa, T, RM, y8, y9, y10, tb, tnM, am1, am2, am3, miM, feM, ks, ik, hC, hM, hS⟩ := S
  have hS0 := hS
  have hC0 := hC
  have hM0 := hM
  obtain ⟨x0, hH, hPl, hB, hA, g122, g81, g17, hI0, hI1, hX, hoo⟩ := hC0
  obtain ⟨m00, g124, hmm, g141, g142, g143, g144, g145, g146, g147, g148, g149, ⟨z1, g150⟩, ⟨z2, g151⟩, ⟨z3, g152⟩, ⟨z4, g153⟩, ⟨z5, g154⟩⟩ := hM0
  obtain ⟨⟨ht, hch, htx, hlen, hfeB, hsh, hmi, hi0, hi1⟩, ⟨hV, hV2, hW, hbu, hld, hF, e125, e126, e131, e136, e138⟩, ⟨hBX, ⟨bN, hob, hOb⟩, hw0, hwo0⟩, ⟨htb, htn, hsh4, hmie, hfe0, him0, him1⟩, ⟨fa0, ah0, bn0, le0, du0, od0, hDr⟩⟩ := hS0
  have m0 := m00.trans (mR_e _ _ _ _ _ _)
  obtain ⟨g125, g126, g127, g128, g129, g130, g131, g132, g133, g134, g135, g136, g137, g138, g139, g140⟩ := mcl_h hmm
  have htM : TnV tnM := tnv_cg ht htn
  obtain ⟨oN, av, hO⟩ := dr_av hV ht hDr
  have hL := dr_lk (fa := am1) (ah := am2) (bn := am3) hV ht hW hF (htn 0 (by omega)) (htn 1 (by omega)) hDr
  rw [← htn 2 (by omega)] at hL
  have hV' := hV
  obtain ⟨⟨v1, v2⟩, v3, v4, v5, v6, v7, v8, v9, v10, v11, v12⟩ := hV'
  have hb := pow_B v4
  have hfe : fe < 1024 := by omega
  have bv := bgv_of hBX
  have hmi6 : ∀ i, i < 3 → 0 ≤ mi i ∧ mi i ≤ 1000000 := fun i hi => by have := hmi i hi; omega
  have hmi2 : ∀ i, i < 3 → miM i = mi i ∧ 0 ≤ mi i ∧ mi i ≤ 200000 := fun i hi => by have := hmi i hi; exact ⟨hmie i hi, by omega⟩
  have hmi9 : ∀ i, i < 3 → miM i = mi i ∧ 0 ≤ mi i ∧ mi i ≤ 900000 := fun i hi => by have := hmi i hi; exact ⟨hmie i hi, by omega⟩
  have hmM : ∀ i, i < 3 → 0 ≤ miM i ∧ miM i ≤ 200000 := fun i hi => by have := hmi2 i hi; omega
  have hmM6 : ∀ i, i < 3 → 0 ≤ miM i ∧ miM i ≤ 1000000 := fun i hi => by have := hmi2 i hi; omega
  have hf0 : 0 ≤ feM 0 := by omega
  have hf1 : feM 0 < 1024 := by omega
  obtain ⟨hfa, hah, hbn, hle, hdu, hoa⟩ := av
  exact pair_ro hC hM hS (cF_last (by omega) x0 hH hPl hB hA g122 hV bv hch hfe hfa hdu rx ry rv) (last_same hBX hL hld hfe0 hfe) (cM_last (by omega) m0 g126 e126 g127 g128 g129 g138 e138 g139 g140 g141 hsh4 hsh g143 g144 g145 hV2 htM g131 e131 g132 g133 g136 e136 g137 g142 g147 hch hf0 hf1 rx ry rv) (fun h' e => ro_lk hM e)
theorem op_lost (S : Sim N h) (hd : 13 ≤ d) (hN : N ≤ 64) (rx : InR x) (ry : InR y) : PairP X d mF_lost mM_lost [vI x, vI y] N h z := by
  obtain ⟨len, o, o2, n, W, B, M, F, D, fe, sh, tc, wy, bu, fi, ld, tx, tn, ch, mi, m0, m1, f0, s0, f1, s1, ke, k0, k1, wt, wo, ro, ir, od, lb, tr, fa, ah, bn, le, du, oa, T, RM, y8, y9, y10, tb, tnM, am1, am2, am3, miM, feM, ks, ik, hC, hM, hS⟩ := S
  have hS0 := hS
  have hC0 := hC
  have hM0 := hM
  obtain ⟨x0, hH, hPl, hB, hA, g122, g81, g17, hI0, hI1, hX, hoo⟩ := hC0
  obtain ⟨m00, g124, hmm, g141, g142, g143, g144, g145, g146, g147, g148, g149, ⟨z1, g150⟩, ⟨z2, g151⟩, ⟨z3, g152⟩, ⟨z4, g153⟩, ⟨z5, g154⟩⟩ := hM0
  obtain ⟨⟨ht, hch, htx, hlen, hfeB, hsh, hmi, hi0, hi1⟩, ⟨hV, hV2, hW, hbu, hld, hF, e125, e126, e131, e136, e138⟩, ⟨hBX, ⟨bN, hob, hOb⟩, hw0, hwo0⟩, ⟨htb, htn, hsh4, hmie, hfe0, him0, him1⟩, ⟨fa0, ah0, bn0, le0, du0, od0, hDr⟩⟩ := hS0
  have m0 := m00.trans (mR_e _ _ _ _ _ _)
  obtain ⟨g125, g126, g127, g128, g129, g130, g131, g132, g133, g134, g135, g136, g137, g138, g139, g140⟩ := mcl_h hmm
  have htM : TnV tnM := tnv_cg ht htn
  obtain ⟨oN, av, hO⟩ := dr_av hV ht hDr
  have hL := dr_lk (fa := am1) (ah := am2) (bn := am3) hV ht hW hF (htn 0 (by omega)) (htn 1 (by omega)) hDr
  rw [← htn 2 (by omega)] at hL
  have hV' := hV
  obtain ⟨⟨v1, v2⟩, v3, v4, v5, v6, v7, v8, v9, v10, v11, v12⟩ := hV'
  have hb := pow_B v4
  have hfe : fe < 1024 := by omega
  have bv := bgv_of hBX
  have hmi6 : ∀ i, i < 3 → 0 ≤ mi i ∧ mi i ≤ 1000000 := fun i hi => by have := hmi i hi; omega
  have hmi2 : ∀ i, i < 3 → miM i = mi i ∧ 0 ≤ mi i ∧ mi i ≤ 200000 := fun i hi => by have := hmi i hi; exact ⟨hmie i hi, by omega⟩
  have hmi9 : ∀ i, i < 3 → miM i = mi i ∧ 0 ≤ mi i ∧ mi i ≤ 900000 := fun i hi => by have := hmi i hi; exact ⟨hmie i hi, by omega⟩
  have hmM : ∀ i, i < 3 → 0 ≤ miM i ∧ miM i ≤ 200000 := fun i hi => by have := hmi2 i hi; omega
  have hmM6 : ∀ i, i < 3 → 0 ≤ miM i ∧ miM i ≤ 1000000 := fun i hi => by have := hmi2 i hi; omega
  have hf0 : 0 ≤ feM 0 := by omega
  have hf1 : feM 0 < 1024 := by omega
  obtain ⟨hfa, hah, hbn, hle, hdu, hoa⟩ := av
  exact pair_ro hC hM hS (cF_lost (by omega) x0 hH hPl hA hV hfe hbn rx ry) (lost_same hL hbu (fun b hb => (hBX.2.2.2.2.2.2.2.2.1 b hb).1)) (cM_lost (by omega) m0 g126 e126 g127 g128 g129 g138 e138 g139 g140 g141 hsh4 hsh g143 g144 g145 hV2 htM g131 e131 g132 g134 g135 g147 hfe0 hfe rx ry) (fun h' e => ro_lk hM e)
theorem op_loads (S : Sim N h) (hd : 13 ≤ d) (hN : N ≤ 64) (rx : InR x) (ry : InR y) (rt : InR t) (rv : InR v) : PairP X d mF_loads mM_loads [vI x, vI y, vI t, vI v] N h z := by
  obtain ⟨len, o, o2, n, W, B, M, F, D, fe, sh, tc, wy, bu, fi, ld, tx, tn, ch, mi, m0, m1, f0, s0, f1, s1, ke, k0, k1, wt, wo, ro, ir, od, lb, tr, fa, ah, bn, le, du, oa, T, RM, y8, y9, y10, tb, tnM, am1, am2, am3, miM, feM, ks, ik, hC, hM, hS⟩ := S
  have hS0 := hS
  have hC0 := hC
  have hM0 := hM
  obtain ⟨x0, hH, hPl, hB, hA, g122, g81, g17, hI0, hI1, hX, hoo⟩ := hC0
  obtain ⟨m00, g124, hmm, g141, g142, g143, g144, g145, g146, g147, g148, g149, ⟨z1, g150⟩, ⟨z2, g151⟩, ⟨z3, g152⟩, ⟨z4, g153⟩, ⟨z5, g154⟩⟩ := hM0
  obtain ⟨⟨ht, hch, htx, hlen, hfeB, hsh, hmi, hi0, hi1⟩, ⟨hV, hV2, hW, hbu, hld, hF, e125, e126, e131, e136, e138⟩, ⟨hBX, ⟨bN, hob, hOb⟩, hw0, hwo0⟩, ⟨htb, htn, hsh4, hmie, hfe0, him0, him1⟩, ⟨fa0, ah0, bn0, le0, du0, od0, hDr⟩⟩ := hS0
  have m0 := m00.trans (mR_e _ _ _ _ _ _)
  obtain ⟨g125, g126, g127, g128, g129, g130, g131, g132, g133, g134, g135, g136, g137, g138, g139, g140⟩ := mcl_h hmm
  have htM : TnV tnM := tnv_cg ht htn
  obtain ⟨oN, av, hO⟩ := dr_av hV ht hDr
  have hL := dr_lk (fa := am1) (ah := am2) (bn := am3) hV ht hW hF (htn 0 (by omega)) (htn 1 (by omega)) hDr
  rw [← htn 2 (by omega)] at hL
  have hV' := hV
  obtain ⟨⟨v1, v2⟩, v3, v4, v5, v6, v7, v8, v9, v10, v11, v12⟩ := hV'
  have hb := pow_B v4
  have hfe : fe < 1024 := by omega
  have bv := bgv_of hBX
  have hmi6 : ∀ i, i < 3 → 0 ≤ mi i ∧ mi i ≤ 1000000 := fun i hi => by have := hmi i hi; omega
  have hmi2 : ∀ i, i < 3 → miM i = mi i ∧ 0 ≤ mi i ∧ mi i ≤ 200000 := fun i hi => by have := hmi i hi; exact ⟨hmie i hi, by omega⟩
  have hmi9 : ∀ i, i < 3 → miM i = mi i ∧ 0 ≤ mi i ∧ mi i ≤ 900000 := fun i hi => by have := hmi i hi; exact ⟨hmie i hi, by omega⟩
  have hmM : ∀ i, i < 3 → 0 ≤ miM i ∧ miM i ≤ 200000 := fun i hi => by have := hmi2 i hi; omega
  have hmM6 : ∀ i, i < 3 → 0 ≤ miM i ∧ miM i ≤ 1000000 := fun i hi => by have := hmi2 i hi; omega
  have hf0 : 0 ≤ feM 0 := by omega
  have hf1 : feM 0 < 1024 := by omega
  obtain ⟨hfa, hah, hbn, hle, hdu, hoa⟩ := av
  exact pair_ro hC hM hS (cF_loads (by omega) x0 hH hA v2 hfa rx ry rt rv) (load_same hL) (cM_loads (by omega) m0 g126 e126 g127 g128 g129 g138 e138 g139 g140 g141 hsh4 hsh g143 g144 g145 hV2 htM g125 e125 rx ry rt rv) (fun h' e => ro_lk hM e)
theorem op_edge (S : Sim N h) (hd : 13 ≤ d) (hN : N ≤ 64) (rx : InR x) (rt : InR t) : PairP X d mF_edge mM_edge [vI x, vI t] N h z := by
  obtain ⟨len, o, o2, n, W, B, M, F, D, fe, sh, tc, wy, bu, fi, ld, tx, tn, ch, mi, m0, m1, f0, s0, f1, s1, ke, k0, k1, wt, wo, ro, ir, od, lb, tr, fa, ah, bn, le, du, oa, T, RM, y8, y9, y10, tb, tnM, am1, am2, am3, miM, feM, ks, ik, hC, hM, hS⟩ := S
  have hS0 := hS
  have hC0 := hC
  have hM0 := hM
  obtain ⟨x0, hH, hPl, hB, hA, g122, g81, g17, hI0, hI1, hX, hoo⟩ := hC0
  obtain ⟨m00, g124, hmm, g141, g142, g143, g144, g145, g146, g147, g148, g149, ⟨z1, g150⟩, ⟨z2, g151⟩, ⟨z3, g152⟩, ⟨z4, g153⟩, ⟨z5, g154⟩⟩ := hM0
  obtain ⟨⟨ht, hch, htx, hlen, hfeB, hsh, hmi, hi0, hi1⟩, ⟨hV, hV2, hW, hbu, hld, hF, e125, e126, e131, e136, e138⟩, ⟨hBX, ⟨bN, hob, hOb⟩, hw0, hwo0⟩, ⟨htb, htn, hsh4, hmie, hfe0, him0, him1⟩, ⟨fa0, ah0, bn0, le0, du0, od0, hDr⟩⟩ := hS0
  have m0 := m00.trans (mR_e _ _ _ _ _ _)
  obtain ⟨g125, g126, g127, g128, g129, g130, g131, g132, g133, g134, g135, g136, g137, g138, g139, g140⟩ := mcl_h hmm
  have htM : TnV tnM := tnv_cg ht htn
  obtain ⟨oN, av, hO⟩ := dr_av hV ht hDr
  have hL := dr_lk (fa := am1) (ah := am2) (bn := am3) hV ht hW hF (htn 0 (by omega)) (htn 1 (by omega)) hDr
  rw [← htn 2 (by omega)] at hL
  have hV' := hV
  obtain ⟨⟨v1, v2⟩, v3, v4, v5, v6, v7, v8, v9, v10, v11, v12⟩ := hV'
  have hb := pow_B v4
  have hfe : fe < 1024 := by omega
  have bv := bgv_of hBX
  have hmi6 : ∀ i, i < 3 → 0 ≤ mi i ∧ mi i ≤ 1000000 := fun i hi => by have := hmi i hi; omega
  have hmi2 : ∀ i, i < 3 → miM i = mi i ∧ 0 ≤ mi i ∧ mi i ≤ 200000 := fun i hi => by have := hmi i hi; exact ⟨hmie i hi, by omega⟩
  have hmi9 : ∀ i, i < 3 → miM i = mi i ∧ 0 ≤ mi i ∧ mi i ≤ 900000 := fun i hi => by have := hmi i hi; exact ⟨hmie i hi, by omega⟩
  have hmM : ∀ i, i < 3 → 0 ≤ miM i ∧ miM i ≤ 200000 := fun i hi => by have := hmi2 i hi; omega
  have hmM6 : ∀ i, i < 3 → 0 ≤ miM i ∧ miM i ≤ 1000000 := fun i hi => by have := hmi2 i hi; omega
  have hf0 : 0 ≤ feM 0 := by omega
  have hf1 : feM 0 < 1024 := by omega
  obtain ⟨hfa, hah, hbn, hle, hdu, hoa⟩ := av
  exact pair_ro hC hM hS (cF_edge (by omega) x0 hH hA v2 hfa rx rt) (edge_same hL) (cM_edge (by omega) m0 g126 e126 g127 g128 g129 g138 e138 g139 g140 g141 hsh4 hsh g143 g144 g145 hV2 htM g125 e125 rx rt) (fun h' e => ro_lk hM e)
theorem op_place (S : Sim N h) (hd : 13 ≤ d) (hN : N ≤ 64) (rx : InR x) (ry : InR y) : PairP X d mF_place mM_place [vI x, vI y] N h z := by
  obtain ⟨len, o, o2, n, W, B, M, F, D, fe, sh, tc, wy, bu, fi, ld, tx, tn, ch, mi, m0, m1, f0, s0, f1, s1, ke, k0, k1, wt, wo, ro, ir, od, lb, tr, fa, ah, bn, le, du, oa, T, RM, y8, y9, y10, tb, tnM, am1, am2, am3, miM, feM, ks, ik, hC, hM, hS⟩ := S
  have hS0 := hS
  have hC0 := hC
  have hM0 := hM
  obtain ⟨x0, hH, hPl, hB, hA, g122, g81, g17, hI0, hI1, hX, hoo⟩ := hC0
  obtain ⟨m00, g124, hmm, g141, g142, g143, g144, g145, g146, g147, g148, g149, ⟨z1, g150⟩, ⟨z2, g151⟩, ⟨z3, g152⟩, ⟨z4, g153⟩, ⟨z5, g154⟩⟩ := hM0
  obtain ⟨⟨ht, hch, htx, hlen, hfeB, hsh, hmi, hi0, hi1⟩, ⟨hV, hV2, hW, hbu, hld, hF, e125, e126, e131, e136, e138⟩, ⟨hBX, ⟨bN, hob, hOb⟩, hw0, hwo0⟩, ⟨htb, htn, hsh4, hmie, hfe0, him0, him1⟩, ⟨fa0, ah0, bn0, le0, du0, od0, hDr⟩⟩ := hS0
  have m0 := m00.trans (mR_e _ _ _ _ _ _)
  obtain ⟨g125, g126, g127, g128, g129, g130, g131, g132, g133, g134, g135, g136, g137, g138, g139, g140⟩ := mcl_h hmm
  have htM : TnV tnM := tnv_cg ht htn
  obtain ⟨oN, av, hO⟩ := dr_av hV ht hDr
  have hL := dr_lk (fa := am1) (ah := am2) (bn := am3) hV ht hW hF (htn 0 (by omega)) (htn 1 (by omega)) hDr
  rw [← htn 2 (by omega)] at hL
  have hV' := hV
  obtain ⟨⟨v1, v2⟩, v3, v4, v5, v6, v7, v8, v9, v10, v11, v12⟩ := hV'
  have hb := pow_B v4
  have hfe : fe < 1024 := by omega
  have bv := bgv_of hBX
  have hmi6 : ∀ i, i < 3 → 0 ≤ mi i ∧ mi i ≤ 1000000 := fun i hi => by have := hmi i hi; omega
  have hmi2 : ∀ i, i < 3 → miM i = mi i ∧ 0 ≤ mi i ∧ mi i ≤ 200000 := fun i hi => by have := hmi i hi; exact ⟨hmie i hi, by omega⟩
  have hmi9 : ∀ i, i < 3 → miM i = mi i ∧ 0 ≤ mi i ∧ mi i ≤ 900000 := fun i hi => by have := hmi i hi; exact ⟨hmie i hi, by omega⟩
  have hmM : ∀ i, i < 3 → 0 ≤ miM i ∧ miM i ≤ 200000 := fun i hi => by have := hmi2 i hi; omega
  have hmM6 : ∀ i, i < 3 → 0 ≤ miM i ∧ miM i ≤ 1000000 := fun i hi => by have := hmi2 i hi; omega
  have hf0 : 0 ≤ feM 0 := by omega
  have hf1 : feM 0 < 1024 := by omega
  obtain ⟨hfa, hah, hbn, hle, hdu, hoa⟩ := av
  exact pair_ro hC hM hS (cF_place (by omega) x0 hH hB hA v2 v4 hfa hle (fun i hi => ⟨hob i hi, hOb.1 i hi⟩) rx ry) (plc_same hBX hL hob hOb) (cM_place (by omega) m0 g126 e126 g127 g128 g129 g138 e138 g139 g140 g141 hsh4 hsh g143 g144 g145 hV2 htM g125 e125 g131 e131 g134 rx ry) (fun h' e => ro_lk hM e)
theorem op_count (S : Sim N h) (hd : 13 ≤ d) (hN : N ≤ 64) (rx : InR x) : PairP X d mF_count mM_count [vI x] N h z := by
  obtain ⟨len, o, o2, n, W, B, M, F, D, fe, sh, tc, wy, bu, fi, ld, tx, tn, ch, mi, m0, m1, f0, s0, f1, s1, ke, k0, k1, wt, wo, ro, ir, od, lb, tr, fa, ah, bn, le, du, oa, T, RM, y8, y9, y10, tb, tnM, am1, am2, am3, miM, feM, ks, ik, hC, hM, hS⟩ := S
  have hS0 := hS
  have hC0 := hC
  have hM0 := hM
  obtain ⟨x0, hH, hPl, hB, hA, g122, g81, g17, hI0, hI1, hX, hoo⟩ := hC0
  obtain ⟨m00, g124, hmm, g141, g142, g143, g144, g145, g146, g147, g148, g149, ⟨z1, g150⟩, ⟨z2, g151⟩, ⟨z3, g152⟩, ⟨z4, g153⟩, ⟨z5, g154⟩⟩ := hM0
  obtain ⟨⟨ht, hch, htx, hlen, hfeB, hsh, hmi, hi0, hi1⟩, ⟨hV, hV2, hW, hbu, hld, hF, e125, e126, e131, e136, e138⟩, ⟨hBX, ⟨bN, hob, hOb⟩, hw0, hwo0⟩, ⟨htb, htn, hsh4, hmie, hfe0, him0, him1⟩, ⟨fa0, ah0, bn0, le0, du0, od0, hDr⟩⟩ := hS0
  have m0 := m00.trans (mR_e _ _ _ _ _ _)
  obtain ⟨g125, g126, g127, g128, g129, g130, g131, g132, g133, g134, g135, g136, g137, g138, g139, g140⟩ := mcl_h hmm
  have htM : TnV tnM := tnv_cg ht htn
  obtain ⟨oN, av, hO⟩ := dr_av hV ht hDr
  have hL := dr_lk (fa := am1) (ah := am2) (bn := am3) hV ht hW hF (htn 0 (by omega)) (htn 1 (by omega)) hDr
  rw [← htn 2 (by omega)] at hL
  have hV' := hV
  obtain ⟨⟨v1, v2⟩, v3, v4, v5, v6, v7, v8, v9, v10, v11, v12⟩ := hV'
  have hb := pow_B v4
  have hfe : fe < 1024 := by omega
  have bv := bgv_of hBX
  have hmi6 : ∀ i, i < 3 → 0 ≤ mi i ∧ mi i ≤ 1000000 := fun i hi => by have := hmi i hi; omega
  have hmi2 : ∀ i, i < 3 → miM i = mi i ∧ 0 ≤ mi i ∧ mi i ≤ 200000 := fun i hi => by have := hmi i hi; exact ⟨hmie i hi, by omega⟩
  have hmi9 : ∀ i, i < 3 → miM i = mi i ∧ 0 ≤ mi i ∧ mi i ≤ 900000 := fun i hi => by have := hmi i hi; exact ⟨hmie i hi, by omega⟩
  have hmM : ∀ i, i < 3 → 0 ≤ miM i ∧ miM i ≤ 200000 := fun i hi => by have := hmi2 i hi; omega
  have hmM6 : ∀ i, i < 3 → 0 ≤ miM i ∧ miM i ≤ 1000000 := fun i hi => by have := hmi2 i hi; omega
  have hf0 : 0 ≤ feM 0 := by omega
  have hf1 : feM 0 < 1024 := by omega
  obtain ⟨hfa, hah, hbn, hle, hdu, hoa⟩ := av
  exact pair_ro hC hM hS (cF_count x0 hH hV hlen rx) rfl (cM_count m0 g125 e125 g126 e126 g131 e131 g136 e136 g138 e138 rfl hlen v2 v3 v4 v5 v6 rx) (fun h' e => ro_h hM e)
end SO
