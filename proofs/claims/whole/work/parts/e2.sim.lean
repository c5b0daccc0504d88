/-! e2: trace, one -/
section SQ
variable {X : Cx} {d N : Nat} {h h' : AH} {z : Nat} {len o o2 n W B M F D fe sh : Nat} {tc : Int64} {wy bu fi : Nat → Nat → Int} {ld tx tn ch mi m0 m1 : Nat → Int} {f0 s0 f1 s1 : Nat} {ke k0 k1 : Int} {wt wo ro : Nat → Int} {ir : Nat → Nat} {od lb : Nat → Int} {tr : Nat → Nat → Int} {fa ah bn le du oa : Nat → Int} {T : MT} {RM : MS} {y8 y9 y10 : Int} {tb tnM am1 am2 am3 miM feM ks ik : Nat → Int} {x y v t : Int}
theorem CS.frX (hc : CS h len o o2 n W B M F D fe sh tc wy bu fi ld tx tn ch mi m0 m1 f0 s0 f1 s1 ke k0 k1 wt wo ro ir od lb tr fa ah bn le du oa) (e : ∀ b, b < 123 → (b < 106 ∨ 122 ≤ b) → h' b = h b) (hA' : ∃ n1 a b c e f g, AtC h' 106 n1 a b c e f g) (hS' : ∃ men who ab gn, ShC h' 113 88 men who ab gn ∧ (∀ p, p < 1024 → ab p < 8) ∧ ∀ m, m < 3 → ∀ s, s < 1024 → -10000 ≤ gn m s ∧ gn m s ≤ 10000) (hC' : ∃ oc tk fr ou, CrC h' 119 88 oc tk fr ou) : CS h' len o o2 n W B M F D fe sh tc wy bu fi ld tx tn ch mi m0 m1 f0 s0 f1 s1 ke k0 k1 wt wo ro ir od lb tr fa ah bn le du oa := by
  obtain ⟨c1, c2, c3, c4, c5, c6, c7, c8, c9, c10, c11, c12⟩ := hc
  obtain ⟨⟨rl, R, r1, r2⟩, ⟨H2, hH⟩, _, _, _, l1, l2, hS⟩ := c11
  refine ⟨(e 16 (by omega) (by omega)).trans c1, HoC.fr c2 (fun b _ _ => e b (by omega) (by omega)), c3.frr (e _ (by omega) (by omega)) (e _ (by omega) (by omega)), c4.fr (fun b _ _ => e b (by omega) (by omega)), c5.fr (fun b _ _ => e b (by omega) (by omega)), (e 122 (by omega) (by omega)).trans c6, (e 81 (by omega) (by omega)).trans c7, (e 17 (by omega) (by omega)).trans c8, c9.frr (e _ (by omega) (by omega)) (e _ (by omega) (by omega)), c10.frr (e _ (by omega) (by omega)) (e _ (by omega) (by omega)), ?_, c12⟩
  refine ⟨⟨rl, R, (e 18 (by omega) (by omega)).trans r1, r2⟩, ⟨H2, ?_⟩, hA', hS', hC', (e 1 (by omega) (by omega)).trans l1, (e 2 (by omega) (by omega)).trans l2, ?_⟩
  · exact HoC.fr hH (fun b _ _ => e b (by omega) (by omega))
  · intro i hi
    exact ⟨(e _ (by omega) (by omega)).trans (hS i hi).1, (e _ (by omega) (by omega)).trans (hS i hi).2⟩
/-- what a call of the model leaves that changes only its working arrays -/
def RoX (len : Nat) (tc : Int64) (RM : MS) (h h' : AH) : Prop := (∃ a b c, h' 123 = some (mR tc len RM a b c)) ∧ (∀ b, b ≠ 123 → (b < 143 ∨ 145 < b) → (b < 150 ∨ 154 < b) → h' b = h b) ∧ (∃ f, h' 143 = some (cI 8 f)) ∧ (∃ f, h' 144 = some (cI 8 f)) ∧ (∃ f, h' 145 = some (cI 8 f)) ∧ MX h'
theorem MS2.rdx (hm : MS2 h len tc ch T RM y8 y9 y10 tb tnM am1 am2 am3 miM feM ks ik) (hr : RoX len tc RM h h') : ∃ b1 b2 b3 a1 a2 a3, MS2 h' len tc ch T RM b1 b2 b3 tb tnM a1 a2 a3 miM feM ks ik := by
  obtain ⟨c1, c2, c3, c4, c5, c6, c7, c8, c9, c10, c11, c12, c13⟩ := hm
  obtain ⟨⟨b1, b2, b3, q0⟩, e, ⟨a1, q1⟩, ⟨a2, q2⟩, ⟨a3, q3⟩, q4⟩ := hr
  exact ⟨b1, b2, b3, a1, a2, a3, q0, (e _ (by omega) (by omega) (by omega)).trans c2, fun a h1 h2 => (e _ (by omega) (by omega) (by omega)).trans (c3 a h1 h2), (e _ (by omega) (by omega) (by omega)).trans c4, (e _ (by omega) (by omega) (by omega)).trans c5, q1, q2, q3, (e _ (by omega) (by omega) (by omega)).trans c9, (e _ (by omega) (by omega) (by omega)).trans c10, (e _ (by omega) (by omega) (by omega)).trans c11, (e _ (by omega) (by omega) (by omega)).trans c12, q4⟩
/-- the state after a call of the class that leaves CS and one of the model that changes working arrays -/
theorem sim_x {h1 : AH} (hC1 : CS h1 len o o2 n W B M F D fe sh tc wy bu fi ld tx tn ch mi m0 m1 f0 s0 f1 s1 ke k0 k1 wt wo ro ir od lb tr fa ah bn le du oa) (hM1 : MS2 h1 len tc ch T RM y8 y9 y10 tb tnM am1 am2 am3 miM feM ks ik) (hS : SimV N len o o2 n W B M F D fe sh tc wy bu fi ld tx tn ch mi m0 m1 f0 s0 f1 s1 ke k0 k1 wt wo ro ir od lb tr fa ah bn le du oa T RM y8 y9 y10 tb tnM am1 am2 am3 miM feM ks ik) (hr : RoX len tc RM h1 h') : Sim (N + 1) h' := by
  obtain ⟨b1, b2, b3, a1, a2, a3, hM2⟩ := hM1.rdx hr
  exact ⟨len, o, o2, n, W, B, M, F, D, fe, sh, tc, wy, bu, fi, ld, tx, tn, ch, mi, m0, m1, f0, s0, f1, s1, ke, k0, k1, wt, wo, ro, ir, od, lb, tr, fa, ah, bn, le, du, oa, T, RM, b1, b2, b3, tb, tnM, a1, a2, a3, miM, feM, ks, ik, hC1.fr (fun b hb => hr.2.1 b (by omega) (by omega) (by omega)), hM2, hS.mono⟩
/-- both calls answer the same long -/
def PairL (X : Cx) (d : Nat) (mF mM : MI) (as : SV) (N : Nat) (h : AH) (z : Nat) : Prop := CallP X d 0 0 mF (vA 16 :: as) h z (fun r h1 z1 => z1 = z ∧ h1 0 = h 0 ∧ h1 123 = h 123 ∧ ∃ v, r = some (vL v) ∧ CallP X d 0 0 mM (vA 123 :: as) h1 z (fun r' h2 z2 => z2 = z ∧ r' = some (vL v) ∧ h2 0 = h 0 ∧ Sim (N + 1) h2))
theorem Sim.mono (S : Sim N h) : Sim (N + 1) h := by
  obtain ⟨len, o, o2, n, W, B, M, F, D, fe, sh, tc, wy, bu, fi, ld, tx, tn, ch, mi, m0, m1, f0, s0, f1, s1, ke, k0, k1, wt, wo, ro, ir, od, lb, tr, fa, ah, bn, le, du, oa, T, RM, y8, y9, y10, tb, tnM, am1, am2, am3, miM, feM, ks, ik, hC, hM, hS⟩ := S
  exact ⟨len, o, o2, n, W, B, M, F, D, fe, sh, tc, wy, bu, fi, ld, tx, tn, ch, mi, m0, m1, f0, s0, f1, s1, ke, k0, k1, wt, wo, ro, ir, od, lb, tr, fa, ah, bn, le, du, oa, T, RM, y8, y9, y10, tb, tnM, am1, am2, am3, miM, feM, ks, ik, hC, hM, hS.mono⟩
theorem op_trace (S : Sim N h) : PairL X d mF_trace mM_trace [] N h z := by
  have S' := S.mono
  obtain ⟨len, o, o2, n, W, B, M, F, D, fe, sh, tc, wy, bu, fi, ld, tx, tn, ch, mi, m0, m1, f0, s0, f1, s1, ke, k0, k1, wt, wo, ro, ir, od, lb, tr, fa, ah, bn, le, du, oa, T, RM, y8, y9, y10, tb, tnM, am1, am2, am3, miM, feM, ks, ik, hC, hM, hS⟩ := S
  refine call_mono (cF_trace hC.1) ?_
  rintro _ _ _ ⟨rfl, rfl, rfl⟩
  refine ⟨rfl, rfl, rfl, tc, rfl, call_mono (cM_trace (hM.1.trans (mR_e _ _ _ _ _ _))) ?_⟩
  rintro _ _ _ ⟨rfl, rfl, rfl⟩
  exact ⟨rfl, rfl, rfl, S'⟩
theorem trv_of {bT : Nat → Nat → Int} {lT : Nat → Int} (hX : BgX n B M bT lT wt wo ro ir lb tr) : TrV tr (fun m p => (tr m p).toNat) := fun m hm p hp => by
  have := (hX.2.2.2.2.2.2.1 m hm).1 p hp
  dsimp only
  omega
theorem lb_of {bT : Nat → Nat → Int} {lT : Nat → Int} (hX : BgX n B M bT lT wt wo ro ir lb tr) : ∀ m, m < M → 0 ≤ lb m ∧ lb m ≤ 1000 := fun m hm => by
  have h1 := (hX.2.2.2.2.2.1 m hm).1
  have h2 := hX.2.2.2.2.2.2.2.2.2.1 m hm
  omega
theorem wtv_of {wT : Nat → Nat → Int} (h : WTx W wy wT) : WTv W wy wT := fun w hw => ⟨h w hw 0 (by omega), h w hw 1 (by omega), h w hw 2 (by omega)⟩
theorem far_8 {wT : Nat → Nat → Int} {am1 : Nat → Int} (hV : HoV n W B M F D wy bu ld fi) (hW : WTx W wy wT) : ∀ r, r < 8 → faM W sh wT am1 8 r = 1000000 ∨ faM W sh wT am1 8 r ≤ 10000 := fun r hr => by
  have hw : WyV 8 W wy := fun w hw => by
    have := hV.wy w hw
    have := hV.1
    omega
  rcases far_b (sh := sh) (fa := am1) (by omega) hw (wtv_of hW) r hr with q | q
  · exact Or.inl q
  · exact Or.inr (by omega)
theorem v0_of {bT : Nat → Nat → Int} {lT miM : Nat → Int} {oN : Nat → Nat} {fm am bm : Nat → Int} {s : Int} (hX : BgX n B M bT lT wt wo ro ir lb tr) (hL : LkV n fa ah bn le du fm am bm s) (hO : OrdP n du oN) {m may : Nat} (hm : m < M) (h0 : 0 ≤ miM m) (h1 : miM m ≤ 200000) {w : Nat → Int} (hw : OuP (okM B bT fm am bm s (lT m)) (gM B bT fm) (miM m) may w (2 ^ B)) {S : Nat} (hS : S < 2 ^ B) : w S = vtF may (fun S => finR oN ir fa du (fun p => (tr m p).toNat) S n 0 (miM m)) S := by
  have q := ou_same hX hm hL hO h0 (by omega) hw hS
  unfold vtF
  by_cases c : nDif S may = 0
  · rw [if_pos c]
    exact q.1 (sub_iff.mp c)
  · rw [if_neg c]
    exact q.2 (fun w => c (sub_iff.mpr w))
set_option maxHeartbeats 1000000 in
theorem op_one (S : Sim N h) (hd : 13 ≤ d) (hN : N ≤ 64) (rx : InR x) (ry : InR y) : PairP X d mF_one mM_one [vI x, vI y] N h z := by
  obtain ⟨len, o, o2, n, W, B, M, F, D, fe, sh, tc, wy, bu, fi, ld, tx, tn, ch, mi, m0, m1, f0, s0, f1, s1, ke, k0, k1, wt, wo, ro, ir, od, lb, tr, fa, ah, bn, le, du, oa, T, RM, y8, y9, y10, tb, tnM, am1, am2, am3, miM, feM, ks, ik, hC, hM, hS⟩ := S
  have hS0 := hS
  have hC0 := hC
  have hM0 := hM
  obtain ⟨x0, hH, hPl, hB, hA, g122, g81, g17, hI0, hI1, hX, hoo⟩ := hC0
  obtain ⟨m00, g124, hmm, g141, g142, g143, g144, g145, g146, g147, g148, g149, ⟨z1, g150⟩, ⟨z2, g151⟩, ⟨z3, g152⟩, ⟨z4, g153⟩, ⟨z5, g154⟩⟩ := hM0
  obtain ⟨⟨ht, hch, htx, hlen, hfeB, hsh, hmi, hi0, hi1⟩, ⟨hV, hV2, hW, hbu, hld, hF, e125, e126, e131, e136, e138⟩, ⟨hBX, ⟨bN, hob, hOb⟩, hw0, hwo0⟩, ⟨htb, htn, hsh4, hmie, hfe0, him0, him1⟩, ⟨fa0, ah0, bn0, le0, du0, od0, hDr⟩⟩ := hS0
  have m0 := m00.trans (mR_e _ _ _ _ _ _)
  obtain ⟨g125, g126, g127, g128, g129, g130, g131, g132, g133, g134, g135, g136, g137, g138, g139, g140⟩ := mcl_h hmm
  have htM : TnV tnM := tnv_cg ht htn
  obtain ⟨oN, av, hO⟩ := dr_av hV ht hDr
  have hL := dr_lk (fa := am1) (ah := am2) (bn := am3) hV ht hW hF (htn 0 (by omega)) (htn 1 (by omega)) hDr
  rw [← htn 2 (by omega)] at hL
  have hV' := hV
  obtain ⟨⟨v1, v2⟩, v3, v4, v5, v6, v7, v8, v9, v10, v11, v12⟩ := hV'
  have hb := pow_B v4
  have hfe : fe < 1024 := by omega
  have bv := bgv_of hBX
  have hmi6 : ∀ i, i < 3 → 0 ≤ mi i ∧ mi i ≤ 1000000 := fun i hi => by have := hmi i hi; omega
  have hmi2 : ∀ i, i < 3 → miM i = mi i ∧ 0 ≤ mi i ∧ mi i ≤ 200000 := fun i hi => by have := hmi i hi; exact ⟨hmie i hi, by omega⟩
  have hmi9 : ∀ i, i < 3 → miM i = mi i ∧ 0 ≤ mi i ∧ mi i ≤ 900000 := fun i hi => by have := hmi i hi; exact ⟨hmie i hi, by omega⟩
  have hmM : ∀ i, i < 3 → 0 ≤ miM i ∧ miM i ≤ 200000 := fun i hi => by have := hmi2 i hi; omega
  have hmM6 : ∀ i, i < 3 → 0 ≤ miM i ∧ miM i ≤ 1000000 := fun i hi => by have := hmi2 i hi; omega
  have hf0 : 0 ≤ feM 0 := by omega
  have hf1 : feM 0 < 1024 := by omega
  obtain ⟨hfa, hah, hbn, hle, hdu, hoa⟩ := av
  refine pair_ro hC hM hS (cF_one (by omega) x0 hH hPl hB hA hV bv hfe ⟨hfa, hah, hbn, hle, hdu, hoa⟩ (trv_of hBX) hmi6 (lb_of hBX) rx ry) (one_same hBX hL hO hfeB hmi2) (cM_one (by omega) m0 g126 e126 g127 g128 g129 g138 e138 g139 g140 g141 hsh4 hsh g143 g144 g145 hV2 htM g131 e131 g132 g133 g134 g136 e136 g137 g146 g147 g150 hfe0 hfe hmM (far_8 hV hW) ?_ ?_ rx ry) (fun h' e => ?_)
  · intro m hm w hw S hS'
    exact v0_of hBX hL hO hm (hmM m (by omega)).1 (hmM m (by omega)).2 hw hS'
  · intro m S p hm hS' hp1 hp2 w hw
    have hmm9 := hmM m (by omega)
    have hfar : faM W sh T.2.1 am1 8 (rooM T.2.2.1 B p).toNat = 1000000 ∨ (0 ≤ faM W sh T.2.1 am1 8 (rooM T.2.2.1 B p).toNat ∧ faM W sh T.2.1 am1 8 (rooM T.2.2.1 B p).toNat ≤ 10000) := by
      have hlt := hL.2.2.2.2.2.2.2.2.2.1
      rcases rooM_b (n := n) (bT := T.2.2.1) (B := B) (s := p) (fun b hb => (hBX.2.2.2.2.2.2.2.2.1 b hb).1) with q | ⟨r, q, hr⟩
      · rw [q]
        have := far_8 (sh := sh) (am1 := am1) hV hW 0 (by omega)
        have := hlt 0 (by omega)
        show faM W sh T.2.1 am1 8 0 = 1000000 ∨ (0 ≤ faM W sh T.2.1 am1 8 0 ∧ faM W sh T.2.1 am1 8 0 ≤ 10000)
        omega
      · rw [q, Int.toNat_natCast]
        have := far_8 (sh := sh) (am1 := am1) hV hW r (by omega)
        have := hlt r (by omega)
        omega
    rcases hfar with q | ⟨q1, q2⟩
    · have h2 := hw 0 (Nat.two_pow_pos B)
      have h3 := h2.2.1 rfl
      have h4 := h2.1
      rw [q] at h3
      omega
    · have hd : nDif S p < 2 ^ B := Nat.lt_of_le_of_lt (nDif_le S p) hS'
      exact (ou_same hBX hm hL hO (by omega) (by omega) hw hd).1 (Sub.rf _)
  · rcases e with e | ⟨k, ou', hk, e⟩
    · exact ro_h hM e
    · subst e
      obtain ⟨q0, q1, q2, q3, q4⟩ := ro_lk (h' := k) hM (Or.inr hk)
      exact ⟨fun b b1 b2 => (upA_n _ _ b2).trans (q0 b b1 b2), by rw [upA_n _ _ (by omega)]; exact q1, by rw [upA_n _ _ (by omega)]; exact q2, by rw [upA_n _ _ (by omega)]; exact q3, _, upA_s _ _ _⟩
end SQ
