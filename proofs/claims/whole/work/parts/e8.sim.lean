/-! e8: house -/
theorem hov_cg {n W B M F D : Nat} {wy bu fi : Nat → Nat → Int} {ld : Nat → Int} {wT bT fT : Nat → Nat → Int} {lT : Nat → Int} (hV : HoV n W B M F D wy bu ld fi) (ew : WTx W wy wT) (eb : ∀ b, b < B → ∀ k, k < 4 → bT k b = bu b k) (el : ∀ m, m < M → lT m = ld m) (ef : FTx F fi fT) : HoV n W B M F D (fl wT) (fl bT) lT (fl fT) := by
  obtain ⟨v0, v3, v4, v5, v6, v7, v8, v9, v10, v11, v12⟩ := hV
  refine ⟨v0, v3, v4, v5, v6, v7, fun w hw => ?_, v9, fun b hb => ?_, fun m hm => ?_, fun f hf => ?_⟩
  · show 0 ≤ wT 0 w ∧ wT 0 w < n ∧ 0 ≤ wT 1 w ∧ wT 1 w < n ∧ wT 0 w ≠ wT 1 w ∧ 1 ≤ wT 2 w ∧ wT 2 w ≤ 30 ∧ wT 3 w = (if D.testBit w then 1 else 0)
    rw [ew w hw 0 (by decide), ew w hw 1 (by decide), ew w hw 2 (by decide), ew w hw 3 (by decide)]
    exact v8 w hw
  · show 0 ≤ bT 0 b ∧ bT 0 b < n ∧ 1 ≤ bT 1 b ∧ bT 1 b ≤ 99 ∧ 0 ≤ bT 2 b ∧ bT 2 b ≤ 99 ∧ 0 ≤ bT 3 b ∧ bT 3 b ≤ 10
    rw [eb b hb 0 (by decide), eb b hb 1 (by decide), eb b hb 2 (by decide), eb b hb 3 (by decide)]
    exact v10 b hb
  · rw [el m hm]
    exact v11 m hm
  · show 0 ≤ fT 0 f ∧ fT 0 f < n ∧ 0 ≤ fT 1 f ∧ fT 1 f ≤ 99
    rw [ef f hf 0 (by decide), ef f hf 1 (by decide)]
    exact v12 f hf
/-- the house that stands is not touched by the reading -/
def LoE (T T' : MT) : Prop := (∀ k, T'.1 k 0 = T.1 k 0) ∧ (∀ k w, w < 12 → T'.2.1 k w = T.2.1 k w) ∧ (∀ k b, b < 10 → T'.2.2.1 k b = T.2.2.1 k b) ∧ (∀ m, m < 3 → T'.2.2.2.1 m = T.2.2.2.1 m) ∧ ∀ k f, f < 4 → T'.2.2.2.2 k f = T.2.2.2.2 k f
theorem LoE.r (T : MT) : LoE T T := ⟨fun _ => rfl, fun _ _ _ => rfl, fun _ _ _ => rfl, fun _ _ => rfl, fun _ _ _ => rfl⟩
theorem LoE.t {T T' T2 : MT} (a : LoE T T') (b : LoE T' T2) : LoE T T2 := ⟨fun k => (b.1 k).trans (a.1 k), fun k w hw => (b.2.1 k w hw).trans (a.2.1 k w hw), fun k w hw => (b.2.2.1 k w hw).trans (a.2.2.1 k w hw), fun w hw => (b.2.2.2.1 w hw).trans (a.2.2.2.1 w hw), fun k w hw => (b.2.2.2.2 k w hw).trans (a.2.2.2.2 k w hw)⟩
theorem cU_0 (c : Nat → Nat → Int) (k : Nat) (v : Int) (j : Nat) : cU c k v j 0 = c j 0 := by
  by_cases e : j = k
  · subst e
    show (if j = j then upF (c j) 1 v else c j) 0 = c j 0
    rw [if_pos rfl]
    exact upF_n _ _ (by decide)
  · rw [cU_n c v e]
theorem lo_G {tx : Nat → Int} {len : Nat} {s : Int} {R : MS} {T : MT} : LoE T (mtG tx len T s R).2 := by
  unfold mtG
  split
  · exact ⟨fun k => cU_0 _ _ _ _, fun _ _ _ => rfl, fun _ _ _ => rfl, fun _ _ => rfl, fun _ _ _ => rfl⟩
  split
  · exact ⟨fun k => cU_0 _ _ _ _, fun k w hw => upF_n _ _ (by omega), fun _ _ _ => rfl, fun _ _ => rfl, fun _ _ _ => rfl⟩
  split
  · exact ⟨fun k => cU_0 _ _ _ _, fun _ _ _ => rfl, fun k w hw => upF_n _ _ (by omega), fun _ _ => rfl, fun _ _ _ => rfl⟩
  split
  · exact ⟨fun k => cU_0 _ _ _ _, fun _ _ _ => rfl, fun _ _ _ => rfl, fun w hw => upF_n _ _ (by omega), fun _ _ _ => rfl⟩
  · exact ⟨fun k => cU_0 _ _ _ _, fun _ _ _ => rfl, fun _ _ _ => rfl, fun _ _ => rfl, fun k w hw => upF_n _ _ (by omega)⟩
theorem lo_I {tx : Nat → Int} {len i : Nat} {R : MS} {T : MT} : LoE T (mtI tx len i R T).2 := by
  unfold mtI
  split
  · exact lo_G
  · exact LoE.r T
theorem lo_L {tx : Nat → Int} {len : Nat} : ∀ k i R T, LoE T (mhL tx len k i R T).2.2
  | 0, i, R, T => LoE.r T
  | k + 1, i, R, T => by
    unfold mhL
    split
    · exact LoE.r T
    · exact LoE.t lo_I (lo_L k _ _ _)
theorem lo_F {tx : Nat → Int} {len : Nat} {T : MT} : LoE T (mhF tx len T).2.2 := LoE.t (T' := mh0 T) ⟨fun k => (show upF (T.1 k) 1 (if k = 0 then 1 else 0) 0 = T.1 k 0 from upF_n _ _ (by decide)), fun _ _ _ => rfl, fun _ _ _ => rfl, fun _ _ => rfl, fun _ _ _ => rfl⟩ (lo_L _ _ _ _)
section SX
variable {X : Cx} {d N : Nat} {h h' : AH} {z : Nat} {len o o2 n W B M F D fe sh : Nat} {tc : Int64} {wy bu fi : Nat → Nat → Int} {ld tx tn ch mi m0 m1 : Nat → Int} {f0 s0 f1 s1 : Nat} {ke k0 k1 : Int} {wt wo ro : Nat → Int} {ir : Nat → Nat} {od lb : Nat → Int} {tr : Nat → Nat → Int} {fa ah bn le du oa : Nat → Int} {T : MT} {RM : MS} {y8 y9 y10 : Int} {tb tnM am1 am2 am3 miM feM ks ik : Nat → Int} {x y v t : Int}
theorem hm_lo {T' : MT} (hm : HmV n W B M F D wy bu fi ld T) (e : LoE T T') : HmV n W B M F D wy bu fi ld T' := by
  obtain ⟨hV, -, hW, hb, hl, hF, e1, e2, e3, e4, e5⟩ := hm
  obtain ⟨q1, q2, q3, q4, q5⟩ := e
  have hV' := hV
  obtain ⟨v0, v3, v4, v5, v6, v7, v8, v9, v10, v11, v12⟩ := hV'
  have ew : WTx W wy T'.2.1 := fun w hw k hk => (q2 k w (by omega)).trans (hW w hw k hk)
  have eb : ∀ b, b < B → ∀ k, k < 4 → T'.2.2.1 k b = bu b k := fun b hb' k hk => (q3 k b (by omega)).trans (hb b hb' k hk)
  have el : ∀ m, m < M → T'.2.2.2.1 m = ld m := fun m hm => (q4 m (by omega)).trans (hl m hm)
  have ef : FTx F fi T'.2.2.2.2 := fun f hf k hk => (q5 k f (by omega)).trans (hF f hf k hk)
  exact ⟨hV, hov_cg hV ew eb el ef, ew, eb, el, ef, (q1 0).trans e1, (q1 1).trans e2, (q1 2).trans e3, (q1 3).trans e4, (q1 4).trans e5⟩
theorem ba_lo {T' : MT} (hb : BaV n B M T.2.2.1 T.2.2.2.1 wt wo ro ir od lb tr) (e : LoE T T') : BaV n B M T'.2.2.1 T'.2.2.2.1 wt wo ro ir od lb tr := by
  obtain ⟨⟨x1, x2, x3, x4, x5, x6, x7, x8, x9, x10, x11, x12, x13⟩, ho, w0, w1⟩ := hb
  obtain ⟨-, -, q3, q4, -⟩ := e
  refine ⟨⟨fun s hs => ?_, fun s hs => ?_, fun b hb => ?_, fun r i hr => ?_, x5, fun m hm => ?_, x7, x8, fun b hb => ?_, fun m hm => ?_, x11, x12, x13⟩, ho, w0, w1⟩
  · rw [x1 s hs]
    exact wsF_cg B (fun b hb => (q3 1 b (by omega)).symm)
  · rw [x2 s hs]
    exact wsF_cg B (fun b hb => (q3 2 b (by omega)).symm)
  · rw [q3 0 b (by omega)]
    exact x3 b hb
  · rw [x4 r i hr]
    by_cases c : i < B
    · rw [q3 0 i (by omega)]
    · rw [decide_eq_false c, Bool.false_and, Bool.false_and]
  · rw [q4 m (by omega)]
    exact x6 m hm
  · rw [q3 0 b (by omega), q3 1 b (by omega), q3 2 b (by omega), q3 3 b (by omega)]
    exact x9 b hb
  · rw [q4 m (by omega)]
    exact x10 m hm
theorem hm_new {H : HS} (hV : HoVH H) (hT : HT H T) : HmV H.1.1 H.1.2.1 H.1.2.2.1 H.1.2.2.2.1 H.1.2.2.2.2.1 H.1.2.2.2.2.2 H.2.1 H.2.2.1 H.2.2.2.2 H.2.2.2.1 (mhC T) := by
  obtain ⟨⟨t1, t2, t3, t4, t5⟩, tw, tb, tl, tf⟩ := hT
  have hV' : HoV H.1.1 H.1.2.1 H.1.2.2.1 H.1.2.2.2.1 H.1.2.2.2.2.1 H.1.2.2.2.2.2 H.2.1 H.2.2.1 H.2.2.2.1 H.2.2.2.2 := hV
  obtain ⟨v0, v3, v4, v5, v6, v7, v8, v9, v10, v11, v12⟩ := hV
  have ew : WTx H.1.2.1 H.2.1 (mhC T).2.1 := fun w hw k hk => (cpA_lo 12 (Nat.le_refl _) w (by omega)).trans (tw w hw k hk)
  have eb : ∀ b, b < H.1.2.2.1 → ∀ k, k < 4 → (mhC T).2.2.1 k b = H.2.2.1 b k := fun w hw k hk => (cpA_lo 10 (Nat.le_refl _) w (by omega)).trans (tb w hw k hk)
  have el : ∀ m, m < H.1.2.2.2.1 → (mhC T).2.2.2.1 m = H.2.2.2.1 m := fun w hw => (cpA_lo 3 (Nat.le_refl _) w (by omega)).trans (tl w hw)
  have ef : FTx H.1.2.2.2.2.1 H.2.2.2.2 (mhC T).2.2.2.2 := fun w hw k hk => (cpA_lo 4 (Nat.le_refl _) w (by omega)).trans (tf w hw k hk)
  exact ⟨hV', hov_cg hV' ew eb el ef, ew, eb, el, ef, (show upF (T.1 0) 0 (T.1 0 1) 0 = _ from (upF_s _ _ _).trans t1), (show upF (T.1 1) 0 (T.1 1 1) 0 = _ from (upF_s _ _ _).trans t2), (show upF (T.1 2) 0 (T.1 2 1) 0 = _ from (upF_s _ _ _).trans t3), (show upF (T.1 3) 0 (T.1 3 1) 0 = _ from (upF_s _ _ _).trans t4), (show upF (T.1 4) 0 (T.1 4 1) 0 = _ from (upF_s _ _ _).trans t5)⟩
theorem ba_new {ir0 : Nat → Nat} {od0 : Nat → Int} {bT : Nat → Nat → Int} {lT : Nat → Int} (hV : HoV n W B M F D wy bu ld fi) (hF : FilP B M bu ld wt wo ro ir ir0 od od0 lb tr) (hbd : ∀ s, s < 1024 → (0 ≤ wt s ∧ wt s ≤ 10000) ∧ (0 ≤ wo s ∧ wo s ≤ 10000)) (eb : ∀ b, b < B → ∀ k, k < 4 → bT k b = bu b k) (el : ∀ m, m < M → lT m = ld m) : BaV n B M bT lT wt wo ro ir od lb tr := by
  obtain ⟨f1, f2, f3, f4, f5, f6, f7⟩ := hF
  obtain ⟨v0, v3, v4, v5, v6, v7, v8, v9, v10, v11, v12⟩ := hV
  have hpB := pow_B v4
  have hz : ∀ r, r < 8 → clN 8 ir0 r = 0 := fun r hr => clN_z ir0 8 r hr
  have x1 : ∀ s, s < 2 ^ B → wt s = wsF (bT 1) s B := fun s hs => by
    rw [f1 s hs, wsF_cg (T' := fun b => bu b 1) B (fun b hb => eb b hb 1 (by decide)), wsF_sum v4 hs]
  have x2 : ∀ s, s < 2 ^ B → wo s = wsF (bT 2) s B := fun s hs => by
    rw [f2 s hs, wsF_cg (T' := fun b => bu b 2) B (fun b hb => eb b hb 2 (by decide)), wsF_sum v4 hs]
  refine ⟨⟨x1, x2, fun b hb => ?_, fun r i hr => ?_, fun r hr => ?_, fun m hm => ?_, f7, hbd, fun b hb => ?_, fun m hm => ?_, v0.2, v4, v5⟩, ?_, ?_, ?_⟩
  · rw [f3 b hb, eb b hb 0 (by decide)]
  · rw [f4, inN_bit bu hz B r i hr]
    by_cases c : i < B
    · rw [eb i c 0 (by decide)]
    · rw [decide_eq_false c, Bool.false_and, Bool.false_and]
  · have := inN_lt bu hz B r hr
    rw [f4]
    omega
  · rw [el m hm]
    exact f6 m hm
  · rw [eb b hb 0 (by decide), eb b hb 1 (by decide), eb b hb 2 (by decide), eb b hb 3 (by decide)]
    have := v10 b hb
    exact ⟨⟨this.1, this.2.1⟩, ⟨this.2.2.1, this.2.2.2.1⟩, ⟨this.2.2.2.2.1, this.2.2.2.2.2.1⟩, this.2.2.2.2.2.2⟩
  · rw [el m hm]
    exact v11 m hm
  · rw [f5]
    exact ord_all B
  · rw [x1 0 (Nat.two_pow_pos B), wsF_00]
  · rw [x2 0 (Nat.two_pow_pos B), wsF_00]
theorem reF_v {rl : Nat} {R : RS} {H2 : HS} (hRV : RsV rl R) (hlen : len ≤ 400) : RsV len (reF tx len R H2).2.1 := by
  have hvs : RsV len (0, R.2.1, R.2.2.1, R.2.2.2.1, -1) := ⟨Nat.zero_le _, ⟨hRV.2.1.1, hlen⟩, hRV.2.2.1, hRV.2.2.2.1, by show (-1 : Int) ≤ -1 ∧ (-1 : Int) ≤ 400; omega⟩
  have := rdL_v (tx := tx) (len := len) (len + 1) 0 _ (emH H2) (nxR_v (tx := tx) hvs) (by
    refine ⟨⟨?_, ?_⟩, ?_, ?_, ?_, ?_, ?_⟩
    · show 1 ≤ 1; decide
    · show 1 ≤ 8; decide
    · show 0 ≤ 12; decide
    · show 0 ≤ 10; decide
    · show 0 ≤ 3; decide
    · show 0 ≤ 4; decide
    · show 0 < 4096; decide)
  exact this.1
set_option maxHeartbeats 4000000 in
theorem op_house (S : Sim N h) (hd : 13 ≤ d) (hN : N ≤ 64) : PairP X d mF_house mM_house [] N h z := by
  obtain ⟨len, o, o2, n, W, B, M, F, D, fe, sh, tc, wy, bu, fi, ld, tx, tn, ch, mi, m0, m1, f0, s0, f1, s1, ke, k0, k1, wt, wo, ro, ir, od, lb, tr, fa, ah, bn, le, du, oa, T, RM, y8, y9, y10, tb, tnM, am1, am2, am3, miM, feM, ks, ik, hC, hM, hS⟩ := S
  have hS0 := hS
  have hC0 := hC
  have hM0 := hM
  obtain ⟨x0, hH, hPl, hB, hA, g122, g81, g17, hI0, hI1, hX, hoo⟩ := hC0
  obtain ⟨m00, g124, hmm, g141, g142, g143, g144, g145, g146, g147, g148, g149, ⟨z1, g150⟩, ⟨z2, g151⟩, ⟨z3, g152⟩, ⟨z4, g153⟩, ⟨z5, g154⟩⟩ := hM0
  obtain ⟨⟨ht, hch, htx, hlen, hfeB, hsh, hmi, hi0, hi1⟩, ⟨hV, hV2, hW, hbu, hld, hF, e125, e126, e131, e136, e138⟩, ⟨hBX, ⟨bN, hob, hOb⟩, hw0, hwo0⟩, ⟨htb, htn, hsh4, hmie, hfe0, him0, him1⟩, ⟨fa0, ah0, bn0, le0, du0, od0, hDr⟩⟩ := hS0
  have mo := m00.trans (mR_e _ _ _ _ _ _)
  obtain ⟨g125, g126, g127, g128, g129, g130, g131, g132, g133, g134, g135, g136, g137, g138, g139, g140⟩ := mcl_h hmm
  have htM : TnV tnM := tnv_cg ht htn
  obtain ⟨oN, av, hO⟩ := dr_av hV ht hDr
  have hL := dr_lk (fa := am1) (ah := am2) (bn := am3) hV ht hW hF (htn 0 (by omega)) (htn 1 (by omega)) hDr
  rw [← htn 2 (by omega)] at hL
  have hV' := hV
  obtain ⟨⟨v1, v2⟩, v3, v4, v5, v6, v7, v8, v9, v10, v11, v12⟩ := hV'
  have hb := pow_B v4
  have hfe : fe < 1024 := by omega
  have bv := bgv_of hBX
  have hmi6 : ∀ i, i < 3 → 0 ≤ mi i ∧ mi i ≤ 1000000 := fun i hi => by have := hmi i hi; omega
  have hmi2 : ∀ i, i < 3 → miM i = mi i ∧ 0 ≤ mi i ∧ mi i ≤ 200000 := fun i hi => by have := hmi i hi; exact ⟨hmie i hi, by omega⟩
  have hmi9 : ∀ i, i < 3 → miM i = mi i ∧ 0 ≤ mi i ∧ mi i ≤ 900000 := fun i hi => by have := hmi i hi; exact ⟨hmie i hi, by omega⟩
  have hmM : ∀ i, i < 3 → 0 ≤ miM i ∧ miM i ≤ 200000 := fun i hi => by have := hmi2 i hi; omega
  have hmM6 : ∀ i, i < 3 → 0 ≤ miM i ∧ miM i ≤ 1000000 := fun i hi => by have := hmi2 i hi; omega
  have hf0 : 0 ≤ feM 0 := by omega
  have hf1 : feM 0 < 1024 := by omega
  obtain ⟨hfa, hah, hbn, hle, hdu, hoa⟩ := av
  have hX0 := hX
  obtain ⟨⟨rl, R, hr1, hr2⟩, ⟨H2, hH2⟩, ⟨n1, a1, a2, a3, a4, a5, a6, hA1⟩, ⟨men, who, ab, gn, hSh, hSb⟩, ⟨oc, tk, fr, ou, hCr⟩, l1, l2, hStr⟩ := hX0
  have ho2 : 19 ≤ o2 ∧ o2 + 31 ≤ 81 := by omega
  have hsame := re_same (tx := tx) (len := len) (R := R) (H := H2) (T := T)
  have hRv := reF_v (tx := tx) (H2 := H2) hr2 hlen
  have hVn := reF_V (tx := tx) (len := len) (R := R) (H := H2)
  have hcall := cF_house (X := X) (d := d) (z := z) (by omega) x0 ho2 ⟨hr1, g17⟩ hr2 hlen htx hStr hH2 hPl hI0 hI1 hB hA g81 ht hw0 hwo0 hBX.2.2.2.2.2.2.1 hBX.2.2.2.2.2.2.2.1
  have hlo := lo_F (T := T) (tx := tx) (len := len)
  obtain ⟨G0, hG0⟩ : ∃ G, reF tx len R H2 = G := ⟨_, rfl⟩
  obtain ⟨Fx, hFx⟩ : ∃ G, mhF tx len T = G := ⟨_, rfl⟩
  rw [hG0, hFx] at hsame
  rw [hG0] at hRv hVn hcall
  rw [hFx] at hlo
  obtain ⟨it, R3, ⟨n3, W3, B3, M3, F3, D3⟩, wy3, bu3, ld3, fi3⟩ := G0
  dsimp only at hsame hRv hVn hcall
  refine pair_mk hcall rfl ?_
  rintro h1 ⟨hbad, hgood⟩
  obtain ⟨hi, ⟨g1, g2, g3⟩ | ⟨g1, g2, g3⟩⟩ := hsame
  · obtain ⟨k16, kR, kH, kP, kI0, kI1, ⟨wt', wo', ro', ir', od', lb', tr', kB, kF, kb⟩, kD, kf⟩ := hgood g1
    have hV3 := hVn g1
    obtain ⟨fa', ah', bn', le', du', oa', hA3, hDE⟩ := dr_of (f := 0) (n' := 0) kD
    have hoH : HoH h1 o ((n, W, B, M, F, D), wy, bu, ld, fi) := HoC.fr hH (fun b b1 b2 => kf b (by omega) (by omega) (by omega) (by omega))
    have hc1 : CS h1 0 o2 o n3 W3 B3 M3 F3 D3 0 0 tc wy3 bu3 fi3 ld3 tx tn ch (tabF 3 (fun _ => 0) mi) m0 m1 f0 s0 f1 s1 ke 0 0 wt' wo' ro' ir' od' lb' tr' fa' ah' bn' le' du' oa' := ⟨k16, kH, kP, kB, hA3, (kf 122 (by omega) (by omega) (by omega) (by omega)).trans g122, (kf 81 (by omega) (by omega) (by omega) (by omega)).trans g81, kR.2, kI0, kI1, ⟨⟨len, R3, kR.1, hRv⟩, ⟨_, hoH⟩, ⟨n1, a1, a2, a3, a4, a5, a6, hA1.fr (fun b b1 b2 => kf b (by omega) (by omega) (by omega) (by omega))⟩, ⟨men, who, ab, gn, hSh.fr (fun b b1 b2 => kf b (by omega) (by omega) (by omega) (by omega)), hSb⟩, ⟨oc, tk, fr, ou, hCr.fr (fun b b1 b2 => kf b (by omega) (by omega) (by omega) (by omega))⟩, (kf 1 (by omega) (by omega) (by omega) (by omega)).trans l1, (kf 2 (by omega) (by omega) (by omega) (by omega)).trans l2, fun i hi => ⟨(kf _ (by omega) (by omega) (by omega) (by omega)).trans (hStr i hi).1, (kf _ (by omega) (by omega) (by omega) (by omega)).trans (hStr i hi).2⟩⟩, by omega⟩
    have hM1 : MS2 h1 len tc ch T RM y8 y9 y10 tb tnM am1 am2 am3 miM feM ks ik := hM.fr (fun b b1 b2 => kf b (by omega) (by omega) (by omega) (by omega))
    refine ⟨kf 0 (by omega) (by omega) (by omega) (by omega), kf 123 (by omega) (by omega) (by omega) (by omega), ?_⟩
    obtain ⟨m00, g124, hmm, g141, g142, g143, g144, g145, g146, g147, g148, g149, ⟨z1, g150⟩, ⟨z2, g151⟩, ⟨z3, g152⟩, ⟨z4, g153⟩, ⟨z5, g154⟩⟩ := hM1
    have mo := m00.trans (mR_e _ _ _ _ _ _)
    obtain ⟨g125, g126, g127, g128, g129, g130, g131, g132, g133, g134, g135, g136, g137, g138, g139, g140⟩ := mcl_h hmm
    have hIW : IW tc len y8 y9 y10 h1 h1 RM T := ⟨m00, hmm, fun _ _ => rfl⟩
    refine call_mono (cM_house (by omega) hIW g124 htb hlen g141 g146 g147 g149 hFx) ?_
    rintro o' h2 z' ⟨rfl, p1, p2, p3, p4⟩
    obtain ⟨q1, q2, q3, q4, q5, q6, q7, q8⟩ := p4 g2
    have ans : reA (it, R3, (n3, W3, B3, M3, F3, D3), wy3, bu3, ld3, fi3) = ((Fx.1 : Nat) : Int) := by
      rw [← hi]
      exact if_pos g1
    have hf2 : ∀ b, b < 123 → h2 b = h1 b := fun b hb => q8 b (by omega) (by omega) (by omega) (by omega) (by omega)
    have hm2 : MS2 h2 0 tc ch (mhC Fx.2.2) Fx.2.1 y8 y9 y10 tb (upF tnM 4 0) am1 am2 am3 (mi0M miM) (upF feM 0 0) ks (upF (upF ik 0 0) 1 0) := ⟨q2, (q8 124 (by omega) (by omega) (by omega) (by omega) (by omega)).trans g124, q3, q4, (q8 142 (by omega) (by omega) (by omega) (by omega) (by omega)).trans g142, (q8 143 (by omega) (by omega) (by omega) (by omega) (by omega)).trans g143, (q8 144 (by omega) (by omega) (by omega) (by omega) (by omega)).trans g144, (q8 145 (by omega) (by omega) (by omega) (by omega) (by omega)).trans g145, q5, q6, (q8 148 (by omega) (by omega) (by omega) (by omega) (by omega)).trans g148, q7, ⟨z1, (q8 150 (by omega) (by omega) (by omega) (by omega) (by omega)).trans g150⟩, ⟨z2, (q8 151 (by omega) (by omega) (by omega) (by omega) (by omega)).trans g151⟩, ⟨z3, (q8 152 (by omega) (by omega) (by omega) (by omega) (by omega)).trans g152⟩, ⟨z4, (q8 153 (by omega) (by omega) (by omega) (by omega) (by omega)).trans g153⟩, ⟨z5, (q8 154 (by omega) (by omega) (by omega) (by omega) (by omega)).trans g154⟩⟩
    have hm0 := mi0_h miM
    have hH3 : HmV n3 W3 B3 M3 F3 D3 wy3 bu3 fi3 ld3 (mhC Fx.2.2) := hm_new hV3 g3
    have hB3 : BaV n3 B3 M3 (mhC Fx.2.2).2.2.1 (mhC Fx.2.2).2.2.2.1 wt' wo' ro' ir' od' lb' tr' := ba_new hH3.1 kF kb hH3.2.2.2.1 hH3.2.2.2.2.1
    exact ⟨q1.trans (by rw [ans]), rfl, (hf2 0 (by omega)).trans (kf 0 (by omega) (by omega) (by omega) (by omega)), _, _, _, _, _, _, _, _, _, _, _, _, _, _, _, _, _, _, _, _, _, _, _, _, _, _, _, _, _, _, _, _, _, _, _, _, _, _, _, _, _, _, _, _, _, _, _, _, _, _, _, _, _, _, _, _, hc1.fr hf2, hm2, ⟨ht, hch, htx, Nat.zero_le _, Nat.two_pow_pos _, by decide, fun i hi => by rw [tab3 _ _ hi]; exact ⟨by omega, fun _ => rfl⟩, ⟨Or.inl rfl, fun e => absurd e (by decide)⟩, ⟨Or.inl rfl, fun e => absurd e (by decide)⟩⟩, hH3, hB3, ⟨htb, tn_up htn, if_pos rfl, fun i hi => by rw [hm0.1 i hi, tab3 _ _ hi], if_pos rfl, ⟨rfl, fun e => absurd e (by decide)⟩, ⟨if_pos rfl, fun e => absurd e (by decide)⟩⟩, hDE⟩
  · obtain ⟨kR, kH, kf⟩ := hbad g1
    have hc1 : CS h1 len o o2 n W B M F D fe sh tc wy bu fi ld tx tn ch mi m0 m1 f0 s0 f1 s1 ke k0 k1 wt wo ro ir od lb tr fa ah bn le du oa := ⟨(kf 16 (by omega) (by omega)).trans x0, HoC.fr hH (fun b b1 b2 => kf b (by omega) (by omega)), hPl.frr (kf _ (by omega) (by omega)) (kf _ (by omega) (by omega)), hB.fr (fun b b1 b2 => kf b (by omega) (by omega)), hA.fr (fun b b1 b2 => kf b (by omega) (by omega)), (kf 122 (by omega) (by omega)).trans g122, (kf 81 (by omega) (by omega)).trans g81, kR.2, hI0.frr (kf _ (by omega) (by omega)) (kf _ (by omega) (by omega)), hI1.frr (kf _ (by omega) (by omega)) (kf _ (by omega) (by omega)), ⟨⟨len, R3, kR.1, hRv⟩, ⟨_, kH⟩, ⟨n1, a1, a2, a3, a4, a5, a6, hA1.fr (fun b b1 b2 => kf b (by omega) (by omega))⟩, ⟨men, who, ab, gn, hSh.fr (fun b b1 b2 => kf b (by omega) (by omega)), hSb⟩, ⟨oc, tk, fr, ou, hCr.fr (fun b b1 b2 => kf b (by omega) (by omega))⟩, (kf 1 (by omega) (by omega)).trans l1, (kf 2 (by omega) (by omega)).trans l2, fun i hi => ⟨(kf _ (by omega) (by omega)).trans (hStr i hi).1, (kf _ (by omega) (by omega)).trans (hStr i hi).2⟩⟩, hoo⟩
    have hM1 : MS2 h1 len tc ch T RM y8 y9 y10 tb tnM am1 am2 am3 miM feM ks ik := hM.fr (fun b b1 b2 => kf b (by omega) (by omega))
    refine ⟨kf 0 (by omega) (by omega), kf 123 (by omega) (by omega), ?_⟩
    obtain ⟨m00, g124, hmm, g141, g142, g143, g144, g145, g146, g147, g148, g149, ⟨z1, g150⟩, ⟨z2, g151⟩, ⟨z3, g152⟩, ⟨z4, g153⟩, ⟨z5, g154⟩⟩ := hM1
    have mo := m00.trans (mR_e _ _ _ _ _ _)
    obtain ⟨g125, g126, g127, g128, g129, g130, g131, g132, g133, g134, g135, g136, g137, g138, g139, g140⟩ := mcl_h hmm
    have hIW : IW tc len y8 y9 y10 h1 h1 RM T := ⟨m00, hmm, fun _ _ => rfl⟩
    refine call_mono (cM_house (by omega) hIW g124 htb hlen g141 g146 g147 g149 hFx) ?_
    rintro o' h2 z' ⟨rfl, p1, p2, p3, p4⟩
    obtain ⟨q1, i1, i2, i3⟩ := p3 (by omega)
    have ans : reA (it, R3, (n3, W3, B3, M3, F3, D3), wy3, bu3, ld3, fi3) = -10 - Fx.2.1.2.2.2.2.1 := by
      rw [g3]
      exact if_neg g1
    have hf2 : ∀ b, b < 123 → h2 b = h1 b := fun b hb => i3 b (by omega)
    have hm2 : MS2 h2 len tc ch Fx.2.2 Fx.2.1 y8 y9 y10 tb tnM am1 am2 am3 miM feM ks ik := ⟨i1, (i3 124 (by omega)).trans g124, i2, (i3 141 (by omega)).trans g141, (i3 142 (by omega)).trans g142, (i3 143 (by omega)).trans g143, (i3 144 (by omega)).trans g144, (i3 145 (by omega)).trans g145, (i3 146 (by omega)).trans g146, (i3 147 (by omega)).trans g147, (i3 148 (by omega)).trans g148, (i3 149 (by omega)).trans g149, ⟨z1, (i3 150 (by omega)).trans g150⟩, ⟨z2, (i3 151 (by omega)).trans g151⟩, ⟨z3, (i3 152 (by omega)).trans g152⟩, ⟨z4, (i3 153 (by omega)).trans g153⟩, ⟨z5, (i3 154 (by omega)).trans g154⟩⟩
    have hS' := hS.mono
    exact ⟨q1.trans (by rw [ans]), rfl, (hf2 0 (by omega)).trans (kf 0 (by omega) (by omega)), _, _, _, _, _, _, _, _, _, _, _, _, _, _, _, _, _, _, _, _, _, _, _, _, _, _, _, _, _, _, _, _, _, _, _, _, _, _, _, _, _, _, _, _, _, _, _, _, _, _, _, _, _, _, _, _, hc1.fr hf2, hm2, hS'.1, hm_lo hS'.2.1 hlo, ba_lo hS'.2.2.1 hlo, hS'.2.2.2.1, hS'.2.2.2.2⟩
end SX
