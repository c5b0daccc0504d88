/-! c5: an Atlas newly drawn -/
section DR
variable {n W B M F D sh : Nat} {wy bu fi wT bT fT : Nat → Nat → Int} {ld lT tn tnM fa0 ah0 bn0 le0 du0 od0 fa1 ah1 bn1 le1 du1 od1 fa ah bn : Nat → Int}
/-- what draw() leaves, out of what was there -/
def DrV (n W F : Nat) (wy fi : Nat → Nat → Int) (tn : Nat → Int) (sh : Nat) (fa0 ah0 bn0 le0 du0 od0 fc ac bc lc dc oc : Nat → Int) : Prop := fc = farC n W wy sh fa0 ∧ ac = ahC n W fc wy sh ah0 ∧ bc = buC tn n W F wy fi sh bn0 ∧ lc = tabF n (lvV bc (tn 2)) le0 ∧ dc = dDu n ac lc fc du0 ∧ oc = ordC n dc od0
theorem dr_av (hV : HoV n W B M F D wy bu ld fi) (ht : TnV tn) {fc ac bc lc dc oc : Nat → Int} (h : DrV n W F wy fi tn sh fa0 ah0 bn0 le0 du0 od0 fc ac bc lc dc oc) : ∃ oN, AtV n fc ac bc lc dc oc oN ∧ OrdP n dc oN := by
  obtain ⟨rfl, rfl, rfl, rfl, rfl, rfl⟩ := h
  have hwy := hV.wy
  have hfi := hV.fi
  have v2 := hV.1.2
  have v3 := hV.2.1
  have hfaK : OkV n (farC n W wy sh fa0) 900000 := (farC_ok v3 hwy n (ini_ok n fa0)).mono (by omega)
  have hahK : OkV n (ahC n W (farC n W wy sh fa0) wy sh ah0) (n - 1) := ahC_ok hwy W (Nat.le_refl _) (iniF_ok n ah0 _)
  have hbuK : OkV n (buC tn n W F wy fi sh bn0) 900000 := (buC_ok (sh := sh) ht v3 hwy n (stepFi_ok hfi F (Nat.le_refl _) (iniF_ok n bn0 99))).mono (by omega)
  have hleK : OkV n (tabF n (lvV (buC tn n W F wy fi sh bn0) (tn 2)) le0) 900000 := lv_ok hbuK ht.2.2.2.2.1
  obtain ⟨oN, o1, o2⟩ := ord_all (du := dDu n (ahC n W (farC n W wy sh fa0) wy sh ah0) (tabF n (lvV (buC tn n W F wy fi sh bn0) (tn 2)) le0) (farC n W wy sh fa0) du0) (od := od0) n
  refine ⟨oN, ⟨hfaK, hahK.mono (by omega), hbuK, hleK, fun i hi => ?_, fun j hj => ⟨o1 j hj, o2.1 j hj⟩⟩, o2⟩
  unfold dDu tabF
  rw [if_pos hi]
  have := chD_ok hahK hleK hfaK hi n
  unfold tabF at this
  exact this
theorem bnM_tn {k : Nat} (h0 : tnM 0 = tn 0) (h1 : tnM 1 = tn 1) : bnM W F sh tnM wT fT bn k = bnM W F sh tn wT fT bn k := by
  have : sM tnM wT sh = sM tn wT sh := by
    funext w
    unfold sM
    rw [h0, h1]
  unfold bnM
  rw [this]
theorem dr_lk (hV : HoV n W B M F D wy bu ld fi) (ht : TnV tn) (hW : WTx W wy wT) (hF : FTx F fi fT) (h0 : tnM 0 = tn 0) (h1 : tnM 1 = tn 1) {fc ac bc lc dc oc : Nat → Int} (h : DrV n W F wy fi tn sh fa0 ah0 bn0 le0 du0 od0 fc ac bc lc dc oc) : LkV n fc ac bc lc dc (faM W sh wT fa 8) (ahM W sh wT (faM W sh wT fa 8) ah W) (bnM W F sh tnM wT fT bn 8) (tn 2) := by
  obtain ⟨rfl, rfl, rfl, rfl, rfl, rfl⟩ := h
  have hwy := hV.wy
  have hfi := hV.fi
  have v1 := hV.1.1
  have v2 := hV.1.2
  have v3 := hV.2.1
  have v6 := hV.2.2.2.2.1
  have hT : WTv W wy wT := fun w hw => ⟨hW w hw 0 (by decide), hW w hw 1 (by decide), hW w hw 2 (by decide)⟩
  have hFT : ∀ f, f < F → fT 0 f = fi f 0 ∧ fT 1 f = fi f 1 := fun f hf => ⟨hF f hf 0 (by decide), hF f hf 1 (by decide)⟩
  rw [bnM_tn h0 h1]
  have hR := far_rel (sh := sh) (f := fa0) (fa := fa) v1 v2 v3 hwy hT
  have hB := bur_rel (sh := sh) (b := bn0) (bn := bn) v2 v3 ht hwy hfi hT hFT
  have hab : ∀ w, w < W → aM wT w < 8 ∧ bM wT w < 8 := fun w hw => by
    have hv := hwy w hw
    obtain ⟨t1, t2, t3⟩ := hT w hw
    unfold aM bM
    rw [t1, t2]
    omega
  have hcM : ∀ w, w < W → 0 ≤ cM wT w := fun w hw => by
    have hv := hwy w hw
    have t3 := (hT w hw).2.2
    unfold cM
    omega
  have hc1 : ∀ w, w < W → 1 ≤ wT 2 w := fun w hw => by
    have hv := hwy w hw
    have t3 := (hT w hw).2.2
    omega
  have hsM : ∀ w, w < W → 0 ≤ sM tn wT sh w := fun w hw => by
    have hv := hwy w hw
    have t3 := (hT w hw).2.2
    have := sM_b (sh := sh) ht (w := w) (wT := wT) (by omega) (by omega)
    omega
  have h8 : Lt8 (faM W sh wT fa 8) := eG_b (op := opM sh) hab hcM (f0M_b fa) 8
  have hb8 : Lt8 (bnM W F sh tn wT fT bn 8) := eG_b (op := fun _ => true) hab hsM (b1M_b (bn := bn) (n := n) (fun f hf => by
    have := hfi f hf
    obtain ⟨q0, q1⟩ := hFT f hf
    omega) F (Nat.le_refl _)) 8
  have hahK : OkV n (ahC n W (farC n W wy sh fa0) wy sh ah0) (n - 1) := ahC_ok hwy W (Nat.le_refl _) (iniF_ok n ah0 _)
  refine ⟨hR, fun r hr => ah_same (sh := sh) (A := ah0) (ah := ah) v2 hwy hT hR W (Nat.le_refl _) r hr, hB, fun r hr => ?_, fun r hr => ?_, fun r hr => ?_, ahM_c (fun w hw => ⟨(hab w hw).1, (hab w hw).2, hc1 w hw⟩) W (Nat.le_refl _), ?_, far_b v2 hwy hT, h8, hb8, ⟨ht.2.2.2.2.1, ht.2.2.2.2.2.1⟩, v1, v2⟩
  · unfold tabF
    rw [if_pos hr]
  · unfold dDu
    show tabF n _ du0 r = _
    unfold tabF
    rw [if_pos hr]
  · have := hahK r hr
    omega
  · have hz := (h8 0 (by decide)).1
    have hle := eG_le (W := W) (op := opM sh) (a := aM wT) (b := bM wT) (c := cM wT) (F0 := f0M fa) 0 0 8
    rw [Nat.zero_add] at hle
    have e0 : eG W (opM sh) (aM wT) (bM wT) (cM wT) (f0M fa) 0 0 = 0 := rfl
    have : faM W sh wT fa 8 0 ≤ 0 := by
      unfold faM
      omega
    omega
/-- what was there before does not count -/
theorem rel_un {f f' g : Nat → Int} (h : RelV n f g) (h' : RelV n f' g) : ∀ r, r < n → f r = f' r := fun r hr => by
  have a := h r hr
  have b := h' r hr
  omega
theorem chD_cg {ac ac' lc lc' fc fc' : Nat → Int} (hok : ∀ r, r < n → ac r = -9 ∨ (0 ≤ ac r ∧ ac r < n)) (ha : ∀ r, r < n → ac r = ac' r) (hl : ∀ r, r < n → lc r = lc' r) (hf : ∀ r, r < n → fc r = fc' r) {r : Nat} (hr : r < n) : ∀ k, chD ac lc fc r k = chD ac' lc' fc' r k
  | 0 => rfl
  | k + 1 => by
    show duV lc fc (chX ac r k) (chD ac lc fc r k) = duV lc' fc' (chX ac' r k) (chD ac' lc' fc' r k)
    obtain ⟨c1, c2⟩ := chX_cg hok ha hr k
    rw [← c1, chD_cg hok ha hl hf hr k]
    unfold duV
    by_cases e : chX ac r k = -9
    · rw [if_pos e, if_pos e]
    · have h3 := c2.resolve_left e
      rw [hl _ (by omega), hf _ (by omega)]
theorem lk_cg {fc ac bc lc dc fc' ac' bc' lc' dc' fm am bm : Nat → Int} {s : Int} (h : LkV n fc ac bc lc dc fm am bm s) (h' : LkV n fc' ac' bc' lc' dc' fm am bm s) : ∀ r, r < n → fc r = fc' r ∧ dc r = dc' r := by
  have hf := rel_un h.1 h'.1
  have hb := rel_un h.2.2.1 h'.2.2.1
  have ha : ∀ r, r < n → ac r = ac' r := fun r hr => by rw [h.2.1 r hr, h'.2.1 r hr]
  have hl : ∀ r, r < n → lc r = lc' r := fun r hr => by
    rw [h.2.2.2.1 r hr, h'.2.2.2.1 r hr]
    unfold lvV
    rw [hb r hr]
  intro r hr
  refine ⟨hf r hr, ?_⟩
  rw [h.2.2.2.2.1 r hr, h'.2.2.2.2.1 r hr]
  exact chD_cg h.2.2.2.2.2.1 ha hl hf hr n
theorem ord_un {du du' : Nat → Int} {oN oN' : Nat → Nat} (h : OrdP n du oN) (h' : OrdP n du' oN') (hd : ∀ r, r < n → du r = du' r) : ∀ j, j < n → oN j = oN' j := by
  intro j hj
  obtain ⟨i, i1, i2⟩ := h'.2.1 (oN j) (h.1 j hj)
  have a := ord_rank h (p := fun x => decide (du x < du (oN j) ∨ (du x = du (oN j) ∧ x < oN j))) hj (fun x hx => by rw [decide_eq_true_eq]; exact Iff.rfl)
  have b := ord_rank h' (p := fun x => decide (du x < du (oN j) ∨ (du x = du (oN j) ∧ x < oN j))) i1 (fun x hx => by
    rw [decide_eq_true_eq, i2]
    unfold BefF
    rw [hd x hx, hd _ (h.1 j hj)])
  rw [← i2, ← a.symm.trans b]
theorem finR_cg {oN oN' ir : Nat → Nat} {fc fc' dc dc' : Nat → Int} {tr : Nat → Nat} {S : Nat} (ho : ∀ j, j < n → oN j = oN' j ∧ oN j < n) (hc : ∀ r, r < n → fc r = fc' r ∧ dc r = dc' r) : ∀ k i t, i + k ≤ n → finR oN ir fc dc tr S k i t = finR oN' ir fc' dc' tr S k i t
  | 0, _, _, _ => rfl
  | k + 1, i, t, h => by
    obtain ⟨o1, o2⟩ := ho i (by omega)
    obtain ⟨c1, c2⟩ := hc (oN i) o2
    unfold finR
    rw [← o1, ← c1, ← c2]
    simp only [finR_cg ho hc k (i + 1) _ (show i + 1 + k ≤ n by omega)]
end DR
