/-! b6: place, one -/
theorem ws_pow {T : Nat → Int} (b : Nat) : ∀ k, wsF T (2 ^ b) k = if b < k then T b else 0
  | 0 => by rw [if_neg (by omega)]; rfl
  | k + 1 => by
    show wsF T (2 ^ b) k + bi (2 ^ b) k * T k = _
    rw [ws_pow b k]
    unfold bi
    rw [Nat.testBit_two_pow]
    by_cases e : b = k
    · subst e
      rw [if_neg (by omega), if_pos (by simp), if_pos (by omega)]
      omega
    · rw [if_neg (show ¬ decide (b = k) = true by simpa using e), Int.zero_mul]
      by_cases c : b < k
      · rw [if_pos c, if_pos (show b < k + 1 by omega)]
        omega
      · rw [if_neg c, if_neg (show ¬ b < k + 1 by omega)]
        omega
section AN
variable {n W B M F D sh : Nat} {wy bu fi wT bT fT : Nat → Nat → Int} {lT wt wo ro ld mi miM feM od : Nat → Int} {ir bN oN : Nat → Nat} {lb : Nat → Int} {tr : Nat → Nat → Int} {fe : Nat} {fc ac bc lc dc fm am bm : Nat → Int} {s x y t v : Int}
theorem wo_pow (hX : BgX n B M bT lT wt wo ro ir lb tr) {b : Nat} (hb : b < B) : wo (2 ^ b) = bT 2 b := by
  have h1 : 2 ^ b < 2 ^ B := Nat.pow_lt_pow_right (by decide) hb
  rw [hX.2.1 _ h1, ws_pow, if_pos hb]
theorem wt_pow (hX : BgX n B M bT lT wt wo ro ir lb tr) {b : Nat} (hb : b < B) : wt (2 ^ b) = bT 1 b := by
  have h1 : 2 ^ b < 2 ^ B := Nat.pow_lt_pow_right (by decide) hb
  rw [hX.1 _ h1, ws_pow, if_pos hb]
theorem bef_wo (hX : BgX n B M bT lT wt wo ro ir lb tr) {a b : Nat} (ha : a < B) (hb : b < B) : BefF (dvF wo) a b ↔ (bT 2 b < bT 2 a ∨ (bT 2 a = bT 2 b ∧ a < b)) := by
  unfold BefF dvF
  rw [wo_pow hX ha, wo_pow hX hb]
  omega
theorem plc_same (hX : BgX n B M bT lT wt wo ro ir lb tr) (hL : LkV n fc ac bc lc dc fm am bm s) (ho : ∀ j, j < B → od j = ((bN j : Nat) : Int)) (hO : OrdP B (dvF wo) bN) : awP n B od lc fc x y = amP n B (bT 2) (fun r => leM bm s r 0) fm x y := by
  have hlv := hL.lv
  generalize (fun r => leM bm s r 0) = LE at hlv ⊢
  unfold awP amP
  by_cases c : (0 ≤ x ∧ x < B) ∧ 1 ≤ y ∧ y ≤ 9
  · rw [if_pos c, if_pos c]
    have hb : x.toNat < B := by omega
    have hrank : ((plW od B x.toNat : Nat) : Int) = rnF (bT 2) x.toNat B := by
      obtain ⟨j, j1, j2⟩ := hO.2.1 _ hb
      have hpl : plW od B x.toNat = j := by
        unfold plW
        have hle : chF (fun i => decide (od i = x)) B 0 ≤ j := by
          rcases Nat.lt_or_ge j (chF (fun i => decide (od i = x)) B 0) with w | w
          · have := chF_no (fun i => decide (od i = x)) B 0 j (Nat.zero_le _) w
            rw [decide_eq_true (by rw [ho j j1, j2]; omega)] at this
            exact absurd this (by decide)
          · exact w
        have hat := chF_at (fun i => decide (od i = x)) B 0 (by omega)
        have hat2 := of_decide_eq_true hat
        have hlt : chF (fun i => decide (od i = x)) B 0 < B := by omega
        rw [ho _ hlt] at hat2
        have := hO.inj hlt j1 (by omega)
        rw [show ((x.toNat : Nat) : Int) = x by omega]
        exact this
      have hcnt : rnF (bT 2) x.toNat B = ((cnt B (fun o => decide (bT 2 x.toNat < bT 2 o ∨ (bT 2 o = bT 2 x.toNat ∧ o < x.toNat))) : Nat) : Int) := by
        have : ∀ k, rnF (bT 2) x.toNat k = ((cnt k (fun o => decide (bT 2 x.toNat < bT 2 o ∨ (bT 2 o = bT 2 x.toNat ∧ o < x.toNat))) : Nat) : Int) := by
          intro k
          induction k with
          | zero => rfl
          | succ k ih =>
            show rnF (bT 2) x.toNat k + (if bT 2 x.toNat < bT 2 k ∨ (bT 2 k = bT 2 x.toNat ∧ k < x.toNat) then 1 else 0) = _
            rw [ih, cnt_s]
            by_cases w : bT 2 x.toNat < bT 2 k ∨ (bT 2 k = bT 2 x.toNat ∧ k < x.toNat)
            · rw [if_pos w, decide_eq_true w, if_pos rfl]
              omega
            · rw [if_neg w, decide_eq_false w, if_neg (by decide)]
              omega
        exact this B
      rw [hpl, hcnt]
      have := ord_rank hO (p := fun o => decide (bT 2 x.toNat < bT 2 o ∨ (bT 2 o = bT 2 x.toNat ∧ o < x.toNat))) j1 (fun o hob => by
        rw [decide_eq_true_eq, j2]
        exact (bef_wo hX hob hb).symm)
      rw [this]
    have hrb : ∀ r, r < n → rbF lc fc r n = bbF LE fm r n := by
      intro r hr
      have hR := hL.1
      have e1 : ∀ i, i < n → orN (lc i) = LE i := fun i hi => by
        have := hlv i hi
        unfold orN
        split <;> omega
      have e2 : ∀ i, i < n → orN (fc i) = fm i := fun i hi => by
        have := hR i hi
        unfold orN
        split <;> omega
      have hbit : ∀ i, i < n → ((i ≠ r ∧ bpF lc fc i r = true) ↔ ibM LE fm i r = true) := by
        intro i hi
        unfold bpF ibM
        rw [e1 i hi, e1 r hr, e2 i hi, e2 r hr]
        by_cases c1 : LE i = LE r
        · rw [if_neg (fun w => w c1), if_neg (show ¬ LE i - LE r ≠ 0 by omega)]
          by_cases c2 : fm i = fm r
          · rw [if_neg (fun w => w c2), decide_eq_true_eq]
            omega
          · rw [if_pos c2, decide_eq_true_eq]
            refine ⟨fun w => w.2, fun w => ⟨fun e => c2 (by rw [e]), w⟩⟩
        · rw [if_pos c1, if_pos (show LE i - LE r ≠ 0 by omega), decide_eq_true_eq, decide_eq_true_eq]
          refine ⟨fun w => by omega, fun w => ⟨fun e => c1 (by rw [e]), by omega⟩⟩
      have key : ∀ k, k ≤ n → rbF lc fc r k = bbF LE fm r k := by
        intro k
        induction k with
        | zero => intro _; rfl
        | succ k ih =>
          intro hk
          show (if k ≠ r ∧ bpF lc fc k r = true then rbF lc fc r k + 1 else rbF lc fc r k) = bbF LE fm r k + (if ibM LE fm k r = true then 1 else 0)
          rw [ih (by omega)]
          by_cases w : k ≠ r ∧ bpF lc fc k r = true
          · rw [if_pos w, if_pos ((hbit k (by omega)).mp w)]
          · rw [if_neg w, if_neg (fun q => w ((hbit k (by omega)).mpr q))]
            omega
      exact key n (Nat.le_refl _)
    have hpr : ∀ k p, p + k ≤ n → plR (fun r => decide (rbF lc fc r n = (plW od B x.toNat : Int).tdiv y)) k p = plR (fun r => decide (bbF LE fm r n = (rnF (bT 2) x.toNat B).tdiv y)) k p := by
      intro k
      induction k with
      | zero => intro p _; rfl
      | succ k ih =>
        intro p hp
        unfold plR
        rw [ih (p + 1) (by omega), hrb p (by omega), hrank]
    exact hpr n 0 (by omega)
  · rw [if_neg c, if_neg c]
/-! one -/
theorem fin_b {wt : Nat → Int} {tr : Nat → Nat} {L : Int} (hV : DpV n B oN ir fc dc wt tr L) (ht0 : 0 ≤ t) (ht1 : t ≤ 500000) (S : Nat) : finR oN ir fc dc tr S n 0 t = -9 ∨ (0 ≤ finR oN ir fc dc tr S n 0 t ∧ finR oN ir fc dc tr S n 0 t ≤ 900000) := by
  have h2 := finR_e (n := n) (od := oN) (ir := ir) (fa := fc) (due := dc) (tr := tr) t S n 0 (by omega) (fun j hj => absurd hj (Nat.not_lt_zero _))
  have e0 : pfx oN ir fc tr S 0 = 0 := rfl
  rw [e0, Int.add_zero] at h2
  by_cases c : canS n oN ir fc dc tr t S
  · right
    rw [h2.1 c]
    have hb := pfx_hi hV c n (Nat.le_refl _)
    have hb0 := pfx_mono hV c 0 n (by omega)
    rw [Nat.zero_add] at hb0
    have hn8 := hV.2.2.2.2.2.2.1
    omega
  · left
    exact h2.2 c
theorem fin_0 {tr : Nat → Nat} : ∀ k i t, finR oN ir fc dc tr 0 k i t = t
  | 0, _, _ => rfl
  | k + 1, i, t => by
    unfold finR
    rw [if_pos (Nat.zero_and _)]
    exact fin_0 k (i + 1) t
/-- the model's table, from finish() -/
def vtF (may : Nat) (fin : Nat → Int) (S : Nat) : Int := if nDif S may = 0 then (if fin S = -9 then 1000000 else fin S) else 1000000
theorem bst_same {wo wo' fin : Nat → Int} {U B : Nat} (hU : U < 2 ^ B) (hwo : ∀ S, S < 2 ^ B → wo S = wo' S) (hf : ∀ S, fin S = -9 ∨ (0 ≤ fin S ∧ fin S ≤ 900000)) : bstF wo fin U U = mxF (vtF U fin) wo' (2 ^ B) := by
  have h1 : ∀ k, k ≤ U → bstF wo fin U k = mxF (vtF U fin) wo' (k + 1) := by
    intro k
    induction k with
    | zero =>
      intro _
      show 0 = mxS (vtF U fin) wo' 0 0
      unfold mxS
      rw [if_neg (by omega)]
    | succ k ih =>
      intro hk
      have i1 := ih (by omega)
      have hle := bst_le wo fin U k
      show bstS wo fin U k (bstF wo fin U k) = mxS (vtF U fin) wo' (k + 1) (mxF (vtF U fin) wo' (k + 1))
      rw [← i1]
      unfold bstS mxS vtF
      rw [← hwo (k + 1) (by omega), ← hwo (bstF wo fin U k) (by omega)]
      have hfk := hf (k + 1)
      by_cases c1 : nDif (k + 1) U = 0
      · rw [if_pos c1]
        by_cases c2 : fin (k + 1) = -9
        · rw [if_pos c2, if_pos (Or.inr (Or.inr c2)), if_neg (by omega)]
        · rw [if_neg c2]
          by_cases c3 : wo (k + 1) ≤ wo (bstF wo fin U k)
          · rw [if_pos (Or.inr (Or.inl c3)), if_neg (by omega)]
          · rw [if_neg (fun w => w.elim (fun q => q c1) (fun q => q.elim c3 c2)), if_pos (by omega)]
      · rw [if_neg c1, if_pos (Or.inl c1), if_neg (by omega)]
  have h2 : ∀ j, U + 1 + j ≤ 2 ^ B → mxF (vtF U fin) wo' (U + 1 + j) = mxF (vtF U fin) wo' (U + 1) := by
    intro j
    induction j with
    | zero => intro _; rfl
    | succ j ih =>
      intro hj
      show mxS (vtF U fin) wo' (U + 1 + j) (mxF (vtF U fin) wo' (U + 1 + j)) = _
      have c : ¬ nDif (U + 1 + j) U = 0 := fun w => by
        have := (sub_iff.mp w).le
        omega
      unfold mxS vtF
      rw [if_neg c, if_neg (fun w => absurd w.1 (by decide))]
      exact ih (by omega)
  have h3 := h2 (2 ^ B - (U + 1)) (by omega)
  rw [show U + 1 + (2 ^ B - (U + 1)) = 2 ^ B by omega] at h3
  rw [h3]
  exact h1 U (Nat.le_refl _)
theorem bst_fin {wo fin : Nat → Int} {U : Nat} (h0 : fin 0 ≠ -9) : ∀ k, fin (bstF wo fin U k) ≠ -9 ∧ (nDif (bstF wo fin U k) U = 0)
  | 0 => ⟨h0, by show nDif 0 U = 0; exact sub_iff.mpr (Sub.zero _)⟩
  | k + 1 => by
    have ih := bst_fin (wo := wo) (U := U) h0 k
    show fin (bstS wo fin U k (bstF wo fin U k)) ≠ -9 ∧ nDif (bstS wo fin U k (bstF wo fin U k)) U = 0
    unfold bstS
    split
    · exact ih
    · rename_i c
      exact ⟨fun w => c (Or.inr (Or.inr w)), Classical.byContradiction fun w => c (Or.inl w)⟩
theorem fsF_cg {c c' : Nat → Bool} : ∀ k p, (∀ i, p ≤ i → i < p + k → c i = c' i) → fsF c k p = fsF c' k p
  | 0, _, _ => rfl
  | k + 1, p, h => by
    unfold fsF
    rw [h p (Nat.le_refl _) (by omega), fsF_cg k (p + 1) (fun i h1 h2 => h i (by omega) (by omega))]
def vsF (n : Nat) (oN ir : Nat → Nat) (fc dc : Nat → Int) (tr : Nat → Nat → Int) (B : Nat) (bT : Nat → Nat → Int) (fm mi : Nat → Int) (m S p : Nat) : Int := if finR oN ir fc dc (fun p => (tr m p).toNat) (nDif S p) n 0 (mi m + 2 * fm (rooM bT B p).toNat) = -9 then 1000000 else finR oN ir fc dc (fun p => (tr m p).toNat) (nDif S p) n 0 (mi m + 2 * fm (rooM bT B p).toNat)
theorem one_same (hX : BgX n B M bT lT wt wo ro ir lb tr) (hL : LkV n fc ac bc lc dc fm am bm s) (hO : OrdP n dc oN) (hfe : fe < 2 ^ B) (hmi : ∀ i, i < 3 → miM i = mi i ∧ 0 ≤ mi i ∧ mi i ≤ 200000) : awO M (nfF B fe) wt wo lb ro ir fc dc mi (finC n oN ir fc dc (fun m p => (tr m p).toNat)) x y = amO M B bT lT miM fm am bm s (fun m => vtF (nfF B fe) (fun S => finR oN ir fc dc (fun p => (tr m p).toNat) S n 0 (miM m))) (vsF n oN ir fc dc tr B bT fm miM) x y := by
  unfold awO amO
  by_cases c : (0 ≤ x ∧ x < M) ∧ 0 ≤ y ∧ y ≤ 3
  · rw [if_pos c, if_pos c]
    have hM3 := hX.2.2.2.2.2.2.2.2.2.2.2.2
    have hm : x.toNat < M := by omega
    obtain ⟨m, hme⟩ : ∃ m, x.toNat = m := ⟨_, rfl⟩
    rw [hme] at hm ⊢
    have hmm := hmi m (by omega)
    have hb1 : 1 ≤ 2 ^ B := Nat.one_le_two_pow
    have hU : nfF B fe < 2 ^ B := by
      have := nDif_le (2 ^ B - 1) fe
      unfold nfF
      omega
    have hD := dp_of hX hm hL hO
    dsimp only
    rw [hmm.1]
    obtain ⟨fin, hfin⟩ : ∃ fin : Nat → Int, (fun S => finR oN ir fc dc (fun p => (tr m p).toNat) S n 0 (mi m)) = fin := ⟨_, rfl⟩
    have hfb : ∀ S, fin S = -9 ∨ (0 ≤ fin S ∧ fin S ≤ 900000) := fun S => by
      rw [← hfin]
      exact fin_b hD hmm.2.1 (by omega) S
    have hset : oneS wo (finC n oN ir fc dc (fun m p => (tr m p).toNat)) m (nfF B fe) (mi m) = mxF (vtF (nfF B fe) fin) (fun S => wsF (bT 2) S B) (2 ^ B) := by
      unfold oneS
      have : (fun S => finC n oN ir fc dc (fun m p => (tr m p).toNat) m S (mi m)) = fin := by rw [← hfin]; rfl
      rw [this]
      exact bst_same hU (fun S hS => hX.2.1 S hS) hfb
    have h0 : fin 0 ≠ -9 := by
      rw [← hfin]
      show finR oN ir fc dc (fun p => (tr m p).toNat) 0 n 0 (mi m) ≠ -9
      rw [fin_0]
      omega
    have hbf := bst_fin (wo := wo) (U := nfF B fe) h0 (nfF B fe)
    have hsetb : bstF wo fin (nfF B fe) (nfF B fe) = mxF (vtF (nfF B fe) fin) (fun S => wsF (bT 2) S B) (2 ^ B) := bst_same hU (fun S hS => hX.2.1 S hS) hfb
    rw [hsetb] at hbf
    rw [hset, hfin]
    have hSle : mxF (vtF (nfF B fe) fin) (fun S => wsF (bT 2) S B) (2 ^ B) ≤ nfF B fe := (sub_iff.mp hbf.2).le
    generalize mxF (vtF (nfF B fe) fin) (fun S => wsF (bT 2) S B) (2 ^ B) = set at *
    have hen : vtF (nfF B fe) fin set = fin set := by
      unfold vtF
      rw [if_pos hbf.2, if_neg hbf.1]
    have hfs : finC n oN ir fc dc (fun m p => (tr m p).toNat) m set (mi m) = fin set := by rw [← hfin]; rfl
    by_cases y0 : y = 0
    · rw [if_pos y0, if_pos y0]
      exact hX.2.1 _ (by omega)
    rw [if_neg y0, if_neg y0]
    by_cases y1 : y = 1
    · rw [if_pos y1, if_pos y1]
    rw [if_neg y1, if_neg y1]
    by_cases y2 : y = 2
    · rw [if_pos y2, if_pos y2]
      have hfirst : fsF (fstC wt (lb m) ro ir fc dc (finC n oN ir fc dc (fun m p => (tr m p).toNat) m) set (mi m)) set 1 = fsF (onC B bT fm am bm s (lT m) (mi m) set (vsF n oN ir fc dc tr B bT fm miM m set) (vtF (nfF B fe) fin set)) set 1 := by
        refine fsF_cg set 1 (fun p p1 p2 => ?_)
        unfold fstC onC
        have hpB : p < 2 ^ B := by omega
        have hp0 : p ≠ 0 := by omega
        rw [roo_same hX hpB hp0, hX.1 p hpB, (hX.2.2.2.2.2.1 m hm).1, hen]
        by_cases d1 : nDif p set = 0
        · by_cases d2 : rooM bT B p = -9
          · rw [d2]
            simp
          · obtain ⟨r, r1, r2⟩ := (roo_r hX p).resolve_left d2
            have hs := safe_same hL r2 hmm.2.1 (by omega : mi m ≤ 900000) (Int.le_refl 0) (by decide)
            rw [Int.add_zero] at hs
            rw [decide_eq_true d1, decide_eq_true d2, r1, Int.toNat_natCast]
            by_cases d3 : wsF (bT 1) p B ≤ lT m
            · rw [decide_eq_true d3]
              by_cases d4 : safM fm am bm s r (mi m) 0 = true
              · have d5 := hs.mp d4
                rw [decide_eq_true d5, d4]
                have hr := hL.1 r r2
                have hfb2 := hL.2.2.2.2.2.2.2.2.1 r r2
                have efm : fm r = fc r := by omega
                have hx2 := fin_b (t := mi m + 2 * fc r) hD (by omega) (by omega) (nDif set p)
                have hfs2 := hfb set
                have hsx : set ^^^ p = nDif set p := sub_xor (sub_iff.mp d1)
                have e1 : finC n oN ir fc dc (fun m p => (tr m p).toNat) m (set ^^^ p) (mi m + 2 * fc r) = finR oN ir fc dc (fun p => (tr m p).toNat) (nDif set p) n 0 (mi m + 2 * fc r) := by rw [hsx]; rfl
                rw [e1, hfs]
                unfold vsF
                rw [r1, Int.toNat_natCast, hmm.1, efm]
                generalize finR oN ir fc dc (fun p => (tr m p).toNat) (nDif set p) n 0 (mi m + 2 * fc r) = f2 at hx2 ⊢
                have hne := hbf.1
                have : (f2 = fin set) ↔ ((if f2 = -9 then (1000000 : Int) else f2) = fin set) := by
                  split <;> omega
                simp only [this]
              · rw [decide_eq_false (fun w => d4 (hs.mpr w)), show safM fm am bm s r (mi m) 0 = false by simpa using d4]
                simp
            · rw [decide_eq_false d3]
              simp
        · rw [decide_eq_false d1]
          rfl
      rw [hfirst]
    · rw [if_neg y2, if_neg y2, hfs, hen]
  · rw [if_neg c, if_neg c]
end AN
