/-! b9: ALL: both -/
section CL
variable {A : Nat → Nat → Prop} {W wo : Nat → Int} {may M : Nat} {ab : Nat → Nat} {gn : Nat → Nat → Int}
theorem cho_ls (hG : GnV A W wo may M ab gn) {k m S : Nat} {wb g : Nat → Int} (hkm : k + 1 + m = 3) (hm : m < M) (hw1 : ∀ T, Sub T S → A m T → wb T = W T) (hw2 : ∀ T, Sub T S → ¬ A m T → wb T ≤ -1000000) (hg : ∀ T, Sub T S → MaxN A W k (m + 1) (nDif S T) (g T)) : choF M ab gn wo m (S &&& may) = (lsF S (fun T => wb T + g T) (S + 1)).1 ∧ Sub (lsF S (fun T => wb T + g T) (S + 1)).1 (S &&& may) := by
  have h1 := hG.1
  obtain ⟨a1, a2, a3, a4, a5⟩ := ls_max h1 hw1 hw2 hg
  have hsm : Sub (S &&& may) may := and_sub2 _ _
  have ev := (a1.cut h1).un (gn_max hG (k + 1) m hkm _ hsm)
  have eg : ∀ T, Sub T (S &&& may) → g T = gnO M gn (m + 1) (nDif (S &&& may) T) := fun T hT => by
    have q := (hg T (hT.tr (and_sub1 _ _))).cut h1
    rw [and_dif] at q
    exact q.un (gn_max hG k (m + 1) (by omega) _ ((Sub.dif _ _).tr hsm))
  have hfs : Sub (lsF S (fun T => wb T + g T) (S + 1)).1 (S &&& may) := sub_and a2 (h1.2.2.1 _ _ a3)
  refine ⟨cho_sp hG (k := k) hkm hm hsm hfs a3 ?_ (fun T hT hs hA => ?_), hfs⟩
  · rw [← eg _ hfs, ← ev]
    exact a4
  · rw [← eg T hs, ← ev]
    exact a5 T hT (hs.tr (and_sub1 _ _)) hA
end CL
theorem wsF_add {T : Nat → Int} {p s : Nat} (hp : Sub p s) : ∀ k, wsF T s k = wsF T p k + wsF T (nDif s p) k
  | 0 => rfl
  | k + 1 => by
    show wsF T s k + bi s k * T k = wsF T p k + bi p k * T k + (wsF T (nDif s p) k + bi (nDif s p) k * T k)
    rw [wsF_add hp k]
    have : bi s k * T k = bi p k * T k + bi (nDif s p) k * T k := by
      have h1 := hp k
      unfold bi
      rw [nDif_bit]
      cases e1 : s.testBit k <;> cases e2 : p.testBit k
      · simp
      · rw [e1, e2] at h1
        simp at h1
      · simp
      · simp
    omega
theorem wsF_00 (T : Nat → Int) : ∀ k, wsF T 0 k = 0
  | 0 => rfl
  | k + 1 => by
    show wsF T 0 k + bi 0 k * T k = 0
    rw [wsF_00 T k]
    unfold bi
    rw [Nat.zero_testBit, if_neg (by decide)]
    omega
section AN
variable {n W B M F D sh : Nat} {wy bu fi wT bT fT : Nat → Nat → Int} {lT wt wo ro ld mi miM feM od : Nat → Int} {ir bN oN : Nat → Nat} {lb : Nat → Int} {tr : Nat → Nat → Int} {fe : Nat} {fc ac bc lc dc fm am bm : Nat → Int} {s x y t v : Int} {ab : Nat → Nat} {gn : Nat → Nat → Int}
/-- who can bring a set out alone -/
def ableP (M may : Nat) (fin : Nat → Nat → Int) (m p : Nat) : Prop := (m < M ∧ Sub p may ∧ fin m p ≠ -9) ∨ (M ≤ m ∧ p = 0)
def finO (n : Nat) (oN ir : Nat → Nat) (fc dc : Nat → Int) (tr : Nat → Nat → Int) (mi : Nat → Int) (m S : Nat) : Int := finR oN ir fc dc (fun p => (tr m p).toNat) S n 0 (mi m)
theorem awV_of (hX : BgX n B M bT lT wt wo ro ir lb tr) (hL : LkV n fc ac bc lc dc fm am bm s) (hO : OrdP n dc oN) {may : Nat} (hmi : ∀ i, i < 3 → 0 ≤ mi i ∧ mi i ≤ 200000) : AwV (ableP M may (finO n oN ir fc dc tr mi)) (fun s => wsF (bT 2) s B) may := by
  have x9 := hX.2.2.2.2.2.2.2.2.1
  have hM3 := hX.2.2.2.2.2.2.2.2.2.2.2.2
  have hB10 := hX.2.2.2.2.2.2.2.2.2.2.2.1
  refine ⟨fun m => ?_, fun m p q hq hp => ?_, fun m p hp => ?_, wsF_00 _ _, fun p q h => wsF_mono h B (fun b hb => by have := x9 b hb; omega), fun p s h => wsF_add h B, fun s => ?_⟩
  · by_cases c : m < M
    · left
      refine ⟨c, Sub.zero _, ?_⟩
      unfold finO
      rw [fin_0]
      have := hmi m (by omega)
      omega
    · exact Or.inr ⟨by omega, rfl⟩
  · rcases hp with ⟨h1, h2, h3⟩ | ⟨h1, h2⟩
    · left
      have hD := dp_of hX h1 hL hO
      have hm := hmi m (by omega)
      exact ⟨h1, hq.tr h2, (fin_can hD hm.1 q).mpr (can_sub hD hq ((fin_can hD hm.1 p).mp h3))⟩
    · right
      have := hq.le
      exact ⟨h1, by omega⟩
  · rcases hp with ⟨h1, h2, h3⟩ | ⟨h1, h2⟩
    · exact h2
    · rw [h2]
      exact Sub.zero _
  · have := wsF_b (s := s) (T := bT 2) (B := B) (fun b hb => by have := x9 b hb; omega) B (Nat.le_refl _)
    show wsF (bT 2) s B ≤ 990
    omega
theorem all_same (hX : BgX n B M bT lT wt wo ro ir lb tr) (hL : LkV n fc ac bc lc dc fm am bm s) (hO : OrdP n dc oN) (hmi : ∀ i, i < 3 → miM i = mi i ∧ 0 ≤ mi i ∧ mi i ≤ 200000)
    (hab : ∀ s, Sub s (nfF B fe) → ab s = abB (fun m S => finC n oN ir fc dc (fun m p => (tr m p).toNat) m S (mi m)) s M) (hgn : ∀ m, m < M → ∀ s, Sub s (nfF B fe) → gn m s = gaV M ab gn wo m s) (hx0 : -1 ≤ x) (hx1 : x < M) :
    (if x = -1 then gnO M gn 0 (nfF B fe) else ((soF M ab gn wo (nfF B fe) (x.toNat + 1)).2 : Nat)) = amA (2 ^ B - 1) (wb0 M B bT (fun m => vtF (nfF B fe) (fun S => finR oN ir fc dc (fun p => (tr m p).toNat) S n 0 (miM m)))) x := by
  have hM3 := hX.2.2.2.2.2.2.2.2.2.2.2.2
  have hB10 := hX.2.2.2.2.2.2.2.2.2.2.2.1
  have hb : 2 ^ B ≤ 2 ^ 10 := Nat.pow_le_pow_right (by decide) hB10
  have hb1 : 1 ≤ 2 ^ B := Nat.one_le_two_pow
  have hA := awV_of (may := nfF B fe) hX hL hO (mi := mi) (fun i hi => (hmi i hi).2)
  have hUs : Sub (nfF B fe) (2 ^ B - 1) := Sub.dif _ _
  have hmay2 : nfF B fe < 2 ^ B := by have := hUs.le; omega
  have hG : GnV (ableP M (nfF B fe) (finO n oN ir fc dc tr mi)) (fun s => wsF (bT 2) s B) wo (nfF B fe) M ab gn := by
    refine ⟨hA, fun m p h1 h2 => ?_, fun s hs => hX.2.1 s (by have := hs.le; omega), fun m p h1 h2 => ?_, hgn, by omega, hM3⟩
    · rcases h2 with w | w
      · omega
      · exact w.2
    · rw [hab p h2, abB_bit, Bool.and_eq_true, decide_eq_true_eq, decide_eq_true_eq]
      constructor
      · intro ⟨w1, w2⟩
        exact Or.inl ⟨w1, h2, w2⟩
      · intro w
        rcases w with w | w
        · exact ⟨w.1, w.2.2⟩
        · omega
  obtain ⟨wb, hwb⟩ : ∃ wb, wb0 M B bT (fun m => vtF (nfF B fe) (fun S => finR oN ir fc dc (fun p => (tr m p).toNat) S n 0 (miM m))) = wb := ⟨_, rfl⟩
  rw [hwb]
  generalize hAA : ableP M (nfF B fe) (finO n oN ir fc dc tr mi) = A at hA hG
  have hw : ∀ m, m < 3 → ∀ T, (A m T → wb m T = wsF (bT 2) T B) ∧ (¬ A m T → wb m T ≤ -1000000) := by
    intro m hm3 T
    rw [← hwb, ← hAA]
    unfold wb0 ableP
    by_cases c : m < M
    · rw [if_pos c]
      have hD := dp_of hX c hL hO
      have hm := hmi m hm3
      have hfb := fin_b hD hm.2.1 (by omega : mi m ≤ 500000) T
      unfold vtF finO
      simp only [hm.1]
      by_cases d1 : nDif T (nfF B fe) = 0
      · rw [if_pos d1]
        by_cases d2 : finR oN ir fc dc (fun p => (tr m p).toNat) T n 0 (mi m) = -9
        · rw [if_pos d2, if_neg (by decide)]
          refine ⟨fun w => ?_, fun _ => Int.le_refl _⟩
          rcases w with w | w
          · exact absurd d2 w.2.2
          · omega
        · rw [if_neg d2, if_pos (by omega)]
          exact ⟨fun _ => rfl, fun w => absurd (Or.inl ⟨c, sub_iff.mp d1, d2⟩) w⟩
      · rw [if_neg d1, if_neg (by decide)]
        refine ⟨fun w => ?_, fun _ => Int.le_refl _⟩
        rcases w with w | w
        · exact absurd (sub_iff.mpr w.2.1) d1
        · omega
    · rw [if_neg c]
      by_cases d : T = 0
      · rw [if_pos d, d, wsF_00]
        exact ⟨fun _ => rfl, fun w => absurd (Or.inr ⟨by omega, rfl⟩) w⟩
      · rw [if_neg d]
        refine ⟨fun w => ?_, fun _ => Int.le_refl _⟩
        rcases w with w | w
        · exact absurd w.1 c
        · exact absurd w.2 d
  have hW0 : wsF (bT 2) 0 B = 0 := wsF_00 _ _
  have L3 : ∀ S, MaxN A (fun s => wsF (bT 2) s B) 0 3 S 0 := fun S => ⟨⟨0, Sub.zero _, rfl, hW0.symm⟩, fun T _ hT => by
    have hT : T = 0 := hT
    show wsF (bT 2) T B ≤ 0
    rw [hT, hW0]
    exact Int.le_refl _⟩
  have L2 : ∀ S, MaxN A (fun s => wsF (bT 2) s B) 1 2 S (ls2 wb S).2 := fun S => (ls_max hA (wb := wb 2) (g := fun _ => 0) (fun T _ h => (hw 2 (by decide) T).1 h) (fun T _ h => (hw 2 (by decide) T).2 h) (fun T _ => L3 _)).1
  have L1 : ∀ S, MaxN A (fun s => wsF (bT 2) s B) 2 1 S (ls1 wb S).2 := fun S => (ls_max hA (wb := wb 1) (g := fun T => (ls2 wb (nDif S T)).2) (fun T _ h => (hw 1 (by decide) T).1 h) (fun T _ h => (hw 1 (by decide) T).2 h) (fun T _ => L2 _)).1
  have L0 : ∀ S, MaxN A (fun s => wsF (bT 2) s B) 3 0 S (ls0 wb S).2 := fun S => (ls_max hA (wb := wb 0) (g := fun T => (ls1 wb (nDif S T)).2) (fun T _ h => (hw 0 (by decide) T).1 h) (fun T _ h => (hw 0 (by decide) T).2 h) (fun T _ => L1 _)).1
  have C2 : ∀ S, 2 < M → choF M ab gn wo 2 (S &&& nfF B fe) = (ls2 wb S).1 ∧ Sub (ls2 wb S).1 (S &&& nfF B fe) := fun S h => cho_ls hG (k := 0) (by decide) h (wb := wb 2) (g := fun _ => 0) (fun T _ h => (hw 2 (by decide) T).1 h) (fun T _ h => (hw 2 (by decide) T).2 h) (fun T _ => L3 _)
  have C1 : ∀ S, 1 < M → choF M ab gn wo 1 (S &&& nfF B fe) = (ls1 wb S).1 ∧ Sub (ls1 wb S).1 (S &&& nfF B fe) := fun S h => cho_ls hG (k := 1) (by decide) h (wb := wb 1) (g := fun T => (ls2 wb (nDif S T)).2) (fun T _ h => (hw 1 (by decide) T).1 h) (fun T _ h => (hw 1 (by decide) T).2 h) (fun T _ => L2 _)
  have C0 : ∀ S, 0 < M → choF M ab gn wo 0 (S &&& nfF B fe) = (ls0 wb S).1 ∧ Sub (ls0 wb S).1 (S &&& nfF B fe) := fun S h => cho_ls hG (k := 2) (by decide) h (wb := wb 0) (g := fun T => (ls1 wb (nDif S T)).2) (fun T _ h => (hw 0 (by decide) T).1 h) (fun T _ h => (hw 0 (by decide) T).2 h) (fun T _ => L1 _)
  have hcut : (2 ^ B - 1) &&& nfF B fe = nfF B fe := Sub.anti (and_sub2 _ _) (sub_and hUs (Sub.rf _))
  have e0 : nfF B fe ^^^ 0 = nfF B fe := Nat.xor_zero _
  unfold amA
  by_cases c1 : x = -1
  · rw [if_pos c1, if_pos (show x ≤ 0 by omega), if_neg (show ¬ x = 0 by omega)]
    have q := (L0 (2 ^ B - 1)).cut hA
    rw [hcut] at q
    exact (q.un (gn_max hG 3 0 (by decide) _ (Sub.rf _))).symm
  · rw [if_neg c1]
    have hM0 : 0 < M := by omega
    obtain ⟨z1, z2⟩ := C0 (2 ^ B - 1) hM0
    rw [hcut] at z1 z2
    have s1 : soF M ab gn wo (nfF B fe) 1 = (nfF B fe, (ls0 wb (2 ^ B - 1)).1) := by
      show (nfF B fe ^^^ 0, choF M ab gn wo 0 (nfF B fe ^^^ 0)) = _
      rw [e0, z1]
    by_cases c2 : x = 0
    · rw [if_pos (show x ≤ 0 by omega), if_pos c2, c2]
      show (((soF M ab gn wo (nfF B fe) 1).2 : Nat) : Int) = _
      rw [s1]
    · rw [if_neg (show ¬ x ≤ 0 by omega)]
      have hM1 : 1 < M := by omega
      have cut1 : nDif (2 ^ B - 1) (ls0 wb (2 ^ B - 1)).1 &&& nfF B fe = nDif (nfF B fe) (ls0 wb (2 ^ B - 1)).1 := by rw [and_dif, hcut]
      obtain ⟨y1, y2⟩ := C1 (nDif (2 ^ B - 1) (ls0 wb (2 ^ B - 1)).1) hM1
      rw [cut1] at y1 y2
      have s2 : soF M ab gn wo (nfF B fe) 2 = (nDif (nfF B fe) (ls0 wb (2 ^ B - 1)).1, (ls1 wb (nDif (2 ^ B - 1) (ls0 wb (2 ^ B - 1)).1)).1) := by
        show soS M ab gn wo 1 (soF M ab gn wo (nfF B fe) 1) = _
        rw [s1]
        unfold soS
        dsimp only
        rw [sub_xor z2, y1]
      by_cases c3 : x = 1
      · rw [if_pos c3, c3]
        show (((soF M ab gn wo (nfF B fe) 2).2 : Nat) : Int) = _
        rw [s2]
      · rw [if_neg c3]
        have hx2 : x = 2 := by omega
        have hM2 : 2 < M := by omega
        obtain ⟨w1, w2⟩ := C2 (nDif (nDif (2 ^ B - 1) (ls0 wb (2 ^ B - 1)).1) (ls1 wb (nDif (2 ^ B - 1) (ls0 wb (2 ^ B - 1)).1)).1) hM2
        rw [and_dif, cut1] at w1 w2
        rw [hx2]
        show (((soF M ab gn wo (nfF B fe) 3).2 : Nat) : Int) = _
        have s3 : soF M ab gn wo (nfF B fe) 3 = soS M ab gn wo 2 (soF M ab gn wo (nfF B fe) 2) := rfl
        rw [s3, s2]
        unfold soS
        dsimp only
        rw [sub_xor y2, w1]
end AN
