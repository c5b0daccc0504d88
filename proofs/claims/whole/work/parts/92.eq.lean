/-! 92: the class's far beside the model's -/
theorem rlx_cg {n x y : Nat} {f f' : Nat → Int} {c : Int} (hx : x < n) (hy : y < n) (h : ∀ v, v < n → f v = f' v) : ∀ v, v < n → rlx f x y c v = rlx f' x y c v := by
  intro v hv
  unfold rlx
  rw [h x hx, h y hy]
  split
  · unfold upF
    split
    · rfl
    · exact h v hv
  · exact h v hv
theorem foE_cg {n W : Nat} {op op' : Nat → Bool} {a a' b b' : Nat → Nat} {c c' : Nat → Int} (hab : ∀ w, w < W → a w < n ∧ b w < n) (he : ∀ w, w < W → op w = op' w ∧ a w = a' w ∧ b w = b' w ∧ c w = c' w) : ∀ k, k ≤ W → ∀ {f f' : Nat → Int}, (∀ v, v < n → f v = f' v) → ∀ v, v < n → fo k (eStp op a b c) f v = fo k (eStp op' a' b' c') f' v
  | 0, _, f, f', h => h
  | k + 1, hk, f, f', h => by
    have ih := foE_cg hab he k (by omega) h
    obtain ⟨e1, e2, e3, e4⟩ := he k (by omega)
    have h1 := hab k (by omega)
    intro v hv
    show eStp op a b c k (fo k (eStp op a b c) f) v = eStp op' a' b' c' k (fo k (eStp op' a' b' c') f') v
    unfold eStp
    rw [← e1, ← e2, ← e3, ← e4]
    split
    · exact rlx_cg h1.2 h1.1 (rlx_cg h1.1 h1.2 ih) v hv
    · exact ih v hv
theorem eG_cg {n W : Nat} {op op' : Nat → Bool} {a a' b b' : Nat → Nat} {c c' F0 F0' : Nat → Int} (hab : ∀ w, w < W → a w < n ∧ b w < n) (he : ∀ w, w < W → op w = op' w ∧ a w = a' w ∧ b w = b' w ∧ c w = c' w) (h0 : ∀ v, v < n → F0 v = F0' v) : ∀ k, ∀ v, v < n → eG W op a b c F0 k v = eG W op' a' b' c' F0' k v
  | 0 => h0
  | k + 1 => by
    rw [eG_s, eG_s]
    exact foE_cg hab he W (Nat.le_refl _) (eG_cg hab he h0 k)
/-- n rounds are as good as 8 -/
theorem eG_8 {n W : Nat} {op : Nat → Bool} {a b : Nat → Nat} {c F0 : Nat → Int} (hn : n ≤ 8) (hc : ∀ w, w < W → 1 ≤ c w) (hne : ∀ w, w < W → a w ≠ b w) (hab : ∀ w, w < W → a w < n ∧ b w < n) (h0 : ∀ v, v < n → 0 ≤ F0 v) : ∀ v, v < n → eG W op a b c F0 8 v = eG W op a b c F0 n v := by
  intro v hv
  have hF : ∀ u, u < n → F0 u = (fun u => if u < n then F0 u else 0) u := fun u hu => by show F0 u = if u < n then F0 u else 0; rw [if_pos hu]
  have hp : ∀ u, 0 ≤ (fun u => if u < n then F0 u else 0) u := fun u => by
    show 0 ≤ if u < n then F0 u else 0
    split
    · exact h0 u (by assumption)
    · exact Int.le_refl _
  have e1 := eG_cg (op := op) (c := c) hab (fun w hw => ⟨rfl, rfl, rfl, rfl⟩) hF 8 v hv
  have e2 := eG_cg (op := op) (c := c) hab (fun w hw => ⟨rfl, rfl, rfl, rfl⟩) hF n v hv
  have e3 := bf (n := n) (W := W) (op := op) hc hne hab hp v hv (8 - n)
  rw [show n + (8 - n) = 8 by omega] at e3
  rw [e1, e2, e3]
theorem rel_G {n W sh : Nat} {wy : Nat → Nat → Int} (hW : W ≤ 12) (hw : WyV n W wy) : ∀ k, k ≤ 8 → ∀ {f g : Nat → Int}, RelV n f g → OkV n f 0 → RelV n (fo k (rndFar W wy sh) f) (eG W (fun w => !sh.testBit w) (fun w => (wy w 0).toNat) (fun w => (wy w 1).toNat) (fun w => wy w 2) g k)
  | 0, _, f, g, hR, _ => hR
  | k + 1, hk, f, g, hR, hf => by
    have ih := rel_G (sh := sh) hW hw k (by omega) hR hf
    have hok := farC_ok (sh := sh) hW hw k hf
    rw [eG_s]
    exact rel_rnd hw W (Nat.le_refl _) ih hok (by omega)
/-- far: the class's -9 is the model's 1000000; else they are the same -/
theorem far_rel {n W sh : Nat} {wy wT : Nat → Nat → Int} {f fa : Nat → Int} (hn1 : 1 ≤ n) (hn : n ≤ 8) (hW : W ≤ 12) (hw : WyV n W wy) (hT : ∀ w, w < W → wT 0 w = wy w 0 ∧ wT 1 w = wy w 1 ∧ wT 2 w = wy w 2) : RelV n (farC n W wy sh f) (faM W sh wT fa 8) := by
  have hs : RelV n (upF (iniF n f) 0 0) (f0M fa) := by
    intro r hr
    unfold f0M tabF upF iniF
    rw [if_pos (by omega : r < 8)]
    by_cases e : r = 0
    · rw [if_pos e]
      right
      show (if r = 0 then (0 : Int) else 1000000) = 0 ∧ (0 : Int) ≤ 0 ∧ (0 : Int) ≤ 900000
      rw [if_pos e]
      omega
    · rw [if_neg e, if_pos hr]
      left
      exact ⟨if_neg e, rfl⟩
  have h1 := rel_G (sh := sh) hW hw n hn hs (ini_ok n f)
  have hab : ∀ w, w < W → aM wT w < n ∧ bM wT w < n := fun w hw2 => by
    have hv := hw w hw2
    obtain ⟨t1, t2, t3⟩ := hT w hw2
    unfold aM bM
    rw [t1, t2]
    omega
  intro r hr
  have e8 := eG_8 (op := opM sh) (c := cM wT) (F0 := f0M fa) hn (fun w hw2 => by have hv := hw w hw2; have ht := (hT w hw2).2.2; show 1 ≤ wT 2 w; omega) (fun w hw2 => by
    have hv := hw w hw2
    obtain ⟨t1, t2, t3⟩ := hT w hw2
    unfold aM bM
    rw [t1, t2]
    omega) hab (fun v hv => (f0M_b fa v (by omega)).1) r hr
  have ec := eG_cg (op := opM sh) (op' := fun w => !sh.testBit w) (a' := fun w => (wy w 0).toNat) (b' := fun w => (wy w 1).toNat) (c := cM wT) (c' := fun w => wy w 2) (F0 := f0M fa) hab (fun w hw2 => by
    obtain ⟨t1, t2, t3⟩ := hT w hw2
    exact ⟨rfl, by unfold aM; rw [t1], by unfold bM; rw [t2], t3⟩) (fun _ _ => rfl) n r hr
  have := h1 r hr
  show (eG W (opM sh) (aM wT) (bM wT) (cM wT) (f0M fa) 8 r = 1000000 ∧ _) ∨ _
  unfold faM
  rw [e8, ec]
  exact this
