/-! 28: relaxing over the WAYS comes to rest after as many rounds as there are ROOMS -/
def rlx (f : Nat → Int) (a b : Nat) (c : Int) : Nat → Int := if f a + c < f b then upF f b (f a + c) else f
def stpM (f : Nat → Int) (a b : Nat) (c : Int) : Nat → Int := rlx (rlx f a b c) b a c
section BF
variable {n W : Nat} {op : Nat → Bool} {a b : Nat → Nat} {c : Nat → Int} {F0 : Nat → Int}
def eStp (op : Nat → Bool) (a b : Nat → Nat) (c : Nat → Int) (w : Nat) (f : Nat → Int) : Nat → Int := if op w then stpM f (a w) (b w) (c w) else f
def eRnd (W : Nat) (op : Nat → Bool) (a b : Nat → Nat) (c : Nat → Int) (_ : Nat) (f : Nat → Int) : Nat → Int := fo W (eStp op a b c) f
def eG (W : Nat) (op : Nat → Bool) (a b : Nat → Nat) (c : Nat → Int) (F0 : Nat → Int) (k : Nat) : Nat → Int := fo k (eRnd W op a b c) F0
theorem rlx_le (f : Nat → Int) (x y : Nat) (k : Int) (v : Nat) : rlx f x y k v ≤ f v := by
  unfold rlx
  split
  · unfold upF
    split
    · rename_i h1 h2
      rw [h2]; omega
    · exact Int.le_refl _
  · exact Int.le_refl _
theorem rlx_cl (f : Nat → Int) (x y : Nat) (k : Int) : rlx f x y k y ≤ f x + k := by
  unfold rlx
  split
  · rw [upF_s]; exact Int.le_refl _
  · omega
theorem stpM_le (f : Nat → Int) (x y : Nat) (k : Int) (v : Nat) : stpM f x y k v ≤ f v := Int.le_trans (rlx_le _ _ _ _ _) (rlx_le _ _ _ _ _)
theorem stpM_c1 (f : Nat → Int) (x y : Nat) (k : Int) : stpM f x y k y ≤ f x + k := Int.le_trans (rlx_le _ _ _ _ _) (rlx_cl _ _ _ _)
theorem stpM_c2 (f : Nat → Int) (x y : Nat) (k : Int) : stpM f x y k x ≤ f y + k := by
  have h1 := rlx_cl (rlx f x y k) y x k
  have h2 := rlx_le f x y k y
  unfold stpM
  omega
theorem eStp_le (w : Nat) (f : Nat → Int) (v : Nat) : eStp op a b c w f v ≤ f v := by
  unfold eStp
  split
  · exact stpM_le _ _ _ _ _
  · exact Int.le_refl _
theorem fo_le (f : Nat → Int) (v : Nat) : ∀ k, fo k (eStp op a b c) f v ≤ f v
  | 0 => Int.le_refl _
  | k + 1 => Int.le_trans (eStp_le _ _ _) (fo_le f v k)
theorem fo_cl (f : Nat → Int) {w : Nat} (hop : op w = true) : ∀ k, w < k → fo k (eStp op a b c) f (b w) ≤ f (a w) + c w ∧ fo k (eStp op a b c) f (a w) ≤ f (b w) + c w
  | 0, h => by omega
  | k + 1, h => by
    by_cases e : w = k
    · subst e
      have e1 : fo (w + 1) (eStp op a b c) f = stpM (fo w (eStp op a b c) f) (a w) (b w) (c w) := by show eStp op a b c w _ = _; unfold eStp; rw [if_pos hop]
      rw [e1]
      have h1 := fo_le (op := op) (a := a) (b := b) (c := c) f (a w) w
      have h2 := fo_le (op := op) (a := a) (b := b) (c := c) f (b w) w
      have h3 := stpM_c1 (fo w (eStp op a b c) f) (a w) (b w) (c w)
      have h4 := stpM_c2 (fo w (eStp op a b c) f) (a w) (b w) (c w)
      omega
    · obtain ⟨h1, h2⟩ := fo_cl f hop k (by omega)
      have h3 := eStp_le (op := op) (a := a) (b := b) (c := c) k (fo k (eStp op a b c) f) (b w)
      have h4 := eStp_le (op := op) (a := a) (b := b) (c := c) k (fo k (eStp op a b c) f) (a w)
      exact ⟨Int.le_trans h3 h1, Int.le_trans h4 h2⟩
theorem eG_s (k : Nat) : eG W op a b c F0 (k + 1) = fo W (eStp op a b c) (eG W op a b c F0 k) := rfl
theorem eG_le1 (k v : Nat) : eG W op a b c F0 (k + 1) v ≤ eG W op a b c F0 k v := by rw [eG_s]; exact fo_le _ _ _
theorem eG_le (k v : Nat) : ∀ j, eG W op a b c F0 (k + j) v ≤ eG W op a b c F0 k v
  | 0 => Int.le_refl _
  | j + 1 => Int.le_trans (eG_le1 (k + j) v) (eG_le k v j)
theorem eG_cl (k : Nat) {w : Nat} (hw : w < W) (hop : op w = true) : eG W op a b c F0 (k + 1) (b w) ≤ eG W op a b c F0 k (a w) + c w ∧ eG W op a b c F0 (k + 1) (a w) ≤ eG W op a b c F0 k (b w) + c w := by
  rw [eG_s]; exact fo_cl _ hop W hw
/-- where a value comes from -/
def ePred (W : Nat) (op : Nat → Bool) (a b : Nat → Nat) (c : Nat → Int) (F0 f : Nat → Int) : Prop := ∀ v, f v = F0 v ∨ ∃ w, w < W ∧ op w = true ∧ ((b w = v ∧ f (a w) + c w ≤ f v) ∨ (a w = v ∧ f (b w) + c w ≤ f v))
theorem ePred_rlx {f : Nat → Int} (h : ePred W op a b c F0 f) {x y : Nat} {k : Int} (hk : 0 ≤ k) (he : x ≠ y) (hw : ∃ w, w < W ∧ op w = true ∧ k = c w ∧ ((a w = x ∧ b w = y) ∨ (b w = x ∧ a w = y))) : ePred W op a b c F0 (rlx f x y k) := by
  intro v
  have hle := rlx_le f x y k
  by_cases e : f x + k < f y
  · have e1 : rlx f x y k = upF f y (f x + k) := if_pos e
    by_cases ev : v = y
    · subst ev
      right
      obtain ⟨w, h1, h2, h3, h4⟩ := hw
      refine ⟨w, h1, h2, ?_⟩
      rw [e1, upF_s, ← h3]
      rcases h4 with ⟨h5, h6⟩ | ⟨h5, h6⟩
      · left; exact ⟨h6, by rw [h5, upF_n _ _ he]; exact Int.le_refl _⟩
      · right; exact ⟨h6, by rw [h5, upF_n _ _ he]; exact Int.le_refl _⟩
    · have e2 : rlx f x y k v = f v := by rw [e1, upF_n _ _ ev]
      rcases h v with h1 | ⟨w, h1, h2, h3⟩
      · left; rw [e2]; exact h1
      · right
        refine ⟨w, h1, h2, ?_⟩
        rw [e2]
        rcases h3 with ⟨h4, h5⟩ | ⟨h4, h5⟩
        · left; exact ⟨h4, by have := hle (a w); omega⟩
        · right; exact ⟨h4, by have := hle (b w); omega⟩
  · rw [show rlx f x y k = f from if_neg e]; exact h v
theorem ePred_stp {f : Nat → Int} (h : ePred W op a b c F0 f) {w : Nat} (hw : w < W) (hc : ∀ w, w < W → 0 ≤ c w) (hab : ∀ w, w < W → a w ≠ b w) : ePred W op a b c F0 (eStp op a b c w f) := by
  unfold eStp
  split
  · rename_i hop
    exact ePred_rlx (ePred_rlx h (hc w hw) (hab w hw) ⟨w, hw, hop, rfl, Or.inl ⟨rfl, rfl⟩⟩) (hc w hw) (hab w hw).symm ⟨w, hw, hop, rfl, Or.inr ⟨rfl, rfl⟩⟩
  · exact h
theorem ePred_fo {f : Nat → Int} (h : ePred W op a b c F0 f) (hc : ∀ w, w < W → 0 ≤ c w) (hab : ∀ w, w < W → a w ≠ b w) : ∀ k, k ≤ W → ePred W op a b c F0 (fo k (eStp op a b c) f)
  | 0, _ => h
  | k + 1, hk => ePred_stp (ePred_fo h hc hab k (by omega)) (by omega) hc hab
theorem ePred_G (hc : ∀ w, w < W → 0 ≤ c w) (hab : ∀ w, w < W → a w ≠ b w) : ∀ k, ePred W op a b c F0 (eG W op a b c F0 k)
  | 0 => fun v => Or.inl rfl
  | k + 1 => by rw [eG_s]; exact ePred_fo (ePred_G hc hab k) hc hab W (Nat.le_refl _)
/-- how many below n -/
def cnt (n : Nat) (p : Nat → Bool) : Nat := fo n (fun i s => s + if p i then 1 else 0) 0
theorem cnt_s (n : Nat) (p : Nat → Bool) : cnt (n + 1) p = cnt n p + if p n then 1 else 0 := rfl
theorem cnt_le (p : Nat → Bool) : ∀ n, cnt n p ≤ n
  | 0 => Nat.le_refl _
  | n + 1 => by rw [cnt_s]; have := cnt_le p n; split <;> omega
theorem cnt_mono {p q : Nat → Bool} (h : ∀ i, p i = true → q i = true) : ∀ n, cnt n p ≤ cnt n q
  | 0 => Nat.le_refl _
  | n + 1 => by
    rw [cnt_s, cnt_s]
    have h1 := cnt_mono h n
    by_cases hp : p n = true
    · rw [if_pos hp, if_pos (h n hp)]; omega
    · rw [if_neg hp]; omega
theorem cnt_lt {p q : Nat → Bool} (h : ∀ i, p i = true → q i = true) {u : Nat} (hu : p u = false) (hq : q u = true) : ∀ n, u < n → cnt n p + 1 ≤ cnt n q
  | 0, hn => by omega
  | n + 1, hn => by
    rw [cnt_s, cnt_s]
    by_cases e : u = n
    · subst e
      have := cnt_mono h u
      rw [if_neg (by rw [hu]; decide), if_pos hq]; omega
    · have h1 := cnt_lt h hu hq n (by omega)
      by_cases hp : p n = true
      · rw [if_pos hp, if_pos (h n hp)]; omega
      · rw [if_neg hp]; omega
theorem cnt_out {p : Nat → Bool} {u : Nat} (hu : p u = false) : ∀ n, u < n → cnt n p < n
  | 0, hn => by omega
  | n + 1, hn => by
    rw [cnt_s]
    by_cases e : u = n
    · subst e
      have := cnt_le p u
      rw [if_neg (by rw [hu]; decide)]; omega
    · have := cnt_out hu n (by omega)
      split <;> omega
theorem rest1 (g : Nat → Int) (h0 : ∀ k, 0 ≤ g k) (h1 : ∀ k j, g (k + j) ≤ g k) : ∃ K, ∀ j, g (K + j) = g K := by
  obtain ⟨m, ⟨K, hK⟩, hm⟩ := pk_least (fun m => ∃ k, (g k).toNat = m) ⟨_, 0, rfl⟩
  refine ⟨K, fun j => ?_⟩
  have h2 := h1 K j
  have h3 := h0 (K + j)
  have h4 := h0 K
  by_cases e : (g (K + j)).toNat < m
  · exact absurd ⟨K + j, rfl⟩ (hm _ e)
  · omega
theorem restN (hn0 : ∀ v, v < n → ∀ k, 0 ≤ eG W op a b c F0 k v) : ∀ m, m ≤ n → ∃ K, ∀ v, v < m → ∀ j, eG W op a b c F0 (K + j) v = eG W op a b c F0 K v
  | 0, _ => ⟨0, fun v hv => by omega⟩
  | m + 1, hm => by
    obtain ⟨K, hK⟩ := restN hn0 m (by omega)
    obtain ⟨L, hL⟩ := rest1 (fun k => eG W op a b c F0 k m) (hn0 m (by omega)) (fun k j => eG_le k m j)
    refine ⟨K + L, fun v hv j => ?_⟩
    by_cases e : v = m
    · subst e
      have h1 := hL (K + j)
      have h2 := hL K
      rw [show K + L + j = L + (K + j) by omega, show K + L = L + K by omega]
      exact h1.trans h2.symm
    · have h1 := hK v (by omega) (L + j)
      have h2 := hK v (by omega) L
      rw [show K + L + j = K + (L + j) by omega, h1, h2]
theorem eG_pos (hc : ∀ w, w < W → 0 ≤ c w) (hab : ∀ w, w < W → a w ≠ b w) (h0 : ∀ v, 0 ≤ F0 v) : ∀ k v, 0 ≤ eG W op a b c F0 k v := by
  have hr : ∀ (f : Nat → Int) (x y : Nat) (k : Int), 0 ≤ k → (∀ v, 0 ≤ f v) → ∀ v, 0 ≤ rlx f x y k v := by
    intro f x y k hk hf v
    unfold rlx
    split
    · unfold upF
      split
      · have := hf x; omega
      · exact hf v
    · exact hf v
  have hf : ∀ (f : Nat → Int), (∀ v, 0 ≤ f v) → ∀ k, k ≤ W → ∀ v, 0 ≤ fo k (eStp op a b c) f v := by
    intro f hf k
    induction k with
    | zero => exact fun _ => hf
    | succ k ih =>
      intro hk v
      show 0 ≤ eStp op a b c k (fo k (eStp op a b c) f) v
      unfold eStp
      split
      · exact hr _ _ _ _ (hc k (by omega)) (hr _ _ _ _ (hc k (by omega)) (ih (by omega))) v
      · exact ih (by omega) v
  intro k
  induction k with
  | zero => exact h0
  | succ k ih => rw [eG_s]; exact hf _ ih W (Nat.le_refl _)
theorem bf (hc : ∀ w, w < W → 1 ≤ c w) (hab : ∀ w, w < W → a w ≠ b w) (hr : ∀ w, w < W → a w < n ∧ b w < n) (h0 : ∀ v, 0 ≤ F0 v) : ∀ v, v < n → ∀ j, eG W op a b c F0 (n + j) v = eG W op a b c F0 n v := by
  have hc0 : ∀ w, w < W → 0 ≤ c w := fun w hw => by have := hc w hw; omega
  have hpos := eG_pos (op := op) hc0 hab h0
  obtain ⟨K, hK⟩ := restN (n := n) (W := W) (op := op) (a := a) (b := b) (c := c) (F0 := F0) (fun v _ k => hpos k v) n (Nat.le_refl _)
  have hge : ∀ v, v < n → ∀ k, eG W op a b c F0 K v ≤ eG W op a b c F0 k v := by
    intro v hv k
    have h1 := hK v hv k
    have h2 := eG_le (W := W) (op := op) (a := a) (b := b) (c := c) (F0 := F0) k v K
    rw [show k + K = K + k by omega, h1] at h2
    exact h2
  have key : ∀ m : Nat, ∀ v, v < n → (eG W op a b c F0 K v).toNat ≤ m → ∀ k, cnt n (fun u => decide (eG W op a b c F0 K u < eG W op a b c F0 K v)) ≤ k → eG W op a b c F0 k v ≤ eG W op a b c F0 K v := by
    intro m
    induction m with
    | zero =>
      intro v hv hm k hk
      rcases ePred_G (op := op) hc0 hab K v with h1 | ⟨w, h1, h2, h3⟩
      · rw [h1]
        have := eG_le (W := W) (op := op) (a := a) (b := b) (c := c) (F0 := F0) 0 v k
        rw [Nat.zero_add] at this
        exact this
      · have h4 := hpos K (a w)
        have h5 := hpos K (b w)
        have h6 := hc w h1
        have h7 := hpos K v
        omega
    | succ m ih =>
      intro v hv hm k hk
      rcases ePred_G (op := op) hc0 hab K v with h1 | ⟨w, h1, h2, h3⟩
      · rw [h1]
        have := eG_le (W := W) (op := op) (a := a) (b := b) (c := c) (F0 := F0) 0 v k
        rw [Nat.zero_add] at this
        exact this
      · have go : ∀ u, u < n → eG W op a b c F0 K u + c w ≤ eG W op a b c F0 K v → (∀ j, eG W op a b c F0 (j + 1) v ≤ eG W op a b c F0 j u + c w) → eG W op a b c F0 k v ≤ eG W op a b c F0 K v := by
          intro u hu h4 h5
          have h6 := hc w h1
          have h7 := hpos K u
          have h8 := hpos K v
          have hlt : eG W op a b c F0 K u < eG W op a b c F0 K v := by omega
          have h9 := cnt_lt (p := fun x => decide (eG W op a b c F0 K x < eG W op a b c F0 K u)) (q := fun x => decide (eG W op a b c F0 K x < eG W op a b c F0 K v)) (fun i hi => by simp at hi ⊢; omega) (u := u) (by simp) (by simpa using hlt) n hu
          obtain ⟨j, rfl⟩ : ∃ j, k = j + 1 := ⟨k - 1, by omega⟩
          have h10 := ih u hu (by omega) j (by omega)
          have h11 := h5 j
          omega
        rcases h3 with ⟨h4, h5⟩ | ⟨h4, h5⟩
        · exact go (a w) (hr w h1).1 h5 (fun j => by rw [← h4]; exact (eG_cl j h1 h2).1)
        · exact go (b w) (hr w h1).2 h5 (fun j => by rw [← h4]; exact (eG_cl j h1 h2).2)
  intro v hv j
  have h1 := cnt_out (p := fun u => decide (eG W op a b c F0 K u < eG W op a b c F0 K v)) (u := v) (by simp) n hv
  have h2 := key _ v hv (Nat.le_refl _) n (by omega)
  have h3 := key _ v hv (Nat.le_refl _) (n + j) (by omega)
  have h4 := hge v hv n
  have h5 := hge v hv (n + j)
  omega
end BF
