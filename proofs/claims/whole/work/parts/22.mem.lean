/-! 06: wpB is sound: fields, arrays, switches -/
theorem getD_of {fs : List AV} {k : Nat} {v : AV} (h : fs[k]? = some v) : fs.getD k vN = v := by rw [List.getD_eq_getElem?_getD, h]; rfl
theorem rdF_e {c : Option AC} {ci k : Nat} {P : AV → Prop} (h : rdF c ci k P) : (∃ fs v, c = some (cO ci fs) ∧ fs[k]? = some v ∧ P v) ∨ (∃ i, c = some (cS i) ∧ ci = 9 ∧ (if k = 0 then P (vA (9 + i)) else P (vI 0))) := by
  match c, h with
  | some (.inr (.inr (.inl (ci', fs)))), h2 =>
    obtain ⟨e, h3⟩ := h2
    subst e
    cases hv : fs[k]? with
    | none => rw [hv] at h3; exact h3.elim
    | some v => rw [hv] at h3; exact Or.inl ⟨fs, v, rfl, hv, h3⟩
  | some (.inr (.inr (.inr i))), h2 => exact Or.inr ⟨i, rfl, h2⟩
theorem wrF_e {c : Option AC} {ci k t : Nat} {v : AV} {P : AC → Prop} (h : wrF c ci k t v P) : ∃ fs, c = some (cO ci fs) ∧ k < fs.length ∧ okT t v ∧ P (cO ci (fs.set k v)) := by
  match c, h with
  | some (.inr (.inr (.inl (ci', fs)))), h2 =>
    obtain ⟨e, h3⟩ := h2
    subst e
    exact ⟨fs, rfl, h3⟩
theorem rdA_e {c : Option AC} {kd : Nat} {i : Int} {P : Int → Prop} (h : rdA c kd i P) : ∃ n f, c = some (.inl (kd, n, f)) ∧ 0 ≤ i ∧ i < n ∧ P (f i.toNat) := by
  match c, h with
  | some (.inl (kd', n, f)), h2 =>
    obtain ⟨e, h3⟩ := h2
    subst e
    exact ⟨n, f, rfl, h3⟩
theorem wrA_e {c : Option AC} {kd : Nat} {i x : Int} {P : AC → Prop} (h : wrA c kd i x P) : ∃ n f, c = some (.inl (kd, n, f)) ∧ 0 ≤ i ∧ i < n ∧ okN kd x ∧ P (.inl (kd, n, upF f i.toNat x)) := by
  match c, h with
  | some (.inl (kd', n, f)), h2 =>
    obtain ⟨e, h3⟩ := h2
    subst e
    exact ⟨n, f, rfl, h3⟩
theorem rdR_e {c : Option AC} {i : Int} {P : Nat → Prop} (h : rdR c i P) : ∃ n g, c = some (cR n g) ∧ 0 ≤ i ∧ i < n ∧ P (g i.toNat) := by
  match c, h with
  | some (.inr (.inl (n, g))), h2 => exact ⟨n, g, rfl, h2⟩
theorem lnA_e {c : Option AC} {P : Int → Prop} (h : lnA c P) : ∃ kd n f, c = some (.inl (kd, n, f)) ∧ P n := by
  match c, h with
  | some (.inl (kd, n, f)), h2 => exact ⟨kd, n, f, rfl, h2⟩
section SO
variable {X : Cx} {d mc ms : Nat} {y : MI} {Q : Option AV → AH → Nat → Prop} {p : Program} {e : Env} {s : State} {m : MethodId} {args : Array Value} {below : List Frame} {meth : Method} {c : Code} {H : Heap} {locs : List Loc} {lr : Array Slot} {h : AH} {z k n : Nat} {pc idx a : Nat} {q : List Nat} {st : List Value}
abbrev WG (X : Cx) (d mc ms : Nat) (Q : Option AV → AH → Nat → Prop) (p : Program) (e : Env) (s : State) (m : MethodId) (args : Array Value) (below : List Frame) (meth : Method) (c : Code) (H : Heap) (locs : List Loc) (k n : Nat) (g : JFrame) : Prop :=
  W p X.1 e (rmD d mc ms) s m args below meth c H locs k n (MQ below (QcX X Q) args s mc ms (hiA X)) g
theorem so_getf (S : Std y p s m args meth c) (N : Nw X s) (hok : okF y q idx = true) (hd : decode y.2.1 pc = .ok (.getfield idx, 3)) (R : Rep X s H h z) {P : AV → Prop} (hw : rdF (h a) (q.getD 0 0) (q.getD 1 0) P)
    (kk : ∀ v, P v → WG X d mc ms Q p e s m args below meth c H locs k n (F0 m (pc + 3) lr (val X v :: st))) : WG X d mc ms Q p e s m args below meth c H locs k n (F0 m pc lr (.ref (rho X a) :: st)) := by
  obtain ⟨hx, hb, hml, hr, hown, hts, hlk, hnm⟩ := S
  unfold okF at hok
  rcases rdF_e hw with ⟨fs, v, hc, hv, hP⟩ | ⟨i, hc, h9, hP⟩
  · obtain ⟨hci, hfl, cell, q1, q2, q3, q4⟩ := R.1 a _ hc
    rw [if_neg (by omega)] at hok
    simp only [Bool.and_eq_true, decide_eq_true_eq, Bool.or_eq_true] at hok
    obtain ⟨⟨-, hk⟩, hlink⟩ := hok
    obtain ⟨hS, hfc, kC, hkC, hkind⟩ := R.2.2.2.1 _ hci
    obtain ⟨cf, kf, fi, f, hi, hsl⟩ := hS _ hk
    have hst := (u_facts hfc hkC (u_lays hts (lays_in hci) hk) hi).1
    have hsv : cell.slots[f.slot]? = some (val X v) := by
      rw [hsl, q4 _ hk]
      show some (val X (fs.getD _ vN)) = _
      rw [getD_of hv]
    have hun : cell.vm ≠ .unknown := by rw [q3]; exact fun h => by cases h
    rcases hlink with hl | hl
    · exact W.getf hx hb hown (hts _ (hasW_e hl)) hi hst q1 hun hsv rfl rfl hd (kk v hP)
    · exact va_Wgetf hx hb hown (va_Nw.use rfl (N.1 _ (List.mem_of_getElem? hl))) hi hst q1 hun hsv rfl rfl hd (kk v hP)
  · obtain ⟨-, ⟨f1, f2, f3, f4, c2, q1, q2, q3, q4, q5, -⟩, ⟨g1, g2, g3, g4, c3, r1, r2, r3, r4, r5, -⟩⟩ := R.1 a _ hc
    rw [if_pos h9] at hok
    simp only [Bool.and_eq_true, Bool.or_eq_true, beq_iff_eq] at hok
    rcases hok with ⟨hk, hl⟩ | ⟨hk, hl⟩
    · rw [if_pos hk] at hP
      exact W.getf hx hb hown (hts _ (hasW_e hl)) q1 q2 q3 q4 q5 rfl rfl hd (kk _ hP)
    · rw [if_neg (by omega)] at hP
      exact W.getf hx hb hown (hts _ (hasW_e hl)) r1 r2 r3 r4 (v := val X (vI 0)) r5 rfl rfl hd (kk _ hP)
theorem so_putf (S : Std y p s m args meth c) (hok : okS y pc 3 (.putfield idx) q 0 y = true) (hd : decode y.2.1 pc = .ok (.putfield idx, 3)) (R : Rep X s H h z) (hlo : ∀ q ∈ locs, hiA X q.base) {v : AV} {P : AC → Prop} (hw : wrF (h a) (q.getD 0 0) (q.getD 1 0) (q.getD 3 0) v P) (ha : ∀ c, P c → 16 ≤ a)
    (kk : ∀ (c' : AC) (H' : Heap) (locs' : List Loc), P c' → Rep X s H' (upA h a c') z → (∀ q ∈ locs', hiA X q.base) → WG X d mc ms Q p e s m args below meth c H' locs' k n (F0 m (pc + 3) lr st)) : WG X d mc ms Q p e s m args below meth c H locs k n (F0 m pc lr (val X v :: .ref (rho X a) :: st)) := by
  obtain ⟨hx, hb, hml, hr, hown, hts, hlk, hnm⟩ := S
  obtain ⟨fs, hc, hk, ht, hP⟩ := wrF_e hw
  obtain ⟨hci, hfl, cell, q1, q2, q3, q4⟩ := R.1 a _ hc
  simp only [okS, Bool.and_eq_true, decide_eq_true_eq, Bool.or_eq_true, beq_iff_eq] at hok
  obtain ⟨⟨⟨⟨-, hk2⟩, hlink⟩, htc⟩, hfin⟩ := hok
  have hin := lays_in hci
  obtain ⟨hS, hfc, kC, hkC, hkind⟩ := R.2.2.2.1 _ hci
  have hS0 := hS
  obtain ⟨cf, kf, fi, f, hi, hsl⟩ := hS _ hk2
  have hap : ∀ x w, x < (fL (q.getD 0 0)).length → w < (fL (q.getD 0 0)).length → x ≠ w → (X.2.2.2.2 (q.getD 0 0)) x ≠ (X.2.2.2.2 (q.getD 0 0)) w := by
    intro x w hxl hwl hxw
    obtain ⟨_, _, _, _, hi1, hs1⟩ := hS0 x hxl
    obtain ⟨_, _, _, _, hi2, hs2⟩ := hS0 w hwl
    rw [← hs1, ← hs2]
    refine u_apart (u_lays hts hin hxl) (u_lays hts hin hwl) hi1 hi2 ?_
    rw [(State.fieldFound?_type hi1 (ty_in hci x hxl)).1, (State.fieldFound?_type hi2 (ty_in hci w hwl)).1]
    exact nm_in hci x hxl w hwl hxw
  have hst := (u_facts hfc hkC (u_lays hts hin hk2) hi).1
  have hft := okT_fit X ((fY (q.getD 0 0)).getD (q.getD 1 0) .int) v (by rw [← htc]; exact ht) (ys_in hci hk2 rfl)
  have hlt : f.slot < cell.slots.size := by rw [hsl]; exact k2_hasslot (q4 _ hk2)
  have fin : ∀ H' : Heap, H'[rho X a]? = some (cell.setSlot f.slot (val X v)) → H'.size = H.size → (∀ q9 : Nat, q9 ≠ rho X a → H'[q9]? = H[q9]?) →
      WG X d mc ms Q p e s m args below meth c H' (locs ++ [⟨rho X a, f.slot⟩]) k n (F0 m (pc + 3) lr st) := by
    intro H' e1 e2 e3
    refine kk _ H' _ hP (rep_set R (ha _ hP) ?_ e2 e3) (fun q9 hq9 => ?_)
    · refine ⟨hci, by rw [List.length_set]; exact hfl, cell.setSlot f.slot (val X v), e1, q2, q3, ?_⟩
      intro j hj
      rw [hsl, t_set q4 hap hk2 (val X v) j hj]
      show some (updV _ _ _ j) = some (val X ((fs.set _ v).getD j vN))
      rw [getD_set hk]
      unfold updV
      split <;> rfl
    · rcases List.mem_append.mp hq9 with h9 | h9
      · exact hlo _ h9
      · rw [List.mem_singleton.mp h9]
        show X.2.1 ≤ rho X a
        rw [rho_hi (ha _ hP)]; omega
  have hlay := hts _ (hin _ (u_in_lay hk2))
  unfold u_lay at hlay
  rcases hfin with hf | ⟨hf1, hf2⟩
  · rw [if_neg (by rw [hf]; decide)] at hlay
    have h6 := u_store hfc hkC hkind hlay hi (ty_in hci _ hk2) hft.1 hft.2
    exact W.putK hx hb (f := f) ⟨hown, hts _ (hasW_e hlink), ⟨_, _, _, hi⟩, hst⟩ (by rw [q2]; exact h6) q1 q3 hlt rfl rfl hd fin
  · have h6 := u_fits hfc hkC hkind (u_lays hts hin hk2) hi (ty_in hci _ hk2) hft.1 hft.2
    by_cases hf : (fT (q.getD 0 0) (q.getD 1 0)).2.2.2 = true
    · rw [if_pos hf] at hlay
      have hcf : m.cls = cf := by
        obtain ⟨_, _, c', _, _, _, -, -, hf', -, -, -, hown2, -⟩ := Cond.laysFinal_spec hlay
        have e1 : c' = cf := by have := hi.symm.trans hf'; simp at this; exact this.1.symm
        rw [hf2] at hown2
        rw [← e1]; exact Option.some.inj (hown.symm.trans hown2)
      exact W.putFinK hx hb hown (hts _ (hasW_e hlink)) hi hst hcf (hnm.trans hf1) (by rw [q2]; exact h6) q1 q3 hlt rfl rfl hd fin
    · rw [if_neg hf] at hlay
      have h6 := u_store hfc hkC hkind hlay hi (ty_in hci _ hk2) hft.1 hft.2
      exact W.putK hx hb (f := f) ⟨hown, hts _ (hasW_e hlink), ⟨_, _, _, hi⟩, hst⟩ (by rw [q2]; exact h6) q1 q3 hlt rfl rfl hd fin
theorem so_gets (S : Std y p s m args meth c) (hok : okS y pc 3 (.getstatic idx) q 0 y = true) (hd : decode y.2.1 pc = .ok (.getstatic idx, 3)) (R : Rep X s H h z)
    (kk : ∀ w : AV, (q.getD 0 0 = 3 ∧ w = vI 1) ∨ (q.getD 0 0 = 15 ∧ (w = vA 15 ∨ w = vN)) ∨ (q.getD 0 0 ≠ 3 ∧ q.getD 0 0 ≠ 15 ∧ w = vA (q.getD 0 0)) → WG X d mc ms Q p e s m args below meth c H locs k n (F0 m (pc + 3) lr (val X w :: st))) : WG X d mc ms Q p e s m args below meth c H locs k n (F0 m pc lr st) := by
  obtain ⟨hx, hb, hml, hr, hown, hts, hlk, hnm⟩ := S
  simp only [okS, Bool.and_eq_true, Bool.or_eq_true, beq_iff_eq] at hok
  rcases hok with ((⟨h0, h1⟩ | ⟨h0, h1⟩) | ⟨h0, h1⟩) | ⟨h0, h1⟩
  · rw [h0] at kk
    obtain ⟨cf, kf, fi, f, a9, cell, g1, g2, g3, g4, g5, g6, g7, g8⟩ := R.2.2.2.2.1
    exact W.gets hx hb hown (hts _ (hasW_e h1)) g1 g2 g3 g4 g5 (fun e => by rw [e] at g6; cases g6) g7 rfl hd (kk (vA 1) (Or.inr (Or.inr ⟨by decide, by decide, rfl⟩)))
  · rw [h0] at kk
    obtain ⟨cf, kf, fi, f, a9, cell, g1, g2, g3, g4, g5, g6, g7, g8⟩ := R.2.2.2.2.2.1
    exact W.gets hx hb hown (hts _ (hasW_e h1)) g1 g2 g3 g4 g5 (fun e => by rw [e] at g6; cases g6) g7 rfl hd (kk (vA 2) (Or.inr (Or.inr ⟨by decide, by decide, rfl⟩)))
  · rw [h0] at kk
    obtain ⟨cf, kf, fi, f, a9, cell, g1, g2, g3, g4, g5, g6, g7, g8⟩ := R.2.2.2.2.2.2.1
    exact W.gets hx hb hown (hts _ (hasW_e h1)) g1 g2 g3 g4 g5 (fun e => by rw [e] at g6; cases g6) g7 rfl hd (kk (vI 1) (Or.inl ⟨rfl, rfl⟩))
  · rw [h0] at kk
    rcases R.2.2.2.2.2.2.2 with hz | hz
    · obtain ⟨cf, kf, fi, f, a9, cell, g1, g2, g3, g4, g5, g6, g7, g8⟩ := hz
      exact W.gets hx hb hown (hts _ (hasW_e h1)) g1 g2 g3 g4 g5 (fun e => by rw [e] at g6; cases g6) g7 rfl hd (kk (vA 15) (Or.inr (Or.inl ⟨rfl, Or.inl rfl⟩)))
    · obtain ⟨cf, kf, fi, f, a9, cell, g1, g2, g3, g4, g5, g6, g7, g8⟩ := hz
      exact W.gets hx hb hown (hts _ (hasW_e h1)) g1 g2 g3 g4 g5 (fun e => by rw [e] at g6; cases g6) g7 rfl hd (kk vN (Or.inr (Or.inl ⟨rfl, Or.inr rfl⟩)))
theorem so_iald (S : Std y p s m args meth c) (hd : decode y.2.1 pc = .ok (.iaload, 1)) (R : Rep X s H h z) {i : Int} {P : Int → Prop} (hw : rdA (h a) 0 i P)
    (kk : ∀ v, P v → WG X d mc ms Q p e s m args below meth c H locs k n (F0 m (pc + 1) lr (val X (vI v) :: st))) : WG X d mc ms Q p e s m args below meth c H locs k n (F0 m pc lr (val X (vI i) :: val X (vA a) :: st)) := by
  obtain ⟨nn, f, hc, h0, h1, hP⟩ := rdA_e hw
  obtain ⟨cell, g1, g2, g3, g4, g5, g6⟩ := R.1 a _ hc
  have ei := ofI_nat h0 (by omega)
  exact W.iald S.1 S.2.1 g1 g2 g3 (by rw [g4]; exact ofI_in h0 h1 g5) (v := val X (vI (f i.toNat))) (by rw [ei.1]; exact g6 _ (by omega)) rfl rfl hd (kk _ hP)
theorem so_bald (S : Std y p s m args meth c) (hd : decode y.2.1 pc = .ok (.baload, 1)) (R : Rep X s H h z) {kd : Nat} (hkd : kd = 1 ∨ kd = 2) {i : Int} {P : Int → Prop} (hw : rdA (h a) kd i P)
    (kk : ∀ v, P v → WG X d mc ms Q p e s m args below meth c H locs k n (F0 m (pc + 1) lr (val X (vI v) :: st))) : WG X d mc ms Q p e s m args below meth c H locs k n (F0 m pc lr (val X (vI i) :: val X (vA a) :: st)) := by
  obtain ⟨nn, f, hc, h0, h1, hP⟩ := rdA_e hw
  obtain ⟨cell, g1, g2, g3, g4, g5, g6⟩ := R.1 a _ hc
  have ei := ofI_nat h0 (by omega)
  rcases hkd with rfl | rfl
  · exact W.bald S.1 S.2.1 g1 g2 g3 (by rw [g4]; exact ofI_in h0 h1 g5) (v := val X (vI (f i.toNat))) (by rw [ei.1]; exact g6 _ (by omega)) rfl rfl hd (kk _ hP)
  · exact W.zald S.1 S.2.1 g1 g2 g3 (by rw [g4]; exact ofI_in h0 h1 g5) (v := val X (vI (f i.toNat))) (by rw [ei.1]; exact g6 _ (by omega)) rfl rfl hd (kk _ hP)
theorem so_aald (S : Std y p s m args meth c) (hd : decode y.2.1 pc = .ok (.aaload, 1)) (R : Rep X s H h z) {i : Int} {P : Nat → Prop} (hw : rdR (h a) i P)
    (kk : ∀ v, P v → WG X d mc ms Q p e s m args below meth c H locs k n (F0 m (pc + 1) lr (val X (vA v) :: st))) : WG X d mc ms Q p e s m args below meth c H locs k n (F0 m pc lr (val X (vI i) :: val X (vA a) :: st)) := by
  obtain ⟨nn, f, hc, h0, h1, hP⟩ := rdR_e hw
  obtain ⟨cell, g1, g2, g3, g4, g5, g6⟩ := R.1 a _ hc
  have ei := ofI_nat h0 (by omega)
  exact W.aald S.1 S.2.1 g1 g2 rfl g3 (by rw [g4]; exact ofI_in h0 h1 g5) (v := val X (vA (f i.toNat))) (by rw [ei.1]; exact g6 _ (by omega)) rfl rfl hd (kk _ hP)
theorem so_alen (S : Std y p s m args meth c) (hd : decode y.2.1 pc = .ok (.arraylength, 1)) (R : Rep X s H h z) {P : Int → Prop} (hw : lnA (h a) P)
    (kk : ∀ v, P v → WG X d mc ms Q p e s m args below meth c H locs k n (F0 m (pc + 1) lr (val X (vI v) :: st))) : WG X d mc ms Q p e s m args below meth c H locs k n (F0 m pc lr (val X (vA a) :: st)) := by
  obtain ⟨kd, nn, f, hc, hP⟩ := lnA_e hw
  obtain ⟨cell, g1, g2, g3, g4, g5, g6⟩ := R.1 a _ hc
  refine W.alen (n := Int32.ofInt nn) S.1 S.2.1 g1 g2 ?_ rfl rfl hd (kk _ hP)
  rw [g4]; rfl
theorem set_slots {cell : Cell} {f : Nat → Int} {nn i : Nat} {x : Int} (h1 : cell.slots.size = nn) (h2 : ∀ j, j < nn → cell.slots[j]? = some (.int (Int32.ofInt (f j)))) (hi : i < nn) :
    (cell.setSlot i (.int (Int32.ofInt x))).slots.size = nn ∧ ∀ j, j < nn → (cell.setSlot i (.int (Int32.ofInt x))).slots[j]? = some (.int (Int32.ofInt (upF f i x j))) := by
  refine ⟨by simpa [Cell.setSlot] using h1, fun j hj => ?_⟩
  by_cases e : j = i
  · subst e
    simp [Cell.setSlot, upF, h1, hi]
  · simp only [Cell.setSlot, upF, if_neg e]
    rw [Array.getElem?_setIfInBounds_ne (Ne.symm e)]
    exact h2 j hj
theorem nar_b {x : Int} (h : -128 ≤ x ∧ x ≤ 127) : narrow .byte (.int (Int32.ofInt x)) = .int (Int32.ofInt x) := by
  show Value.int (Int32.ofInt x).toInt8.toInt32 = _
  congr 1
  rw [← Int32.toInt_inj, Int8.toInt_toInt32, Int32.toInt_toInt8, Int32.toInt_ofInt_of_le (by omega) (by omega)]
  rw [Int.bmod_eq_of_le (by omega) (by omega)]
theorem nar_z {x : Int} (h : x = 0 ∨ x = 1) : narrow .boolean (.int (Int32.ofInt x)) = .int (Int32.ofInt x) := by
  rcases h with rfl | rfl <;> decide +kernel
theorem so_ast (S : Std y p s m args meth c) (R : Rep X s H h z) (hlo : ∀ q ∈ locs, hiA X q.base) {kd : Nat} {x i : Int} {P : AC → Prop} (hkd : (kd = 0 ∧ decode y.2.1 pc = .ok (.iastore, 1)) ∨ ((kd = 1 ∨ kd = 2) ∧ decode y.2.1 pc = .ok (.bastore, 1))) (hw : wrA (h a) kd i x P) (ha : ∀ c, P c → 16 ≤ a)
    (kk : ∀ (c' : AC) (H' : Heap) (locs' : List Loc), P c' → Rep X s H' (upA h a c') z → (∀ q ∈ locs', hiA X q.base) → WG X d mc ms Q p e s m args below meth c H' locs' k n (F0 m (pc + 1) lr st)) : WG X d mc ms Q p e s m args below meth c H locs k n (F0 m pc lr (val X (vI x) :: val X (vI i) :: val X (vA a) :: st)) := by
  obtain ⟨nn, f, hc, h0, h1, hx, hP⟩ := wrA_e hw
  obtain ⟨cell, g1, g2, g3, g4, g5, g6⟩ := R.1 a _ hc
  have ei := ofI_nat h0 (by omega)
  have hin := ofI_in h0 h1 g5
  rw [← g4] at hin
  have hset := set_slots (x := x) g4 g6 (i := i.toNat) (by omega)
  have fin : ∀ H' : Heap, H'[rho X a]? = some (cell.setSlot i.toNat (.int (Int32.ofInt x))) → H'.size = H.size → (∀ q9 : Nat, q9 ≠ rho X a → H'[q9]? = H[q9]?) →
      WG X d mc ms Q p e s m args below meth c H' (locs ++ [⟨rho X a, i.toNat⟩]) k n (F0 m (pc + 1) lr st) := by
    intro H' e1 e2 e3
    refine kk _ H' _ hP (rep_set R (ha _ hP) ⟨_, e1, g2, g3, hset.1, g5, hset.2⟩ e2 e3) (fun q9 hq9 => ?_)
    rcases List.mem_append.mp hq9 with h9 | h9
    · exact hlo _ h9
    · rw [List.mem_singleton.mp h9]
      show X.2.1 ≤ rho X a
      rw [rho_hi (ha _ hP)]; omega
  rcases hkd with ⟨rfl, hd⟩ | ⟨rfl | rfl, hd⟩
  · exact W.iast S.1 S.2.1 g1 g2 g3 hin rfl rfl hd (fun H' e1 e2 e3 => by rw [ei.1] at e1 ⊢; exact fin H' e1 e2 e3)
  · exact W.bast S.1 S.2.1 g1 g2 g3 hin rfl rfl hd (fun H' e1 e2 e3 => by rw [ei.1, nar_b hx] at e1; rw [ei.1]; exact fin H' e1 e2 e3)
  · exact W.zast S.1 S.2.1 g1 g2 g3 hin rfl rfl hd (fun H' e1 e2 e3 => by rw [ei.1, nar_z hx] at e1; rw [ei.1]; exact fin H' e1 e2 e3)
end SO
theorem okTg_e {pc : Nat} : ∀ {os : List Int} {ts : List Nat}, okTg pc os ts = true → os.length = ts.length ∧ ∀ (j : Nat) (o : Int) (t : Nat), os[j]? = some o → ts[j]? = some t → (pc : Int) + o = (t : Int)
  | [], [], _ => ⟨rfl, fun j o t h => by simp at h⟩
  | [], _ :: _, h => by simp [okTg] at h
  | _ :: _, [], h => by simp [okTg] at h
  | o :: os, t :: ts, h => by
    simp only [okTg, Bool.and_eq_true, decide_eq_true_eq] at h
    obtain ⟨h1, h2⟩ := okTg_e h.2
    refine ⟨by simp [h1], fun j o' t' h3 h4 => ?_⟩
    cases j with
    | zero => simp at h3 h4; rw [← h3, ← h4]; exact h.1
    | succ j => exact h2 j o' t' (by simpa using h3) (by simpa using h4)
theorem swT_e {E : Ev} {ls : LV} {st : SV} {h : AH} {z k n : Nat} {x : Int} : ∀ {lo : Int} {ts : List Nat} {j t : Nat}, swT E ls st h z k n x lo ts → ts[j]? = some t → x = lo + j → Ex E t ls st h z k n
  | lo, [], j, t, _, h1, _ => by simp at h1
  | lo, t0 :: ts, j, t, hw, h1, h2 => by
    cases j with
    | zero => simp at h1; rw [← h1]; exact hw.1 (by simpa using h2)
    | succ j => exact swT_e (lo := lo + 1) (ts := ts) (j := j) hw.2 (by simpa using h1) (by rw [h2]; push_cast; omega)
theorem swL_e {E : Ev} {ls : LV} {st : SV} {h : AH} {z k n : Nat} {x : Int} {d pc : Nat} {dd : Int} (hd : (pc : Int) + dd = (d : Int)) : ∀ {ps : List (Int × Int)} {ts : List Nat}, okTg pc (ps.map Prod.snd) ts = true → swL E ls st h z k n x d ps ts → ∃ t : Nat, (pc : Int) + Op.lookupswitch.offset ps dd x = (t : Int) ∧ Ex E t ls st h z k n
  | [], [], _, hw => ⟨d, by simpa [Op.lookupswitch.offset] using hd, hw⟩
  | [], _ :: _, h, _ => by simp [okTg] at h
  | _ :: _, [], h, _ => by simp [okTg] at h
  | (a, o) :: ps, t :: ts, hok, hw => by
    simp only [List.map_cons, okTg, Bool.and_eq_true, decide_eq_true_eq] at hok
    rw [Op.lookupswitch.offset_cons]
    by_cases hx : x = a
    · exact ⟨t, by rw [if_pos (by first | exact hx.symm | exact hx)]; exact hok.1, hw.1 hx⟩
    · obtain ⟨t', h1, h2⟩ := swL_e hd hok.2 (hw.2 hx)
      exact ⟨t', by rw [if_neg (by first | exact hx | exact fun q => hx q.symm)]; exact h1, h2⟩
