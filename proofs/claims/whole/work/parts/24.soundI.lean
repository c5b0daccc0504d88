/-! 08: wpB is sound: every instruction, and a block -/
set_option maxHeartbeats 8000000 in
set_option maxRecDepth 20000 in
theorem so_I (X : Cx) (d mc ms : Nat) (y : MI) (Q : Option AV → AH → Nat → Prop) (K : KT) (pc len : Nat) (i : Instr) (q : List Nat) (v : Int) (mi : MI) (hok : okI y (pc, len, i, q, v, mi) = true)
    (hK : ∀ ls st h z k n, K ls st h z k n → Ex (X, d, mc, ms, y, Q) (pc + len) ls st h z k n) (ls : LV) (st : SV) (h : AH) (z k n : Nat)
    (hw : wpI (X, d, mc, ms, y, Q) K (pc, len, i, q, v, mi) ls st h z k n) : Ex (X, d, mc, ms, y, Q) pc ls st h z k n := by
  simp only [okI, Bool.and_eq_true, decide_eq_true_eq] at hok
  obtain ⟨⟨hd, hlen⟩, hs⟩ := hok
  intro p e s m args below meth c H locs lr S N R hl hn hlo
  obtain ⟨hx, hb, hml, hr, hown, hts, hlk, hnm⟩ := id S
  have go : ∀ {ls : LV} {st : SV} {h : AH} {z k n : Nat} {H : Heap} {locs : List Loc} {lr : Array Slot}, K ls st h z k n → Rep X s H h z → lv_has lr ls.length (asc X 0 ls) → ls.length = y.2.2.1 → (∀ q ∈ locs, hiA X q.base) →
      W p X.1 e (rmD d mc ms) s m args below meth c H locs k n (MQ below (QcX X Q) args s mc ms (hiA X)) (F0 m (pc + len) lr (st.map (val X))) :=
    fun hk R hl hn hlo => hK _ _ _ _ _ _ hk p e s m args below meth c _ _ _ S N R hl hn hlo
  have goE : ∀ {t : Nat} {ls : LV} {st : SV} {h : AH} {z k n : Nat} {H : Heap} {locs : List Loc} {lr : Array Slot}, Ex (X, d, mc, ms, y, Q) t ls st h z k n → Rep X s H h z → lv_has lr ls.length (asc X 0 ls) → ls.length = y.2.2.1 → (∀ q ∈ locs, hiA X q.base) →
      W p X.1 e (rmD d mc ms) s m args below meth c H locs k n (MQ below (QcX X Q) args s mc ms (hiA X)) (F0 m t lr (st.map (val X))) :=
    fun hk R hl hn hlo => hk p e s m args below meth c _ _ _ S N R hl hn hlo
  have sto : ∀ {j : Nat} {u : AV} {st : SV} {lr' : Array Slot} {f : Nat × Value → Bool}, stL ls j u (kS K st h z k n) → (∀ q : Nat × Value, f q = (!(q.1 == j) && !(q.1 + 1 == j && q.2.category == 2))) → lv_has lr' ls.length ((j, val X u) :: (asc X 0 ls).filter f) →
      W p X.1 e (rmD d mc ms) s m args below meth c H locs k n (MQ below (QcX X Q) args s mc ms (hiA X)) (F0 m (pc + len) lr' (st.map (val X))) :=
    fun h2 hf h => go h2.2 R (by rw [stSt_len]; exact lv_st hf h2.1 h) (by rw [stSt_len]; exact hn) hlo
  cases i with
  | aload_n j =>
    obtain rfl : len = 1 := hlen
    obtain ⟨x, h1, h2⟩ := ldA_e hw
    exact lv_aload_n hx hb hd rfl (lv_g hl h1) (go h2 R hl hn hlo)
  | aload j =>
    obtain rfl : len = 2 := hlen
    obtain ⟨x, h1, h2⟩ := ldA_e hw
    exact lv_aload hx hb hd (lv_g hl h1) (go h2 R hl hn hlo)
  | iload_n j =>
    obtain rfl : len = 1 := hlen
    obtain ⟨x, h1, h2⟩ := ldI_e hw
    exact lv_iload_n hx hb hd rfl (lv_g hl h1) (go h2 R hl hn hlo)
  | iload j =>
    obtain rfl : len = 2 := hlen
    obtain ⟨x, h1, h2⟩ := ldI_e hw
    exact lv_iload hx hb hd (lv_g hl h1) (go h2 R hl hn hlo)
  | lload_n j =>
    obtain rfl : len = 1 := hlen
    obtain ⟨x, h1, h2⟩ := ldL_e hw
    exact lv_lload_n hx hb hd rfl (lv_g hl h1) (go h2 R hl hn hlo)
  | istore_n j =>
    obtain rfl : len = 1 := hlen
    obtain ⟨x, r, rfl, h2⟩ := popI_e hw
    exact lv_istore_n hx hb hd rfl hl (stOk_e _ _ h2.1).1 rfl (fun lr' hl' => sto h2 (fun _ => rfl) hl')
  | istore j =>
    obtain rfl : len = 2 := hlen
    obtain ⟨x, r, rfl, h2⟩ := popI_e hw
    exact lv_istore hx hb hd hl (stOk_e _ _ h2.1).1 rfl (fun lr' hl' => sto h2 (fun _ => rfl) hl')
  | astore_n j =>
    obtain rfl : len = 1 := hlen
    obtain ⟨x, r, rfl, h2⟩ := popA_e hw
    exact lv_astore_n hx hb hd rfl hl (stOk_e _ _ h2.1).1 rfl (fun lr' hl' => sto h2 (fun _ => rfl) hl')
  | astore j =>
    obtain rfl : len = 2 := hlen
    obtain ⟨x, r, rfl, h2⟩ := popA_e hw
    exact lv_astore hx hb hd hl (stOk_e _ _ h2.1).1 rfl (fun lr' hl' => sto h2 (fun _ => rfl) hl')
  | iinc j c =>
    obtain rfl : len = 3 := hlen
    obtain ⟨x, h1, h2⟩ := ldI_e hw
    obtain ⟨kk, hkk⟩ := List.getElem?_of_mem ((asc_in X ls 0 (j, val X (vI x))).mpr ⟨j, vI x, h1, by rw [Nat.zero_add]⟩)
    exact lv_iinc (v := Int32.ofInt (x + c)) hx hb hd hl hkk (by rw [Int32.ofInt_add]) (stOk_e _ _ h2.1).1 rfl (fun lr' hl' => sto h2 (fun _ => rfl) hl')
  | iconst c =>
    obtain rfl : len = 1 := hlen
    exact lv_iconst hx hb hd rfl (go hw R hl hn hlo)
  | bipush c =>
    obtain rfl : len = 2 := hlen
    have hc : -128 ≤ c ∧ c ≤ 127 := by simpa [okS] using hs
    refine lv_bipush (v := Int32.ofInt c) hx hb hd ?_ (go hw R hl hn hlo)
    rw [← Int32.toInt_inj, Int8.toInt_toInt32, Int8.toInt_ofInt_of_le (by simp; omega) (by simp; omega), Int32.toInt_ofInt_of_le (by omega) (by omega)]
  | sipush c =>
    obtain rfl : len = 3 := hlen
    have hc : -32768 ≤ c ∧ c ≤ 32767 := by simpa [okS] using hs
    refine lv_sipush (v := Int32.ofInt c) hx hb hd ?_ (go hw R hl hn hlo)
    rw [← Int32.toInt_inj, Int16.toInt_toInt32, Int16.toInt_ofInt_of_le (by simp; omega) (by simp; omega), Int32.toInt_ofInt_of_le (by omega) (by omega)]
  | lconst c =>
    obtain rfl : len = 1 := hlen
    exact lv_lconst hx hb hd rfl (go hw R hl hn hlo)
  | ldc idx =>
    obtain rfl : len = 2 := hlen
    unfold okS at hs
    unfold wpI at hw
    by_cases h0 : q.getD 0 0 = 1
    · simp only [if_pos h0, Bool.and_eq_true, decide_eq_true_eq] at hs hw
      obtain ⟨⟨h1, h2⟩, h3⟩ := hs
      subst h3
      exact va_ldcS hx hb (by rw [← h2]; exact hown) (N.2.1 _ h1) hd (go hw R hl hn hlo)
    · simp only [if_neg h0] at hs hw
      exact lv_ldc hx hb hown (hts _ (hasW_e hs)) hd (go hw R hl hn hlo)
  | ldc_w idx =>
    obtain rfl : len = 3 := hlen
    exact lv_ldcw hx hb hown (hts _ (hasW_e hs)) hd (go hw R hl hn hlo)
  | ldc2_w idx =>
    obtain rfl : len = 3 := hlen
    exact lv_ldc2 hx hb hown (hts _ (hasW_e hs)) hd (go hw R hl hn hlo)
  | iadd =>
    obtain rfl : len = 1 := hlen
    obtain ⟨y2, r1, rfl, hw⟩ := popI_e hw
    obtain ⟨x2, r2, rfl, hw⟩ := popI_e hw
    have h9 := go hw R hl hn hlo
    rw [List.map_cons, val_add] at h9
    exact lv_iadd hx hb hd h9
  | isub =>
    obtain rfl : len = 1 := hlen
    obtain ⟨y2, r1, rfl, hw⟩ := popI_e hw
    obtain ⟨x2, r2, rfl, hw⟩ := popI_e hw
    have h9 := go hw R hl hn hlo
    rw [List.map_cons, val_sub] at h9
    exact lv_isub hx hb hd h9
  | imul =>
    obtain rfl : len = 1 := hlen
    obtain ⟨y2, r1, rfl, hw⟩ := popI_e hw
    obtain ⟨x2, r2, rfl, hw⟩ := popI_e hw
    have h9 := go hw R hl hn hlo
    rw [List.map_cons, val_mul] at h9
    exact lv_imul hx hb hd h9
  | iand =>
    obtain rfl : len = 1 := hlen
    obtain ⟨y2, r1, rfl, hw⟩ := popI_e hw
    obtain ⟨x2, r2, rfl, hw⟩ := popI_e hw
    have h9 := go hw R hl hn hlo
    rw [List.map_cons, val_bAnd] at h9
    exact lv_iand hx hb hd h9
  | ior =>
    obtain rfl : len = 1 := hlen
    obtain ⟨y2, r1, rfl, hw⟩ := popI_e hw
    obtain ⟨x2, r2, rfl, hw⟩ := popI_e hw
    have h9 := go hw R hl hn hlo
    rw [List.map_cons, val_bOr] at h9
    exact lv_ior hx hb hd h9
  | ixor =>
    obtain rfl : len = 1 := hlen
    obtain ⟨y2, r1, rfl, hw⟩ := popI_e hw
    obtain ⟨x2, r2, rfl, hw⟩ := popI_e hw
    have h9 := go hw R hl hn hlo
    rw [List.map_cons, val_bXor] at h9
    exact lv_ixor hx hb hd h9
  | ishl =>
    obtain rfl : len = 1 := hlen
    obtain ⟨y2, r1, rfl, hw⟩ := popI_e hw
    obtain ⟨x2, r2, rfl, hw⟩ := popI_e hw
    have h9 := go hw R hl hn hlo
    rw [List.map_cons, val_bShl] at h9
    exact lv_ishl hx hb hd h9
  | ishr =>
    obtain rfl : len = 1 := hlen
    obtain ⟨y2, r1, rfl, hw⟩ := popI_e hw
    obtain ⟨x2, r2, rfl, hw⟩ := popI_e hw
    have h9 := go hw R hl hn hlo
    rw [List.map_cons, val_bShr] at h9
    exact lv_ishr hx hb hd h9
  | iushr =>
    obtain rfl : len = 1 := hlen
    obtain ⟨y2, r1, rfl, hw⟩ := popI_e hw
    obtain ⟨x2, r2, rfl, hw⟩ := popI_e hw
    have h9 := go hw R hl hn hlo
    rw [List.map_cons, val_bUsh] at h9
    exact lv_iushr hx hb hd rfl h9
  | idiv =>
    obtain rfl : len = 1 := hlen
    obtain ⟨y2, r1, rfl, hw⟩ := popI_e hw
    obtain ⟨x2, r2, rfl, i1, i2, i3, hw⟩ := popI_e hw
    have h9 := go hw R hl hn hlo
    rw [List.map_cons, val_div X i1 i2] at h9
    exact lv_idiv hx hb hd (fun h0 => i3 ((ofI_eq i2 (by unfold InR; omega)).mp h0)) h9
  | ineg =>
    obtain rfl : len = 1 := hlen
    obtain ⟨x2, r2, rfl, hw⟩ := popI_e hw
    have h9 := go hw R hl hn hlo
    rw [List.map_cons, val_neg] at h9
    exact lv_ineg hx hb hd h9
  | i2b =>
    obtain rfl : len = 1 := hlen
    obtain ⟨x2, r2, rfl, hw⟩ := popI_e hw
    have h9 := go hw R hl hn hlo
    rw [List.map_cons, val_t] at h9
    exact lv_i2b hx hb hd rfl h9
  | i2c =>
    obtain rfl : len = 1 := hlen
    obtain ⟨x2, r2, rfl, hw⟩ := popI_e hw
    have h9 := go hw R hl hn hlo
    rw [List.map_cons, val_t] at h9
    exact lv_i2c hx hb hd rfl h9
  | i2l =>
    obtain rfl : len = 1 := hlen
    obtain ⟨x2, r2, rfl, hw⟩ := popI_e hw
    exact lv_i2l hx hb hd rfl (go hw R hl hn hlo)
  | l2i =>
    obtain rfl : len = 1 := hlen
    obtain ⟨x2, r2, rfl, hw⟩ := popL_e hw
    have h9 := go hw R hl hn hlo
    rw [List.map_cons, val_t] at h9
    exact lv_l2i hx hb hd rfl h9
  | ladd =>
    obtain rfl : len = 1 := hlen
    obtain ⟨y2, r1, rfl, hw⟩ := popL_e hw
    obtain ⟨x2, r2, rfl, hw⟩ := popL_e hw
    exact lv_ladd hx hb hd (go hw R hl hn hlo)
  | land =>
    obtain rfl : len = 1 := hlen
    obtain ⟨y2, r1, rfl, hw⟩ := popL_e hw
    obtain ⟨x2, r2, rfl, hw⟩ := popL_e hw
    exact lv_land hx hb hd (go hw R hl hn hlo)
  | lor =>
    obtain rfl : len = 1 := hlen
    obtain ⟨y2, r1, rfl, hw⟩ := popL_e hw
    obtain ⟨x2, r2, rfl, hw⟩ := popL_e hw
    exact lv_lor hx hb hd (go hw R hl hn hlo)
  | lshl =>
    obtain rfl : len = 1 := hlen
    obtain ⟨y2, r1, rfl, hw⟩ := popI_e hw
    obtain ⟨x2, r2, rfl, hw⟩ := popL_e hw
    exact lv_lshl hx hb hd rfl (go hw R hl hn hlo)
  | lshr =>
    obtain rfl : len = 1 := hlen
    obtain ⟨y2, r1, rfl, hw⟩ := popI_e hw
    obtain ⟨x2, r2, rfl, hw⟩ := popL_e hw
    exact lv_lshr hx hb hd rfl (go hw R hl hn hlo)
  | lushr =>
    obtain rfl : len = 1 := hlen
    obtain ⟨y2, r1, rfl, hw⟩ := popI_e hw
    obtain ⟨x2, r2, rfl, hw⟩ := popL_e hw
    exact lv_lushr hx hb hd rfl (go hw R hl hn hlo)
  | lcmp =>
    obtain rfl : len = 1 := hlen
    obtain ⟨y2, r1, rfl, hw⟩ := popL_e hw
    obtain ⟨x2, r2, rfl, hw⟩ := popL_e hw
    have h9 := go hw R hl hn hlo
    rw [List.map_cons, val_t] at h9
    exact W.lcmp hx hb hd h9
  | dup =>
    obtain rfl : len = 1 := hlen
    obtain ⟨x2, r2, rfl, h1, hw⟩ := popV_e hw
    exact lv_dup hx hb hd (cat1_e X _ h1) (go hw R hl hn hlo)
  | dup2 =>
    obtain rfl : len = 1 := hlen
    obtain ⟨y2, r1, rfl, hw⟩ := popV_e hw
    obtain ⟨x2, r2, rfl, h1, h2, hw⟩ := popV_e hw
    exact lv_dup2_11 hx hb hd (cat1_e X _ h2) (cat1_e X _ h1) (go hw R hl hn hlo)
  | pop =>
    obtain rfl : len = 1 := hlen
    obtain ⟨x2, r2, rfl, h1, hw⟩ := popV_e hw
    exact lv_pop hx hb hd (cat1_e X _ h1) (go hw R hl hn hlo)
  | goto o =>
    obtain rfl : len = 3 := hlen
    exact lv_goto hx hb hd (of_decide_eq_true hs) (goE hw R hl hn hlo)
  | ifCond cc o =>
    obtain rfl : len = 3 := hlen
    obtain ⟨x2, r2, rfl, i1, hw⟩ := popI_e hw
    have ht := of_decide_eq_true hs
    have i0 : InR 0 := by unfold InR; omega
    cases cc with
    | eq => exact lv_if_eq hx hb hd ht (fun z9 => goE (hw.1 ((ofI_eq i1 i0).mp z9)) R hl hn hlo) (fun z9 => go (hw.2 (fun w9 => z9 ((ofI_eq i1 i0).mpr w9))) R hl hn hlo)
    | ne => exact lv_if_ne hx hb hd ht (fun z9 => goE (hw.1 (fun w9 => z9 ((ofI_eq i1 i0).mpr w9))) R hl hn hlo) (fun z9 => go (hw.2 (fun w9 => w9 ((ofI_eq i1 i0).mp z9))) R hl hn hlo)
    | lt => exact lv_if_lt hx hb hd ht (fun z9 => goE (hw.1 ((ofI_lt i1 i0).mp z9)) R hl hn hlo) (fun z9 => go (hw.2 (fun w9 => z9 ((ofI_lt i1 i0).mpr w9))) R hl hn hlo)
    | ge => exact lv_if_ge hx hb hd ht (fun z9 => goE (hw.1 ((ofI_le i0 i1).mp z9)) R hl hn hlo) (fun z9 => go (hw.2 (fun w9 => z9 ((ofI_le i0 i1).mpr w9))) R hl hn hlo)
    | gt => exact lv_if_gt hx hb hd ht (fun z9 => goE (hw.1 ((ofI_lt i0 i1).mp z9)) R hl hn hlo) (fun z9 => go (hw.2 (fun w9 => z9 ((ofI_lt i0 i1).mpr w9))) R hl hn hlo)
    | le => exact lv_if_le hx hb hd ht (fun z9 => goE (hw.1 ((ofI_le i1 i0).mp z9)) R hl hn hlo) (fun z9 => go (hw.2 (fun w9 => z9 ((ofI_le i1 i0).mpr w9))) R hl hn hlo)
  | if_icmp cc o =>
    obtain rfl : len = 3 := hlen
    obtain ⟨y2, r1, rfl, hw⟩ := popI_e hw
    obtain ⟨x2, r2, rfl, i1, i0, hw⟩ := popI_e hw
    have ht := of_decide_eq_true hs
    cases cc with
    | eq => exact lv_icmp_eq hx hb hd ht (fun z9 => goE (hw.1 ((ofI_eq i1 i0).mp z9)) R hl hn hlo) (fun z9 => go (hw.2 (fun w9 => z9 ((ofI_eq i1 i0).mpr w9))) R hl hn hlo)
    | ne => exact lv_icmp_ne hx hb hd ht (fun z9 => goE (hw.1 (fun w9 => z9 ((ofI_eq i1 i0).mpr w9))) R hl hn hlo) (fun z9 => go (hw.2 (fun w9 => w9 ((ofI_eq i1 i0).mp z9))) R hl hn hlo)
    | lt => exact lv_icmp_lt hx hb hd ht (fun z9 => goE (hw.1 ((ofI_lt i1 i0).mp z9)) R hl hn hlo) (fun z9 => go (hw.2 (fun w9 => z9 ((ofI_lt i1 i0).mpr w9))) R hl hn hlo)
    | ge => exact lv_icmp_ge hx hb hd ht (fun z9 => goE (hw.1 ((ofI_le i0 i1).mp z9)) R hl hn hlo) (fun z9 => go (hw.2 (fun w9 => z9 ((ofI_le i0 i1).mpr w9))) R hl hn hlo)
    | gt => exact lv_icmp_gt hx hb hd ht (fun z9 => goE (hw.1 ((ofI_lt i0 i1).mp z9)) R hl hn hlo) (fun z9 => go (hw.2 (fun w9 => z9 ((ofI_lt i0 i1).mpr w9))) R hl hn hlo)
    | le => exact lv_icmp_le hx hb hd ht (fun z9 => goE (hw.1 ((ofI_le i1 i0).mp z9)) R hl hn hlo) (fun z9 => go (hw.2 (fun w9 => z9 ((ofI_le i1 i0).mpr w9))) R hl hn hlo)
  | getfield idx =>
    obtain rfl : len = 3 := hlen
    obtain ⟨a, r, rfl, hw⟩ := popA_e hw
    exact so_getf S N hs hd R hw (fun v hP => go hP R hl hn hlo)
  | putfield idx =>
    obtain rfl : len = 3 := hlen
    obtain ⟨u, r1, rfl, hw⟩ := popV_e hw
    obtain ⟨a, r, rfl, hw⟩ := popA_e hw
    exact so_putf S hs hd R hlo hw (fun c h9 => h9.1) (fun c1 H1 l1 hP R1 hlo1 => go hP.2 R1 hl hn hlo1)
  | getstatic idx =>
    obtain rfl : len = 3 := hlen
    unfold wpI at hw
    refine so_gets S hs hd R (fun w hw2 => ?_)
    rcases hw2 with ⟨h0, rfl⟩ | ⟨h0, rfl | rfl⟩ | ⟨h0, h1, rfl⟩
    · simp only [if_pos h0] at hw
      exact go hw R hl hn hlo
    · simp only [if_neg (show q.getD 0 0 ≠ 3 by omega), if_pos h0] at hw
      exact go hw.1 R hl hn hlo
    · simp only [if_neg (show q.getD 0 0 ≠ 3 by omega), if_pos h0] at hw
      exact go hw.2 R hl hn hlo
    · simp only [if_neg h0, if_neg h1] at hw
      exact go hw R hl hn hlo
  | iaload =>
    obtain rfl : len = 1 := hlen
    obtain ⟨i2, r1, rfl, hw⟩ := popI_e hw
    obtain ⟨a, r, rfl, hw⟩ := popA_e hw
    exact so_iald S hd R hw (fun v hP => go hP R hl hn hlo)
  | baload =>
    obtain rfl : len = 1 := hlen
    obtain ⟨i2, r1, rfl, hw⟩ := popI_e hw
    obtain ⟨a, r, rfl, hw⟩ := popA_e hw
    have h12 : q.getD 0 0 = 1 ∨ q.getD 0 0 = 2 := by simpa [okS] using hs
    exact so_bald S hd R h12 hw (fun v hP => go hP R hl hn hlo)
  | aaload =>
    obtain rfl : len = 1 := hlen
    obtain ⟨i2, r1, rfl, hw⟩ := popI_e hw
    obtain ⟨a, r, rfl, hw⟩ := popA_e hw
    exact so_aald S hd R hw (fun v hP => go hP R hl hn hlo)
  | arraylength =>
    obtain rfl : len = 1 := hlen
    obtain ⟨a, r, rfl, hw⟩ := popA_e hw
    exact so_alen S hd R hw (fun v hP => go hP R hl hn hlo)
  | iastore =>
    obtain rfl : len = 1 := hlen
    obtain ⟨x2, r0, rfl, hw⟩ := popI_e hw
    obtain ⟨i2, r1, rfl, hw⟩ := popI_e hw
    obtain ⟨a, r, rfl, hw⟩ := popA_e hw
    exact so_ast S R hlo (Or.inl ⟨rfl, hd⟩) hw (fun c h9 => h9.1) (fun c1 H1 l1 hP R1 hlo1 => go hP.2 R1 hl hn hlo1)
  | bastore =>
    obtain rfl : len = 1 := hlen
    obtain ⟨x2, r0, rfl, hw⟩ := popI_e hw
    obtain ⟨i2, r1, rfl, hw⟩ := popI_e hw
    obtain ⟨a, r, rfl, hw⟩ := popA_e hw
    have h12 : q.getD 0 0 = 1 ∨ q.getD 0 0 = 2 := by simpa [okS] using hs
    exact so_ast S R hlo (Or.inr ⟨h12, hd⟩) hw (fun c h9 => h9.1) (fun c1 H1 l1 hP R1 hlo1 => go hP.2 R1 hl hn hlo1)
  | ireturn =>
    obtain rfl : len = 1 := hlen
    obtain ⟨x2, r0, rfl, h0, hw1, hw2, hw3, hw4⟩ := popI_e hw
    subst h0
    exact so_iret S hd hw1 R hlo hw2 hw3 hw4
  | lreturn =>
    obtain rfl : len = 1 := hlen
    obtain ⟨x2, r0, rfl, h0, hw1, hw2, hw3⟩ := popL_e hw
    subst h0
    exact so_lret S hd (of_decide_eq_true hs) R hlo hw1 hw2 hw3
  | return_ =>
    obtain rfl : len = 1 := hlen
    obtain ⟨h0, hw⟩ := hw
    subst h0
    exact so_vret S hd (of_decide_eq_true hs) R hlo hw.1 hw.2.1 hw.2.2
  | new idx =>
    obtain rfl : len = 3 := hlen
    simp only [okS, Bool.and_eq_true, decide_eq_true_eq] at hs
    obtain ⟨⟨⟨h1, h2⟩, h3⟩, h4⟩ := hs
    exact so_new S hd R h1 (hasW_e h2) (hasW_e h3) (hasW_e h4) hw.1 hw.2.1 (fun H' R' => go hw.2.2 R' hl hn hlo)
  | newarray t =>
    obtain rfl : len = 2 := hlen
    obtain ⟨x2, r0, rfl, hw⟩ := popI_e hw
    simp only [okS, Bool.and_eq_true] at hs
    have ht : newarray.typeOf t = kty (q.getD 0 0) := by
      have h1 := hs.1
      cases t <;> simp at h1 <;> rw [List.getD_eq_getElem?_getD, h1] <;> rfl
    exact so_newa S hd R ht (hasW_e hs.2) hw.1 hw.2.1 hw.2.2.1 hw.2.2.2.1 (fun H' R' => go hw.2.2.2.2 R' hl hn hlo)
  | multianewarray idx dd =>
    obtain rfl : len = 4 := hlen
    obtain ⟨x2, r1, rfl, hw⟩ := popI_e hw
    obtain ⟨x1, r0, rfl, hw⟩ := popI_e hw
    simp only [okS, Bool.and_eq_true, beq_iff_eq] at hs
    obtain ⟨⟨h1, h2⟩, h3⟩ := hs
    subst h1
    exact so_mna S N hd R (hasW_e h2) (hasW_e h3) hw.1 hw.2.1 hw.2.2.1 hw.2.2.2.1 hw.2.2.2.2.1 hw.2.2.2.2.2.1 (fun H' R' => go hw.2.2.2.2.2.2 R' hl hn hlo)
  | tableswitch dd lo hi os =>
    obtain ⟨x2, r0, rfl, i1, hw1, hw2⟩ := popI_e hw
    simp only [okS, Bool.and_eq_true, decide_eq_true_eq] at hs
    obtain ⟨⟨h1, h2⟩, h3⟩ := hs
    obtain ⟨g1, g2⟩ := okTg_e h3
    have ex := inr_toInt i1
    by_cases hx1 : x2 < lo ∨ hi < x2
    · exact lv_tableOut hx hb hd (by rw [ex]; exact hx1) h1 (goE (hw1 hx1) R hl hn hlo)
    · have hj : (x2 - lo).toNat < os.toList.length := by omega
      have hj2 : (x2 - lo).toNat < (q.drop 1).length := by rw [← g1]; exact hj
      have ho : os.toList[(x2 - lo).toNat]? = some (os.toList[(x2 - lo).toNat]) := List.getElem?_eq_getElem hj
      have hq : (q.drop 1)[(x2 - lo).toNat]? = some ((q.drop 1)[(x2 - lo).toNat]) := List.getElem?_eq_getElem hj2
      exact lv_tableIn hx hb hd (by rw [ex]; omega) (by rw [ex]; omega) (by rw [ex, ← Array.getElem?_toList]; exact ho) (g2 _ _ _ ho hq) (goE (swT_e hw2 hq (by omega)) R hl hn hlo)
  | lookupswitch dd ps =>
    obtain ⟨x2, r0, rfl, i1, hw⟩ := popI_e hw
    simp only [okS, Bool.and_eq_true, decide_eq_true_eq] at hs
    obtain ⟨⟨h1, h2⟩, h3⟩ := hs
    obtain ⟨t, g1, g2⟩ := swL_e h1 h2 hw
    exact lv_lookup hx hb hd h3 (by rw [inr_toInt i1]) g1 (goE g2 R hl hn hlo)
  | invokevirtual idx =>
    obtain rfl : len = 3 := hlen
    obtain ⟨h1, h2, h3, h4, h5, h6, -, h7⟩ := hw
    simp only [okS, okC, Bool.and_eq_true, decide_eq_true_eq, beq_iff_eq] at hs
    obtain ⟨⟨⟨⟨⟨⟨⟨⟨⟨⟨⟨g1, g2⟩, g3⟩, g4⟩, g5⟩, g6⟩, g7⟩, g8⟩, g9⟩, g10⟩, g11⟩, g12⟩ := hs
    rw [if_pos g12] at g5
    obtain ⟨a, as, has, ho⟩ := popA_e (h6 rfl)
    have hst : st.map (val X) = (as.map (val X)).reverse ++ .ref (rho X a) :: (st.drop (q.getD 0 0)).map (val X) := by
      have e1 : st.take (q.getD 0 0) = (vA a :: as).reverse := by rw [← has, List.reverse_reverse]
      conv => lhs; rw [← List.take_append_drop (q.getD 0 0) st, e1]
      simp [val]
    have hal : (as.map (val X)).length = q.getD 0 0 - 1 := by
      have := congrArg List.length has
      simp at this
      rw [List.length_map]
      have hq : (st.take (q.getD 0 0)).length = q.getD 0 0 := by rw [List.length_take]; omega
      have e3 : (st.take (q.getD 0 0)).reverse.length = as.length + 1 := by rw [has]; rfl
      rw [List.length_reverse, hq] at e3
      omega
    have hcb := so_cb (idx := idx) (mc := mc) (ms := ms) (mc' := q.getD 1 0) (ms' := q.getD 2 0) S h1 g4 (hasW_e g6) (hasW_e g7) g2 g3 g1 (hts _ (hasW_e g5))
    have hrecv := so_recv R ho (C := mi.1.cls) (by
      by_cases h9 : q.getD 3 0 = 9
      · rw [if_pos h9] at g11 ⊢; exact of_decide_eq_true g11
      · rw [if_neg h9] at g11 ⊢
        simp only [Bool.and_eq_true, decide_eq_true_eq] at g11
        exact g11)
    rw [hst]
    refine so_back (va_runV (Ts := wsG) (As := as.map (val X)) ⟨hx, hb, hml, hown, hts⟩ h7 ⟨hcb, hts _ (hasW_e g9), hts _ (hasW_e g10)⟩ ⟨pc_blind, hrecv, ?_⟩ rfl hal (hl.1.trans hn) rfl (lv_room (by rw [catS_e]; exact h3)) hd ⟨h4, h5⟩) hlo ?_
    · have := so_pre (as := (st.take (q.getD 0 0)).reverse) N R
      rw [has] at this
      rw [has]
      exact this
    · intro ov h' z' H' locs' hP R' hlo'
      have := go hP R' hl hn hlo'
      cases ov with
      | none => exact this
      | some v => exact this
  | invokestatic idx =>
    obtain rfl : len = 3 := hlen
    unfold okS at hs
    unfold wpI at hw
    by_cases e2 : q.getD 4 0 = 2
    · simp only [if_pos e2, Bool.and_eq_true] at hs hw
      obtain ⟨y2, r1, rfl, hw1⟩ := popI_e hw
      obtain ⟨x2, r2, rfl, i1, i2, h1, h2, h3, h4, hw2⟩ := popI_e hw1
      have h9 := go hw2 R hl hn hlo
      rw [List.map_cons, show val X (vI (if x2 < y2 then y2 else x2)) = .int (if Int32.ofInt x2 < Int32.ofInt y2 then Int32.ofInt y2 else Int32.ofInt x2) by
        by_cases q9 : x2 < y2
        · rw [if_pos q9, if_pos ((ofI_lt i1 i2).mpr q9)]; rfl
        · rw [if_neg q9, if_neg (fun w9 => q9 ((ofI_lt i1 i2).mp w9))]; rfl] at h9
      have h1' : 1 ≤ d := h1
      exact va_mmax hx hb (hml.trans (hl.1.trans hn).symm) hown (hts _ (hasW_e hs.1.1.1)) (hts _ (hasW_e hs.1.1.2)) (hts _ (hasW_e hs.1.2)) (hts _ (hasW_e hs.2)) h1 (by rw [catS_e]; show catS r2 + 13 ≤ 37 * d + 2; omega) h3 h4 hd h9
    by_cases e3 : q.getD 4 0 = 3
    · simp only [if_neg e2, if_pos e3, Bool.and_eq_true] at hs hw
      obtain ⟨y2, r1, rfl, hw1⟩ := popI_e hw
      obtain ⟨x2, r2, rfl, i1, i2, h1, h2, h3, h4, hw2⟩ := popI_e hw1
      have h9 := go hw2 R hl hn hlo
      rw [List.map_cons, show val X (vI (if y2 < x2 then y2 else x2)) = .int (if Int32.ofInt y2 < Int32.ofInt x2 then Int32.ofInt y2 else Int32.ofInt x2) by
        by_cases q9 : y2 < x2
        · rw [if_pos q9, if_pos ((ofI_lt i2 i1).mpr q9)]; rfl
        · rw [if_neg q9, if_neg (fun w9 => q9 ((ofI_lt i2 i1).mp w9))]; rfl] at h9
      have h1' : 1 ≤ d := h1
      exact va_mmin hx hb (hml.trans (hl.1.trans hn).symm) hown (hts _ (hasW_e hs.1.1.1)) (hts _ (hasW_e hs.1.1.2)) (hts _ (hasW_e hs.1.2)) (hts _ (hasW_e hs.2)) h1 (by rw [catS_e]; show catS r2 + 13 ≤ 37 * d + 2; omega) h3 h4 hd h9
    simp only [if_neg e2, if_neg e3] at hs hw
    obtain ⟨h1, h2, h3, h4, h5, -, -, h7⟩ := hw
    simp only [okC, Bool.and_eq_true, decide_eq_true_eq, beq_iff_eq] at hs
    obtain ⟨⟨⟨⟨⟨⟨⟨g1, g2⟩, g3⟩, g4⟩, g5⟩, g6⟩, g7⟩, g9⟩ := hs
    have hst : st.map (val X) = ((st.take (q.getD 0 0)).reverse.map (val X)).reverse ++ (st.drop (q.getD 0 0)).map (val X) := by
      conv => lhs; rw [← List.take_append_drop (q.getD 0 0) st]
      simp
    have hal : ((st.take (q.getD 0 0)).reverse.map (val X)).length = q.getD 0 0 := by
      rw [List.length_map, List.length_reverse, List.length_take]; omega
    rw [hst]
    have fin : ∀ ov h' z' H' locs', kC K ls (st.drop (q.getD 0 0)) (k + q.getD 1 0) (n + q.getD 2 0) ov h' z' → Rep X s H' h' z' → (∀ q ∈ locs', hiA X q.base) → WG X d mc ms Q p e s m args below meth c H' locs' (k + q.getD 1 0) (n + q.getD 2 0) (F0 m (pc + 3) lr ((ov.map (val X)).toList ++ (st.drop (q.getD 0 0)).map (val X))) := by
      intro ov h' z' H' locs' hP R' hlo'
      have := go hP R' hl hn hlo'
      cases ov with
      | none => exact this
      | some v => exact this
    by_cases hq4 : q.getD 4 0 = 0
    · rw [if_pos hq4] at g5
      have hcb := so_cb (idx := idx) (mc := mc) (ms := ms) (mc' := q.getD 1 0) (ms' := q.getD 2 0) S h1 g4 (hasW_e g6) (hasW_e g7) g2 g3 g1 (hts _ (hasW_e g5))
      exact so_back (va_runS (Ts := wsG) ⟨hx, hb, hml, hown, hts⟩ h7 ⟨hcb, hts _ (hasW_e g9)⟩ ⟨pc_blind, so_pre N R⟩ rfl hal (hl.1.trans hn) rfl (lv_room (by rw [catS_e]; exact h3)) hd ⟨h4, h5⟩) hlo fin
    · rw [if_neg hq4] at g5
      have hcb := so_cn (host := "CarryFirst") (idx := idx) (mc := mc) (ms := ms) (mc' := q.getD 1 0) (ms' := q.getD 2 0) S h1 g4 (hasW_e g6) (hasW_e g7) g2 g3 g1 (N.1 _ (List.mem_of_getElem? (of_decide_eq_true g5)))
      exact so_back (va_runSN (Ts := wsG) ⟨hx, hb, hml, hown, hts⟩ h7 ⟨hcb, hts _ (hasW_e g9), trivial⟩ ⟨pc_blind, so_pre N R⟩ rfl hal (hl.1.trans hn) rfl (lv_room (by rw [catS_e]; exact h3)) hd ⟨h4, h5⟩) hlo fin
  | invokespecial idx =>
    obtain rfl : len = 3 := hlen
    unfold okS at hs
    unfold wpI at hw
    by_cases h0 : q.getD 0 0 = 0
    · simp only [if_pos h0, Bool.and_eq_true] at hs hw
      obtain ⟨a, r, rfl, h1, h2, hw⟩ := popA_e hw
      refine W.objInit hx hb hown (hts _ (hasW_e hs.1.1)) (hts _ (hasW_e hs.1.2)) (hts _ (hasW_e hs.2)) rfl (by rw [hml]; exact hl.1.trans hn) rfl hd h1 ?_ (go hw R hl hn hlo)
      have h3 : 2 * (F0 m pc lr (List.map (val X) (vA a :: r))).monitorRoom + ((r.map (val X)).map fun v => v.category).sum ≤ 8 := lv_room (by rw [catS_e]; exact h2)
      have h1' : 1 ≤ d := h1
      exact Nat.le_trans (Nat.add_le_add_right h3 12) (show 8 + 12 ≤ 37 * d + 2 by omega)
    · simp only [if_neg h0, okC, Bool.and_eq_true, decide_eq_true_eq, beq_iff_eq] at hs hw
      obtain ⟨h1, h2, h3, h4, h5, -, h6, h7⟩ := hw
      obtain ⟨⟨⟨⟨⟨⟨⟨⟨⟨⟨g1, g2⟩, g3⟩, g4⟩, g5⟩, g6⟩, g7⟩, g8⟩, g9⟩, g10⟩, g11⟩ := hs
      obtain ⟨a, as, has, -⟩ := popA_e (h6 rfl)
      have hst : st.map (val X) = (as.map (val X)).reverse ++ .ref (rho X a) :: (st.drop (q.getD 0 0)).map (val X) := by
        have e1 : st.take (q.getD 0 0) = (vA a :: as).reverse := by rw [← has, List.reverse_reverse]
        conv => lhs; rw [← List.take_append_drop (q.getD 0 0) st, e1]
        simp [val]
      have hal : (as.map (val X)).length = q.getD 0 0 - 1 := by
        rw [List.length_map]
        have hq : (st.take (q.getD 0 0)).length = q.getD 0 0 := by rw [List.length_take]; omega
        have e3 : (st.take (q.getD 0 0)).reverse.length = as.length + 1 := by rw [has]; rfl
        rw [List.length_reverse, hq] at e3
        omega
      have fin : ∀ ov h' z' H' locs', kC K ls (st.drop (q.getD 0 0)) (k + q.getD 1 0) (n + q.getD 2 0) ov h' z' → Rep X s H' h' z' → (∀ q ∈ locs', hiA X q.base) → WG X d mc ms Q p e s m args below meth c H' locs' (k + q.getD 1 0) (n + q.getD 2 0) (F0 m (pc + 3) lr ((ov.map (val X)).toList ++ (st.drop (q.getD 0 0)).map (val X))) := by
        intro ov h' z' H' locs' hP R' hlo'
        have := go hP R' hl hn hlo'
        cases ov with
        | none => exact this
        | some v => exact this
      have hpre : PreS s H (PcX X (vA a :: as) h z) (.ref (rho X a) :: as.map (val X)) := ⟨pc_blind, so_pre N R⟩
      rw [has] at h7
      rw [hst]
      by_cases hq4 : q.getD 4 0 = 0
      · rw [if_pos hq4] at g5
        have hcb := so_cb (idx := idx) (mc := mc) (ms := ms) (mc' := q.getD 1 0) (ms' := q.getD 2 0) S h1 g4 (hasW_e g6) (hasW_e g7) g2 g3 g1 (hts _ (hasW_e g5))
        rw [g11] at hcb
        exact so_back (va_runI (Ts := wsG) ⟨hx, hb, hml, hown, hts⟩ h7 ⟨hcb, g10, hts _ (hasW_e g9)⟩ hpre rfl hal (hl.1.trans hn) rfl (lv_room (by rw [catS_e]; exact h3)) hd ⟨h4, h5⟩) hlo fin
      · rw [if_neg hq4] at g5
        have hcb := so_cn (host := "CarryFirst") (idx := idx) (mc := mc) (ms := ms) (mc' := q.getD 1 0) (ms' := q.getD 2 0) S h1 g4 (hasW_e g6) (hasW_e g7) g2 g3 g1 (N.1 _ (List.mem_of_getElem? (of_decide_eq_true g5)))
        rw [g11] at hcb
        exact so_back (va_runIN (Ts := wsG) ⟨hx, hb, hml, hown, hts⟩ h7 ⟨hcb, g10, hts _ (hasW_e g9)⟩ hpre rfl hal (hl.1.trans hn) rfl (lv_room (by rw [catS_e]; exact h3)) hd ⟨h4, h5⟩) hlo fin
  | _ => exact hw.elim

theorem so_B (X : Cx) (d mc ms : Nat) (y : MI) (Q : Option AV → AH → Nat → Prop) : ∀ (r : List Item) (pc e : Nat) (ls : LV) (st : SV) (h : AH) (z k n : Nat), okB y pc r e = true → wpB (X, d, mc, ms, y, Q) r e ls st h z k n → Ex (X, d, mc, ms, y, Q) pc ls st h z k n
  | [], pc, e, ls, st, h, z, k, n, hok, hw => by
    have e1 : pc = e := by simpa [okB] using hok
    rw [e1]; exact hw
  | (pc', len, i, q, v, mi) :: r, pc, e, ls, st, h, z, k, n, hok, hw => by
    simp only [okB, Bool.and_eq_true, beq_iff_eq] at hok
    obtain ⟨⟨h1, h2⟩, h3⟩ := hok
    subst h1
    exact so_I X d mc ms y Q (wpB (X, d, mc, ms, y, Q) r e) pc' len i q v mi h2 (fun ls st h z k n hk => so_B X d mc ms y Q r (pc' + len) e ls st h z k n h3 hk) ls st h z k n hw
