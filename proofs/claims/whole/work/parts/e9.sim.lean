/-! e9: both objects new -/
theorem em_V2 (wy bu fi : Nat → Nat → Int) (ld : Nat → Int) : HoV 1 0 0 0 0 0 wy bu ld fi := ⟨⟨by omega, by omega⟩, by omega, by omega, by omega, by omega, by omega, fun w hw => by omega, fun w hw => by simp at hw, fun w hw => by omega, fun w hw => by omega, fun w hw => by omega⟩
theorem ch0_e : upF (fun _ => 0) 0 10 = ch0 := funext fun k => by
  unfold ch0 upF
  repeat' split
  all_goals first
    | rfl
    | omega
theorem ch0_v : ChV ch0 := by
  unfold ChV
  exact ⟨by decide, by decide⟩
theorem tb0_v : TbV (fun _ => 0) zz1 := fun i hi => ⟨by show bAnd 0 255 = 0; decide +kernel, by show (0 : Int) ≤ 0; decide, by show (0 : Int) ≤ 255; decide⟩
theorem sim_0 {h : AH} (hc : ClI h) (hm : MdI h) (l1 : h 1 = some (cI 5 loT)) (l2 : h 2 = some (cI 5 hiT)) (hs : StrC h) : Sim 0 h := by
  obtain ⟨c1, c2, c3, c4, c5, c6, c7, c8, c9, ⟨wt, wo, ro, ir, od, lb, tr, b1, b2, b3⟩, c11, c12, c13, c14, c15⟩ := hc
  obtain ⟨fa, ah, bn, le, du, oa, hA, hD⟩ := dr_of (f := 0) (n' := 0) c11
  obtain ⟨m1, m2, m3, m4, m5, m6, m7, m8, m9, m10, m11, m12, m13, m14, m15, m16, m17, m18, m19, m20, m21, m22, m23, m24, m25, m26, m27, m28, m29, m30, m31, m32⟩ := hm
  rw [ch0_e] at m20
  have hC : CS h 0 19 50 1 0 0 0 0 0 0 0 0 zz2 zz2 zz2 zz1 zz1 tn0 ch0 zz1 zz1 zz1 0 0 0 0 0 0 0 wt wo ro ir od lb tr fa ah bn le du oa := ⟨c1, c4, c7, b1, hA, c15, c6, c2, c8, c9, ⟨⟨0, (0, 0, 0, 0, -1), c3, ⟨Nat.le_refl _, ⟨Nat.zero_le _, Nat.zero_le _⟩, ⟨by decide, by decide⟩, ⟨by decide, by decide⟩, ⟨by decide, by decide⟩⟩⟩, ⟨((1, 0, 0, 0, 0, 0), zz2, zz2, zz1, zz2), c5⟩, ⟨_, _, _, _, _, _, _, c12⟩, ⟨0, 0, _, _, c13, fun p hp => by decide, fun m hm s hs => ⟨by show (-10000 : Int) ≤ 0; decide, by show (0 : Int) ≤ 10000; decide⟩⟩, ⟨_, _, _, _, c14⟩, l1, l2, hs⟩, Or.inl ⟨rfl, rfl⟩⟩
  have hM : MS2 h 0 0 ch0 (fun k => if k = 0 then upF (fun _ => 0) 0 1 else fun _ => 0, zz2, zz2, zz1, zz2) (0, 0, 0, 0, 0, 0) 0 0 0 (fun _ => 0) tn0 zz1 zz1 zz1 zz1 zz1 zz1 zz1 := ⟨m1, m2, all16 ⟨m3, m4, m5, m6, m7, m8, m9, m10, m11, m12, m13, m14, m15, m16, m17, m18⟩, m19, m20, m21, m22, m23, m24, m25, m26, m27, ⟨_, m28⟩, ⟨_, m29⟩, ⟨_, m30⟩, ⟨_, m31⟩, ⟨_, m32⟩⟩
  have z0 : ∀ i, i < 3 → (0 ≤ zz1 i ∧ zz1 i ≤ 420 * ((0 : Nat) : Int)) ∧ (0 ≤ i → zz1 i = 0) := fun i hi => ⟨⟨by show (0 : Int) ≤ 0; decide, by show (0 : Int) ≤ 420 * ((0 : Nat) : Int); decide⟩, fun _ => rfl⟩
  have no : ∀ {P : Prop}, (0 : Int) = 1 → P := fun e => absurd e (by decide)
  exact ⟨_, _, _, _, _, _, _, _, _, _, _, _, _, _, _, _, _, _, _, _, _, _, _, _, _, _, _, _, _, _, _, _, _, _, _, _, _, _, _, _, _, _, _, _, _, _, _, _, _, _, _, _, _, _, _, _, hC, hM, ⟨tn0_v, ch0_v, fun i hi => ⟨by show (0 : Int) ≤ 0; decide, by show (0 : Int) ≤ 255; decide⟩, by decide, by decide, by decide, z0, ⟨Or.inl rfl, no⟩, ⟨Or.inl rfl, no⟩⟩, ⟨em_V, em_V2 _ _ _ _, fun w hw => absurd hw (Nat.not_lt_zero _), fun w hw => absurd hw (Nat.not_lt_zero _), fun w hw => absurd hw (Nat.not_lt_zero _), fun w hw => absurd hw (Nat.not_lt_zero _), rfl, rfl, rfl, rfl, rfl⟩, ba_new em_V b2 b3 (fun w hw => absurd hw (Nat.not_lt_zero _)) (fun w hw => absurd hw (Nat.not_lt_zero _)), ⟨tb0_v, fun k hk => rfl, rfl, fun i hi => rfl, rfl, ⟨rfl, no⟩, ⟨rfl, no⟩⟩, hD⟩
