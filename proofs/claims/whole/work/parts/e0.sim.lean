/-! e0: the state of both objects, side by side -/
theorem call_nrm {X : Cx} {d mc ms : Nat} {y : MI} {as : SV} {h : AH} {z : Nat} {P Q : Option AV → AH → Nat → Prop} (hC : CallP X d mc ms y as h z P) (hPQ : ∀ o h' z', P o h' z' → ∃ a, o = some (vI a) ∧ Q (some (vI (Int32.ofInt a).toInt)) h' z') : CallP X d mc ms y as h z Q := by
  intro p e ha hc hk s m args below hf hap hP hK
  obtain ⟨n, o, h1, h2, h3, ⟨ov, h', z', h4, h5, h6⟩, h7⟩ := hC p e ha hc hk s m args below hf hap hP hK
  obtain ⟨a, e1, q⟩ := hPQ _ _ _ h5
  refine ⟨n, o, h1, h2, h3, ⟨_, h', z', ?_, q, h6⟩, h7⟩
  rw [h4, e1]
  show Outcome.returned (some (Value.int (Int32.ofInt a))) = Outcome.returned (some (Value.int (Int32.ofInt (Int32.ofInt a).toInt)))
  rw [Int32.ofInt_toInt]
def MiV (N M : Nat) (mi : Nat → Int) : Prop := ∀ i, i < 3 → (0 ≤ mi i ∧ mi i ≤ 420 * (N : Int)) ∧ (M ≤ i → mi i = 0)
def ImV (N B M : Nat) (m : Nat → Int) (f s : Nat) (k : Int) : Prop := (k = 0 ∨ k = 1) ∧ (k = 1 → f < 2 ^ B ∧ s < 4096 ∧ MiV N M m)
def ImM (c : Nat) (m : Nat → Int) (f s : Nat) (k : Int) (miM feM ks ik : Nat → Int) : Prop := ik c = k ∧ (k = 1 → (∀ i, i < 3 → miM (3 * (1 + c) + i) = m i) ∧ feM (1 + c) = ((f : Nat) : Int) ∧ ks c = ((s : Nat) : Int))
def PaV (N len B M fe sh : Nat) (tx tn ch mi m0 m1 : Nat → Int) (f0 s0 f1 s1 : Nat) (k0 k1 : Int) : Prop := TnV tn ∧ ChV ch ∧ TxV tx ∧ len ≤ 400 ∧ fe < 2 ^ B ∧ sh < 4096 ∧ MiV N M mi ∧ ImV N B M m0 f0 s0 k0 ∧ ImV N B M m1 f1 s1 k1
def HmV (n W B M F D : Nat) (wy bu fi : Nat → Nat → Int) (ld : Nat → Int) (T : MT) : Prop := HoV n W B M F D wy bu ld fi ∧ HoV n W B M F D (fl T.2.1) (fl T.2.2.1) T.2.2.2.1 (fl T.2.2.2.2) ∧ WTx W wy T.2.1 ∧ (∀ b, b < B → ∀ k, k < 4 → T.2.2.1 k b = bu b k) ∧ (∀ m, m < M → T.2.2.2.1 m = ld m) ∧ FTx F fi T.2.2.2.2 ∧ (T.1 0 0 = ((n : Nat) : Int) ∧ T.1 1 0 = ((W : Nat) : Int) ∧ T.1 2 0 = ((B : Nat) : Int) ∧ T.1 3 0 = ((M : Nat) : Int) ∧ T.1 4 0 = ((F : Nat) : Int))
def BaV (n B M : Nat) (bT : Nat → Nat → Int) (lT wt wo ro : Nat → Int) (ir : Nat → Nat) (od lb : Nat → Int) (tr : Nat → Nat → Int) : Prop := BgX n B M bT lT wt wo ro ir lb tr ∧ (∃ bN : Nat → Nat, (∀ j, j < B → od j = ((bN j : Nat) : Int)) ∧ OrdP B (dvF wo) bN) ∧ wt 0 = 0 ∧ wo 0 = 0
def CX (h : AH) (o2 : Nat) : Prop := (∃ rl R, h 18 = some (rdC 17 rl R) ∧ RsV rl R) ∧ (∃ H2, HoH h o2 H2) ∧ (∃ n1 a b c e f g, AtC h 106 n1 a b c e f g) ∧ (∃ men who ab gn, ShC h 113 88 men who ab gn ∧ (∀ p, p < 1024 → ab p < 8) ∧ ∀ m, m < 3 → ∀ s, s < 1024 → -10000 ≤ gn m s ∧ gn m s ≤ 10000) ∧ (∃ oc tk fr ou, CrC h 119 88 oc tk fr ou) ∧ h 1 = some (cI 5 loT) ∧ h 2 = some (cI 5 hiT) ∧ StrC h
def CS (h : AH) (len o o2 n W B M F D fe sh : Nat) (tc : Int64) (wy bu fi : Nat → Nat → Int) (ld tx tn ch mi m0 m1 : Nat → Int) (f0 s0 f1 s1 : Nat) (ke k0 k1 : Int) (wt wo ro : Nat → Int) (ir : Nat → Nat) (od lb : Nat → Int) (tr : Nat → Nat → Int) (fa ah bn le du oa : Nat → Int) : Prop := h 16 = some (xO len o o2 tc) ∧ HoC h o n W B M F D wy bu ld fi ∧ PlC h 82 mi fe sh ke ∧ BgC h 88 B wt wo ro (fun r => ((ir r : Nat) : Int)) od lb tr ∧ AtC h 99 n fa ah bn le du oa ∧ h 122 = some (cI 5 ch) ∧ h 81 = some (cI 4 tn) ∧ h 17 = some (cI 400 tx) ∧ PlC h 84 m0 f0 s0 k0 ∧ PlC h 86 m1 f1 s1 k1 ∧ CX h o2 ∧ (o = 19 ∧ o2 = 50 ∨ o = 50 ∧ o2 = 19)
def MX (h : AH) : Prop := (∃ f, h 150 = some (cI 4096 f)) ∧ (∃ f, h 151 = some (cI 1024 f)) ∧ (∃ f, h 152 = some (cI 1024 f)) ∧ (∃ f, h 153 = some (cI 9 f)) ∧ ∃ f, h 154 = some (cI 5000 f)
def MS2 (h : AH) (len : Nat) (tc : Int64) (ch : Nat → Int) (T : MT) (RM : MS) (y8 y9 y10 : Int) (tb tnM am1 am2 am3 miM feM ks ik : Nat → Int) : Prop := h 123 = some (mR tc len RM y8 y9 y10) ∧ h 124 = some (cB 400 tb) ∧ (∀ a, 125 ≤ a → a ≤ 140 → h a = some (mcl T a)) ∧ h 141 = some (cI 5 tnM) ∧ h 142 = some (cI 5 ch) ∧ h 143 = some (cI 8 am1) ∧ h 144 = some (cI 8 am2) ∧ h 145 = some (cI 8 am3) ∧ h 146 = some (cI 9 miM) ∧ h 147 = some (cI 3 feM) ∧ h 148 = some (cI 2 ks) ∧ h 149 = some (cZ 2 ik) ∧ MX h
def MvV (fe sh : Nat) (tx tn mi m0 m1 : Nat → Int) (f0 s0 f1 s1 : Nat) (k0 k1 : Int) (tb tnM miM feM ks ik : Nat → Int) : Prop := TbV tb tx ∧ (∀ k, k < 4 → tnM k = tn k) ∧ tnM 4 = ((sh : Nat) : Int) ∧ (∀ i, i < 3 → miM i = mi i) ∧ feM 0 = ((fe : Nat) : Int) ∧ ImM 0 m0 f0 s0 k0 miM feM ks ik ∧ ImM 1 m1 f1 s1 k1 miM feM ks ik
def DrE (n W F : Nat) (wy fi : Nat → Nat → Int) (tn : Nat → Int) (sh : Nat) (fa ah bn le du oa : Nat → Int) : Prop := ∃ fa0 ah0 bn0 le0 du0 od0, DrV n W F wy fi tn sh fa0 ah0 bn0 le0 du0 od0 fa ah bn le du oa
def SimV (N : Nat) (len o o2 n W B M F D fe sh : Nat) (tc : Int64) (wy bu fi : Nat → Nat → Int) (ld tx tn ch mi m0 m1 : Nat → Int) (f0 s0 f1 s1 : Nat) (ke k0 k1 : Int) (wt wo ro : Nat → Int) (ir : Nat → Nat) (od lb : Nat → Int) (tr : Nat → Nat → Int) (fa ah bn le du oa : Nat → Int) (T : MT) (RM : MS) (y8 y9 y10 : Int) (tb tnM am1 am2 am3 miM feM ks ik : Nat → Int) : Prop := PaV N len B M fe sh tx tn ch mi m0 m1 f0 s0 f1 s1 k0 k1 ∧ HmV n W B M F D wy bu fi ld T ∧ BaV n B M T.2.2.1 T.2.2.2.1 wt wo ro ir od lb tr ∧ MvV fe sh tx tn mi m0 m1 f0 s0 f1 s1 k0 k1 tb tnM miM feM ks ik ∧ DrE n W F wy fi tn sh fa ah bn le du oa
def Sim (N : Nat) (h : AH) : Prop := ∃ len o o2 n W B M F D fe sh tc wy bu fi ld tx tn ch mi m0 m1 f0 s0 f1 s1 ke k0 k1 wt wo ro ir od lb tr fa ah bn le du oa T RM y8 y9 y10 tb tnM am1 am2 am3 miM feM ks ik, CS h len o o2 n W B M F D fe sh tc wy bu fi ld tx tn ch mi m0 m1 f0 s0 f1 s1 ke k0 k1 wt wo ro ir od lb tr fa ah bn le du oa ∧ MS2 h len tc ch T RM y8 y9 y10 tb tnM am1 am2 am3 miM feM ks ik ∧ SimV N len o o2 n W B M F D fe sh tc wy bu fi ld tx tn ch mi m0 m1 f0 s0 f1 s1 ke k0 k1 wt wo ro ir od lb tr fa ah bn le du oa T RM y8 y9 y10 tb tnM am1 am2 am3 miM feM ks ik
section SI
variable {X : Cx} {d N : Nat} {h h' : AH} {z : Nat} {len o o2 n W B M F D fe sh : Nat} {tc : Int64} {wy bu fi : Nat → Nat → Int} {ld tx tn ch mi m0 m1 : Nat → Int} {f0 s0 f1 s1 : Nat} {ke k0 k1 : Int} {wt wo ro : Nat → Int} {ir : Nat → Nat} {od lb : Nat → Int} {tr : Nat → Nat → Int} {fa ah bn le du oa : Nat → Int} {T : MT} {RM : MS} {y8 y9 y10 : Int} {tb tnM am1 am2 am3 miM feM ks ik : Nat → Int} {x y v t : Int}
theorem MiV.mono (hm : MiV N M mi) : MiV (N + 1) M mi := fun i hi => by
  have := hm i hi
  refine ⟨?_, this.2⟩
  omega
theorem ImV.mono (hm : ImV N B M m0 f0 s0 k0) : ImV (N + 1) B M m0 f0 s0 k0 := ⟨hm.1, fun e => ⟨(hm.2 e).1, (hm.2 e).2.1, (hm.2 e).2.2.mono⟩⟩
theorem PaV.mono (hp : PaV N len B M fe sh tx tn ch mi m0 m1 f0 s0 f1 s1 k0 k1) : PaV (N + 1) len B M fe sh tx tn ch mi m0 m1 f0 s0 f1 s1 k0 k1 := by
  obtain ⟨p1, p2, p3, p4, p5, p6, p7, p8, p9⟩ := hp
  exact ⟨p1, p2, p3, p4, p5, p6, p7.mono, p8.mono, p9.mono⟩
theorem SimV.mono (hs : SimV N len o o2 n W B M F D fe sh tc wy bu fi ld tx tn ch mi m0 m1 f0 s0 f1 s1 ke k0 k1 wt wo ro ir od lb tr fa ah bn le du oa T RM y8 y9 y10 tb tnM am1 am2 am3 miM feM ks ik) : SimV (N + 1) len o o2 n W B M F D fe sh tc wy bu fi ld tx tn ch mi m0 m1 f0 s0 f1 s1 ke k0 k1 wt wo ro ir od lb tr fa ah bn le du oa T RM y8 y9 y10 tb tnM am1 am2 am3 miM feM ks ik := ⟨hs.1.mono, hs.2⟩
theorem PlC.frr {p : Nat} {f : Nat → Int} {a b c : Int} (hP : PlC h p f a b c) (e0 : h' p = h p) (e1 : h' (p + 1) = h (p + 1)) : PlC h' p f a b c := ⟨e0.trans hP.1, e1.trans hP.2⟩
theorem CX.fr (hc : CX h o2) (ho : o2 + 31 ≤ 81) (e : ∀ b, b < 123 → h' b = h b) : CX h' o2 := by
  obtain ⟨⟨rl, R, r1, r2⟩, ⟨H2, hH⟩, ⟨n1, a, b, c, e1, f, g, hA⟩, ⟨men, who, ab, gn, s1, s2⟩, ⟨oc, tk, fr, ou, hC⟩, l1, l2, hS⟩ := hc
  refine ⟨⟨rl, R, (e 18 (by omega)).trans r1, r2⟩, ⟨H2, ?_⟩, ⟨n1, a, b, c, e1, f, g, ?_⟩, ⟨men, who, ab, gn, ?_, s2⟩, ⟨oc, tk, fr, ou, ?_⟩, (e 1 (by omega)).trans l1, (e 2 (by omega)).trans l2, ?_⟩
  · exact HoC.fr hH (fun b _ _ => e b (by omega))
  · exact hA.fr (fun b _ _ => e b (by omega))
  · exact s1.fr (fun b _ _ => e b (by omega))
  · exact hC.fr (fun b _ _ => e b (by omega))
  · intro i hi
    exact ⟨(e _ (by omega)).trans (hS i hi).1, (e _ (by omega)).trans (hS i hi).2⟩
theorem CS.fr (hc : CS h len o o2 n W B M F D fe sh tc wy bu fi ld tx tn ch mi m0 m1 f0 s0 f1 s1 ke k0 k1 wt wo ro ir od lb tr fa ah bn le du oa) (e : ∀ b, b < 123 → h' b = h b) : CS h' len o o2 n W B M F D fe sh tc wy bu fi ld tx tn ch mi m0 m1 f0 s0 f1 s1 ke k0 k1 wt wo ro ir od lb tr fa ah bn le du oa := by
  obtain ⟨c1, c2, c3, c4, c5, c6, c7, c8, c9, c10, c11, c12⟩ := hc
  refine ⟨(e 16 (by omega)).trans c1, HoC.fr c2 (fun b _ _ => e b (by omega)), c3.frr (e _ (by omega)) (e _ (by omega)), ?_, c5.fr (fun b _ _ => e b (by omega)), (e 122 (by omega)).trans c6, (e 81 (by omega)).trans c7, (e 17 (by omega)).trans c8, c9.frr (e _ (by omega)) (e _ (by omega)), c10.frr (e _ (by omega)) (e _ (by omega)), c11.fr (by omega) e, c12⟩
  exact c4.fr (fun b _ _ => e b (by omega))
theorem MS2.fr (hm : MS2 h len tc ch T RM y8 y9 y10 tb tnM am1 am2 am3 miM feM ks ik) (e : ∀ b, 123 ≤ b → b < 155 → h' b = h b) : MS2 h' len tc ch T RM y8 y9 y10 tb tnM am1 am2 am3 miM feM ks ik := by
  obtain ⟨c1, c2, c3, c4, c5, c6, c7, c8, c9, c10, c11, c12, ⟨f1, e1⟩, ⟨f2, e2⟩, ⟨f3, e3⟩, ⟨f4, e4⟩, ⟨f5, e5⟩⟩ := hm
  exact ⟨(e _ (by omega) (by omega)).trans c1, (e _ (by omega) (by omega)).trans c2, fun a h1 h2 => (e _ (by omega) (by omega)).trans (c3 a h1 h2), (e _ (by omega) (by omega)).trans c4, (e _ (by omega) (by omega)).trans c5, (e _ (by omega) (by omega)).trans c6, (e _ (by omega) (by omega)).trans c7, (e _ (by omega) (by omega)).trans c8, (e _ (by omega) (by omega)).trans c9, (e _ (by omega) (by omega)).trans c10, (e _ (by omega) (by omega)).trans c11, (e _ (by omega) (by omega)).trans c12, ⟨f1, (e _ (by omega) (by omega)).trans e1⟩, ⟨f2, (e _ (by omega) (by omega)).trans e2⟩, ⟨f3, (e _ (by omega) (by omega)).trans e3⟩, ⟨f4, (e _ (by omega) (by omega)).trans e4⟩, ⟨f5, (e _ (by omega) (by omega)).trans e5⟩⟩
/-- what a reading call of the model leaves -/
def RoP (h h' : AH) : Prop := (∀ b, (b < 143 ∨ 145 < b) → b ≠ 150 → h' b = h b) ∧ (∃ f, h' 143 = some (cI 8 f)) ∧ (∃ f, h' 144 = some (cI 8 f)) ∧ (∃ f, h' 145 = some (cI 8 f)) ∧ ∃ f, h' 150 = some (cI 4096 f)
theorem ro_h (hm : MS2 h len tc ch T RM y8 y9 y10 tb tnM am1 am2 am3 miM feM ks ik) (e : h' = h) : RoP h h' := by
  subst e
  exact ⟨fun _ _ _ => rfl, ⟨_, hm.2.2.2.2.2.1⟩, ⟨_, hm.2.2.2.2.2.2.1⟩, ⟨_, hm.2.2.2.2.2.2.2.1⟩, hm.2.2.2.2.2.2.2.2.2.2.2.2.1⟩
theorem ro_lk {wT fT : Nat → Nat → Int} (hm : MS2 h len tc ch T RM y8 y9 y10 tb tnM am1 am2 am3 miM feM ks ik) (hl : h' = h ∨ LkP W F sh tnM wT fT am1 am2 am3 h h') : RoP h h' := by
  rcases hl with e | ⟨l1, l2, l3, l4⟩
  · exact ro_h hm e
  · obtain ⟨f, hf⟩ := hm.2.2.2.2.2.2.2.2.2.2.2.2.1
    exact ⟨fun b b1 b2 => l4 b (by omega) (by omega) (by omega), ⟨_, l1⟩, ⟨_, l3⟩, ⟨_, l2⟩, ⟨f, (l4 150 (by omega) (by omega) (by omega)).trans hf⟩⟩
theorem MS2.rdo (hm : MS2 h len tc ch T RM y8 y9 y10 tb tnM am1 am2 am3 miM feM ks ik) (hr : RoP h h') : ∃ a1 a2 a3, MS2 h' len tc ch T RM y8 y9 y10 tb tnM a1 a2 a3 miM feM ks ik := by
  obtain ⟨c1, c2, c3, c4, c5, c6, c7, c8, c9, c10, c11, c12, ⟨f1, e1⟩, ⟨f2, e2⟩, ⟨f3, e3⟩, ⟨f4, e4⟩, ⟨f5, e5⟩⟩ := hm
  obtain ⟨e, ⟨a1, q1⟩, ⟨a2, q2⟩, ⟨a3, q3⟩, q4⟩ := hr
  exact ⟨a1, a2, a3, (e _ (by omega) (by omega)).trans c1, (e _ (by omega) (by omega)).trans c2, fun a h1 h2 => (e _ (by omega) (by omega)).trans (c3 a h1 h2), (e _ (by omega) (by omega)).trans c4, (e _ (by omega) (by omega)).trans c5, q1, q2, q3, (e _ (by omega) (by omega)).trans c9, (e _ (by omega) (by omega)).trans c10, (e _ (by omega) (by omega)).trans c11, (e _ (by omega) (by omega)).trans c12, q4, ⟨f2, (e _ (by omega) (by omega)).trans e2⟩, ⟨f3, (e _ (by omega) (by omega)).trans e3⟩, ⟨f4, (e _ (by omega) (by omega)).trans e4⟩, ⟨f5, (e _ (by omega) (by omega)).trans e5⟩⟩
/-- both calls answer the same, and the states agree again -/
def PairP (X : Cx) (d : Nat) (mF mM : MI) (as : SV) (N : Nat) (h : AH) (z : Nat) : Prop := CallP X d 0 0 mF (vA 16 :: as) h z (fun r h1 z1 => z1 = z ∧ h1 0 = h 0 ∧ h1 123 = h 123 ∧ ∃ v, InR v ∧ r = some (vI v) ∧ CallP X d 0 0 mM (vA 123 :: as) h1 z (fun r' h2 z2 => z2 = z ∧ r' = some (vI v) ∧ h2 0 = h 0 ∧ Sim (N + 1) h2))
theorem InR_n (a : Int) : InR (Int32.ofInt a).toInt := ⟨Int32.le_toInt _, by have := Int32.toInt_lt (Int32.ofInt a); omega⟩
/-- a pair, where the class's call answers a and the model's answers b = a -/
theorem pair_mk {mF mM : MI} {as : SV} {a b : Int} {P : AH → Prop} (cF : CallP X d 0 0 mF (vA 16 :: as) h z (fun r h' z' => r = some (vI a) ∧ z' = z ∧ P h')) (e : a = b) (cM : ∀ h1, P h1 → h1 0 = h 0 ∧ h1 123 = h 123 ∧ CallP X d 0 0 mM (vA 123 :: as) h1 z (fun r h' z' => r = some (vI b) ∧ z' = z ∧ h' 0 = h 0 ∧ Sim (N + 1) h')) : PairP X d mF mM as N h z := by
  subst e
  refine call_nrm cF ?_
  rintro o h1 z1 ⟨rfl, rfl, hp⟩
  obtain ⟨e0, e1, q⟩ := cM h1 hp
  refine ⟨a, rfl, rfl, e0, e1, _, InR_n a, rfl, call_nrm q ?_⟩
  rintro o h2 z2 ⟨rfl, rfl, hz, hs⟩
  exact ⟨a, rfl, rfl, rfl, hz, hs⟩
/-- both calls only read -/
theorem pair_ro {mF mM : MI} {as : SV} {a b : Int} {R : AH → Prop} (hC : CS h len o o2 n W B M F D fe sh tc wy bu fi ld tx tn ch mi m0 m1 f0 s0 f1 s1 ke k0 k1 wt wo ro ir od lb tr fa ah bn le du oa) (hM : MS2 h len tc ch T RM y8 y9 y10 tb tnM am1 am2 am3 miM feM ks ik) (hS : SimV N len o o2 n W B M F D fe sh tc wy bu fi ld tx tn ch mi m0 m1 f0 s0 f1 s1 ke k0 k1 wt wo ro ir od lb tr fa ah bn le du oa T RM y8 y9 y10 tb tnM am1 am2 am3 miM feM ks ik) (cF : CallP X d 0 0 mF (vA 16 :: as) h z (fun r h' z' => r = some (vI a) ∧ z' = z ∧ h' = h)) (e : a = b) (cM : CallP X d 0 0 mM (vA 123 :: as) h z (fun r h' z' => r = some (vI b) ∧ z' = z ∧ R h')) (hR : ∀ h', R h' → RoP h h') : PairP X d mF mM as N h z := by
  refine pair_mk cF e ?_
  rintro h1 rfl
  refine ⟨rfl, rfl, call_mono cM ?_⟩
  rintro _ h2 _ ⟨rfl, rfl, hr⟩
  have hr2 := hR h2 hr
  obtain ⟨a1, a2, a3, hM2⟩ := hM.rdo hr2
  exact ⟨rfl, rfl, hr2.1 0 (by omega) (by omega), len, o, o2, n, W, B, M, F, D, fe, sh, tc, wy, bu, fi, ld, tx, tn, ch, mi, m0, m1, f0, s0, f1, s1, ke, k0, k1, wt, wo, ro, ir, od, lb, tr, fa, ah, bn, le, du, oa, T, RM, y8, y9, y10, tb, tnM, a1, a2, a3, miM, feM, ks, ik, hC.fr (fun b hb => hr2.1 b (by omega) (by omega)), hM2, hS.mono⟩
end SI
