/-! THE REFERENCE: grains, stood, half, first -/
def mR (h0 h : XH) (s : SG) : Prop := GeoM h (bLast (sB s)) (bLst (sB s)) (bOd (sB s)) (bT (sB s)) ∧ MI h s ∧ mch h0 h ∧ xI h 56 2 = 0
theorem mR.fr {h0 h h' : XH} {s : SG} (hR : mR h0 h s) {lo hi : Nat} (hf : xfr lo hi h h') (hd : (80 ≤ lo ∧ hi ≤ 87) ∨ (88 ≤ lo ∧ hi ≤ 90)) : mR h0 h' s :=
  ⟨hR.1.fr hf (by omega), hR.2.1.msc (msc.fr hf (by omega)), hR.2.2.1.trans (mch.fr hf (by omega)), by rw [xfr1 hf (by omega)]; exact hR.2.2.2⟩
theorem m_tellR {h0 h : XH} {s : SG} (hM : MI h s) (hm : mch h0 h) (e : xI h 56 2 = 0) (hg : GoodS s) : XSpec mX11_tellBoard 5 0 0 100 100 [.ref 56] h (fun v h' => v = none ∧ mR h0 h' s) xno := by
  refine (m_tell hM hg).mono ?_ (fun _ _ z => z)
  rintro v h' ⟨e1, hG, hf, hM2, hm2⟩
  exact ⟨e1, hG, hM2, hm.trans hm2, by rw [xfr1 hf (by omega)]; exact e⟩
theorem m_pour {h0 h : XH} {s : SG} (hR : mR h0 h s) {q : Nat} (hq : q ≤ bLast (sB s)) : XSpec mX11_pour 1 0 0 100 100 [.ref 56, .int (nI q)] h (fun v h' => v = none ∧ PileM h' (bLast (sB s)) (bMass (sB s) q 0) ∧ mR h0 h' s ∧ xfr 81 83 h h') xno := by
  refine (s_X11_pour _ _ q h _ _ hR.1 hq).mono ?_ (fun _ _ z => z)
  rintro v h' ⟨e, hp, hf⟩
  exact ⟨e, hp, hR.fr hf (by omega), hf⟩
theorem m_share {h0 h : XH} {s : SG} (hg : GoodS s) (hR : mR h0 h s) {q k : Nat} (hq : q ≤ bLast (sB s)) (hp : PileM h (bLast (sB s)) (bMass (sB s) q k)) : XSpec mX11_share 2 0 0 100 100 [.ref 56] h (fun v h' => v = none ∧ PileM h' (bLast (sB s)) (bMass (sB s) q (k + 1)) ∧ mR h0 h' s ∧ xfr 81 83 h h') xno := by
  refine (s_X11_share _ _ h _ _ _ hR.1 hp (fun a ha => hg.mass hq ha)).mono ?_ (fun _ _ z => z)
  rintro v h' ⟨e, hp, hf⟩
  exact ⟨e, hp, hR.fr hf (by omega), hf⟩
theorem m_out {h0 h : XH} {s : SG} (hg : GoodS s) (hR : mR h0 h s) {q k : Nat} (hq : q ≤ bLast (sB s)) (hp : PileM h (bLast (sB s)) (bMass (sB s) q k)) : XSpec mX11_out 1 0 0 100 100 [.ref 56] h (xq (some (.long (lN (bOut (sB s) q k)))) h) xno :=
  s_X11_out _ _ h _ _ _ hR.1 hp (hg.mass hq (Nat.le_refl _))
theorem l_mgrains {s : SG} (hg : GoodS s) {q n w : Nat} (hq : q ≤ bLast (sB s)) (hn : n ≤ 400) (hw : w ≤ 2) (hw1 : ¬ w = 1) (h0 : XH) {Q : Option Value → XH → Prop} {X : String → XH → Prop} (hQ : ∀ h', mR h0 h' s → Q (some (.long (grA (sB s) q n w))) h') : ∀ (k i : Nat) (h : XH), i + k = n → mR h0 h s → PileM h (bLast (sB s)) (bMass (sB s) q i) →
    XW (xrm 6 0 0) mX11_grains (xE 100 Q X 0 0) 100 0 0 h 76 [some (.ref 56), none, some (.int (nI n)), some (.int (nI w)), some (.long (lN (bOut (sB s) q (i - 1)))), none, some (.int (nI i))] [] := by
  intro k
  induction k with
  | zero =>
    intro i h hi hR hp
    have : i = n := by omega
    subst this
    have hQ' := hQ h hR
    unfold grA at hQ'
    rw [if_neg hw1] at hQ'
    refine v_X11_grains_76 hR.2.1.1 _ _ _ (nI i) ⟨fun _ => ⟨fun c => ⟨fun c2 => ⟨_, m_out hg hR hq hp, ?_⟩, fun c2 => ?_⟩, fun c => ⟨_, m_out hg hR hq hp, ?_⟩⟩, fun c => absurd (nI_le (Nat.le_refl _) (by omega)) c⟩
    · rintro v h1 ⟨rfl, rfl⟩
      rw [if_neg (fun z => c (by rw [z]; rfl))] at hQ'
      exact ⟨_, rfl, hQ'⟩
    · have i0 : i = 0 := (nI_eq (b := 0) (by omega) (by omega)).1 c2
      rw [if_neg (fun z => c (by rw [z]; rfl)), i0, Int64.sub_self] at hQ'
      exact hQ'
    · rintro v h1 ⟨rfl, rfl⟩
      rw [if_pos ((nI_eq (b := 0) (by omega) (by omega)).1 c)] at hQ'
      exact ⟨_, rfl, hQ'⟩
  | succ k ih =>
    intro i h hi hR hp
    refine v_X11_grains_76 hR.2.1.1 _ _ _ (nI i) ⟨fun c => absurd c (nI_ge (by omega) (by omega)), fun _ => ⟨_, m_out hg hR hq hp, ?_⟩⟩
    rintro v h1 ⟨rfl, rfl⟩
    refine ⟨_, rfl, _, m_share hg hR hq hp, ?_⟩
    rintro v h2 ⟨rfl, hp2, hR2, -⟩
    refine ⟨rfl, ?_⟩
    rw [nI_1]
    exact ih (i + 1) h2 (by omega) hR2 hp2
theorem m_isIn0 {h : XH} (x : Int32) (m : Int32) (b9 : Int64) (M : Nat) (hM : m.toInt = M) (hb : b9 = Int32.toInt64 m) : XSpec mX11_isIn 1 0 0 100 100 [.long (Int32.toInt64 x), .long 0, .long b9] h (xq (some (.int (bI (inR x 0 M)))) h) xno := by
  have := m_isIn 100 h x 0 b9 0 m (by decide) hb
  rw [hM] at this
  exact this
theorem s_X11_grains {h : XH} {s : SG} (hM : MI h s) (hg : GoodS s) (q n w : Int32) : XSpec mX11_grains 6 0 0 100 100 [.ref 56, .int q, .int n, .int w] h (mEndL h s (kd2 (inR q 0 (bLast (sB s)) && inR w 0 2) (inR n 0 400)) (fun z => z = grA (sB s) q.toNatClampNeg n.toNatClampNeg w.toNatClampNeg)) xno := by
  obtain ⟨l1, l2, -, -⟩ := hg.l
  obtain ⟨hM0, hm0, e0⟩ := m_code hM 0
  refine XSpec.of rfl (by decide) (Nat.le_of_ble_eq_true rfl) rfl (v_X11_grains_0 hM.1 q n w ⟨_, m_isSquare hM0 l2 q, ?_⟩)
  rintro v h1 ⟨rfl, rfl⟩
  refine ⟨_, rfl, fun c => m_failL hM0 hm0 1 (kd2_1 (by rw [bI_0.1 c]; rfl)) (by decide) 1 rfl, fun c => ⟨_, m_isIn0 w 2 2 2 (by decide) (by decide), ?_⟩⟩
  have hq := bI_n0.1 c
  rintro v h2 ⟨rfl, rfl⟩
  refine ⟨_, rfl, fun c2 => ⟨_, m_isLong 100 _ n, ?_⟩, fun c2 => m_failL hM0 hm0 1 (kd2_1 (by rw [hq]; exact bI_0.1 c2)) (by decide) 1 rfl⟩
  have hw := bI_n0.1 c2
  have hqw : (inR q 0 (bLast (sB s)) && inR w 0 2) = true := by rw [hq]; exact hw
  rintro v h3 ⟨rfl, rfl⟩
  refine ⟨_, rfl, fun c3 => ?_, fun c3 => m_failL hM0 hm0 2 (kd2_2 hqw (bI_0.1 c3)) (by decide) 2 rfl⟩
  have hn := bI_n0.1 c3
  have hk := kd2_t hqw hn
  obtain ⟨q, hq', rfl⟩ := inR_nI hq
  obtain ⟨n, hn', rfl⟩ := inR_nI (n := 400) hn
  obtain ⟨w, hw', rfl⟩ := inR_nI hw
  rw [nI_clamp (show q < 2 ^ 31 by omega), nI_clamp (show n < 2 ^ 31 by omega), nI_clamp (show w < 2 ^ 31 by omega), hk]
  refine ⟨_, m_tellR hM0 hm0 e0 hg, ?_⟩
  rintro v h4 ⟨rfl, hR⟩
  refine ⟨rfl, fun c4 => ⟨_, m_pour hR hq', ?_⟩, fun c4 => ⟨_, s_X11_longBy _ _ q n h4 _ _ hR.1 hq' hn', ?_⟩⟩
  · rintro v h5 ⟨rfl, hp, hR5, -⟩
    refine ⟨rfl, _, m_out hg hR5 hq' hp, ?_⟩
    rintro v h6 ⟨rfl, rfl⟩
    exact ⟨_, rfl, l_mgrains hg hq' hn' hw' (fun z => c4 (by rw [z]; rfl)) h (fun h' k => ⟨_, rfl, fun _ => rfl, k.2.2.2, k.2.1, k.2.2.1⟩) n 0 h6 (by omega) hR5 hp⟩
  · rintro v h5 ⟨rfl, hf⟩
    have hR5 := hR.fr hf (by omega)
    refine ⟨_, rfl, _, rfl, fun _ => ?_, hR5.2.2.2, hR5.2.1, hR5.2.2.1⟩
    unfold grA
    rw [if_pos ((nI_eq (b := 1) (by omega) (by omega)).1 c4)]; rfl
theorem l_mstood {s : SG} (hg : GoodS s) {f q n : Nat} (hf : f ≤ bLast (sB s)) (hq : q ≤ bLast (sB s)) (hn : n ≤ 400) (h0 : XH) {Q : Option Value → XH → Prop} {X : String → XH → Prop} (hQ : ∀ h', mR h0 h' s → Q (some (.long (stA (sB s) f q n))) h') : ∀ (k i : Nat) (h : XH), i + k = n → mR h0 h s → PileM h (bLast (sB s)) (bMass (sB s) f i) →
    XW (xrm 6 0 0) mX11_stood (xE 100 Q X 0 0) 100 0 0 h 57 [some (.ref 56), none, some (.int (nI q)), some (.int (nI n)), some (.long (stA (sB s) f q i)), none, some (.int (nI i))] [] := by
  have l2 := hg.l.2.1
  intro k
  induction k with
  | zero =>
    intro i h hi hR hp
    have : i = n := by omega
    subst this
    exact v_X11_stood_57 hR.2.1.1 _ _ _ (nI i) ⟨fun _ => hQ h hR, fun c => absurd (nI_le (Nat.le_refl _) (by omega)) c⟩
  | succ k ih =>
    intro i h hi hR hp
    refine v_X11_stood_57 hR.2.1.1 _ _ _ (nI i) ⟨fun c => absurd c (nI_ge (by omega) (by omega)), fun _ => ⟨_, m_share hg hR hf hp, ?_⟩⟩
    rintro v h2 ⟨rfl, hp2, hR2, -⟩
    refine ⟨rfl, mp_lie hR2.2.1.1, vp_in_nI (by omega) (by omega), ?_⟩
    have e : stA (sB s) f q i + lN (bMass (sB s) f (i + 1) q) = stA (sB s) f q (i + 1) := by
      unfold stA
      rw [lN_add, sN_last, Nat.zero_add]
    rw [nI_1, nI_clamp (show q < 2 ^ 31 by omega), hp2 q hq, e]
    exact ih (i + 1) h2 (by omega) hR2 hp2
theorem s_X11_stood {h : XH} {s : SG} (hM : MI h s) (hg : GoodS s) (f q n : Int32) : XSpec mX11_stood 6 0 0 100 100 [.ref 56, .int f, .int q, .int n] h (mEndL h s (kd2 (inR f 0 (bLast (sB s)) && inR q 0 (bLast (sB s))) (inR n 0 400)) (fun z => z = stA (sB s) f.toNatClampNeg q.toNatClampNeg n.toNatClampNeg)) xno := by
  obtain ⟨l1, l2, -, -⟩ := hg.l
  obtain ⟨hM0, hm0, e0⟩ := m_code hM 0
  refine XSpec.of rfl (by decide) (Nat.le_of_ble_eq_true rfl) rfl (v_X11_stood_0 hM.1 f q n ⟨_, m_isSquare hM0 l2 f, ?_⟩)
  rintro v h1 ⟨rfl, rfl⟩
  refine ⟨_, rfl, fun c => m_failL hM0 hm0 1 (kd2_1 (by rw [bI_0.1 c]; rfl)) (by decide) 1 rfl, fun c => ⟨_, m_isSquare hM0 l2 q, ?_⟩⟩
  have hf := bI_n0.1 c
  rintro v h2 ⟨rfl, rfl⟩
  refine ⟨_, rfl, fun c2 => ⟨_, m_isLong 100 _ n, ?_⟩, fun c2 => m_failL hM0 hm0 1 (kd2_1 (by rw [hf]; exact bI_0.1 c2)) (by decide) 1 rfl⟩
  have hq := bI_n0.1 c2
  have hfq : (inR f 0 (bLast (sB s)) && inR q 0 (bLast (sB s))) = true := by rw [hf]; exact hq
  rintro v h3 ⟨rfl, rfl⟩
  refine ⟨_, rfl, fun c3 => ?_, fun c3 => m_failL hM0 hm0 2 (kd2_2 hfq (bI_0.1 c3)) (by decide) 2 rfl⟩
  have hn := bI_n0.1 c3
  have hk := kd2_t hfq hn
  obtain ⟨f, hf', rfl⟩ := inR_nI hf
  obtain ⟨q, hq', rfl⟩ := inR_nI hq
  obtain ⟨n, hn', rfl⟩ := inR_nI (n := 400) hn
  rw [nI_clamp (show q < 2 ^ 31 by omega), nI_clamp (show n < 2 ^ 31 by omega), nI_clamp (show f < 2 ^ 31 by omega), hk]
  refine ⟨_, m_tellR hM0 hm0 e0 hg, ?_⟩
  rintro v h4 ⟨rfl, hR⟩
  refine ⟨rfl, _, m_pour hR hf', ?_⟩
  rintro v h5 ⟨rfl, hp, hR5, -⟩
  exact ⟨rfl, l_mstood hg hf' hq' hn' h (fun h' k => ⟨_, rfl, fun _ => rfl, k.2.2.2, k.2.1, k.2.2.1⟩) n 0 h5 (by omega) hR5 hp⟩
theorem l_mhalf {s : SG} (hg : GoodS s) {q : Nat} (hq : q ≤ bLast (sB s)) (h0 : XH) {Q : Option Value → XH → Prop} {X : String → XH → Prop} (hQ : ∀ w h', HalfR (sB s) q w → mR h0 h' s → Q (some (.int w)) h') : ∀ (k i : Nat) (h : XH), i + k = 401 → mR h0 h s → PileM h (bLast (sB s)) (bMass (sB s) q i) → (∀ j, j < i → 500000000 < bOut (sB s) q j) →
    XW (xrm 6 0 0) mX11_half (xE 100 Q X 0 0) 100 0 0 h 30 [some (.ref 56), none, some (.int (nI i))] [] := by
  intro k
  induction k with
  | zero =>
    intro i h hi hR hp hn
    have : i = 401 := by omega
    subst this
    exact v_X11_half_30 hR.2.1.1 (nI 401) ⟨fun _ => hQ _ h (Or.inr ⟨rfl, fun k hk => hn k (by omega)⟩) hR, fun c => absurd (by decide) c⟩
  | succ k ih =>
    intro i h hi hR hp hn
    refine v_X11_half_30 hR.2.1.1 (nI i) ⟨fun c => absurd c (nI_nlt (a := 400) (by omega) (by omega)), fun _ => ⟨_, m_out hg hR hq hp, ?_⟩⟩
    rintro v h1 ⟨rfl, rfl⟩
    have hb := bOut_le (sB s) q i
    have e5 : (1000000000 : Int64) = lN 1000000000 := rfl
    have e2 : (2 : Int64) * lN (bOut (sB s) q i) = lN (2 * bOut (sB s) q i) := lN_mul 2 _
    refine ⟨_, rfl, ?_⟩
    rw [lg_cmp_gt, e5, e2, lN_lt (by omega) (by omega)]
    refine ⟨fun c => ⟨_, m_share hg hR hq hp, ?_⟩, fun c => hQ _ h1 (Or.inl ⟨i, by omega, rfl, by omega, hn⟩) hR⟩
    rintro v h2 ⟨rfl, hp2, hR2, -⟩
    refine ⟨rfl, ?_⟩
    rw [nI_1]
    refine ih (i + 1) h2 (by omega) hR2 hp2 (fun j hj => ?_)
    by_cases z : j = i
    · rw [z]; omega
    · exact hn j (by omega)
theorem s_X11_half {h : XH} {s : SG} (hM : MI h s) (hg : GoodS s) (q : Int32) : XSpec mX11_half 6 0 0 100 100 [.ref 56, .int q] h (mEndI h s (kd1 (inR q 0 (bLast (sB s)))) (fun z => HalfR (sB s) q.toNatClampNeg z)) xno := by
  obtain ⟨l1, l2, -, -⟩ := hg.l
  obtain ⟨hM0, hm0, e0⟩ := m_code hM 0
  refine XSpec.of rfl (by decide) (Nat.le_of_ble_eq_true rfl) rfl (v_X11_half_0 hM.1 q ⟨_, m_isSquare hM0 l2 q, ?_⟩)
  rintro v h1 ⟨rfl, rfl⟩
  refine ⟨_, rfl, fun c => ?_, fun c => m_failI hM0 hm0 1 (kd1_f (bI_0.1 c)) (by decide) 1 rfl⟩
  have hq := bI_n0.1 c
  have hk := kd1_t hq
  obtain ⟨q, hq', rfl⟩ := inR_nI hq
  rw [nI_clamp (show q < 2 ^ 31 by omega), hk]
  refine ⟨_, m_tellR hM0 hm0 e0 hg, ?_⟩
  rintro v h4 ⟨rfl, hR⟩
  refine ⟨rfl, _, m_pour hR hq', ?_⟩
  rintro v h5 ⟨rfl, hp, hR5, -⟩
  exact ⟨rfl, l_mhalf hg hq' h (fun w h' z k => ⟨_, rfl, fun _ => z, k.2.2.2, k.2.1, k.2.2.1⟩) 401 0 h5 (by omega) hR5 hp (fun j hj => by omega)⟩
/-- who is out, throw by throw -/
def Outs (h : XH) (c : Nat) (b : BD) (q n : Nat) : Prop := ∀ j, j ≤ n → xL h c j = lN (bOut b q j)
theorem Outs.fr {h h' : XH} {c q n lo hi : Nat} {b : BD} (hf : xfr lo hi h h') (hc : c < lo ∨ hi ≤ c) (ho : Outs h c b q n) : Outs h' c b q n := fun j hj => by rw [(hf c hc).2.1]; exact ho j hj
theorem l_mouts {s : SG} (hg : GoodS s) {q n : Nat} (hq : q ≤ bLast (sB s)) (hn : n ≤ 400) (oq : Nat) (ho : SH oq = .inl (.long, 401)) (hoq : 83 ≤ oq ∧ oq ≤ 84) (h0 h9 : XH) {Q : Option Value → XH → Prop} {X : String → XH → Prop} (hQ : ∀ h', mR h0 h' s → Outs h' oq (sB s) q n → (∀ c, 83 ≤ c → c ≤ 84 → c ≠ oq → xL h' c = xL h9 c) → Q none h') : ∀ (k i : Nat) (h : XH), i + k = n → mR h0 h s → PileM h (bLast (sB s)) (bMass (sB s) q i) → Outs h oq (sB s) q i → (∀ c, 83 ≤ c → c ≤ 84 → c ≠ oq → xL h c = xL h9 c) →
    XW (xrm 3 0 0) mX11_tellOuts (xE 100 Q X 0 0) 100 0 0 h 15 [some (.ref 56), none, some (.int (nI n)), some (.ref oq), some (.int (nI (i + 1)))] [] := by
  intro k
  induction k with
  | zero =>
    intro i h hi hR hp hO hz
    have : i = n := by omega
    subst this
    exact v_X11_tellOuts_15 hR.2.1.1 oq ho (by omega) _ (nI (i + 1)) ⟨fun _ => hQ h hR hO hz, fun c => absurd (nI_lt (by omega) (by omega)) c⟩
  | succ k ih =>
    intro i h hi hR hp hO hz
    refine v_X11_tellOuts_15 hR.2.1.1 oq ho (by omega) _ (nI (i + 1)) ⟨fun c => absurd c (nI_nlt (by omega) (by omega)), fun _ => ⟨_, m_share hg hR hq hp, ?_⟩⟩
    rintro v h1 ⟨rfl, hp1, hR1, hf1⟩
    refine ⟨rfl, _, m_out hg hR1 hq hp1, ?_⟩
    rintro v h2 ⟨rfl, rfl⟩
    refine ⟨_, rfl, vp_in_nI (by omega) (by omega), ?_⟩
    rw [nI_clamp (show i + 1 < 2 ^ 31 by omega), nI_1]
    have hf2 : xfr oq (oq + 1) h2 (xSL oq (va_up (xL h2 oq) (i + 1) (lN (bOut (sB s) q (i + 1)))) h2) := xfr.SL (by omega) (by omega)
    refine ih (i + 1) _ (by omega) (hR1.fr hf2 (by omega)) (fun j hj => ?_) (fun j hj => ?_) (fun c c1 c2 c3 => ?_)
    · rw [(hf2 81 (by omega)).2.1]; exact hp1 j hj
    · rw [xL_at]
      by_cases z : j = i + 1
      · rw [z, va_up_eq]
      · rw [va_up_of _ _ z]; exact (hO.fr hf1 (by omega)) j (by omega)
    · rw [(hf2 c (by omega)).2.1, (hf1 c (by omega)).2.1]; exact hz c c1 c2 c3
theorem m_outs {h0 h : XH} {s : SG} (hg : GoodS s) (hR : mR h0 h s) {q n : Nat} (hq : q ≤ bLast (sB s)) (hn : n ≤ 400) (oq : Nat) (ho : SH oq = .inl (.long, 401)) (hoq : 83 ≤ oq ∧ oq ≤ 84) : XSpec mX11_tellOuts 3 0 0 100 100 [.ref 56, .int (nI q), .int (nI n), .ref oq] h (fun v h' => v = none ∧ mR h0 h' s ∧ Outs h' oq (sB s) q n ∧ ∀ c, 83 ≤ c → c ≤ 84 → c ≠ oq → xL h' c = xL h c) xno := by
  refine XSpec.of rfl (by decide) (Nat.le_of_ble_eq_true rfl) rfl (v_X11_tellOuts_0 hR.2.1.1 oq ho (by omega) (nI q) (nI n) ⟨_, m_pour hR hq, ?_⟩)
  rintro v h1 ⟨rfl, hp1, hR1, hf1⟩
  refine ⟨rfl, _, m_out hg hR1 hq hp1, ?_⟩
  rintro v h2 ⟨rfl, rfl⟩
  have hf2 : xfr oq (oq + 1) h2 (xSL oq (va_up (xL h2 oq) 0 (lN (bOut (sB s) q 0))) h2) := xfr.SL (by omega) (by omega)
  refine ⟨_, rfl, l_mouts hg hq hn oq ho hoq h0 h (fun h' k1 k2 k3 => ⟨rfl, k1, k2, k3⟩) n 0 _ (by omega) (hR1.fr hf2 (by omega)) (fun j hj => ?_) (fun j hj => ?_) (fun c c1 c2 c3 => ?_)⟩
  · rw [(hf2 81 (by omega)).2.1]; exact hp1 j hj
  · have : j = 0 := by omega
    rw [this, xL_at, va_up_eq]
  · rw [(hf2 c (by omega)).2.1, (hf1 c (by omega)).2.1]
theorem l_mfirst {s : SG} {o t n w : Nat} (hn : n ≤ 400) (hw : w ≤ 2) (h0 h : XH) (hR : mR h0 h s) (h1 : Outs h 83 (sB s) o n) (h2 : Outs h 84 (sB s) t n) {Q : Option Value → XH → Prop} {X : String → XH → Prop} (hQ : Q (some (.long (fiA (sB s) o t n w))) h) : ∀ (k i : Nat), i + k = n →
    XW (xrm 6 0 0) mX11_first (xE 100 Q X 0 0) 100 0 0 h 88 [some (.ref 56), none, none, some (.int (nI n)), some (.int (nI w)), some (.long (sL (fi1 (sB s) o t) i)), none, some (.long (sL (fi2 (sB s) o t) i)), none, some (.int (nI (i + 1)))] [] := by
  intro k
  induction k with
  | zero =>
    intro i hi
    have : i = n := by omega
    subst this
    exact v_X11_first_88 hR.2.1.1 _ _ _ _ (nI (i + 1)) ⟨fun _ => fiA_end hw hQ, fun c => absurd (nI_lt (by omega) (by omega)) c⟩
  | succ k ih =>
    intro i hi
    refine v_X11_first_88 hR.2.1.1 _ _ _ _ (nI (i + 1)) ⟨fun c => absurd c (nI_nlt (by omega) (by omega)), fun _ => ?_⟩
    have e : nI (i + 1) - 1 = nI i := nI_pred i
    rw [e, nI_clamp (show i < 2 ^ 31 by omega), nI_clamp (show i + 1 < 2 ^ 31 by omega), h1 i (by omega), h1 (i + 1) (by omega), h2 i (by omega), h2 (i + 1) (by omega), nI_1]
    exact ⟨vp_in_nI (by omega) (by omega), vp_in_nI (by omega) (by omega), vp_in_nI (by omega) (by omega), vp_in_nI (by omega) (by omega), vp_in_nI (by omega) (by omega), vp_in_nI (by omega) (by omega), ih (i + 1) (by omega)⟩
theorem s_X11_first {h : XH} {s : SG} (hM : MI h s) (hg : GoodS s) (o t n w : Int32) : XSpec mX11_first 6 0 0 100 100 [.ref 56, .int o, .int t, .int n, .int w] h (mEndL h s (kd2 (inR o 0 (bLast (sB s)) && inR t 0 (bLast (sB s)) && inR w 0 2) (inR n 0 400)) (fun z => z = fiA (sB s) o.toNatClampNeg t.toNatClampNeg n.toNatClampNeg w.toNatClampNeg)) xno := by
  obtain ⟨l1, l2, -, -⟩ := hg.l
  obtain ⟨hM0, hm0, e0⟩ := m_code hM 0
  refine XSpec.of rfl (by decide) (Nat.le_of_ble_eq_true rfl) rfl (v_X11_first_0 hM.1 o t n w ⟨_, m_isSquare hM0 l2 o, ?_⟩)
  rintro v h1 ⟨rfl, rfl⟩
  refine ⟨_, rfl, fun c => m_failL hM0 hm0 1 (kd2_1 (by rw [bI_0.1 c]; rfl)) (by decide) 1 rfl, fun c => ⟨_, m_isSquare hM0 l2 t, ?_⟩⟩
  have ho := bI_n0.1 c
  rintro v h2 ⟨rfl, rfl⟩
  refine ⟨_, rfl, fun c2 => m_failL hM0 hm0 1 (kd2_1 (by rw [ho, bI_0.1 c2]; rfl)) (by decide) 1 rfl, fun c2 => ⟨_, m_isIn0 w 2 2 2 (by decide) (by decide), ?_⟩⟩
  have ht := bI_n0.1 c2
  rintro v h3 ⟨rfl, rfl⟩
  refine ⟨_, rfl, fun c3 => ⟨_, m_isLong 100 _ n, ?_⟩, fun c3 => m_failL hM0 hm0 1 (kd2_1 (by rw [ho, ht]; exact bI_0.1 c3)) (by decide) 1 rfl⟩
  have hw := bI_n0.1 c3
  have hotw : (inR o 0 (bLast (sB s)) && inR t 0 (bLast (sB s)) && inR w 0 2) = true := by rw [ho, ht]; exact hw
  rintro v h4 ⟨rfl, rfl⟩
  refine ⟨_, rfl, fun c4 => ?_, fun c4 => m_failL hM0 hm0 2 (kd2_2 hotw (bI_0.1 c4)) (by decide) 2 rfl⟩
  have hn := bI_n0.1 c4
  have hk := kd2_t hotw hn
  obtain ⟨o, ho', rfl⟩ := inR_nI ho
  obtain ⟨t, ht', rfl⟩ := inR_nI ht
  obtain ⟨n, hn', rfl⟩ := inR_nI (n := 400) hn
  obtain ⟨w, hw', rfl⟩ := inR_nI hw
  rw [nI_clamp (show o < 2 ^ 31 by omega), nI_clamp (show n < 2 ^ 31 by omega), nI_clamp (show t < 2 ^ 31 by omega), nI_clamp (show w < 2 ^ 31 by omega), hk]
  refine ⟨_, m_tellR hM0 hm0 e0 hg, ?_⟩
  rintro v h5 ⟨rfl, hR⟩
  refine ⟨rfl, mp_outOf hR.2.1.1, _, m_outs hg hR ho' hn' 83 rfl (by omega), ?_⟩
  rintro v h6 ⟨rfl, hR6, hO6, -⟩
  refine ⟨rfl, mp_outOfOther hR6.2.1.1, _, m_outs hg hR6 ht' hn' 84 rfl (by omega), ?_⟩
  rintro v h7 ⟨rfl, hR7, hO7, hz7⟩
  have hO6' : Outs h7 83 (sB s) o n := fun j hj => by rw [hz7 83 (by omega) (by omega) (by omega)]; exact hO6 j hj
  exact ⟨rfl, l_mfirst hn' hw' h h7 hR7 hO6' hO7 ⟨_, rfl, fun _ => rfl, hR7.2.2.2, hR7.2.1, hR7.2.2.1⟩ n 0 (by omega)⟩
