/-! THE CLASS: grains, stood, half, first -/
def bMass (b : BD) (q k j : Nat) : Nat := mass (bLast b) (bLst b) (bOd b) (bT b) q k j
def bOut (b : BD) (q k : Nat) : Nat := outK (bLast b) (bLst b) (bOd b) (bT b) q k
def bLong (b : BD) (q n : Nat) : Nat := longK (bLast b) (bLst b) (bOd b) (bT b) q n
theorem GoodS.die {s : SG} (g : GoodS s) : Die (bOd (sB s)) (bLst (sB s)) := g.1.1.2.2.2.2.1
theorem GoodS.tl {s : SG} (g : GoodS s) : ∀ a, a ≤ bLast (sB s) → ∀ f, f ≤ 6 → bT (sB s) a f ≤ bLast (sB s) := fun _ ha _ _ => g.1.1.tl ha
theorem GoodS.mass {s : SG} (g : GoodS s) {q k j : Nat} (hq : q ≤ bLast (sB s)) (hj : j ≤ bLast (sB s)) : bMass (sB s) q k j ≤ 1000000000 := mass_le g.die g.tl hq hj
theorem bOut_le (b : BD) (q k : Nat) : bOut b q k ≤ 1000000000 := Nat.sub_le _ _
theorem c_pour {h : XH} {r : Nat} {s : SG} (hC : CI h r s) (sn : Nat) (hsn : sn = 43 ∨ sn = 46) {q : Nat} (hq : q ≤ bLast (sB s)) : XSpec mX6_pour 2 0 0 100 100 [.ref sn, .ref r, .int (nI q)] h (fun v h' => v = none ∧ SandM h' sn (bLast (sB s)) (bMass (sB s) q 0) ∧ xfr sn (sn + 3) h h' ∧ CI h' r s ∧ cch h h') xno := by
  have hi : SandIs h sn := by
    rcases hsn with e | e
    · rw [e]; exact hC.s43
    · rw [e]; exact hC.s46
  refine (s_pour 100 sn r 21 _ _ q h _ _ hi hC.geo hq (by omega) hC.nr).mono ?_ (fun _ _ z => z)
  rintro v h' ⟨e, hS, hf⟩
  have hs := csc.sand hC.r hsn hf hS.is
  exact ⟨e, hS, hf, hC.csc hs, hs.cch hC.r⟩
theorem c_share {h : XH} {r : Nat} {s : SG} (hC : CI h r s) (hg : GoodS s) (sn : Nat) (hsn : sn = 43 ∨ sn = 46) {q k : Nat} (hq : q ≤ bLast (sB s)) (hS : SandM h sn (bLast (sB s)) (bMass (sB s) q k)) : XSpec mX6_share 3 0 0 100 100 [.ref sn, .ref r, .ref 21] h (fun v h' => v = none ∧ SandM h' sn (bLast (sB s)) (bMass (sB s) q (k + 1)) ∧ xfr sn (sn + 3) h h' ∧ CI h' r s ∧ cch h h') xno := by
  refine (s_share 100 sn r 21 _ _ h _ _ _ hS (fun a ha => hg.mass hq ha) hC.geo (by omega) hC.nr (by omega)).mono ?_ (fun _ _ z => z)
  rintro v h' ⟨e, hS', hf⟩
  have hs := csc.sand hC.r hsn hf hS'.is
  exact ⟨e, hS', hf, hC.csc hs, hs.cch hC.r⟩
theorem c_out {h : XH} {s : SG} (hg : GoodS s) (sn : Nat) (hsn : sn = 43 ∨ sn = 46) {q k : Nat} (hq : q ≤ bLast (sB s)) (hS : SandM h sn (bLast (sB s)) (bMass (sB s) q k)) : XSpec mX6_out 2 0 0 100 100 [.ref sn] h (xq (some (.long (lN (bOut (sB s) q k)))) h) xno :=
  s_out 100 sn _ h _ hS hg.l.2.1 (hg.mass hq (Nat.le_refl _)) (by omega)
def grA (b : BD) (q n w : Nat) : Int64 := if w = 1 then lN (bLong b q n) else if w = 0 then lN (bOut b q n) else lN (bOut b q (n - 1)) - lN (bOut b q n)
theorem l_grains {r : Nat} {s : SG} (hg : GoodS s) {q n w : Nat} (hq : q ≤ bLast (sB s)) (hn : n ≤ 400) (hw : w ≤ 2) (hw1 : ¬ w = 1) (h0 : XH) {Q : Option Value → XH → Prop} {X : String → XH → Prop} (hQ : ∀ h', CI h' r s → cch h0 h' → Q (some (.long (grA (sB s) q n w))) h') : ∀ (k i : Nat) (h : XH), i + k = n → CI h r s → cch h0 h → SandM h 43 (bLast (sB s)) (bMass (sB s) q i) →
    XW (xrm 8 3 18) mX10_grains (xE 100 Q X 3 18) 100 0 0 h 63 [some (.ref 0), none, some (.int (nI n)), some (.int (nI w)), some (.long (lN (bOut (sB s) q (i - 1)))), none, some (.int (nI i))] [] := by
  intro k
  induction k with
  | zero =>
    intro i h hi hC hc hS
    have : i = n := by omega
    subst this
    refine v_X10_grains_63 r hC.bp _ _ _ (nI i) ⟨fun _ => ⟨fun c => ⟨_, c_out hg 43 (Or.inl rfl) hq hS, ?_⟩, fun c => ⟨_, c_out hg 43 (Or.inl rfl) hq hS, ?_⟩⟩, fun c => absurd (nI_le (Nat.le_refl _) (by omega)) c⟩
    · rintro v h1 ⟨rfl, rfl⟩
      have c' : ¬ w = 0 := fun z => c (by rw [z]; rfl)
      refine ⟨_, rfl, ?_⟩
      have := hQ h1 hC hc
      unfold grA at this
      rw [if_neg hw1, if_neg c'] at this
      exact this
    · rintro v h1 ⟨rfl, rfl⟩
      have c' : w = 0 := (nI_eq (b := 0) (by omega) (by omega)).1 c
      refine ⟨_, rfl, ?_⟩
      have := hQ h1 hC hc
      unfold grA at this
      rw [if_neg hw1, if_pos c'] at this
      exact this
  | succ k ih =>
    intro i h hi hC hc hS
    refine v_X10_grains_63 r hC.bp _ _ _ (nI i) ⟨fun c => absurd c (nI_ge (by omega) (by omega)), fun _ => ⟨_, c_out hg 43 (Or.inl rfl) hq hS, ?_⟩⟩
    rintro v h1 ⟨rfl, rfl⟩
    refine ⟨_, rfl, hC.p11, hC.p3, hC.p5, _, c_share hC hg 43 (Or.inl rfl) hq hS, ?_⟩
    rintro v h2 ⟨rfl, hS2, -, hC2, hc2⟩
    refine ⟨rfl, ?_⟩
    rw [nI_1]
    exact ih (i + 1) h2 (by omega) hC2 (hc.trans hc2) hS2
theorem s_X10_grains {h : XH} {r : Nat} {s : SG} (hC : CI h r s) (hg : GoodS s) (q n w : Int32) : XSpec mX10_grains 8 3 18 100 100 [.ref 0, .int q, .int n, .int w] h (cEndL h r s (kd2 (inR q 0 (bLast (sB s)) && inR w 0 2) (inR n 0 400)) (fun z => z = grA (sB s) q.toNatClampNeg n.toNatClampNeg w.toNatClampNeg)) (cThr h (kd2 (inR q 0 (bLast (sB s)) && inR w 0 2) (inR n 0 400)) eN eA) := by
  obtain ⟨l1, l2, -, -⟩ := hg.l
  have hr := hC.r
  refine XSpec.of rfl (by decide) (Nat.le_of_ble_eq_true rfl) rfl (v_X10_grains_0 r hC.bp q n w ⟨_, _, s_needSquare hC l2 q, fun E9 h9 z => ⟨z.1, Or.inl ⟨kd2_1 (by rw [z.2.2]; rfl), z.2.1⟩⟩, ?_⟩)
  rintro v h1 ⟨rfl, rfl, hq⟩
  refine ⟨rfl, _, _, s_needWhat hC w 2 2 (by decide), fun E9 h9 z => ⟨z.1, Or.inl ⟨kd2_1 (by rw [hq]; exact z.2.2), z.2.1⟩⟩, ?_⟩
  rintro v h2 ⟨rfl, rfl, hw⟩
  have hqw : (inR q 0 (bLast (sB s)) && inR w 0 2) = true := by rw [hq]; exact hw
  refine ⟨rfl, _, _, s_needThrows hC n, fun E9 h9 z => ⟨z.1, Or.inr ⟨kd2_2 hqw z.2.2, z.2.1⟩⟩, ?_⟩
  rintro v h3 ⟨rfl, rfl, hn⟩
  have hk := kd2_t hqw hn
  obtain ⟨q, hq', rfl⟩ := inR_nI hq
  obtain ⟨n, hn', rfl⟩ := inR_nI (n := 400) hn
  obtain ⟨w, hw', rfl⟩ := inR_nI (n := 2) hw
  rw [nI_clamp (show q < 2 ^ 31 by omega), nI_clamp (show n < 2 ^ 31 by omega), nI_clamp (show w < 2 ^ 31 by omega)]
  refine ⟨rfl, fun c => ⟨hC.p11, hC.p3, _, c_pour hC 43 (Or.inl rfl) hq', ?_⟩, fun c => ⟨hC.p11, hC.p3, hC.p5, _, s_sumOut 100 43 r 21 _ _ q n h3 _ _ hC.s43 hC.geo hq' hn' (by omega) hC.nr (by omega), ?_⟩⟩
  · have c' : ¬ w = 1 := fun z => c (by rw [z]; rfl)
    rintro v h4 ⟨rfl, hS4, -, hC4, hc4⟩
    refine ⟨rfl, hC4.p11, _, c_out hg 43 (Or.inl rfl) hq' hS4, ?_⟩
    rintro v h5 ⟨rfl, rfl⟩
    exact ⟨_, rfl, l_grains hg hq' hn' hw' c' h3 (fun h' k1 k2 => ⟨hk, _, rfl, rfl, k1, k2⟩) n 0 h5 (by omega) hC4 hc4 hS4⟩
  · have c' : w = 1 := (nI_eq (b := 1) (by omega) (by omega)).1 c
    rintro v h6 ⟨rfl, hf, hi⟩
    have hs := csc.sand hr (Or.inl rfl) hf hi
    refine ⟨_, rfl, hk, _, rfl, ?_, hC.csc hs, hs.cch hr⟩
    unfold grA
    rw [if_pos c']; rfl
def stA (b : BD) (f q n : Nat) : Int64 := lN (sN (fun k => bMass b f (k + 1) q) 0 n)
theorem l_stood {r : Nat} {s : SG} (hg : GoodS s) {f q n : Nat} (hf : f ≤ bLast (sB s)) (hq : q ≤ bLast (sB s)) (hn : n ≤ 400) (h0 : XH) {Q : Option Value → XH → Prop} {X : String → XH → Prop} (hQ : ∀ h', CI h' r s → cch h0 h' → Q (some (.long (stA (sB s) f q n))) h') : ∀ (k i : Nat) (h : XH), i + k = n → CI h r s → cch h0 h → SandM h 43 (bLast (sB s)) (bMass (sB s) f i) →
    XW (xrm 8 3 18) mX10_stood (xE 100 Q X 3 18) 100 0 0 h 33 [some (.ref 0), none, some (.int (nI q)), some (.int (nI n)), some (.long (stA (sB s) f q i)), none, some (.int (nI i))] [] := by
  have l2 := hg.l.2.1
  intro k
  induction k with
  | zero =>
    intro i h hi hC hc hS
    have : i = n := by omega
    subst this
    exact v_X10_stood_33 r hC.bp _ _ _ (nI i) ⟨fun _ => hQ h hC hc, fun c => absurd (nI_le (Nat.le_refl _) (by omega)) c⟩
  | succ k ih =>
    intro i h hi hC hc hS
    refine v_X10_stood_33 r hC.bp _ _ _ (nI i) ⟨fun c => absurd c (nI_ge (by omega) (by omega)), fun _ => ⟨_, c_share hC hg 43 (Or.inl rfl) hf hS, ?_⟩⟩
    rintro v h2 ⟨rfl, hS2, -, hC2, hc2⟩
    refine ⟨rfl, hC2.p11, _, s_on 100 43 _ q h2 _ hS2 l2 hq (by omega), ?_⟩
    rintro v h3 ⟨rfl, rfl⟩
    refine ⟨_, rfl, ?_⟩
    have e : stA (sB s) f q i + lN (bMass (sB s) f (i + 1) q) = stA (sB s) f q (i + 1) := by
      unfold stA
      rw [lN_add, sN_last, Nat.zero_add]
    rw [nI_1, e]
    exact ih (i + 1) h3 (by omega) hC2 (hc.trans hc2) hS2
theorem s_X10_stood {h : XH} {r : Nat} {s : SG} (hC : CI h r s) (hg : GoodS s) (f q n : Int32) : XSpec mX10_stood 8 3 18 100 100 [.ref 0, .int f, .int q, .int n] h (cEndL h r s (kd2 (inR f 0 (bLast (sB s)) && inR q 0 (bLast (sB s))) (inR n 0 400)) (fun z => z = stA (sB s) f.toNatClampNeg q.toNatClampNeg n.toNatClampNeg)) (cThr h (kd2 (inR f 0 (bLast (sB s)) && inR q 0 (bLast (sB s))) (inR n 0 400)) eN eA) := by
  obtain ⟨l1, l2, -, -⟩ := hg.l
  refine XSpec.of rfl (by decide) (Nat.le_of_ble_eq_true rfl) rfl (v_X10_stood_0 r hC.bp f q n ⟨_, _, s_needSquare hC l2 f, fun E9 h9 z => ⟨z.1, Or.inl ⟨kd2_1 (by rw [z.2.2]; rfl), z.2.1⟩⟩, ?_⟩)
  rintro v h1 ⟨rfl, rfl, hf⟩
  refine ⟨rfl, _, _, s_needSquare hC l2 q, fun E9 h9 z => ⟨z.1, Or.inl ⟨kd2_1 (by rw [hf]; exact z.2.2), z.2.1⟩⟩, ?_⟩
  rintro v h2 ⟨rfl, rfl, hq⟩
  have hfq : (inR f 0 (bLast (sB s)) && inR q 0 (bLast (sB s))) = true := by rw [hf]; exact hq
  refine ⟨rfl, _, _, s_needThrows hC n, fun E9 h9 z => ⟨z.1, Or.inr ⟨kd2_2 hfq z.2.2, z.2.1⟩⟩, ?_⟩
  rintro v h3 ⟨rfl, rfl, hn⟩
  have hk := kd2_t hfq hn
  obtain ⟨f, hf', rfl⟩ := inR_nI hf
  obtain ⟨q, hq', rfl⟩ := inR_nI hq
  obtain ⟨n, hn', rfl⟩ := inR_nI (n := 400) hn
  rw [nI_clamp (show q < 2 ^ 31 by omega), nI_clamp (show n < 2 ^ 31 by omega), nI_clamp (show f < 2 ^ 31 by omega)]
  refine ⟨rfl, hC.p11, hC.p3, _, c_pour hC 43 (Or.inl rfl) hf', ?_⟩
  rintro v h4 ⟨rfl, hS4, -, hC4, hc4⟩
  exact ⟨rfl, l_stood hg hf' hq' hn' h3 (fun h' k1 k2 => ⟨hk, _, rfl, rfl, k1, k2⟩) n 0 h4 (by omega) hC4 hc4 hS4⟩
def HalfR (b : BD) (q : Nat) (w : Int32) : Prop := (∃ n, n ≤ 400 ∧ w = nI n ∧ bOut b q n ≤ 500000000 ∧ ∀ k, k < n → 500000000 < bOut b q k) ∨ (w = -1 ∧ ∀ k, k ≤ 400 → 500000000 < bOut b q k)
theorem l_half {r : Nat} {s : SG} (hg : GoodS s) {q : Nat} (hq : q ≤ bLast (sB s)) (h0 : XH) {Q : Option Value → XH → Prop} {X : String → XH → Prop} (hQ : ∀ w h', HalfR (sB s) q w → CI h' r s → cch h0 h' → Q (some (.int w)) h') : ∀ (k i : Nat) (h : XH), i + k = 401 → CI h r s → cch h0 h → SandM h 43 (bLast (sB s)) (bMass (sB s) q i) → (∀ j, j < i → 500000000 < bOut (sB s) q j) →
    XW (xrm 8 1 6) mX10_half (xE 100 Q X 1 6) 100 0 0 h 19 [some (.ref 0), none, some (.int (nI i))] [] := by
  intro k
  induction k with
  | zero =>
    intro i h hi hC hc hS hn
    have : i = 401 := by omega
    subst this
    exact v_X10_half_19 r hC.bp (nI 401) ⟨fun _ => hQ _ h (Or.inr ⟨rfl, fun k hk => hn k (by omega)⟩) hC hc, fun c => absurd (by decide) c⟩
  | succ k ih =>
    intro i h hi hC hc hS hn
    refine v_X10_half_19 r hC.bp (nI i) ⟨fun c => absurd c (nI_nlt (a := 400) (by omega) (by omega)), fun _ => ⟨_, c_out hg 43 (Or.inl rfl) hq hS, ?_⟩⟩
    rintro v h1 ⟨rfl, rfl⟩
    have hb := bOut_le (sB s) q i
    have e5 : (500000000 : Int64) = lN 500000000 := rfl
    refine ⟨_, rfl, ?_⟩
    rw [lg_cmp_gt, e5, lN_lt (by omega) (by omega)]
    refine ⟨fun c => ⟨hC.p11, hC.p3, hC.p5, _, c_share hC hg 43 (Or.inl rfl) hq hS, ?_⟩, fun c => hQ _ h1 (Or.inl ⟨i, by omega, rfl, by omega, hn⟩) hC hc⟩
    rintro v h2 ⟨rfl, hS2, -, hC2, hc2⟩
    refine ⟨rfl, ?_⟩
    rw [nI_1]
    refine ih (i + 1) h2 (by omega) hC2 (hc.trans hc2) hS2 (fun j hj => ?_)
    by_cases z : j = i
    · rw [z]; exact c
    · exact hn j (by omega)
theorem s_X10_half {h : XH} {r : Nat} {s : SG} (hC : CI h r s) (hg : GoodS s) (q : Int32) : XSpec mX10_half 8 1 6 100 100 [.ref 0, .int q] h (cEndI h r s (kd1 (inR q 0 (bLast (sB s)))) (fun z => HalfR (sB s) q.toNatClampNeg z)) (cThr h (kd1 (inR q 0 (bLast (sB s)))) eN eA) := by
  obtain ⟨l1, l2, -, -⟩ := hg.l
  refine XSpec.of rfl (by decide) (Nat.le_of_ble_eq_true rfl) rfl (v_X10_half_0 r hC.bp q ⟨_, _, s_needSquare hC l2 q, fun E9 h9 z => ⟨z.1, Or.inl ⟨kd1_f z.2.2, z.2.1⟩⟩, ?_⟩)
  rintro v h1 ⟨rfl, rfl, hq⟩
  have hk := kd1_t hq
  obtain ⟨q, hq', rfl⟩ := inR_nI hq
  rw [nI_clamp (show q < 2 ^ 31 by omega)]
  refine ⟨rfl, hC.p11, hC.p3, _, c_pour hC 43 (Or.inl rfl) hq', ?_⟩
  rintro v h4 ⟨rfl, hS4, -, hC4, hc4⟩
  exact ⟨rfl, l_half hg hq' h1 (fun w h' k0 k1 k2 => ⟨hk, _, rfl, k0, k1, k2⟩) 401 0 h4 (by omega) hC4 hc4 hS4 (fun j hj => by omega)⟩
/-! of two who is home first -/
def sL (f : Nat → Int64) : Nat → Int64
  | 0 => 0
  | n + 1 => sL f n + f n
def fi1 (b : BD) (o t k : Nat) : Int64 := (lN (bOut b o k) - lN (bOut b o (k + 1))) * lN (bOut b t k)
def fi2 (b : BD) (o t k : Nat) : Int64 := (lN (bOut b t k) - lN (bOut b t (k + 1))) * lN (bOut b o (k + 1))
def fiA (b : BD) (o t n w : Nat) : Int64 := if w = 0 then sL (fi1 b o t) n / 1000000000 else if w = 1 then sL (fi2 b o t) n / 1000000000 else 1000000000 - sL (fi1 b o t) n / 1000000000 - sL (fi2 b o t) n / 1000000000
theorem fiA_end {b : BD} {o t n w : Nat} {Q : Option Value → XH → Prop} {h : XH} (hw : w ≤ 2) (hQ : Q (some (.long (fiA b o t n w))) h) : (¬ nI w = 0 → (¬ nI w = 1 → Q (some (.long ((1000000000 - (sL (fi1 b o t) n / 1000000000)) - (sL (fi2 b o t) n / 1000000000)))) h) ∧ (nI w = 1 → Q (some (.long (sL (fi2 b o t) n / 1000000000))) h)) ∧ (nI w = 0 → Q (some (.long (sL (fi1 b o t) n / 1000000000))) h) := by
  unfold fiA at hQ
  refine ⟨fun c => ⟨fun c2 => ?_, fun c2 => ?_⟩, fun c => ?_⟩
  · rw [if_neg (fun z => c (by rw [z]; rfl)), if_neg (fun z => c2 (by rw [z]; rfl))] at hQ; exact hQ
  · rw [if_neg (fun z => c (by rw [z]; rfl)), if_pos ((nI_eq (b := 1) (by omega) (by omega)).1 c2)] at hQ; exact hQ
  · rw [if_pos ((nI_eq (b := 0) (by omega) (by omega)).1 c)] at hQ; exact hQ
theorem l_first {r : Nat} {s : SG} (hg : GoodS s) {o t n w : Nat} (ho : o ≤ bLast (sB s)) (ht : t ≤ bLast (sB s)) (hn : n ≤ 400) (hw : w ≤ 2) (h0 : XH) {Q : Option Value → XH → Prop} {X : String → XH → Prop} (hQ : ∀ h', CI h' r s → cch h0 h' → Q (some (.long (fiA (sB s) o t n w))) h') : ∀ (k i : Nat) (h : XH), i + k = n → CI h r s → cch h0 h → SandM h 43 (bLast (sB s)) (bMass (sB s) o i) → SandM h 46 (bLast (sB s)) (bMass (sB s) t i) →
    XW (xrm 8 4 24) mX10_first (xE 100 Q X 4 24) 100 0 0 h 55 [some (.ref 0), none, none, some (.int (nI n)), some (.int (nI w)), some (.long (sL (fi1 (sB s) o t) i)), none, some (.long (sL (fi2 (sB s) o t) i)), none, some (.int (nI i)), none, none, none, none] [] := by
  intro k
  induction k with
  | zero =>
    intro i h hi hC hc hS hS'
    have : i = n := by omega
    subst this
    exact v_X10_first_55 r hC.bp _ _ _ _ (nI i) ⟨fun _ => fiA_end hw (hQ h hC hc), fun c => absurd (nI_le (Nat.le_refl _) (by omega)) c⟩
  | succ k ih =>
    intro i h hi hC hc hS hS'
    refine v_X10_first_55 r hC.bp _ _ _ _ (nI i) ⟨fun c => absurd c (nI_ge (by omega) (by omega)), fun _ => ⟨_, c_out hg 43 (Or.inl rfl) ho hS, ?_⟩⟩
    rintro v h1 ⟨rfl, rfl⟩
    refine ⟨_, rfl, hC.p12, _, c_out hg 46 (Or.inr rfl) ht hS', ?_⟩
    rintro v h2 ⟨rfl, rfl⟩
    refine ⟨_, rfl, hC.p11, hC.p3, hC.p5, _, c_share hC hg 43 (Or.inl rfl) ho hS, ?_⟩
    rintro v h3 ⟨rfl, hS3, hf3, hC3, hc3⟩
    have hS3' := hS'.fr hf3 (by omega)
    refine ⟨rfl, hC3.p12, hC3.p3, hC3.p5, _, c_share hC3 hg 46 (Or.inr rfl) ht hS3', ?_⟩
    rintro v h4 ⟨rfl, hS4', hf4, hC4, hc4⟩
    have hS4 := hS3.fr hf4 (by omega)
    refine ⟨rfl, hC4.p11, _, c_out hg 43 (Or.inl rfl) ho hS4, ?_⟩
    rintro v h5 ⟨rfl, rfl⟩
    refine ⟨_, rfl, hC4.p12, _, c_out hg 46 (Or.inr rfl) ht hS4', ?_⟩
    rintro v h6 ⟨rfl, rfl⟩
    refine ⟨_, rfl, hC4.p11, _, c_out hg 43 (Or.inl rfl) ho hS4, ?_⟩
    rintro v h7 ⟨rfl, rfl⟩
    refine ⟨_, rfl, ?_⟩
    rw [nI_1]
    exact ih (i + 1) h7 (by omega) hC4 ((hc.trans hc3).trans hc4) hS4 hS4'
theorem s_X10_first {h : XH} {r : Nat} {s : SG} (hC : CI h r s) (hg : GoodS s) (o t n w : Int32) : XSpec mX10_first 8 4 24 100 100 [.ref 0, .int o, .int t, .int n, .int w] h (cEndL h r s (kd2 (inR o 0 (bLast (sB s)) && inR t 0 (bLast (sB s)) && inR w 0 2) (inR n 0 400)) (fun z => z = fiA (sB s) o.toNatClampNeg t.toNatClampNeg n.toNatClampNeg w.toNatClampNeg)) (cThr h (kd2 (inR o 0 (bLast (sB s)) && inR t 0 (bLast (sB s)) && inR w 0 2) (inR n 0 400)) eN eA) := by
  obtain ⟨l1, l2, -, -⟩ := hg.l
  refine XSpec.of rfl (by decide) (Nat.le_of_ble_eq_true rfl) rfl (v_X10_first_0 r hC.bp o t n w ⟨_, _, s_needSquare hC l2 o, fun E9 h9 z => ⟨z.1, Or.inl ⟨kd2_1 (by rw [z.2.2]; rfl), z.2.1⟩⟩, ?_⟩)
  rintro v h1 ⟨rfl, rfl, ho⟩
  refine ⟨rfl, _, _, s_needSquare hC l2 t, fun E9 h9 z => ⟨z.1, Or.inl ⟨kd2_1 (by rw [ho, z.2.2]; rfl), z.2.1⟩⟩, ?_⟩
  rintro v h2 ⟨rfl, rfl, ht⟩
  refine ⟨rfl, _, _, s_needWhat hC w 2 2 (by decide), fun E9 h9 z => ⟨z.1, Or.inl ⟨kd2_1 (by rw [ho, ht]; exact z.2.2), z.2.1⟩⟩, ?_⟩
  rintro v h3 ⟨rfl, rfl, hw⟩
  have hotw : (inR o 0 (bLast (sB s)) && inR t 0 (bLast (sB s)) && inR w 0 2) = true := by rw [ho, ht]; exact hw
  refine ⟨rfl, _, _, s_needThrows hC n, fun E9 h9 z => ⟨z.1, Or.inr ⟨kd2_2 hotw z.2.2, z.2.1⟩⟩, ?_⟩
  rintro v h4 ⟨rfl, rfl, hn⟩
  have hk := kd2_t hotw hn
  obtain ⟨o, ho', rfl⟩ := inR_nI ho
  obtain ⟨t, ht', rfl⟩ := inR_nI ht
  obtain ⟨n, hn', rfl⟩ := inR_nI (n := 400) hn
  obtain ⟨w, hw', rfl⟩ := inR_nI (n := 2) hw
  rw [nI_clamp (show o < 2 ^ 31 by omega), nI_clamp (show n < 2 ^ 31 by omega), nI_clamp (show t < 2 ^ 31 by omega), nI_clamp (show w < 2 ^ 31 by omega)]
  refine ⟨rfl, hC.p11, hC.p3, _, c_pour hC 43 (Or.inl rfl) ho', ?_⟩
  rintro v h5 ⟨rfl, hS5, -, hC5, hc5⟩
  refine ⟨rfl, hC5.p12, hC5.p3, _, c_pour hC5 46 (Or.inr rfl) ht', ?_⟩
  rintro v h6 ⟨rfl, hS6, hf6, hC6, hc6⟩
  exact ⟨rfl, l_first hg ho' ht' hn' hw' h4 (fun h' k1 k2 => ⟨hk, _, rfl, rfl, k1, k2⟩) n 0 h6 (by omega) hC6 (hc5.trans hc6) (hS5.fr hf6 (by omega)) hS6⟩
