/-! THE REFERENCE: matters, most, wanted, ended -/
def m3 (h0 h : XH) (s : SG) : Prop := MI h s ∧ mch h0 h ∧ xI h 56 2 = 0
def mT (h0 h : XH) (s : SG) (T : Nat → Nat → Nat) : Prop := GeoM h (bLast (sB s)) (bLst (sB s)) (bOd (sB s)) T ∧ m3 h0 h s
theorem m3.fr {h0 h h' : XH} {s : SG} (hR : m3 h0 h s) {lo hi : Nat} (hf : xfr lo hi h h') (hd : (67 ≤ lo ∧ hi ≤ 71) ∨ (80 ≤ lo ∧ hi ≤ 87) ∨ (88 ≤ lo ∧ hi ≤ 90)) : m3 h0 h' s :=
  ⟨hR.1.msc (msc.fr hf (by omega)), hR.2.1.trans (mch.fr hf (by omega)), by rw [xfr1 hf (by omega)]; exact hR.2.2⟩
theorem m3.code {h : XH} {s : SG} (hM : MI h s) : m3 h (mz 0 h) s := m_code hM 0
theorem m_table {h0 h : XH} {s : SG} (hg : GoodS s) (hR : m3 h0 h s) (wo : Int32) (f1 h1 E : Nat) (hE : E ≤ 2) (hf1 : f1 ≤ 100) (J : Nat → Nat) (hJ : jmpT wo (bFt (sB s)) (bHd (sB s)) (bKx (sB s)) f1 h1 = J) (hG : GoodJ (sB s) J) : XSpec mX11_tellTable 4 0 0 100 100 [.ref 56, .int wo, .int (nI f1), .int (nI h1), .int (nI E)] h (fun v h' => v = none ∧ mT h0 h' s (TJ (sB s) J E) ∧ ∀ j, j < 101 → xI h' 68 j = nI (J j)) xno := by
  subst hJ
  have hl := hg.l
  obtain ⟨hM, hm, e0⟩ := hR
  obtain ⟨b1, b2, b3, b4, b5, b6, b7⟩ := hM.2.2.1.1
  refine (s_X11_tellTable h hM.1 _ _ _ E _ _ _ (by omega) (fun i hi => by have := hg.ex i hi; omega) wo f1 h1 hf1 hl.2.1 hE hG.1 hG.2 b5 b2 b3 b7).mono ?_ (fun _ _ z => z)
  rintro v h' ⟨e, q2, q3, q4⟩
  exact ⟨e, ⟨⟨b1.fr q4 (by omega), by rw [xfr1 q4 (c := 59) (by omega)]; exact b2, hl.1, hl.2.1, hg.die, fun f f1 f2 => by rw [xfr1 q4 (c := 60) (by omega)]; exact b6 f f1 f2, fun s hs f hf => ⟨q2 s hs f hf, goTo_le hs hG.1⟩⟩, (m3.fr ⟨hM, hm, e0⟩ q4 (by omega))⟩, q3⟩
theorem jmpT_J {b : BD} (hk : bKx b ≤ 24) : jmpT (-1) (bFt b) (bHd b) (bKx b) 0 0 = bJ b := jmpT_all _ _ _ (by omega)
theorem m_tellJ {h0 h : XH} {s : SG} (hg : GoodS s) (hR : m3 h0 h s) : XSpec mX11_tellBoard 5 0 0 100 100 [.ref 56] h (fun v h' => v = none ∧ mT h0 h' s (bT (sB s)) ∧ ∀ j, j < 101 → xI h' 68 j = nI (bJ (sB s) j)) xno := by
  have hl := hg.l
  refine XSpec.of rfl (by decide) (Nat.le_of_ble_eq_true rfl) rfl (v_X11_tellBoard_0 hR.1.1 ?_)
  rw [hR.1.2.2.1.1.2.2.2.1]
  refine ⟨_, m_table hg hR (-1) 0 0 (bE (sB s)) hl.2.2.2 (by omega) _ (jmpT_J hl.2.2.1) hg.bj, ?_⟩
  rintro v h' ⟨rfl, q2, q3⟩
  exact ⟨rfl, rfl, q2, q3⟩
theorem m_longBy {h0 h : XH} {s : SG} {T : Nat → Nat → Nat} (hR : mT h0 h s T) (n : Nat) (hn : n ≤ 400) : XSpec mX11_longBy 3 0 0 100 100 [.ref 56, .int 0, .int (nI n)] h (fun v h' => v = some (.long (lN (longK (bLast (sB s)) (bLst (sB s)) (bOd (sB s)) T 0 n))) ∧ mT h0 h' s T) xno := by
  refine (s_X11_longBy _ _ 0 n h _ _ hR.1 (Nat.zero_le _) hn).mono ?_ (fun _ _ z => z)
  rintro v h' ⟨e, hf⟩
  exact ⟨e, hR.1.fr hf (by omega), hR.2.fr hf (by omega)⟩
theorem bW_T {s : SG} (hg : GoodS s) {e : Nat} (he : e < bKx (sB s)) : jmpT (nI e) (bFt (sB s)) (bHd (sB s)) (bKx (sB s)) 0 0 = bW (sB s) e := by
  unfold jmpT
  rw [if_pos rfl]
  exact jmpw_up _ _ he hg.l.2.2.1 hg.1.1.2.2.2.2.2.2.2
theorem m_changeBy {h0 h : XH} {s : SG} (hg : GoodS s) (hR : m3 h0 h s) (e n : Nat) (he : e < bKx (sB s)) (hn : n ≤ 400) : XSpec mX11_changeBy 6 0 0 100 100 [.ref 56, .int (nI e), .int (nI n)] h (fun v h' => v = some (.long (chL (sB s) e n)) ∧ m3 h0 h' s) xno := by
  have hl := hg.l
  have hx := hg.ex e he
  refine XSpec.of rfl (by decide) (Nat.le_of_ble_eq_true rfl) rfl (v_X11_changeBy_0 hR.1.1 (nI e) (nI n) ⟨_, m_tellJ hg hR, ?_⟩)
  rintro v h1 ⟨rfl, hR1, -⟩
  refine ⟨rfl, _, m_longBy hR1 n hn, ?_⟩
  rintro v h2 ⟨rfl, hR2⟩
  refine ⟨_, rfl, mp_told hR2.2.1.1, ?_⟩
  rw [hR2.2.1.2.2.1.1.2.2.2.1]
  refine ⟨_, m_table hg hR2.2 (nI e) 0 0 (bE (sB s)) hl.2.2.2 (by omega) _ (bW_T hg he) (hg.bj.set hx.2.1 (by omega)), ?_⟩
  rintro v h3 ⟨rfl, hR3, -⟩
  refine ⟨rfl, _, m_longBy hR3 n hn, ?_⟩
  rintro v h4 ⟨rfl, hR4⟩
  exact ⟨_, rfl, rfl, hR4.2⟩
theorem inR_lt {x : Int32} {k : Nat} (h : inR x 0 ((k : Int) - 1) = true) : ∃ q, q < k ∧ x = nI q := by
  have := inR_t.1 h
  obtain ⟨q, q1, q2⟩ := inR_nI (x := x) (n := k - 1) (inR_t.2 (by omega))
  exact ⟨q, by omega, q2⟩
theorem nI_m1 {k : Nat} (hk : k < 2 ^ 31) : (nI k - 1).toInt = (k : Int) - 1 := by
  rw [iz_nI, iz_lit 1, iz_sub, iz_toInt (by omega) (by omega)]; rfl
theorem s_X11_matters {h : XH} {s : SG} (hM : MI h s) (hg : GoodS s) (e n : Int32) : XSpec mX11_matters 7 0 0 100 100 [.ref 56, .int e, .int n] h (mEndL h s (kd2 (inR e 0 ((bKx (sB s) : Int) - 1)) (inR n 0 400)) (fun z => z = chL (sB s) e.toNatClampNeg n.toNatClampNeg)) xno := by
  have hl := hg.l
  have hR := m3.code hM
  have e1 := m_isIn 100 (mz 0 h) e 0 _ 0 (nI (bKx (sB s)) - 1) (by decide) rfl
  rw [nI_m1 (by omega)] at e1
  refine XSpec.of rfl (by decide) (Nat.le_of_ble_eq_true rfl) rfl (v_X11_matters_0 hM.1 e n ?_)
  rw [hM.2.2.1.1.2.2.1]
  refine ⟨_, e1, ?_⟩
  rintro v h1 ⟨rfl, rfl⟩
  refine ⟨_, rfl, fun c => ⟨_, m_isLong 100 _ n, ?_⟩, fun c => m_failL hR.1 hR.2.1 1 (kd2_1 (bI_0.1 c)) (by decide) 1 rfl⟩
  have he : inR e 0 ((bKx (sB s) : Int) - 1) = true := bI_n0.1 c
  rintro v h2 ⟨rfl, rfl⟩
  refine ⟨_, rfl, fun c2 => m_failL hR.1 hR.2.1 2 (kd2_2 he (bI_0.1 c2)) (by decide) 2 rfl, fun c2 => ?_⟩
  have hn := bI_n0.1 c2
  have hk := kd2_t he hn
  obtain ⟨e, he', rfl⟩ := inR_lt he
  obtain ⟨n, hn', rfl⟩ := inR_nI (n := 400) hn
  rw [nI_clamp (show e < 2 ^ 31 by omega), nI_clamp (show n < 2 ^ 31 by omega), hk]
  refine ⟨_, m_changeBy hg hR e n he' hn', ?_⟩
  rintro v h3 ⟨rfl, hR3⟩
  exact ⟨_, rfl, _, rfl, fun _ => rfl, hR3.2.2, hR3.1, hR3.2.1⟩
theorem l_mmost {s : SG} (hg : GoodS s) {n : Nat} (hn : n ≤ 400) (h0 : XH) {Q : Option Value → XH → Prop} {X : String → XH → Prop} : ∀ (k e : Nat) (w : Int32) (f f' : Int64) (h : XH), e + k = bKx (sB s) → m3 h0 h s → (w = -1 ∧ f' = -1 ∨ ¬ w = -1 ∧ f' = f) → (∀ h', m3 h0 h' s → Q (some (.int (moF (sB s) n k e w f'))) h') →
    XW (xrm 7 0 0) mX11_most (xE 100 Q X 0 0) 100 0 0 h 25 [some (.ref 56), some (.int (nI n)), some (.int w), some (.long f), none, some (.int (nI e)), none, none] [] := by
  have hl := hg.l
  intro k
  induction k with
  | zero =>
    intro e w f f' h hi hR hw hQ
    have : e = bKx (sB s) := by omega
    subst this
    refine v_X11_most_25 hR.1.1 _ _ _ (nI _) ⟨fun _ => hQ h hR, fun c => absurd ?_ c⟩
    rw [hR.1.2.2.1.1.2.2.1]; exact nI_le (Nat.le_refl _) (by omega)
  | succ k ih =>
    intro e w f f' h hi hR hw hQ
    refine v_X11_most_25 hR.1.1 _ _ _ (nI _) ⟨fun c => absurd c ?_, fun _ => ⟨_, m_changeBy hg hR e n (by omega) hn, ?_⟩⟩
    · rw [hR.1.2.2.1.1.2.2.1]; exact nI_ge (by omega) (by omega)
    rintro v h1 ⟨rfl, hR1⟩
    refine ⟨_, rfl, ?_⟩
    have e1 : (if 0 < chL (sB s) e n then chL (sB s) e n else -(chL (sB s) e n)) = aL (chL (sB s) e n) := rfl
    rw [e1, nI_1, lg_cmp_gt]
    have hne : ¬ nI e = -1 := nI_nm1 (by omega)
    have up : f' < aL (chL (sB s) e n) → ∀ h', m3 h0 h' s → Q (some (.int (moF (sB s) n k (e + 1) (nI e) (aL (chL (sB s) e n))))) h' := fun c h' k1 => by
      have := hQ h' k1
      unfold moF at this
      rw [if_pos c] at this
      exact this
    refine ⟨fun c => ?_, fun c => ⟨fun c2 => ?_, fun c2 => ?_⟩⟩
    · rcases hw with ⟨w1, w2⟩ | ⟨w1, w2⟩
      · exact ih (e + 1) _ _ _ h1 (by omega) hR1 (Or.inr ⟨hne, rfl⟩) (up (by rw [w2]; exact chL_nn _ e hn))
      · exact absurd c w1
    · rcases hw with ⟨w1, w2⟩ | ⟨w1, w2⟩
      · exact absurd w1 c
      · exact ih (e + 1) _ _ _ h1 (by omega) hR1 (Or.inr ⟨hne, rfl⟩) (up (by rw [w2]; exact c2))
    · rcases hw with ⟨w1, w2⟩ | ⟨w1, w2⟩
      · exact absurd w1 c
      · refine ih (e + 1) w f f' h1 (by omega) hR1 (Or.inr ⟨w1, w2⟩) (fun h' k1 => ?_)
        have := hQ h' k1
        unfold moF at this
        rw [if_neg (by rw [w2]; exact c2)] at this
        exact this
theorem s_X11_most {h : XH} {s : SG} (hM : MI h s) (hg : GoodS s) (n : Int32) : XSpec mX11_most 7 0 0 100 100 [.ref 56, .int n] h (mEndI h s (kd1 (inR n 0 400)) (fun z => z = mostA (sB s) n.toNatClampNeg)) xno := by
  have hR := m3.code hM
  refine XSpec.of rfl (by decide) (Nat.le_of_ble_eq_true rfl) rfl (v_X11_most_0 hM.1 n ⟨_, m_isLong 100 _ n, ?_⟩)
  rintro v h2 ⟨rfl, rfl⟩
  refine ⟨_, rfl, fun c2 => ?_, fun c2 => m_failI hR.1 hR.2.1 1 (kd1_f (bI_0.1 c2)) (by decide) 1 rfl⟩
  have hn := bI_n0.1 c2
  have hk := kd1_t hn
  obtain ⟨n, hn', rfl⟩ := inR_nI (n := 400) hn
  rw [nI_clamp (show n < 2 ^ 31 by omega), hk]
  exact l_mmost hg hn' h (bKx (sB s)) 0 (-1) 0 (-1) _ (by omega) hR (Or.inl ⟨rfl, rfl⟩) (fun h' k => ⟨_, rfl, fun _ => rfl, k.2.2, k.1, k.2.1⟩)
theorem s_X11_ended {h : XH} {s : SG} (hM : MI h s) (hg : GoodS s) (e n : Int32) : XSpec mX11_ended 5 0 0 100 100 [.ref 56, .int e, .int n] h (mEndL h s (kd2 (inR e 0 2) (inR n 0 400)) (fun z => z = endL (sB s) e.toNatClampNeg n.toNatClampNeg)) xno := by
  have hl := hg.l
  have hR := m3.code hM
  refine XSpec.of rfl (by decide) (Nat.le_of_ble_eq_true rfl) rfl (v_X11_ended_0 hM.1 e n ⟨_, m_isIn0 e 2 2 2 (by decide) (by decide), ?_⟩)
  rintro v h1 ⟨rfl, rfl⟩
  refine ⟨_, rfl, fun c => ⟨_, m_isLong 100 _ n, ?_⟩, fun c => m_failL hR.1 hR.2.1 1 (kd2_1 (bI_0.1 c)) (by decide) 1 rfl⟩
  have he : inR e 0 2 = true := bI_n0.1 c
  rintro v h2 ⟨rfl, rfl⟩
  refine ⟨_, rfl, fun c2 => ?_, fun c2 => m_failL hR.1 hR.2.1 2 (kd2_2 he (bI_0.1 c2)) (by decide) 2 rfl⟩
  have hn := bI_n0.1 c2
  have hk := kd2_t he hn
  obtain ⟨e, he', rfl⟩ := inR_nI (n := 2) he
  obtain ⟨n, hn', rfl⟩ := inR_nI (n := 400) hn
  rw [nI_clamp (show e < 2 ^ 31 by omega), nI_clamp (show n < 2 ^ 31 by omega), hk]
  refine ⟨_, m_table hg hR (-1) 0 0 e he' (by omega) _ (jmpT_J hl.2.2.1) hg.bj, ?_⟩
  rintro v h3 ⟨rfl, hR3, -⟩
  refine ⟨rfl, _, m_longBy hR3 n hn', ?_⟩
  rintro v h4 ⟨rfl, hR4⟩
  exact ⟨_, rfl, _, rfl, fun _ => rfl, hR4.2.2.2, hR4.2.1, hR4.2.2.1⟩
theorem l_mwIn {s : SG} (hg : GoodS s) {w : Int64} {n f : Nat} (hn : n ≤ 400) (h1 : 1 ≤ f) (hf : f < bLast (sB s)) (h0 : XH) {Q : Option Value → XH → Prop} {X : String → XH → Prop} : ∀ (k x : Nat) (p : Int32 × Int64) (h : XH), x + k = bLast (sB s) + 1 → 1 ≤ x → m3 h0 h s →
    (∀ h', m3 h0 h' s → XW (xrm 6 0 0) mX11_wanted (xE 100 Q X 0 0) 100 0 0 h' 53 [some (.ref 56), some (.long w), none, some (.int (nI n)), some (.int (wIn (sB s) w n f k x p).1), some (.long (wIn (sB s) w n f k x p).2), none, some (.int (nI (f + 1))), none, none, none] []) →
    XW (xrm 6 0 0) mX11_wanted (xE 100 Q X 0 0) 100 0 0 h 95 [some (.ref 56), some (.long w), none, some (.int (nI n)), some (.int p.1), some (.long p.2), none, some (.int (nI f)), some (.int (nI x)), none, none] [] := by
  have hl := hg.l
  intro k
  induction k with
  | zero =>
    intro x p h hi hx hR hQ
    have : x = bLast (sB s) + 1 := by omega
    subst this
    refine v_X11_wanted_95 hR.1.1 _ _ _ _ _ (nI _) ⟨fun _ => ?_, fun c => absurd ?_ c⟩
    · rw [nI_1]; exact hQ h hR
    · rw [hR.1.2.2.1.1.2.1]; exact nI_lt (by omega) (by omega)
  | succ k ih =>
    intro x p h hi hx hR hQ
    rw [wIn_s] at hQ
    refine v_X11_wanted_95 hR.1.1 _ _ _ _ _ (nI _) ⟨fun c => absurd c ?_, fun _ => ⟨fun c => ?_, fun c => ?_⟩⟩
    · rw [hR.1.2.2.1.1.2.1]; exact nI_nlt (by omega) (by omega)
    · have hxf : ¬ x = f := fun z => c (by rw [z])
      have hJ : jmpT (-1) (bFt (sB s)) (bHd (sB s)) (bKx (sB s)) f x = va_up (bJ (sB s)) f x := by
        unfold jmpT
        rw [if_neg (by omega), jmpw_none _ _ _ (by omega)]; rfl
      rw [hR.1.2.2.1.1.2.2.2.1]
      refine ⟨_, m_table hg hR (-1) f x (bE (sB s)) hl.2.2.2 (by omega) _ hJ (hg.bj.set hf (by omega)), ?_⟩
      rintro v h2 ⟨rfl, hR2, -⟩
      refine ⟨rfl, _, m_longBy hR2 n hn, ?_⟩
      rintro v h3 ⟨rfl, hR3⟩
      refine ⟨_, rfl, ?_⟩
      have eg : (if 0 < lN (longK (bLast (sB s)) (bLst (sB s)) (bOd (sB s)) (TJ (sB s) (va_up (bJ (sB s)) f x) (bE (sB s))) 0 n) - w then lN (longK (bLast (sB s)) (bLst (sB s)) (bOd (sB s)) (TJ (sB s) (va_up (bJ (sB s)) f x) (bE (sB s))) 0 n) - w else -(lN (longK (bLast (sB s)) (bLst (sB s)) (bOd (sB s)) (TJ (sB s) (va_up (bJ (sB s)) f x) (bE (sB s))) 0 n) - w)) = gW (sB s) w n f x := rfl
      rw [eg, hR3.2.1.2.2.1.1.2.1, nI_1 x, lg_cmp_lt]
      unfold wStep at hQ
      rw [if_neg hxf] at hQ
      refine ⟨fun c1 => ⟨mp_told hR3.2.1.1, ?_⟩, fun c1 => ⟨fun c2 => ⟨mp_told hR3.2.1.1, ?_⟩, fun c2 => ?_⟩⟩
      · rw [if_pos (Or.inl c1)] at hQ
        exact ih (x + 1) (_, _) h3 (by omega) (by omega) hR3.2 hQ
      · rw [if_pos (Or.inr c2)] at hQ
        exact ih (x + 1) (_, _) h3 (by omega) (by omega) hR3.2 hQ
      · rw [if_neg (fun z => z.elim c1 c2)] at hQ
        exact ih (x + 1) p h3 (by omega) (by omega) hR3.2 hQ
    · have hxf : x = f := ((nI_eq (by omega) (by omega)).1 c).symm
      rw [nI_1 x]
      unfold wStep at hQ
      rw [if_pos hxf] at hQ
      exact ih (x + 1) p h (by omega) (by omega) hR hQ
theorem l_mwOut {s : SG} (hg : GoodS s) {w : Int64} {n : Nat} (hn : n ≤ 400) (hk : bKx (sB s) < 24) (h0 : XH) {Q : Option Value → XH → Prop} {X : String → XH → Prop} : ∀ (k f : Nat) (p : Int32 × Int64) (h : XH), f + k = bLast (sB s) → 1 ≤ f → m3 h0 h s →
    (∀ h', m3 h0 h' s → Q (some (.int (wOut (sB s) w n k f p))) h') →
    XW (xrm 6 0 0) mX11_wanted (xE 100 Q X 0 0) 100 0 0 h 53 [some (.ref 56), some (.long w), none, some (.int (nI n)), some (.int p.1), some (.long p.2), none, some (.int (nI f)), none, none, none] [] := by
  have hl := hg.l
  intro k
  induction k with
  | zero =>
    intro f p h hi hx hR hQ
    have : f = bLast (sB s) := by omega
    subst this
    refine v_X11_wanted_53 hR.1.1 _ _ _ _ (nI _) ⟨fun _ => hQ h hR, fun c => absurd ?_ c⟩
    rw [hR.1.2.2.1.1.2.1]; exact nI_le (by omega) (by omega)
  | succ k ih =>
    intro f p h hi hx hR hQ
    rw [wOut_s] at hQ
    refine v_X11_wanted_53 hR.1.1 _ _ _ _ (nI _) ⟨fun c => absurd c ?_, fun _ => ⟨fun c => absurd c ?_, fun _ => ⟨_, m_tellJ hg hR, ?_⟩⟩⟩
    · rw [hR.1.2.2.1.1.2.1]; exact nI_ge (by omega) (by omega)
    · rw [hR.1.2.2.1.1.2.2.1]; exact nI_ge (b := 24) (by omega) (by omega)
    rintro v h2 ⟨rfl, hR2, hJ2⟩
    refine ⟨rfl, mp_jump hR2.2.1.1, vp_in_nI (by omega) (by omega), ?_⟩
    rw [nI_clamp (show f < 2 ^ 31 by omega), hJ2 f (by omega)]
    have hb : bJ (sB s) f ≤ bLast (sB s) := hg.bj.1 f (by omega)
    refine ⟨fun c => ?_, fun c => ?_⟩
    · have hJ : bJ (sB s) f = 0 := (nI_eq (b := 0) (by omega) (by omega)).1 c
      rw [if_pos hJ] at hQ
      exact l_mwIn hg hn hx (by omega) h0 (bLast (sB s)) 1 p h2 (by omega) (Nat.le_refl _) hR2.2 (fun h' k1 => ih (f + 1) _ h' (by omega) (by omega) k1 hQ)
    · have hJ : ¬ bJ (sB s) f = 0 := fun z => c (by rw [z]; rfl)
      rw [if_neg hJ] at hQ
      rw [nI_1]
      exact ih (f + 1) p h2 (by omega) (by omega) hR2.2 hQ
theorem s_X11_wanted {h : XH} {s : SG} (hM : MI h s) (hg : GoodS s) (w : Int64) (n : Int32) : XSpec mX11_wanted 6 0 0 100 100 [.ref 56, .long w, .int n] h (mEndI h s (kd1 (inR n 0 400 && decide (0 ≤ w))) (fun z => z = wnA (sB s) w n)) xno := by
  have hl := hg.l
  have hR := m3.code hM
  refine XSpec.of rfl (by decide) (Nat.le_of_ble_eq_true rfl) rfl (v_X11_wanted_0 hM.1 w n ⟨_, m_isLong 100 _ n, ?_⟩)
  rintro v h2 ⟨rfl, rfl⟩
  refine ⟨_, rfl, fun c2 => m_failI hR.1 hR.2.1 1 (kd1_f (by rw [bI_0.1 c2]; rfl)) (by decide) 1 rfl, fun c2 => ?_⟩
  have hn := bI_n0.1 c2
  rw [lg_cmp_ge]
  refine ⟨fun c => ⟨mp_told hR.1.1, ?_⟩, fun c => m_failI hR.1 hR.2.1 1 (kd1_f (by rw [hn, decide_eq_false c]; rfl)) (by decide) 1 rfl⟩
  have hk : kd1 (inR n 0 400 && decide (0 ≤ w)) = 0 := kd1_t (by rw [hn, decide_eq_true c]; rfl)
  rw [hk, hR.1.2.2.1.1.2.1]
  have e40 : (40 : Int32).toInt = 40 := by decide
  have e60 : (60 : Int32).toInt = 60 := by decide
  rw [i32_lt, i32_le, nI_toInt (by omega), e40, e60]
  refine ⟨fun c3 => ⟨_, rfl, fun _ => ?_, hR.2.2, hR.1, hR.2.1⟩, fun c3 => ⟨fun c4 => ?_, fun c4 => ⟨_, rfl, fun _ => ?_, hR.2.2, hR.1, hR.2.1⟩⟩⟩
  · unfold wnA spB; rw [decide_eq_true (by omega)]; rfl
  · have ew : wnA (sB s) w n = wantA (sB s) w n.toNatClampNeg := by unfold wnA spB; rw [decide_eq_false (by omega)]; rfl
    rw [ew]
    obtain ⟨n, hn', rfl⟩ := inR_nI (n := 400) hn
    rw [nI_clamp (show n < 2 ^ 31 by omega)]
    by_cases z : 24 ≤ bKx (sB s)
    · refine v_X11_wanted_53 hR.1.1 _ _ _ _ 1 ⟨fun c5 => absurd c5 ?_, fun _ => ⟨fun _ => ⟨_, rfl, fun _ => ?_, hR.2.2, hR.1, hR.2.1⟩, fun c5 => absurd ?_ c5⟩⟩
      · rw [hR.1.2.2.1.1.2.1]; exact nI_ge (a := 1) (by omega) (by omega)
      · unfold wantA; rw [if_pos z]
      · rw [hR.1.2.2.1.1.2.2.1]; exact nI_le (a := 24) z (by omega)
    · exact l_mwOut hg hn' (by omega) h (bLast (sB s) - 1) 1 (-1, 0) _ (by omega) (Nat.le_refl _) hR (fun h' k => ⟨_, rfl, fun _ => by unfold wantA; rw [if_neg z], k.2.2, k.1, k.2.1⟩)
  · unfold wnA spB; rw [decide_eq_true (by omega)]; rfl
