/-! NOTES: the reference -/
theorem MI.nn {h : XH} {s : SG} (hM : MI h s) : xI h 56 46 = nI (gNn (sG s)) := hM.2.2.2.1.2.2.1
theorem MI.nr {h : XH} {s : SG} (hM : MI h s) : ∀ i, i < gNn (sG s) → xI h 87 i = gNr (sG s) i := hM.2.2.2.1.2.2.2.2.2.1
def mcB (b : BD) (g : GD) (i l : Nat) : Bool := !askB g i || canB b g i l
theorem l_mcan {h0 h : XH} {s : SG} (hR : mT h0 h s (bT (sB s))) (hg : GoodS s) {i l : Nat} (hi : i < gNn (sG s)) (ha : askB (sG s) i = true) (hl1 : l ≤ 1) {Q : Option Value → XH → Prop} {X : String → XH → Prop} (hQ : Q (some (.int (bI (canB (sB s) (sG s) i l)))) h) : ∀ (k f : Nat), f + k = 6 → canU (sB s) (sG s) i l f = false →
    XW (xrm 1 0 0) mX11_canCome (xE 100 Q X 0 0) 100 0 0 h 37 [some (.ref 56), some (.int (nI i)), some (.int (nI l)), some (.int (nI (frN (sG s) i))), some (.int (nI (f + 1)))] [] := by
  have hl := hg.l
  have hn := hg.nn
  obtain ⟨hM, g1, g4, g5, g6, g7, g8⟩ := id hR.1
  intro k
  induction k with
  | zero =>
    intro f hf hn
    have : f = 6 := by omega
    subst this
    refine v_X11_canCome_37 hM _ _ _ (nI 7) ⟨fun _ => ?_, fun c => absurd (by decide) c⟩
    have : canB (sB s) (sG s) i l = false := hn
    rw [this] at hQ
    exact hQ
  | succ k ih =>
    intro f hf hno
    have hfr := (frN_le hg hi ha).1
    have o9 := hg.die.1 (f + 1) (by omega) (by omega)
    obtain ⟨t1, t2⟩ := g8 _ hfr (f + 1 - l) (by omega)
    have g7' := g7 (f + 1) (by omega) (by omega)
    rw [Nat.add_sub_cancel] at g7'
    have e : nI (f + 1) - nI l = nI (f + 1 - l) := pk_sub (by omega)
    refine v_X11_canCome_37 hM _ _ _ (nI (f + 1)) ⟨fun c => absurd c (nI_nlt (a := 6) (by omega) (by omega)), fun _ => ?_⟩
    rw [nI_pred, nI_clamp (show f < 2 ^ 31 by omega), g7', e, m67, nI_clamp (show 101 * (f + 1 - l) + frN (sG s) i < 2 ^ 31 by omega), t1, nI_clamp (show i < 2 ^ 31 by omega), hR.2.1.nr i hi, nI_1]
    refine ⟨vp_in_nI (by omega) (by omega), fun c => ?_, fun c => ⟨vp_in_nI (by omega) (by omega), vp_in_nI (by omega) (by omega), fun c2 => ?_, fun c2 => ?_⟩⟩
    · have c' : ¬ 0 < bOd (sB s) (f + 1) := fun z => nI_nle z (by omega) c
      exact ih (f + 1) (by omega) (by show (_ || (_ && _)) = false; rw [hno, decide_eq_false c']; rfl)
    · exact ih (f + 1) (by omega) (by show (_ || (_ && _)) = false; rw [hno, decide_eq_false c2, Bool.and_false]; rfl)
    · have c' : 0 < bOd (sB s) (f + 1) := Nat.pos_of_ne_zero (fun z => c (by rw [z]; decide))
      have e1 : canU (sB s) (sG s) i l (f + 1) = true := by show (_ || (_ && _)) = true; rw [decide_eq_true c', decide_eq_true c2]; simp
      have : canB (sB s) (sG s) i l = true := by
        have := canU_mono e1 (6 - (f + 1))
        rw [show f + 1 + (6 - (f + 1)) = 6 by omega] at this
        exact this
      rw [this] at hQ
      exact hQ
theorem m_canCome {h0 h : XH} {s : SG} (hR : mT h0 h s (bT (sB s))) (hg : GoodS s) {i l : Nat} (hi : i < gNn (sG s)) (hl1 : l ≤ 1) : XSpec mX11_canCome 1 0 0 100 100 [.ref 56, .int (nI i), .int (nI l)] h (xq (some (.int (bI (mcB (sB s) (sG s) i l)))) h) xno := by
  have hn := hg.nn
  have na : askB (sG s) i = false → mcB (sB s) (sG s) i l = true := fun z => by unfold mcB; rw [z]; rfl
  have ya : askB (sG s) i = true → mcB (sB s) (sG s) i l = canB (sB s) (sG s) i l := fun z => by unfold mcB; rw [z]; rfl
  refine XSpec.of rfl (by decide) (Nat.le_of_ble_eq_true rfl) rfl (v_X11_canCome_0 hR.1.1 (nI i) (nI l) ⟨fun c => ?_, fun c => ?_⟩)
  · have z : i ≠ 0 := fun y => c (by rw [y]; rfl)
    rw [nI_p1 (by omega), nI_clamp (show i - 1 < 2 ^ 31 by omega), hR.2.1.nr (i - 1) (by omega), nI_clamp (show i < 2 ^ 31 by omega), hR.2.1.nr i hi]
    refine ⟨vp_in_nI (by omega) (by omega), fun c1 => ⟨?_, rfl⟩, fun c1 => ⟨vp_in_nI (by omega) (by omega), fun c2 => ?_, fun c2 => ⟨?_, rfl⟩⟩⟩
    · rw [na (decide_eq_false (fun y => y.2.elim z (fun q => q c1)))]; rfl
    · have ha : askB (sG s) i = true := decide_eq_true ⟨c2, Or.inr c1⟩
      rw [(frN_le hg hi ha).2 z]
      exact l_mcan hR hg hi ha hl1 ⟨by rw [ya ha], rfl⟩ 6 0 rfl rfl
    · rw [na (decide_eq_false (fun y => y.1 c2))]; rfl
  · have z : i = 0 := (nI_eq (b := 0) (by omega) (by omega)).1 c
    rw [nI_clamp (show i < 2 ^ 31 by omega), hR.2.1.nr i hi]
    refine ⟨vp_in_nI (by omega) (by omega), fun c2 => ?_, fun c2 => ⟨?_, rfl⟩⟩
    · have ha : askB (sG s) i = true := decide_eq_true ⟨c2, Or.inl z⟩
      have := l_mcan hR hg hi ha hl1 (Q := xq (some (.int (bI (mcB (sB s) (sG s) i l)))) h) (X := xno) ⟨by rw [ya ha], rfl⟩ 6 0 rfl rfl
      have e : frN (sG s) i = 0 := by unfold frN; rw [if_pos z]
      rw [e] at this
      exact this
    · rw [na (decide_eq_false (fun y => y.1 c2))]; rfl
theorem mc_bad {b : BD} {g : GD} {i : Nat} : mcB b g i 0 = !badB b g i := by
  unfold mcB badB
  cases askB g i <;> cases canB b g i 0 <;> rfl
theorem mc_les {b : BD} {g : GD} {i : Nat} (h : badB b g i = true) : mcB b g i 1 = lesB b g i := by
  unfold lesB
  rw [h, Bool.true_and]
  unfold badB at h
  unfold mcB
  revert h
  cases askB g i <;> simp
theorem l_mcannot {h0 h : XH} {s : SG} (hR : mT h0 h s (bT (sB s))) (hg : GoodS s) {Q : Option Value → XH → Prop} {X : String → XH → Prop} (hQ : ∀ w, CnR (sB s) (sG s) w → Q (some (.int w)) h) : ∀ (k i : Nat), i + k = gNn (sG s) → (∀ j, j < i → badB (sB s) (sG s) j = false) →
    XW (xrm 6 0 0) mX11_cannot (xE 100 Q X 0 0) 100 0 0 h 11 [some (.ref 56), some (.int (nI i))] [] := by
  have hn := hg.nn
  intro k
  induction k with
  | zero =>
    intro i hi hb
    have : i = gNn (sG s) := by omega
    subst this
    refine v_X11_cannot_11 hR.1.1 (nI _) ⟨fun _ => hQ _ (Or.inr ⟨rfl, hb⟩), fun c => absurd ?_ c⟩
    rw [hR.2.1.nn]; exact nI_le (Nat.le_refl _) (by omega)
  | succ k ih =>
    intro i hi hb
    refine v_X11_cannot_11 hR.1.1 (nI _) ⟨fun c => absurd c ?_, fun _ => ⟨_, m_canCome hR hg (show i < gNn (sG s) by omega) (Nat.zero_le 1), ?_⟩⟩
    · rw [hR.2.1.nn]; exact nI_ge (by omega) (by omega)
    rintro v h1 ⟨rfl, e1⟩
    subst e1
    rw [mc_bad]
    refine ⟨_, rfl, fun c => ?_, fun c => hQ _ (Or.inl ⟨i, by omega, rfl, ?_, hb⟩)⟩
    · have c' := bI_n0.1 c
      rw [nI_1]
      refine ih (i + 1) (by omega) (fun j hj => ?_)
      by_cases e : j = i
      · rw [e]; simpa using c'
      · exact hb j (by omega)
    · simpa using bI_0.1 c
theorem s_X11_cannot {h : XH} {s : SG} (hM : MI h s) (hg : GoodS s) : XSpec mX11_cannot 6 0 0 100 100 [.ref 56] h (fun v h' => ∃ w, v = some (.int w) ∧ CnR (sB s) (sG s) w ∧ MI h' s ∧ mch h h') xno := by
  refine XSpec.of rfl (by decide) (Nat.le_of_ble_eq_true rfl) rfl (v_X11_cannot_0 hM.1 ⟨_, m_tellT hg (m3.code hM), ?_⟩)
  rintro v h1 ⟨rfl, hR⟩
  exact ⟨rfl, l_mcannot hR hg (fun w hw => ⟨w, rfl, hw, hR.2.1, hR.2.2.1⟩) (gNn (sG s)) 0 (by omega) (fun j hj => by omega)⟩
theorem l_mless {h0 h : XH} {s : SG} (hR : mT h0 h s (bT (sB s))) (hg : GoodS s) {Q : Option Value → XH → Prop} {X : String → XH → Prop} (hQ : Q (some (.int (nI (lesN (sB s) (sG s) (gNn (sG s)))))) h) : ∀ (k i : Nat), i + k = gNn (sG s) →
    XW (xrm 6 0 0) mX11_less (xE 100 Q X 0 0) 100 0 0 h 13 [some (.ref 56), some (.int (nI (lesN (sB s) (sG s) i))), some (.int (nI i))] [] := by
  have hn := hg.nn
  intro k
  induction k with
  | zero =>
    intro i hi
    have : i = gNn (sG s) := by omega
    subst this
    refine v_X11_less_13 hR.1.1 _ (nI _) ⟨fun _ => hQ, fun c => absurd ?_ c⟩
    rw [hR.2.1.nn]; exact nI_le (Nat.le_refl _) (by omega)
  | succ k ih =>
    intro i hi
    have hi' : i < gNn (sG s) := by omega
    have step0 : lesB (sB s) (sG s) i = false → XW (xrm 6 0 0) mX11_less (xE 100 Q X 0 0) 100 0 0 h 13 [some (.ref 56), some (.int (nI (lesN (sB s) (sG s) i) + 0)), some (.int (nI i + 1))] [] := fun z => by
      rw [nI_1, Int32.add_zero]
      have := ih (i + 1) (by omega)
      unfold lesN at this
      rw [z] at this
      exact this
    refine v_X11_less_13 hR.1.1 _ (nI _) ⟨fun c => absurd c ?_, fun _ => ⟨_, m_canCome hR hg hi' (Nat.zero_le 1), ?_⟩⟩
    · rw [hR.2.1.nn]; exact nI_ge (by omega) (by omega)
    rintro v h1 ⟨rfl, e1⟩
    subst e1
    rw [mc_bad]
    refine ⟨_, rfl, fun c => step0 (by have := bI_n0.1 c; unfold lesB; simp at this; rw [this]; rfl), fun c => ⟨_, m_canCome hR hg hi' (Nat.le_refl 1), ?_⟩⟩
    have hb : badB (sB s) (sG s) i = true := by simpa using bI_0.1 c
    rintro v h2 ⟨rfl, e2⟩
    subst e2
    rw [mc_les hb]
    refine ⟨_, rfl, fun c2 => step0 (bI_0.1 c2), fun c2 => ?_⟩
    rw [nI_1, nI_1]
    have := ih (i + 1) (by omega)
    unfold lesN at this
    rw [bI_n0.1 c2] at this
    exact this
theorem s_X11_less {h : XH} {s : SG} (hM : MI h s) (hg : GoodS s) : XSpec mX11_less 6 0 0 100 100 [.ref 56] h (fun v h' => v = some (.int (nI (lesN (sB s) (sG s) (gNn (sG s))))) ∧ MI h' s ∧ mch h h') xno := by
  refine XSpec.of rfl (by decide) (Nat.le_of_ble_eq_true rfl) rfl (v_X11_less_0 hM.1 ⟨_, m_tellT hg (m3.code hM), ?_⟩)
  rintro v h1 ⟨rfl, hR⟩
  exact ⟨rfl, l_mless hR hg ⟨rfl, hR.2.1, hR.2.2.1⟩ (gNn (sG s)) 0 (by omega)⟩
/-! the ways -/
theorem l_mwF {h0 h : XH} {s : SG} (hR : mT h0 h s (bT (sB s))) (hg : GoodS s) {i q : Nat} (hi : i < gNn (sG s)) (hq : q ≤ bLast (sB s)) (hv : Wys h 88 (sB s) (sG s) (i + 1)) {Q : Option Value → XH → Prop} {X : String → XH → Prop} (hQ : XW (xrm 2 0 0) mX11_tellWays (xE 100 Q X 0 0) 100 0 0 (xSL 88 (va_up (xL h 88) (101 * i + q) (lN (wyi (sB s) (sG s) i q))) h) 46 [some (.ref 56), some (.int (nI i)), some (.int (nI (q + 1))), none, none, none, none] []) : ∀ (k f : Nat), f + k = 6 →
    XW (xrm 2 0 0) mX11_tellWays (xE 100 Q X 0 0) 100 0 0 h 61 [some (.ref 56), some (.int (nI i)), some (.int (nI q)), some (.long (lN (sN (wyt (sB s) (sG s) i q) 1 f))), none, some (.int (nI (f + 1))), none] [] := by
  have hl := hg.l
  have hn := hg.nn
  obtain ⟨hM, g1, g4, g5, g6, g7, g8⟩ := id hR.1
  intro k
  induction k with
  | zero =>
    intro f hf
    have : f = 6 := by omega
    subst this
    refine v_X11_tellWays_61 hM _ _ _ (nI 7) ⟨fun _ => ?_, fun c => absurd (by decide) c⟩
    have e9 : (1000000000000000000 : Int64) = lN 1000000000000000000 := rfl
    have b := wyt_sum (sB s) (sG s) i q 6
    rw [e9, lN_min (by omega) (by omega), ← wyi_s hi, m67, nI_clamp (by omega), nI_1]
    exact ⟨vp_in_nI (by omega) (by omega), hQ⟩
  | succ k ih =>
    intro f hf
    have o9 := hg.die.1 (f + 1) (by omega) (by omega)
    obtain ⟨t1, t2⟩ := g8 _ hq (f + 1) (by omega)
    have g7' := g7 (f + 1) (by omega) (by omega)
    rw [Nat.add_sub_cancel] at g7'
    have hI := ih (f + 1) (by omega)
    rw [sN_last, Nat.add_comm 1 f] at hI
    have hval := hv (i + 1) (Nat.le_refl _) (by omega) _ t2
    refine v_X11_tellWays_61 hM _ _ _ (nI (f + 1)) ⟨fun c => absurd c (nI_nlt (a := 6) (by omega) (by omega)), fun _ => ?_⟩
    rw [nI_pred, nI_clamp (show f < 2 ^ 31 by omega), g7', m67, nI_clamp (show 101 * (f + 1) + q < 2 ^ 31 by omega), t1, nI_clamp (show i < 2 ^ 31 by omega), hR.2.1.nr i hi, nI_1, nI_1, m67, nI_clamp (show 101 * (i + 1) + bT (sB s) q (f + 1) < 2 ^ 31 by omega), hval, lN_add]
    refine ⟨vp_in_nI (by omega) (by omega), vp_in_nI (by omega) (by omega), fun c => ?_, fun c => ⟨vp_in_nI (by omega) (by omega), fun c2 => ⟨vp_in_nI (by omega) (by omega), ?_⟩, fun c2 => ⟨vp_in_nI (by omega) (by omega), fun c3 => ?_, fun c3 => ⟨vp_in_nI (by omega) (by omega), ?_⟩⟩⟩⟩
    · have c' : ¬ 0 < bOd (sB s) (f + 1) := fun z => nI_nle z (by omega) c
      have : wyt (sB s) (sG s) i q (f + 1) = 0 := by unfold wyt; rw [decide_eq_false c']; rfl
      rw [this, Nat.add_zero] at hI
      exact hI
    · have c' : 0 < bOd (sB s) (f + 1) := Nat.pos_of_ne_zero (fun z => c (by rw [z]; decide))
      have : wyt (sB s) (sG s) i q (f + 1) = wyi (sB s) (sG s) (i + 1) (bT (sB s) q (f + 1)) := by
        unfold wyt; rw [decide_eq_true c', show okB (sG s) i (bT (sB s) q (f + 1)) = true from decide_eq_true (Or.inl c2)]; rfl
      rw [this] at hI
      exact hI
    · have : wyt (sB s) (sG s) i q (f + 1) = 0 := by unfold wyt; rw [okB_n c2 c3, Bool.and_false]; rfl
      rw [this, Nat.add_zero] at hI
      exact hI
    · have c' : 0 < bOd (sB s) (f + 1) := Nat.pos_of_ne_zero (fun z => c (by rw [z]; decide))
      have : wyt (sB s) (sG s) i q (f + 1) = wyi (sB s) (sG s) (i + 1) (bT (sB s) q (f + 1)) := by
        unfold wyt; rw [decide_eq_true c', show okB (sG s) i (bT (sB s) q (f + 1)) = true from decide_eq_true (Or.inr c3)]; rfl
      rw [this] at hI
      exact hI
theorem l_mwIn2 {h0 : XH} {s : SG} (hg : GoodS s) {i : Nat} (hi : i < gNn (sG s)) {Q : Option Value → XH → Prop} {X : String → XH → Prop} : ∀ (k x : Nat) (h : XH), x + k = bLast (sB s) + 1 → mT h0 h s (bT (sB s)) → Wys h 88 (sB s) (sG s) (i + 1) → (∀ q, q < x → xL h 88 (101 * i + q) = lN (wyi (sB s) (sG s) i q)) →
    (∀ h', mT h0 h' s (bT (sB s)) → Wys h' 88 (sB s) (sG s) i → XW (xrm 2 0 0) mX11_tellWays (xE 100 Q X 0 0) 100 0 0 h' 40 [some (.ref 56), some (.int (iz ((i : Int) - 1))), none, none, none, none, none] []) →
    XW (xrm 2 0 0) mX11_tellWays (xE 100 Q X 0 0) 100 0 0 h 46 [some (.ref 56), some (.int (nI i)), some (.int (nI x)), none, none, none, none] [] := by
  have hl := hg.l
  have hn := hg.nn
  intro k
  induction k with
  | zero =>
    intro x h hx hR hv hz hQ
    have : x = bLast (sB s) + 1 := by omega
    subst this
    refine v_X11_tellWays_46 hR.1.1 _ (nI _) ⟨fun _ => ?_, fun c => absurd ?_ c⟩
    · have e : nI i + (-1) = iz ((i : Int) - 1) := by
        have : (-1 : Int32) = iz (-1) := rfl
        rw [this, iz_nI, iz_add]; rfl
      rw [e]
      refine hQ h hR (fun j h1 h2 q hq => ?_)
      by_cases z : j = i
      · rw [z]; exact hz q (by omega)
      · exact hv j (by omega) h2 q hq
    · rw [hR.1.2.1]; exact nI_lt (by omega) (by omega)
  | succ k ih =>
    intro x h hx hR hv hz hQ
    refine v_X11_tellWays_46 hR.1.1 _ (nI _) ⟨fun c => absurd c ?_, fun _ => ?_⟩
    · rw [hR.1.2.1]; exact nI_nlt (by omega) (by omega)
    have hf : xfr 88 89 h (xSL 88 (va_up (xL h 88) (101 * i + x) (lN (wyi (sB s) (sG s) i x))) h) := xfr.SL (by omega) (by omega)
    refine l_mwF hR hg hi (show x ≤ _ by omega) hv (ih (x + 1) _ (by omega) (hR.fr hf (by omega)) (fun j q1 q2 q hq => ?_) (fun q hq => ?_) hQ) 6 0 rfl
    · rw [xL_at, va_up_of _ _ (by omega)]; exact hv j q1 q2 q hq
    · rw [xL_at]
      by_cases z : q = x
      · rw [z, va_up_eq]
      · rw [va_up_of _ _ (by omega)]; exact hz q (by omega)
theorem l_mwOut2 {h0 : XH} {s : SG} (hg : GoodS s) {Q : Option Value → XH → Prop} {X : String → XH → Prop} (hQ : ∀ h', mT h0 h' s (bT (sB s)) → Wys h' 88 (sB s) (sG s) 0 → Q none h') : ∀ (k : Nat) (h : XH), k ≤ gNn (sG s) → mT h0 h s (bT (sB s)) → Wys h 88 (sB s) (sG s) k →
    XW (xrm 2 0 0) mX11_tellWays (xE 100 Q X 0 0) 100 0 0 h 40 [some (.ref 56), some (.int (iz ((k : Int) - 1))), none, none, none, none, none] [] := by
  have hn := hg.nn
  intro k
  induction k with
  | zero =>
    intro h hk hR hv
    exact v_X11_tellWays_40 hR.1.1 _ ⟨fun _ => hQ h hR hv, fun c => absurd (by decide) c⟩
  | succ k ih =>
    intro h hk hR hv
    have e : iz (((k + 1 : Nat) : Int) - 1) = nI k := by rw [iz_nI]; congr 1; omega
    rw [e]
    exact v_X11_tellWays_40 hR.1.1 _ ⟨fun c => absurd c (nI_pos (by omega)), fun _ => l_mwIn2 hg (by omega) (bLast (sB s) + 1) 0 h (by omega) hR hv (fun q hq => by omega) (fun h' k1 k2 => ih h' (by omega) k1 k2)⟩
theorem l_mw1 {h0 : XH} {s : SG} (hg : GoodS s) {Q : Option Value → XH → Prop} {X : String → XH → Prop} (hQ : ∀ h', mT h0 h' s (bT (sB s)) → Wys h' 88 (sB s) (sG s) 0 → Q none h') : ∀ (k x : Nat) (h : XH), x + k = bLast (sB s) + 1 → mT h0 h s (bT (sB s)) → (∀ q, q < x → xL h 88 (101 * gNn (sG s) + q) = lN 1) →
    XW (xrm 2 0 0) mX11_tellWays (xE 100 Q X 0 0) 100 0 0 h 2 [some (.ref 56), some (.int (nI x)), none, none, none, none, none] [] := by
  have hl := hg.l
  have hn := hg.nn
  intro k
  induction k with
  | zero =>
    intro x h hx hR hz
    have : x = bLast (sB s) + 1 := by omega
    subst this
    refine v_X11_tellWays_2 hR.1.1 (nI _) ⟨fun _ => ?_, fun c => absurd ?_ c⟩
    · have e : nI (gNn (sG s)) - 1 = iz ((gNn (sG s) : Int) - 1) := by rw [iz_nI, iz_lit 1, iz_sub]; rfl
      rw [hR.2.1.nn, e]
      refine l_mwOut2 hg hQ (gNn (sG s)) h (Nat.le_refl _) hR (fun i h1 h2 q hq => ?_)
      have : i = gNn (sG s) := by omega
      rw [this, wyi_n]; exact hz q (by omega)
    · rw [hR.1.2.1]; exact nI_lt (by omega) (by omega)
  | succ k ih =>
    intro x h hx hR hz
    refine v_X11_tellWays_2 hR.1.1 (nI _) ⟨fun c => absurd c ?_, fun _ => ?_⟩
    · rw [hR.1.2.1]; exact nI_nlt (by omega) (by omega)
    rw [hR.2.1.nn, m67, nI_clamp (show 101 * gNn (sG s) + x < 2 ^ 31 by omega), nI_1]
    have hf : xfr 88 89 h (xSL 88 (va_up (xL h 88) (101 * gNn (sG s) + x) 1) h) := xfr.SL (by omega) (by omega)
    refine ⟨vp_in_nI (by omega) (by omega), ih (x + 1) _ (by omega) (hR.fr hf (by omega)) (fun q hq => ?_)⟩
    rw [xL_at]
    by_cases z : q = x
    · rw [z, va_up_eq]; rfl
    · rw [va_up_of _ _ (by omega)]; exact hz q (by omega)
theorem m_ways {h0 h : XH} {s : SG} (hR : mT h0 h s (bT (sB s))) (hg : GoodS s) : XSpec mX11_tellWays 2 0 0 100 100 [.ref 56] h (fun v h' => v = none ∧ mT h0 h' s (bT (sB s)) ∧ Wys h' 88 (sB s) (sG s) 0) xno :=
  XSpec.of rfl (by decide) (Nat.le_of_ble_eq_true rfl) rfl (v_X11_tellWays_0 hR.1.1 (l_mw1 hg (fun h' k1 k2 => ⟨rfl, k1, k2⟩) (bLast (sB s) + 1) 0 h (by omega) hR (fun q hq => by omega)))
theorem m_isStep {h0 h : XH} {s : SG} (hR : mT h0 h s (bT (sB s))) (hg : GoodS s) {i q f : Nat} (hi : i < gNn (sG s)) (hq : q ≤ bLast (sB s)) (f1 : 1 ≤ f) (f2 : f ≤ 6) (hv : Wys h 88 (sB s) (sG s) 0) : XSpec mX11_isStep 1 0 0 100 100 [.ref 56, .int (nI i), .int (nI q), .int (nI f)] h (xq (some (.int (bI (StB (sB s) (sG s) i q f)))) h) xno := by
  have hl := hg.l
  have hn := hg.nn
  obtain ⟨hM, g1, g4, g5, g6, g7, g8⟩ := id hR.1
  have o9 := hg.die.1 f f1 f2
  obtain ⟨t1, t2⟩ := g8 _ hq f f2
  have hval := hv (i + 1) (Nat.zero_le _) (by omega) _ t2
  have bd : wyi (sB s) (sG s) (i + 1) (bT (sB s) q f) ≤ 1000000000000000000 := wy_le _ _ _ _
  have e0 : (0 : Int64) = lN 0 := rfl
  refine XSpec.of rfl (by decide) (Nat.le_of_ble_eq_true rfl) rfl (v_X11_isStep_0 hM (nI i) (nI q) (nI f) ?_)
  rw [nI_p1 f1, nI_clamp (show f - 1 < 2 ^ 31 by omega), g7 f f1 f2, m67, nI_clamp (show 101 * f + q < 2 ^ 31 by omega), t1, nI_clamp (show i < 2 ^ 31 by omega), hR.2.1.nr i hi, nI_1, m67, nI_clamp (show 101 * (i + 1) + bT (sB s) q f < 2 ^ 31 by omega), hval, lg_cmp_le, e0, pk_lLE (by omega) (by omega)]
  unfold StB
  refine ⟨vp_in_nI (by omega) (by omega), vp_in_nI (by omega) (by omega), fun c => ⟨?_, rfl⟩, fun c => ⟨vp_in_nI (by omega) (by omega), fun c2 => ⟨vp_in_nI (by omega) (by omega), fun c3 => ⟨?_, rfl⟩, fun c3 => ⟨?_, rfl⟩⟩, fun c2 => ⟨vp_in_nI (by omega) (by omega), fun c3 => ⟨?_, rfl⟩, fun c3 => ⟨vp_in_nI (by omega) (by omega), fun c4 => ⟨?_, rfl⟩, fun c4 => ⟨?_, rfl⟩⟩⟩⟩⟩
  · have c' : ¬ 0 < bOd (sB s) f := fun z => nI_nle z (by omega) c
    rw [decide_eq_false c']; rfl
  · rw [decide_eq_false (show ¬ 0 < wyi (sB s) (sG s) (i + 1) (bT (sB s) q f) by omega), Bool.and_false]; rfl
  · have c' : 0 < bOd (sB s) f := Nat.pos_of_ne_zero (fun z => c (by rw [z]; decide))
    rw [decide_eq_true c', show okB (sG s) i (bT (sB s) q f) = true from decide_eq_true (Or.inl c2), decide_eq_true (show 0 < wyi (sB s) (sG s) (i + 1) (bT (sB s) q f) by omega)]; rfl
  · rw [okB_n c2 c3, Bool.and_false]; rfl
  · rw [decide_eq_false (show ¬ 0 < wyi (sB s) (sG s) (i + 1) (bT (sB s) q f) by omega), Bool.and_false]; rfl
  · have c' : 0 < bOd (sB s) f := Nat.pos_of_ne_zero (fun z => c (by rw [z]; decide))
    rw [decide_eq_true c', show okB (sG s) i (bT (sB s) q f) = true from decide_eq_true (Or.inr c3), decide_eq_true (show 0 < wyi (sB s) (sG s) (i + 1) (bT (sB s) q f) by omega)]; rfl
theorem MI.r79 {h : XH} {s : SG} (hM : MI h s) (w : Int32) (R : Nat → Int32) (h1 : XH) (he : h1 = xSI 79 R h) : (sKl s = w → MI h1 (sRow s w R)) ∧ MI (xSI 56 (va_up (xI h1 56) 38 w) h1) (sRow s w R) := by
  subst he
  obtain ⟨m1, ⟨m2, m2'⟩, m3, m4, ⟨m5, m6⟩, ⟨m7, m7'⟩, m8, m9, m10⟩ := hM
  have e : ∀ c, c ≠ 79 → xI (xSI 79 R h) c = xI h c := fun c q1 => xI_ne q1
  constructor
  · intro hw
    refine ⟨m1, ⟨m2, m2'⟩, m3.of (h := h) rfl (fun c q1 q2 => e c (by omega)), m4.of (h := h) rfl rfl rfl (e _ (by decide)) (fun k hk => e _ (by omega)) (e _ (by decide)) (e _ (by decide)) (e _ (by decide)), ⟨m5, fun z => (m6 z).of (h := h) rfl rfl rfl (e _ (by decide)) (fun k hk => e _ (by omega)) (e _ (by decide)) (e _ (by decide)) (e _ (by decide))⟩, ⟨m7.trans hw, fun i _ => by rw [xI_at]; rfl⟩, m8, m9, m10⟩
  · have f : ∀ c, c ≠ 56 → c ≠ 79 → xI (xSI 56 (va_up (xI (xSI 79 R h) 56) 38 w) (xSI 79 R h)) c = xI h c := fun c q1 q2 => (xI_ne q1).trans (xI_ne q2)
    have g : ∀ j, j ≠ 38 → xI (xSI 56 (va_up (xI (xSI 79 R h) 56) 38 w) (xSI 79 R h)) 56 j = xI h 56 j := fun j hj => by rw [xI_at, va_up_of _ _ hj]; rfl
    refine ⟨m1, ⟨m2, m2'⟩, m3.of (h := h) rfl (fun c q1 q2 => f c (by omega) (by omega)), m4.of (h := h) (g _ (by decide)) (g _ (by decide)) (g _ (by decide)) (f _ (by decide) (by decide)) (fun k hk => f _ (by omega) (by omega)) (f _ (by decide) (by decide)) (f _ (by decide) (by decide)) (f _ (by decide) (by decide)), ⟨(g 50 (by decide)).trans m5, fun z => (m6 z).of (h := h) (g _ (by decide)) (g _ (by decide)) (g _ (by decide)) (f _ (by decide) (by decide)) (fun k hk => f _ (by omega) (by omega)) (f _ (by decide) (by decide)) (f _ (by decide) (by decide)) (f _ (by decide) (by decide))⟩, ⟨by rw [xI_at]; exact va_up_eq _ _ _, fun i _ => by rw [xI_ne (by decide), xI_at]; rfl⟩, (g 11 (by decide)).trans m8, (g 20 (by decide)).trans m9, fun i hi => by rw [f 66 (by decide) (by decide)]; exact m10 i hi⟩
theorem mT.r79 {h0 h : XH} {s : SG} (hR : mT h0 h s (bT (sB s))) (R : Nat → Int32) : mT h0 (xSI 79 R h) (sRow s (sKl s) R) (bT (sB s)) := by
  have hf : xfr 79 80 h (xSI 79 R h) := xfr.SI (by omega) (by omega)
  exact ⟨hR.1.fr hf (by omega), (hR.2.1.r79 _ R _ rfl).1 rfl, hR.2.2.1.trans (mch.fr hf (by omega)), by rw [xI_ne (by decide)]; exact hR.2.2.2⟩
theorem l_mff {h0 h : XH} {s : SG} (hR : mT h0 h s (bT (sB s))) (hg : GoodS s) {i q : Nat} (hi : i < gNn (sG s)) (hq : q ≤ bLast (sB s)) (hv : Wys h 88 (sB s) (sG s) 0) (hp : 0 < wyi (sB s) (sG s) i q) {w : Int64} {Q : Option Value → XH → Prop} {X : String → XH → Prop} (hQ : ∀ f, FitF (sB s) (sG s) i q f → XW (xrm 6 0 0) mX11_fits (xE 100 Q X 0 0) 100 0 0 (xSI 79 (va_up (xI h 79) i (nI f)) h) 33 [some (.ref 56), some (.long w), none, some (.int (nI (bT (sB s) q f))), some (.int (nI (i + 1))), none] []) : ∀ (k f : Nat), f + k = 7 → 1 ≤ f → (∀ e, 1 ≤ e → e < f → StB (sB s) (sG s) i q e = false) →
    XW (xrm 6 0 0) mX11_fits (xE 100 Q X 0 0) 100 0 0 h 45 [some (.ref 56), some (.long w), none, some (.int (nI q)), some (.int (nI i)), some (.int (nI f))] [] := by
  have hl := hg.l
  have hn := hg.nn
  obtain ⟨hM, g1, g4, g5, g6, g7, g8⟩ := id hR.1
  intro k
  induction k with
  | zero =>
    intro f hf f1 hno
    obtain ⟨e, e1, e2, e3⟩ := fit_ex hi hp
    rw [hno e e1 (by omega)] at e3
    exact absurd e3 (by decide)
  | succ k ih =>
    intro f hf f1 hno
    obtain ⟨t1, t2⟩ := g8 _ hq f (by omega)
    refine v_X11_fits_45 hM _ _ _ (nI f) ⟨_, m_isStep hR hg hi hq f1 (by omega) hv, ?_⟩
    rintro v h1 ⟨rfl, e1⟩
    subst e1
    refine ⟨_, rfl, fun c => ?_, fun c => ?_⟩
    · rw [m67, nI_clamp (show 101 * f + q < 2 ^ 31 by omega), t1, nI_clamp (show i < 2 ^ 31 by omega), nI_1]
      exact ⟨mp_row hM, vp_in_nI (by omega) (by omega), mp_to hM, vp_in_nI (by omega) (by omega), hQ f ⟨f1, by omega, bI_n0.1 c, hno⟩⟩
    · rw [nI_1]
      refine ih (f + 1) (by omega) (by omega) (fun e e1 e2 => ?_)
      by_cases y : e = f
      · rw [y]; exact bI_0.1 c
      · exact hno e e1 (by omega)
theorem l_mfo {h0 h : XH} {s : SG} (hR : mT h0 h s (bT (sB s))) (hg : GoodS s) (hv : Wys h 88 (sB s) (sG s) 0) {w : Int64} {Q : Option Value → XH → Prop} {X : String → XH → Prop} : ∀ (c i q : Nat) (R0 : Nat → Int32), i + c = gNn (sG s) → q ≤ bLast (sB s) → (i < gNn (sG s) → 0 < wyi (sB s) (sG s) i q) →
    (∀ R : Nat → Int32, (∀ j, j < i → R j = R0 j) → FitK (sB s) (sG s) c i q R → Q (some (.long w)) (xSI 56 (va_up (xI (xSI 79 R h) 56) 38 (nI (gNn (sG s)))) (xSI 79 R h))) →
    XW (xrm 6 0 0) mX11_fits (xE 100 Q X 0 0) 100 0 0 (xSI 79 R0 h) 33 [some (.ref 56), some (.long w), none, some (.int (nI q)), some (.int (nI i)), none] [] := by
  have hl := hg.l
  have hn := hg.nn
  intro c
  induction c with
  | zero =>
    intro i q R0 hi hq hp hQ
    have : i = gNn (sG s) := by omega
    subst this
    have e : xI (xSI 79 R0 h) 56 46 = nI (gNn (sG s)) := by rw [xI_ne (by decide)]; exact hR.2.1.nn
    refine v_X11_fits_33 (hR.r79 R0).1.1 _ _ (nI _) ⟨fun _ => ?_, fun c => absurd ?_ c⟩
    · rw [e]; exact hQ R0 (fun _ _ => rfl) True.intro
    · rw [e]; exact nI_le (Nat.le_refl _) (by omega)
  | succ c ih =>
    intro i q R0 hi hq hp hQ
    have e : xI (xSI 79 R0 h) 56 46 = nI (gNn (sG s)) := by rw [xI_ne (by decide)]; exact hR.2.1.nn
    refine v_X11_fits_33 (hR.r79 R0).1.1 _ _ (nI _) ⟨fun c => absurd c ?_, fun _ => ?_⟩
    · rw [e]; exact nI_ge (by omega) (by omega)
    refine l_mff (s := sRow s (sKl s) R0) (hR.r79 R0) hg (show i < gNn (sG s) by omega) hq hv (hp (by omega)) (fun f hF => ?_) 6 1 rfl (Nat.le_refl _) (fun e e1 e2 => by omega)
    rw [xSI_SI, xI_at]
    refine ih (i + 1) _ (va_up R0 i (nI f)) (by omega) (hg.tl q hq f hF.2.1) (fun _ => fit_pos hF) (fun R k1 k2 => hQ R (fun j hj => ?_) ⟨f, hF, ?_, k2⟩)
    · rw [k1 j (by omega), va_up_of _ _ (by omega)]
    · rw [k1 i (by omega), va_up_eq]
theorem s_X11_fits {h : XH} {s : SG} (hM : MI h s) (hg : GoodS s) : XSpec mX11_fits 6 0 0 100 100 [.ref 56] h (fun v h' => v = some (.long (lN (wyi (sB s) (sG s) 0 0))) ∧ ∃ R, (0 < wyi (sB s) (sG s) 0 0 → FitK (sB s) (sG s) (gNn (sG s)) 0 0 R) ∧ MI h' (sFit s R) ∧ mch h h') xno := by
  refine XSpec.of rfl (by decide) (Nat.le_of_ble_eq_true rfl) rfl (v_X11_fits_0 hM.1 ⟨_, m_tellT hg (m3.code hM), ?_⟩)
  rintro v h1 ⟨rfl, hR⟩
  refine ⟨rfl, _, m_ways hR hg, ?_⟩
  rintro v h2 ⟨rfl, hR2, hv⟩
  have bd : wyi (sB s) (sG s) 0 0 ≤ 1000000000000000000 := wy_le _ _ _ _
  have e0 : (0 : Int64) = lN 0 := rfl
  have e1 : xL h2 88 0 = lN (wyi (sB s) (sG s) 0 0) := hv 0 (Nat.le_refl _) (Nat.zero_le _) 0 (Nat.zero_le _)
  refine ⟨rfl, mp_waysOn hR2.1.1, ?_⟩
  rw [e1, lg_cmp_eq, e0, pk_lEQ (by omega) (by omega)]
  refine ⟨fun c => ?_, fun c => ⟨by rw [c], fun _ => 0, fun z => by omega, ?_, hR2.2.2.1⟩⟩
  · have := l_mfo hR2 hg hv (w := lN (wyi (sB s) (sG s) 0 0)) (Q := fun v h' => v = some (.long (lN (wyi (sB s) (sG s) 0 0))) ∧ ∃ R, (0 < wyi (sB s) (sG s) 0 0 → FitK (sB s) (sG s) (gNn (sG s)) 0 0 R) ∧ MI h' (sFit s R) ∧ mch h h') (X := xno) (gNn (sG s)) 0 0 (xI h2 79) (by omega) (Nat.zero_le _) (fun _ => by omega) (fun R _ k2 => ⟨rfl, R, fun _ => k2, ?_, ?_⟩)
    · rw [xSI_self] at this
      exact this
    · unfold sFit
      rw [if_neg c]
      exact (hR2.2.1.r79 _ R _ rfl).2
    · exact hR2.2.2.1.trans (fun c hc => ⟨(xI_ne (by omega)).trans (xI_ne (by omega)), Eq.refl _⟩)
  · unfold sFit; rw [if_pos c]; exact hR2.2.1
