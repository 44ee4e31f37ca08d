/-! THE REFERENCE: the table of a board -/
def CodeM (h : XH) (C : Nat → Int32) (len : Nat) : Prop := CodeOK C len ∧ ((xI h 59 6 = nI 0 ∧ len = 1 ∧ C 0 = -1) ∨ (xI h 59 6 = nI len ∧ ∀ k, k < len → xI h 63 k = trc (C k)))
theorem CodeM.fr {S : Nat → Prop} {h h' : XH} {C : Nat → Int32} {len : Nat} (hf : xfs S h h') (h1 : ¬ S 59) (h2 : ¬ S 63) (hc : CodeM h C len) : CodeM h' C len := by
  unfold CodeM
  rw [(hf 59 h1).1, (hf 63 h2).1]
  exact hc
theorem xMod.fs {S : Nat → Prop} {h h' : XH} (hf : xfs S h h') (h0 : ¬ S 56) (hM : xMod (xP h)) : xMod (xP h') := fun q hq => by rw [(hf 56 h0).2.2]; exact hM q hq
theorem farC_untold {C : Nat → Int32} {g : Nat} {aq lq ab : Int32} (hC : C 0 = -1) (hg : g ≤ 6) : farC C 1 (nI g) aq lq ab = nI g := by
  have e : evk (fun c => opval c (nI g) aq lq ab) C 1 0 = nI g := by
    show (if -5 < C 0 then va_up (fun _ => 0) 0 (opval (C 0) (nI g) aq lq ab) else _) 0 = _
    rw [if_pos (by rw [hC]; decide), va_up_eq, hC]; rfl
  unfold farC
  rw [e]
  rcases (show g = 0 ∨ g = 1 ∨ g = 2 ∨ g = 3 ∨ g = 4 ∨ g = 5 ∨ g = 6 by omega) with rfl | rfl | rfl | rfl | rfl | rfl | rfl <;> decide
theorem l_mjab (J : Nat → Nat) (last s : Nat) (hl : last ≤ 100) (hJ : ∀ j, j ≤ last → J j ≤ last) (hJl : J last = 0) (hs : s < last) {Q : Option Value → XH → Prop} {X : String → XH → Prop} : ∀ (k x : Nat) (h : XH), x + k = last → s + 1 ≤ x → xMod (xP h) → xI h 59 0 = nI last → (∀ j, j ≤ last → xI h 68 j = nI (J j)) → xI h 70 3 = nI (sN (fun j => if J j = 0 then 0 else 1) (s + 1) (x - (s + 1))) →
    (∀ A : Nat → Int32, (∀ j, j < 3 → A j = xI h 70 j) → A 3 = nI (jab J last s) → XW (xrm 2 0 0) mX11_farBy (xE 100 Q X 0 0) 100 0 0 (xSI 70 A h) 93 [some (.ref 56), none, none, some (.int 0), some (.int 0), none] []) →
    XW (xrm 2 0 0) mX11_farBy (xE 100 Q X 0 0) 100 0 0 h 49 [some (.ref 56), none, none, some (.int (nI x)), none, none] [] := by
  intro k
  induction k with
  | zero =>
    intro x h hx hsx hM h1 h2 h3 hQ
    have : x = last := by omega
    subst this
    refine v_X11_farBy_49 hM (nI x) ⟨fun _ => ?_, fun c => absurd (by rw [h1]; exact nI_le (Nat.le_refl _) (by omega)) c⟩
    have := hQ (xI h 70) (fun _ _ => rfl) (by
      rw [h3]; unfold jab
      rw [show x - s = (x - (s + 1)) + 1 by omega, sN_last, show s + 1 + (x - (s + 1)) = x by omega, if_pos hJl]; rfl)
    rwa [xSI_self] at this
  | succ k ih =>
    intro x h hx hsx hM h1 h2 h3 hQ
    have hb := hJ x (by omega)
    have step : ∀ w : Int32, w = nI (if J x = 0 then 0 else 1) → XW (xrm 2 0 0) mX11_farBy (xE 100 Q X 0 0) 100 0 0 (xSI 70 (va_up (xI h 70) 3 (xI h 70 3 + w)) h) 49 [some (.ref 56), none, none, some (.int (nI x + 1)), none, none] [] := by
      intro w hw
      rw [nI_1]
      refine ih (x + 1) _ (by omega) (by omega) hM h1 h2 ?_ (fun A g1 g2 => ?_)
      · rw [xI_at, va_up_eq, h3, hw, nI_add]
        congr 1
        rw [show x + 1 - (s + 1) = (x - (s + 1)) + 1 by omega, sN_last, show s + 1 + (x - (s + 1)) = x by omega]
      · rw [xSI_SI]
        exact hQ A (fun j hj => by rw [g1 j hj, xI_at, va_up_of _ _ (by omega)]) g2
    refine v_X11_farBy_49 hM (nI x) ⟨fun c => absurd c (by rw [h1]; exact nI_ge (by omega) (by omega)), fun _ => ⟨vp_in_nI (by omega) (by omega), ?_⟩⟩
    rw [nI_clamp (by omega), h2 x (by omega)]
    refine ⟨fun c => step 1 ?_, fun c => step 0 ?_⟩
    · rw [if_neg (fun z => c (by rw [z]; rfl))]; rfl
    · rw [if_pos ((nI_eq (a := J x) (b := 0) (by omega) (by omega)).1 c)]; rfl
theorem s_X11_farBy (h : XH) (hM : xMod (xP h)) (C : Nat → Int32) (len last : Nat) (J : Nat → Nat) (hl : last ≤ 100) (hc : CodeM h C len) (h1 : xI h 59 0 = nI last) (hJ : ∀ j, j ≤ last → xI h 68 j = nI (J j) ∧ J j ≤ last) (hJl : J last = 0) (s g : Nat) (hs : s < last) (hg : g ≤ 6) :
    XSpec mX11_farBy 2 0 0 100 100 [.ref 56, .int (nI g), .int (nI s)] h (fun v h' => v = some (.int (farAt C len last J s g)) ∧ xfr 69 71 h h') xno := by
  obtain ⟨hco, hcm⟩ := hc
  refine XSpec.of rfl (by decide) (Nat.le_of_ble_eq_true rfl) rfl (v_X11_farBy_0 hM (nI g) (nI s) ⟨fun c0 => ?_, fun c0 => ?_⟩)
  · rcases hcm with ⟨e, -, -⟩ | ⟨e6, e63⟩
    · exact absurd e c0
    · rw [xSI_SI, xSI_SI, xSI_SI, nI_1]
      refine l_mjab J last s hl (fun j hj => (hJ j hj).2) hJl hs (last - (s + 1)) (s + 1) _ (by omega) (Nat.le_refl _) hM h1 (fun j hj => (hJ j hj).1) (by rw [Nat.sub_self]; rfl) (fun A g1 g2 => ?_)
      rw [xSI_SI]
      refine l_mvalue (nI g) (nI s) (nI last) (nI (jab J last s)) C len hco len 0 _ (by omega) hM e6 e63 ⟨?_, ?_, ?_, ?_⟩ (fun j hj => absurd hj (Nat.not_lt_zero _)) (fun S => ⟨rfl, ?_⟩)
      · rw [xI_at, g1 0 (by omega)]; rfl
      · rw [xI_at, g1 1 (by omega)]; rfl
      · rw [xI_at, g1 2 (by omega), xI_at]; exact h1
      · rw [xI_at]; exact g2
      · exact xfr.trans (xfr.SI (by omega) (by omega)) (xfr.SI (by omega) (by omega))
  · rcases hcm with ⟨-, e1, e2⟩ | ⟨e6, -⟩
    · refine ⟨?_, xfr.rfl⟩
      subst e1
      unfold farAt
      rw [farC_untold e2 hg]
    · rw [e6] at c0
      have : len = 0 := (nI_eq (a := len) (b := 0) (by have := hco.1; omega) (by omega)).1 c0
      subst this
      exact absurd hco.2.1 Nat.zero_ne_one
theorem s_X11_leads (h : XH) (hM : xMod (xP h)) (C : Nat → Int32) (len last E : Nat) (J : Nat → Nat) (hl : last ≤ 100) (hE : E ≤ 2) (hc : CodeM h C len) (h1 : xI h 59 0 = nI last) (hJ : ∀ j, j ≤ last → xI h 68 j = nI (J j) ∧ J j ≤ last) (hJl : J last = 0) (s g : Nat) (hs : s ≤ last) (hg : g ≤ 6) :
    XSpec mX11_leads 3 0 0 100 100 [.ref 56, .int (nI g), .int (nI s), .int (nI E)] h (fun v h' => v = some (.int (nI (goTo J last E (farAt C len last J) s g))) ∧ xfr 69 71 h h') xno := by
  refine XSpec.of rfl (by decide) (Nat.le_of_ble_eq_true rfl) rfl (v_X11_leads_0 hM (nI g) (nI s) (nI E) ⟨fun c => ?_, fun c => ?_⟩)
  · rw [h1] at c
    have cs : ¬ s = last := fun z => c (by rw [z])
    refine ⟨_, s_X11_farBy h hM C len last J hl hc h1 hJ hJl s g (by omega) hg, ?_⟩
    rintro v h2 ⟨rfl, hfr⟩
    have hM2 := hM.fr hfr (by omega)
    refine ⟨_, rfl, mp_told hM2, ?_⟩
    rw [xfr1 hfr (c := 59) (by omega), xfr1 hfr (c := 68) (by omega), h1]
    have hb := farAt_b C len last J s g
    rw [goTo, if_neg cs]
    generalize farAt C len last J s g = far at hb ⊢
    have ef : nI s + far = iz ((s : Int) + far.toInt) := by
      rw [iz_nI]
      conv => lhs; rw [iz_of far]
      rw [iz_add]
    rw [ef]
    generalize et : (s : Int) + far.toInt = t
    have hmx : ∀ z : Int, -1000 ≤ z → z ≤ 1000 → (if 0 < iz z then iz z else 0) = nI z.toNat := fun z a b => max0 (by omega) (by omega)
    have key : ∀ q, q ≤ last → ∀ w, w = hdOf J q → (xP h2 56 22 = some 68) ∧ vp_in (nI q) 101 ∧ (¬ xI h 68 (nI q).toNatClampNeg = 0 → (xP h2 56 22 = some 68) ∧ vp_in (nI q) 101 ∧ (some (Value.int (xI h 68 (nI q).toNatClampNeg)) = some (.int (nI w)) ∧ xfr 69 71 h h2)) ∧ (xI h 68 (nI q).toNatClampNeg = 0 → (some (Value.int (nI q)) = some (.int (nI w)) ∧ xfr 69 71 h h2)) := by
      intro q hq w hw
      obtain ⟨j1, j2⟩ := hJ q hq
      have hv : vp_in (nI q) 101 := vp_in_nI (by omega) (by omega)
      rw [nI_clamp (by omega), j1, hw]
      unfold hdOf
      refine ⟨mp_jump hM2, hv, fun c => ⟨mp_jump hM2, hv, ?_, hfr⟩, fun c => ⟨?_, hfr⟩⟩
      · rw [if_neg (fun z => c (by rw [z]; rfl))]
      · rw [if_pos ((nI_eq (a := J q) (b := 0) (by omega) (by omega)).1 c)]
    have ele : iz t ≤ nI last ↔ t ≤ last := by rw [iz_nI]; exact iz_le (by omega) (by omega) (by omega) (by omega)
    unfold land
    rw [et]
    refine ⟨fun c1 => ?_, fun c1 => ?_⟩
    · have ct : t.toNat ≤ last := by have := ele.1 c1; omega
      rw [if_pos ct, hmx t (by omega) (by omega)]
      exact key _ ct _ rfl
    · have ct : ¬ t.toNat ≤ last := fun z => c1 (ele.2 (by omega))
      rw [if_neg ct]
      refine ⟨fun c0 => ?_, fun c0 => ?_⟩
      · have d0 : ¬ E = 0 := fun z => c0 (by rw [z]; rfl)
        rw [if_neg d0]
        refine ⟨fun c2 => ?_, fun c2 => ?_⟩
        · have d1 : E = 1 := by
            have : ¬ E = 2 := fun z => c2 (by rw [z]; rfl)
            omega
          rw [if_pos d1]
          have e2 : (2 : Int32) * nI last - iz t = iz (2 * last - t) := by
            rw [show (2 : Int32) = nI 2 from rfl, pk_mul, iz_nI, iz_sub]; congr 1
          rw [e2, hmx _ (by omega) (by omega), show ((2 : Int) * last - t).toNat = 2 * last - t.toNat by omega]
          exact ⟨mp_told hM2, key (2 * last - t.toNat) (by omega) _ rfl⟩
        · have d2 : E = 2 := (nI_eq (a := E) (b := 2) (by omega) (by omega)).1 c2
          rw [if_neg (show ¬ E = 1 by omega)]
          have := hmx last (by omega) (by omega)
          rw [← iz_nI] at this
          rw [this, Int.toNat_natCast]
          exact ⟨mp_told hM2, key last (Nat.le_refl _) _ rfl⟩
      · have d0 : E = 0 := (nI_eq (a := E) (b := 0) (by omega) (by omega)).1 c0
        rw [if_pos d0]
        exact ⟨rfl, hfr⟩
  · rw [h1] at c
    have cs : s = last := (nI_eq (by omega) (by omega)).1 c
    rw [goTo, if_pos cs, cs]
    exact ⟨rfl, xfr.rfl⟩
theorem l_mjump0 (wo of oh : Int32) (E : Nat) {Q : Option Value → XH → Prop} {X : String → XH → Prop} : ∀ (k x : Nat) (h : XH), x + k = 101 → xMod (xP h) →
    (∀ F : Nat → Int32, (∀ j, j < 101 → F j = if x ≤ j then 0 else xI h 68 j) → XW (xrm 4 0 0) mX11_tellTable (xE 100 Q X 0 0) 100 0 0 (xSI 68 F h) 27 [some (.ref 56), some (.int wo), some (.int of), some (.int oh), some (.int (nI E)), some (.int 0), none] []) →
    XW (xrm 4 0 0) mX11_tellTable (xE 100 Q X 0 0) 100 0 0 h 3 [some (.ref 56), some (.int wo), some (.int of), some (.int oh), some (.int (nI E)), some (.int (nI x)), none] [] := by
  intro k
  induction k with
  | zero =>
    intro x h hx hM hQ
    have : x = 101 := by omega
    subst this
    refine v_X11_tellTable_3 hM wo of oh (nI E) (nI 101) ⟨fun _ => ?_, fun c => absurd (show (101 : Int32) ≤ nI 101 by decide) c⟩
    have := hQ (xI h 68) (fun j hj => by rw [if_neg (by omega)])
    rwa [xSI_self] at this
  | succ k ih =>
    intro x h hx hM hQ
    refine v_X11_tellTable_3 hM wo of oh (nI E) (nI x) ⟨fun c => absurd c (nI_ge (a := x) (b := 101) (by omega) (by omega)), fun _ => ⟨vp_in_nI (by omega) (by omega), ?_⟩⟩
    rw [nI_clamp (by omega), nI_1]
    refine ih (x + 1) _ (by omega) hM (fun F hF => ?_)
    rw [xSI_SI]
    refine hQ F (fun j hj => ?_)
    rw [hF j hj, xI_at]
    unfold va_up
    by_cases c : j = x
    · rw [if_neg (by omega), if_pos c, if_pos (by omega)]
    · by_cases c2 : x + 1 ≤ j
      · rw [if_pos c2, if_pos (by omega)]
      · rw [if_neg c2, if_neg c, if_neg (by omega)]
/-- the exits without one of them -/
def jmpw (wo : Int32) (ft hd : Nat → Nat) : Nat → Nat → Nat
  | 0 => fun _ => 0
  | k + 1 => if nI k = wo then jmpw wo ft hd k else va_up (jmpw wo ft hd k) (ft k) (hd k)
theorem jmpw_none (ft hd : Nat → Nat) (k : Nat) (hk : k ≤ 48) : jmpw (-1) ft hd k = jmps ft hd k := by
  induction k with
  | zero => rfl
  | succ k ih =>
    have : ¬ nI k = -1 := fun z => by
      have := nI_pos (n := k) (by omega)
      rw [z] at this
      exact this (by decide)
    rw [jmpw, if_neg this, ih (by omega)]; rfl
theorem l_mfeet (wo of oh : Int32) (E : Nat) (ft hd : Nat → Nat) (kx : Nat) (hk : kx ≤ 48) (hft : ∀ i, i < kx → ft i ≤ 100) {Q : Option Value → XH → Prop} {X : String → XH → Prop} : ∀ (k x : Nat) (h : XH), x + k = kx → xMod (xP h) → xI h 59 1 = nI kx → (∀ i, i < kx → xI h 61 i = nI (ft i) ∧ xI h 62 i = nI (hd i)) → (∀ j, j < 101 → xI h 68 j = nI (jmpw wo ft hd x j)) →
    (∀ F : Nat → Int32, (∀ j, j < 101 → F j = nI (jmpw wo ft hd kx j)) → XW (xrm 4 0 0) mX11_tellTable (xE 100 Q X 0 0) 100 0 0 (xSI 68 F h) 27 [some (.ref 56), some (.int wo), some (.int of), some (.int oh), some (.int (nI E)), some (.int (nI kx)), none] []) →
    XW (xrm 4 0 0) mX11_tellTable (xE 100 Q X 0 0) 100 0 0 h 27 [some (.ref 56), some (.int wo), some (.int of), some (.int oh), some (.int (nI E)), some (.int (nI x)), none] [] := by
  intro k
  induction k with
  | zero =>
    intro x h hx hM hkx hfh hJ hQ
    have : x = kx := by omega
    subst this
    have := hQ _ hJ
    rwa [xSI_self] at this
  | succ k ih =>
    intro x h hx hM hkx hfh hJ hQ
    obtain ⟨g1, g2⟩ := hfh x (by omega)
    have f0 := hft x (by omega)
    refine v_X11_tellTable_27 hM wo of oh (nI E) (nI x) ⟨fun c => absurd c (by rw [hkx]; exact nI_ge (by omega) (by omega)), fun _ => ⟨fun c => ?_, fun c => ⟨vp_in_nI (by omega) (by omega), vp_in_nI (by omega) (by omega), ?_⟩⟩⟩
    · rw [nI_1]
      exact ih (x + 1) h (by omega) hM hkx hfh (fun j hj => by rw [jmpw, if_pos c]; exact hJ j hj) hQ
    · rw [nI_clamp (by omega), g1, g2, nI_clamp (by omega), nI_1]
      refine ⟨vp_in_nI (by omega) (by omega), ih (x + 1) _ (by omega) hM hkx hfh (fun j hj => ?_) (fun F hF => ?_)⟩
      · rw [xI_at, jmpw, if_neg c]
        unfold va_up
        split
        · rfl
        · exact hJ j hj
      · rw [xSI_SI]; exact hQ F hF
