/-! FEED: the reference -/
theorem MI.tape {h h' : XH} {s : SG} (hM : MI h s) (t : Nat × (Nat → Nat) × Int32) (hI : ∀ c, c ≠ 56 → c ≠ 66 → xI h' c = xI h c) (hJ : ∀ j, j ≠ 2 → j ≠ 11 → j ≠ 20 → xI h' 56 j = xI h 56 j) (hP : xP h' = xP h) (h1 : xI h' 56 11 = nI t.1) (h2 : xI h' 56 20 = t.2.2) (h3 : ∀ i, i < t.1 → xI h' 66 i = nI (t.2.1 i)) : MI h' (s.1, s.2.1, s.2.2.1, s.2.2.2.1, t) := by
  obtain ⟨M1, M2, M3, M4, ⟨M5, M6⟩, ⟨M7, M8⟩, M9, M10, M11⟩ := hM
  refine ⟨by rw [hP]; exact M1, by rw [hP]; exact M2, M3.of (by rw [hP]) (fun c q1 q2 => hI c (by omega) (by omega)), M4.of (hJ _ (by omega) (by omega) (by omega)) (hJ _ (by omega) (by omega) (by omega)) (hJ _ (by omega) (by omega) (by omega)) (hI _ (by omega) (by omega)) (fun k hk => hI _ (by omega) (by omega)) (hI _ (by omega) (by omega)) (hI _ (by omega) (by omega)) (hI _ (by omega) (by omega)), ⟨by rw [hJ 50 (by omega) (by omega) (by omega)]; exact M5, fun z => (M6 z).of (hJ _ (by omega) (by omega) (by omega)) (hJ _ (by omega) (by omega) (by omega)) (hJ _ (by omega) (by omega) (by omega)) (hI _ (by omega) (by omega)) (fun k hk => hI _ (by omega) (by omega)) (hI _ (by omega) (by omega)) (hI _ (by omega) (by omega)) (hI _ (by omega) (by omega))⟩, ⟨by rw [hJ 38 (by omega) (by omega) (by omega)]; exact M7, by rw [hI 79 (by omega) (by omega)]; exact M8⟩, h1, h2, h3⟩
theorem l_mfeed {h0 : XH} {s : SG} (a1 a2 a3 a4 a5 : Int32) (hl : sTl s ≤ 480) {Q : Option Value → XH → Prop} {X : String → XH → Prop} (hQ : ∀ h', MI h' (sTap s (w5 a1 a2 a3 a4 a5) 20) → xI h' 56 2 = 0 → mch h0 h' → Q (some (.int (xI h' 56 11))) h') : ∀ (c k : Nat) (h : XH), k + c = 20 → MI h (sTap s (w5 a1 a2 a3 a4 a5) k) → xI h 56 2 = 0 → mch h0 h →
    XW (xrm 1 0 0) mX11_feed (xE 100 Q X 0 0) 100 0 0 h 23 [some (.ref 56), some (.int a1), some (.int a2), some (.int a3), some (.int a4), some (.int a5), some (.int (nI k)), none] [] := by
  intro c
  induction c with
  | zero =>
    intro k h hk hM e0 hm
    have : k = 20 := by omega
    subst this
    exact v_X11_feed_23 hM.1 a1 a2 a3 a4 a5 (nI 20) ⟨fun _ => hQ h hM e0 hm, fun c => absurd (by decide) c⟩
  | succ c ih =>
    intro k h hk hM e0 hm
    have t1 : xI h 56 11 = nI (sTl s + k) := hM.2.2.2.2.2.2.1
    have t3 := hM.2.2.2.2.2.2.2.2
    have e4 : (4 : Int32) = nI 4 := rfl
    have e8 : (8 : Int32) = nI 8 := rfl
    have e24 : (24 : Int32) = nI 24 := rfl
    have ek : (24 - (8 * (nI k - nI k / 4 * 4)) : Int32) = nI (24 - 8 * (k % 4)) := by
      rw [e4, pk_div (by omega) (by omega) (by omega), pk_mul, pk_sub (Nat.div_mul_le_self k 4), e8, pk_mul, e24]
      have : k - k / 4 * 4 = k % 4 := by omega
      rw [this, pk_sub (by omega)]
    have eb : ∀ w : Int32, (w >>> (nI (24 - 8 * (k % 4)) &&& 31)) &&& 255 = nI (fb w (k % 4)) := fun w => by
      have hk4 : k % 4 < 4 := Nat.mod_lt _ (by omega)
      refine fb_a w (k % 4) hk4 ?_
      rcases (show k % 4 = 0 ∨ k % 4 = 1 ∨ k % 4 = 2 ∨ k % 4 = 3 by omega) with z | z | z | z <;> rw [z] <;> decide
    have fin : ∀ w : Int32, w = w5 a1 a2 a3 a4 a5 (k / 4) → (vp_in (xI h 56 11) 500) ∧ XW (xrm 1 0 0) mX11_feed (xE 100 Q X 0 0) 100 0 0 (xSI 56 (va_up (xI h 56) 11 ((xI h 56 11) + 1)) (xSI 66 (va_up (xI h 66) (xI h 56 11).toNatClampNeg ((w >>> (nI (24 - 8 * (k % 4)) &&& 31)) &&& 255)) h)) 23 [some (.ref 56), some (.int a1), some (.int a2), some (.int a3), some (.int a4), some (.int a5), some (.int (nI k + 1)), none] [] := by
      intro w hw
      rw [eb w, t1, nI_clamp (by omega), nI_1, nI_1]
      refine ⟨vp_in_nI (by omega) (by omega), ih (k + 1) _ (by omega) ?_ ?_ ?_⟩
      · refine hM.tape (sTl s + (k + 1), tpK (sTl s) (sTp s) (w5 a1 a2 a3 a4 a5) (k + 1), sFp s) (fun c q1 q2 => by rw [xI_ne q1, xI_ne q2]) (fun j q1 q2 q3 => by rw [xI_at, va_up_of _ _ q2]) rfl ?_ ?_ (fun i hi => ?_)
        · rw [xI_at, va_up_eq]; rfl
        · rw [xI_at, va_up_of _ _ (by decide)]; exact hM.2.2.2.2.2.2.2.1
        · rw [xI_ne (by decide), xI_at]
          show _ = nI (va_up (tpK (sTl s) (sTp s) _ k) (sTl s + k) _ i)
          have hi' : i < sTl s + (k + 1) := hi
          by_cases z : i = sTl s + k
          · rw [z, va_up_eq, va_up_eq, hw]
          · rw [va_up_of _ _ z, va_up_of _ _ z]
            exact t3 i (show i < sTl s + k by omega)
      · rw [xI_at, va_up_of _ _ (by decide)]; exact e0
      · exact hm.trans (fun c hc => ⟨by rw [xI_ne (by omega), xI_ne (by omega)], rfl⟩)
    have c4 := nI_leI (a := 4) (b := k) (by omega) (by omega)
    have c8 := nI_leI (a := 8) (b := k) (by omega) (by omega)
    have c12 := nI_leI (a := 12) (b := k) (by omega) (by omega)
    have c16 := nI_leI (a := 16) (b := k) (by omega) (by omega)
    refine v_X11_feed_23 hM.1 a1 a2 a3 a4 a5 (nI k) ⟨fun c => absurd c (nI_ge (b := 20) (by omega) (by omega)), fun _ => ?_⟩
    rw [ek]
    refine ⟨fun q4 => ⟨fun q8 => ⟨fun q12 => ⟨fun q16 => fin a5 ?_, fun q16 => fin a4 ?_⟩, fun q12 => fin a3 ?_⟩, fun q8 => fin a2 ?_⟩, fun q4 => fin a1 ?_⟩
    · have := c16.1 q16
      have : k / 4 = 4 := by omega
      rw [this]; rfl
    · have := c12.1 q12
      have : ¬ 16 ≤ k := fun z => q16 (c16.2 z)
      have : k / 4 = 3 := by omega
      rw [this]; rfl
    · have := c8.1 q8
      have : ¬ 12 ≤ k := fun z => q12 (c12.2 z)
      have : k / 4 = 2 := by omega
      rw [this]; rfl
    · have := c4.1 q4
      have : ¬ 8 ≤ k := fun z => q8 (c8.2 z)
      have : k / 4 = 1 := by omega
      rw [this]; rfl
    · have : ¬ 4 ≤ k := fun z => q4 (c4.2 z)
      have : k / 4 = 0 := by omega
      rw [this]; rfl
theorem s_X11_feed {h : XH} {s : SG} (hM : MI h s) (hg : GoodS s) (a1 a2 a3 a4 a5 : Int32) : XSpec mX11_feed 1 0 0 100 100 [.ref 56, .int a1, .int a2, .int a3, .int a4, .int a5] h (fun v h' => v = some (.int (fdA s)) ∧ xI h' 56 2 = 0 ∧ MI h' (sFeed s (w5 a1 a2 a3 a4 a5)) ∧ mch h h') xno := by
  have hl : sTl s ≤ 500 := hg.2.2.2.2.1
  obtain ⟨hM0, hm0, e0⟩ := m_code hM 0
  refine XSpec.of rfl (by decide) (Nat.le_of_ble_eq_true rfl) rfl (v_X11_feed_0 hM.1 a1 a2 a3 a4 a5 ?_)
  have t1 : xI h 56 11 = nI (sTl s) := hM.2.2.2.2.2.2.1
  have e20 : (20 : Int32) = nI 20 := rfl
  rw [va_up_of _ _ (by decide), t1, e20, nI_add]
  have e480 : nI (sTl s + 20) ≤ 500 ↔ sTl s + 20 ≤ 500 := nI_leI (b := 500) (by omega) (by omega)
  rw [e480]
  unfold fdA sFeed
  refine ⟨fun c => ?_, fun c => ?_⟩
  · rw [if_pos (by omega), if_pos (by omega)]
    exact l_mfeed (h0 := h) a1 a2 a3 a4 a5 (by omega) (fun h' k1 k2 k3 => ⟨by rw [k1.2.2.2.2.2.2.1]; rfl, k2, k1, k3⟩) 20 0 _ (by omega) hM0 e0 hm0
  · rw [if_neg (by omega), if_neg (by omega)]
    exact ⟨rfl, e0, hM0, hm0⟩
theorem tpK_lt {l0 : Nat} {tp : Nat → Nat} (ws : Nat → Int32) (ht : ∀ i, i < l0 → tp i < 256) : ∀ k i, i < l0 + k → tpK l0 tp ws k i < 256 := by
  intro k
  induction k with
  | zero => intro i hi; exact ht i hi
  | succ k ih =>
    intro i hi
    show va_up (tpK l0 tp ws k) (l0 + k) _ i < 256
    by_cases z : i = l0 + k
    · rw [z, va_up_eq]; exact fb_lt _ _
    · rw [va_up_of _ _ z]; exact ih i (by omega)
theorem sFeed_good {s : SG} (hg : GoodS s) (ws : Nat → Int32) : GoodS (sFeed s ws) := by
  unfold sFeed
  split
  · exact ⟨hg.1, hg.2.1, hg.2.2.1, hg.2.2.2.1, show sTl s + 20 ≤ 500 by omega, tpK_lt ws hg.2.2.2.2.2 20⟩
  · exact hg
