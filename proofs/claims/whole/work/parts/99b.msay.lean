/-! THE BOARD WRITTEN BACK: the reference, its parts -/
def MT (h : XH) (L : List Nat) : Prop := xI h 56 49 = nI L.length ∧ ∀ i, i < L.length → xI h 89 i = nI (L.getD i 0)
def wmh (h h' : XH) : Prop := (∀ c, c ≠ 56 → c ≠ 89 → xI h' c = xI h c) ∧ (∀ j, j ≠ 49 → xI h' 56 j = xI h 56 j) ∧ xP h' = xP h
theorem wmh.rfl {h : XH} : wmh h h := ⟨fun _ _ _ => Eq.refl _, fun _ _ => Eq.refl _, Eq.refl _⟩
theorem wmh.trans {h h1 h2 : XH} (a : wmh h h1) (b : wmh h1 h2) : wmh h h2 := ⟨fun c q1 q2 => (b.1 c q1 q2).trans (a.1 c q1 q2), fun j q => (b.2.1 j q).trans (a.2.1 j q), b.2.2.trans a.2.2⟩
theorem xMod.w {h h' : XH} (hM : xMod (xP h)) (hc : wmh h h') : xMod (xP h') := by rw [hc.2.2]; exact hM
theorem m_say {h : XH} {L : List Nat} (hM : xMod (xP h)) (hT : MT h L) (hL : L.length < 1700) (c : Nat) : XSpec mX11_say 1 0 0 100 100 [.ref 56, .int (nI c)] h (fun v h' => v = none ∧ MT h' (L ++ [c]) ∧ wmh h h') xno := by
  refine XSpec.of rfl (by decide) (Nat.le_of_ble_eq_true rfl) rfl (v_X11_say_0 hM (nI c) ?_)
  rw [hT.1, nI_clamp (by omega), nI_1]
  refine ⟨vp_in_nI (by omega) (by omega), rfl, ⟨by rw [xI_at, va_up_eq, List.length_append]; rfl, fun i hi => ?_⟩, fun c q1 q2 => by rw [xI_ne q1, xI_ne q2], fun j q => by rw [xI_at, va_up_of _ _ q], rfl⟩
  rw [List.length_append] at hi
  have hi' : i < L.length + 1 := hi
  rw [xI_ne (by decide), xI_at]
  by_cases z : i = L.length
  · rw [z, va_up_eq, app_at]
  · rw [va_up_of _ _ z, app_in (by omega)]; exact hT.2 i (by omega)
theorem l_sayWord {h0 : XH} {L : List Nat} {i : Nat} (hi : i < jsN) (hL : L.length + jsL i ≤ 1700) {Q : Option Value → XH → Prop} {X : String → XH → Prop} (hQ : ∀ h', MT h' (L ++ jsT i) → wmh h0 h' → Q none h') : ∀ (c k : Nat) (h : XH), k + c = jsL i → xMod (xP h) → MT h (L ++ (jsT i).take k) → wmh h0 h →
    XW (xrm 12 0 0) mX11_sayWord (xE 100 Q X 0 0) 100 0 0 h 2 [some (.ref 56), some (.ref (1000 + i)), some (.int (nI k))] [] := by
  have hl := jsL_lt i hi
  have tl := jsT_len i
  intro c
  induction c with
  | zero =>
    intro k h hk hw hT hc
    have : k = jsL i := by omega
    subst this
    refine v_X11_sayWord_2 hw i hi (nI (jsL i)) ⟨_, s_strlen 100 hi h, ?_⟩
    rintro v h1 ⟨rfl, e1⟩
    subst e1
    refine ⟨_, rfl, fun _ => hQ _ ?_ hc, fun q => absurd (nI_le (Nat.le_refl _) (by omega)) q⟩
    rw [List.take_of_length_le (by omega)] at hT
    exact hT
  | succ c ih =>
    intro k h hk hw hT hc
    refine v_X11_sayWord_2 hw i hi (nI k) ⟨_, s_strlen 100 hi h, ?_⟩
    rintro v h1 ⟨rfl, e1⟩
    subst e1
    obtain ⟨ej, hj⟩ := jsC_b i hi k (by omega)
    have ht := take_s (jsT_at (i := i) (k := k) (by omega))
    refine ⟨_, rfl, fun q => absurd q (nI_ge (by omega) (by omega)), fun _ => ⟨_, s_charAt 100 hi (show k < jsL i by omega) _, ?_⟩⟩
    rintro v h2 ⟨rfl, e2⟩
    subst e2
    refine ⟨_, rfl, ?_⟩
    rw [ej]
    refine ⟨_, m_say hw hT (by rw [List.length_append, List.length_take]; omega) (jsC i k).toNatClampNeg, ?_⟩
    rintro v h3 ⟨rfl, hT3, hc3⟩
    rw [List.append_assoc, ← ht] at hT3
    rw [nI_1]
    exact ⟨rfl, ih (k + 1) h3 (by omega) (xMod.w hw hc3) hT3 (hc.trans hc3)⟩
theorem m_sayWord {h : XH} {L : List Nat} {i : Nat} (hi : i < jsN) (hM : xMod (xP h)) (hT : MT h L) (hL : L.length + jsL i ≤ 1700) : XSpec mX11_sayWord 12 0 0 100 100 [.ref 56, .ref (1000 + i)] h (fun v h' => v = none ∧ MT h' (L ++ jsT i) ∧ wmh h h') xno :=
  XSpec.of rfl (by decide) (Nat.le_of_ble_eq_true rfl) rfl (v_X11_sayWord_0 hM i hi (l_sayWord (h0 := h) hi hL (fun h' k1 k2 => ⟨rfl, k1, k2⟩) (jsL i) 0 h (by omega) hM (by rw [List.take_zero, List.append_nil]; exact hT) wmh.rfl))
