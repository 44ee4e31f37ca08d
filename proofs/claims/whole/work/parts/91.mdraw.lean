/-! DRAW: the reference -/
def beF (k : Nat) : Int32 := if k = 0 then 36 else if k = 2 then 2 else 0
def Begun (h h' : XH) : Prop := xP h' = xP h ∧ (∀ c, c ≠ 59 → c ≠ 60 → xI h' c = xI h c) ∧ (∀ j, j < 8 → xI h' 59 j = xI h 59 j) ∧ (∀ k, k < 8 → xI h' 59 (8 + k) = beF k) ∧ (∀ j, j < 6 → xI h' 60 j = xI h 60 j) ∧ (∀ j, j < 6 → xI h' 60 (6 + j) = 1)
theorem l_mbeg2 {h0 : XH} {Q : Option Value → XH → Prop} {X : String → XH → Prop} (hQ : ∀ h', Begun h0 h' → Q none h') : ∀ (c i : Nat) (h : XH), i + c = 6 → xMod (xP h) → xP h = xP h0 → (∀ c, c ≠ 59 → c ≠ 60 → xI h c = xI h0 c) → (∀ j, j < 8 → xI h 59 j = xI h0 59 j) → (∀ k, k < 8 → xI h 59 (8 + k) = beF k) → (∀ j, j < 6 → xI h 60 j = xI h0 60 j) → (∀ j, j < i → xI h 60 (6 + j) = 1) →
    XW (xrm 1 0 0) mX11_begin (xE 100 Q X 0 0) 100 0 0 h 44 [some (.ref 56), some (.int (nI i))] [] := by
  intro c
  induction c with
  | zero =>
    intro i h hi hM k1 k2 k3 k4 k5 k6
    have : i = 6 := by omega
    subst this
    exact v_X11_begin_44 hM (nI 6) ⟨fun _ => hQ h ⟨k1, k2, k3, k4, k5, k6⟩, fun c => absurd (by decide) c⟩
  | succ c ih =>
    intro i h hi hM k1 k2 k3 k4 k5 k6
    have e6 : (6 : Int32) = nI 6 := rfl
    refine v_X11_begin_44 hM (nI i) ⟨fun c => absurd c (nI_ge (b := 6) (by omega) (by omega)), fun _ => ?_⟩
    rw [e6, nI_add, nI_clamp (by omega), nI_1]
    refine ⟨vp_in_nI (by omega) (by omega), ih (i + 1) _ (by omega) hM k1 (fun c q1 q2 => by rw [xI_ne q2]; exact k2 c q1 q2) (fun j hj => by rw [xI_ne (by decide)]; exact k3 j hj) (fun k hk => by rw [xI_ne (by decide)]; exact k4 k hk) (fun j hj => by rw [xI_at, va_up_of _ _ (by omega)]; exact k5 j hj) (fun j hj => ?_)⟩
    rw [xI_at]
    by_cases z : j = i
    · rw [z, va_up_eq]
    · rw [va_up_of _ _ (by omega)]; exact k6 j (by omega)
theorem l_mbeg1 {h0 : XH} {Q : Option Value → XH → Prop} {X : String → XH → Prop} (hQ : ∀ h', Begun h0 h' → Q none h') : ∀ (c i : Nat) (h : XH), i + c = 8 → xMod (xP h) → xP h = xP h0 → (∀ c, c ≠ 59 → xI h c = xI h0 c) → (∀ j, j < 8 → xI h 59 j = xI h0 59 j) → (∀ k, k < i → xI h 59 (8 + k) = beF k) →
    XW (xrm 1 0 0) mX11_begin (xE 100 Q X 0 0) 100 0 0 h 2 [some (.ref 56), some (.int (nI i))] [] := by
  intro c
  induction c with
  | zero =>
    intro i h hi hM k1 k2 k3 k4
    have : i = 8 := by omega
    subst this
    exact v_X11_begin_2 hM (nI 8) ⟨fun _ => l_mbeg2 hQ 6 0 h (by omega) hM k1 (fun c q1 q2 => k2 c q1) k3 k4 (fun j _ => by rw [k2 60 (by decide)]) (fun j hj => absurd hj (by omega)), fun c => absurd (by decide) c⟩
  | succ c ih =>
    intro i h hi hM k1 k2 k3 k4
    have e8 : (8 : Int32) = nI 8 := rfl
    have step : ∀ v : Int32, v = beF i → vp_in (8 + nI i) 16 ∧ XW (xrm 1 0 0) mX11_begin (xE 100 Q X 0 0) 100 0 0 (xSI 59 (va_up (xI h 59) (8 + nI i).toNatClampNeg v) h) 2 [some (.ref 56), some (.int (nI i + 1))] [] := by
      intro v hv
      rw [e8, nI_add, nI_clamp (by omega), nI_1]
      refine ⟨vp_in_nI (by omega) (by omega), ih (i + 1) _ (by omega) hM k1 (fun c q => by rw [xI_ne q]; exact k2 c q) (fun j hj => by rw [xI_at, va_up_of _ _ (by omega)]; exact k3 j hj) (fun k hk => ?_)⟩
      rw [xI_at]
      by_cases z : k = i
      · rw [z, va_up_eq, hv]
      · rw [va_up_of _ _ (by omega)]; exact k4 k (by omega)
    have z0 : nI i = 0 ↔ i = 0 := nI_eq (b := 0) (by omega) (by omega)
    have z2 : nI i = 2 ↔ i = 2 := nI_eq (b := 2) (by omega) (by omega)
    refine v_X11_begin_2 hM (nI i) ⟨fun c => absurd c (nI_ge (b := 8) (by omega) (by omega)), fun _ => ⟨fun q0 => ⟨fun q2 => step 0 ?_, fun q2 => step 2 ?_⟩, fun q0 => step 36 ?_⟩⟩
    · unfold beF
      rw [if_neg (fun z => q0 (z0.2 z)), if_neg (fun z => q2 (z2.2 z))]
    · unfold beF
      rw [z2.1 q2]; rfl
    · unfold beF
      rw [z0.1 q0]; rfl
theorem m_begin {h : XH} (hM : xMod (xP h)) : XSpec mX11_begin 1 0 0 100 100 [.ref 56] h (fun v h' => v = none ∧ Begun h h') xno :=
  XSpec.of rfl (by decide) (Nat.le_of_ble_eq_true rfl) rfl (v_X11_begin_0 hM (l_mbeg1 (h0 := h) (fun h' k => ⟨rfl, k⟩) 8 0 h (by omega) hM rfl (fun _ _ => rfl) (fun _ _ => rfl) (fun k hk => absurd hk (by omega))))
theorem Begun.rl {h h' : XH} (hb : Begun h h') (lst : Nat) (ft hd tx : Nat → Nat) (C : Nat → Int32) : MRl h' (dB0 (fun _ => 1) lst 36 ft hd tx C) := by
  obtain ⟨k1, k2, k3, k4, k5, k6⟩ := hb
  exact ⟨⟨k4 0 (by decide), k4 1 (by decide), k4 2 (by decide), k4 3 (by decide), k4 4 (by decide), k4 5 (by decide)⟩, ⟨fun _ => k4 6 (by decide), fun z => absurd (show (0 : Nat) = 1 from z) (by decide)⟩, k4 7 (by decide), fun f f1 f2 => k6 (f - 1) (by omega), fun i hi => absurd hi (Nat.not_lt_zero i), fun i hi => absurd hi (Nat.not_lt_zero i)⟩
theorem l_misFoot {h : XH} {b : BD} {q : Nat} (hM : xMod (xP h)) (hR : MRl h b) (hb : GoodBD b) (hq : q ≤ 100) {Q : Option Value → XH → Prop} {X : String → XH → Prop} (hQ : Q (some (.int (bI (dFt b q)))) h) : ∀ (c i : Nat), i + c = bKx b → (∀ j, j < i → bFt b j ≠ q) →
    XW (xrm 1 0 0) mX11_isFoot (xE 100 Q X 0 0) 100 0 0 h 2 [some (.ref 56), some (.int (nI q)), some (.int (nI i))] [] := by
  have b3 := hb.1.2.2.1
  have b7 := hb.1.2.2.2.2.2.2.1
  have hl := hb.1.2.1
  intro c
  induction c with
  | zero =>
    intro i hi hno
    refine v_X11_isFoot_2 hM (nI q) (nI i) ?_
    rw [hR.1.2.1]
    refine ⟨fun _ => ?_, fun c => absurd (nI_le (by omega) (by omega)) c⟩
    have : dFt b q = false := by
      unfold dFt
      rw [jmps_0 (bKx b) (fun j hj => hno j (by omega))]; rfl
    rw [this] at hQ
    exact hQ
  | succ c ih =>
    intro i hi hno
    have e24 : (24 : Int32) = nI 24 := rfl
    have b7i := b7 i (by omega)
    refine v_X11_isFoot_2 hM (nI q) (nI i) ?_
    rw [hR.1.2.1, e24, nI_add, nI_clamp (by omega), (hR.2.2.2.2.1 i (by omega)).1, nI_1, nI_eq (by omega) (by omega)]
    refine ⟨fun c => absurd c (nI_ge (by omega) (by omega)), fun _ => ⟨vp_in_nI (by omega) (by omega), fun c => ih (i + 1) (by omega) (fun j hj => ?_), fun c => ?_⟩⟩
    · by_cases z : j = i
      · rw [z]; exact c
      · exact hno j (by omega)
    · have : dFt b q = true := by
        unfold dFt
        rw [jmps_at (bKx b) i (by omega) c hb.1.2.2.2.2.2.2.2]
        simp
        omega
      rw [this] at hQ
      exact hQ
theorem m_isFoot {h : XH} {b : BD} {q : Nat} (hM : xMod (xP h)) (hR : MRl h b) (hb : GoodBD b) (hq : q ≤ 100) : XSpec mX11_isFoot 1 0 0 100 100 [.ref 56, .int (nI q)] h (xq (some (.int (bI (dFt b q)))) h) xno :=
  XSpec.of rfl (by decide) (Nat.le_of_ble_eq_true rfl) rfl (v_X11_isFoot_0 hM (nI q) (l_misFoot hM hR hb hq ⟨rfl, rfl⟩ (bKx b) 0 (by omega) (fun j hj => absurd hj (by omega))))
