/-! DRAW: the reference, the whole -/
theorem MD.six {h0 h : XH} {s : SG} {b : BD} (hD : MD h0 h s b) {j : Nat} {v : Int32} (h2 : j ≠ 2) (h11 : j ≠ 11) (h20 : j ≠ 20) : MD h0 (xSI 56 (va_up (xI h 56) j v) h) s b := by
  obtain ⟨d1, d2, d3, d4, ⟨d5, d6, d7⟩, d8, d9⟩ := hD
  refine ⟨d1, d2, ?_, fun i hi => by rw [xI_ne (by decide)]; exact d4 i hi, ⟨by rw [xI_at, va_up_of _ _ (fun z => h11 z.symm)]; exact d5, by rw [xI_at, va_up_of _ _ (fun z => h20 z.symm)]; exact d6, fun i hi => by rw [xI_ne (by decide)]; exact d7 i hi⟩, by rw [xI_at, va_up_of _ _ (fun z => h2 z.symm)]; exact d8, d9.trans mch.SI6⟩
  unfold MRl at *
  rw [xI_ne (by decide), xI_ne (by decide), xI_ne (by decide), xI_ne (by decide), xI_ne (by decide), xI_ne (by decide)]
  exact d3
theorem MD.add {h0 h : XH} {s : SG} {b : BD} (hD : MD h0 h s b) {f t : Nat} : MD h0 (xSI 59 (va_up (xI h 59) 9 (nI (bKx b + 1))) (xSI 62 (va_up (xI h 62) (24 + bKx b) (nI t)) (xSI 61 (va_up (xI h 61) (24 + bKx b) (nI f)) h))) s (dAdd b f t) := by
  obtain ⟨d1, d2, ⟨⟨r1, r2, r3, r4, r5, r6⟩, ⟨r7, r8⟩, r9, r10, r11, r12⟩, d4, ⟨d5, d6, d7⟩, d8, d9⟩ := hD
  have a : ∀ c, c ≠ 59 → c ≠ 61 → c ≠ 62 → xI (xSI 59 (va_up (xI h 59) 9 (nI (bKx b + 1))) (xSI 62 (va_up (xI h 62) (24 + bKx b) (nI t)) (xSI 61 (va_up (xI h 61) (24 + bKx b) (nI f)) h))) c = xI h c := fun c q1 q2 q3 => by rw [xI_ne q1, xI_ne q3, xI_ne q2]
  have a59 : ∀ j, j ≠ 9 → xI (xSI 59 (va_up (xI h 59) 9 (nI (bKx b + 1))) (xSI 62 (va_up (xI h 62) (24 + bKx b) (nI t)) (xSI 61 (va_up (xI h 61) (24 + bKx b) (nI f)) h))) 59 j = xI h 59 j := fun j q => by rw [xI_at, va_up_of _ _ q]
  refine ⟨d1, d2, ⟨⟨by rw [a59 8 (by decide)]; exact r1, by rw [xI_at, va_up_eq]; rfl, by rw [a59 10 (by decide)]; exact r3, by rw [a59 11 (by decide)]; exact r4, by rw [a59 12 (by decide)]; exact r5, by rw [a59 13 (by decide)]; exact r6⟩, ⟨fun z => by rw [a59 14 (by decide)]; exact r7 z, fun z => by rw [a59 14 (by decide), a 63 (by decide) (by decide) (by decide)]; exact r8 z⟩, by rw [a59 15 (by decide)]; exact r9, fun f f1 f2 => by rw [a 60 (by decide) (by decide) (by decide)]; exact r10 f f1 f2, fun i hi => ?_, fun i hi => by rw [a 64 (by decide) (by decide) (by decide)]; exact r12 i hi⟩, fun i hi => by rw [a 65 (by decide) (by decide) (by decide)]; exact d4 i hi, ⟨by rw [a 56 (by decide) (by decide) (by decide)]; exact d5, by rw [a 56 (by decide) (by decide) (by decide)]; exact d6, fun i hi => by rw [a 66 (by decide) (by decide) (by decide)]; exact d7 i hi⟩, by rw [a 56 (by decide) (by decide) (by decide)]; exact d8, d9.trans (fun c hc => ⟨a c (by omega) (by omega) (by omega), rfl⟩)⟩
  have hi' : i < bKx b + 1 := hi
  have a61 : xI (xSI 59 (va_up (xI h 59) 9 (nI (bKx b + 1))) (xSI 62 (va_up (xI h 62) (24 + bKx b) (nI t)) (xSI 61 (va_up (xI h 61) (24 + bKx b) (nI f)) h))) 61 = va_up (xI h 61) (24 + bKx b) (nI f) := by rw [xI_ne (by decide), xI_ne (by decide), xI_at]
  have a62 : xI (xSI 59 (va_up (xI h 59) 9 (nI (bKx b + 1))) (xSI 62 (va_up (xI h 62) (24 + bKx b) (nI t)) (xSI 61 (va_up (xI h 61) (24 + bKx b) (nI f)) h))) 62 = va_up (xI h 62) (24 + bKx b) (nI t) := by rw [xI_ne (by decide), xI_at]
  rw [a61, a62]
  show _ = nI (va_up (bFt b) (bKx b) f i) ∧ _ = nI (va_up (bHd b) (bKx b) t i)
  by_cases z : i = bKx b
  · rw [z, va_up_eq, va_up_eq, va_up_eq, va_up_eq]; exact ⟨rfl, rfl⟩
  · refine ⟨?_, ?_⟩
    · rw [va_up_of _ _ (by omega), va_up_of _ _ z]; exact (r11 i (by omega)).1
    · rw [va_up_of _ _ (by omega), va_up_of _ _ z]; exact (r11 i (by omega)).2
theorem l_mdraw {h0 : XH} {s : SG} {m n : Nat} (hn : n ≤ 24) {Q : Option Value → XH → Prop} {X : String → XH → Prop} : ∀ (k i : Nat) (b : BD) (q : Int32) (h : XH), i + k = n → MD h0 h s b → xI h 56 35 = q → GoodBD b → bLast b = m → bKx b ≤ i →
    (∀ h', MI h' (sNew s (dLp k b q).1) → xI h' 56 2 = 0 → mch h0 h' → Q (some (.int (nI (bKx (dLp k b q).1)))) h') →
    XW (xrm 3 0 0) mX11_draw (xE 100 Q X 0 0) 100 0 0 h 90 [some (.ref 56), none, some (.int (nI m)), some (.int (nI n)), some (.int (nI i)), none, none] [] := by
  intro k
  induction k with
  | zero =>
    intro i b q h hi hD hq hb hm hk hQ
    have : i = n := by omega
    subst this
    refine v_X11_draw_90 hD.1 (nI m) (nI i) (nI i) ⟨fun _ => ⟨_, m_take hD hb, ?_⟩, fun c => absurd (nI_le (Nat.le_refl _) (by omega)) c⟩
    rintro v h6 ⟨rfl, k1, k2, k3⟩
    refine ⟨rfl, k1.1 (3, 59) (by decide), ?_⟩
    rw [k1.2.2.1.1.2.2.1]
    exact hQ h6 k1 k2 k3
  | succ k ih =>
    intro i b q h hi hD hq hb hm hk hQ
    have hl := hb.1.1
    have hl2 := hb.1.2.1
    subst hm
    refine v_X11_draw_90 hD.1 (nI (bLast b)) (nI n) (nI i) ⟨fun c => absurd c (nI_ge (by omega) (by omega)), fun _ => ?_⟩
    rw [nI_p1 (show 1 ≤ bLast b by omega)]
    refine ⟨_, m_drawOf hD.1 (bLast b - 1) (by omega) (by omega), ?_⟩
    rintro v h7 ⟨rfl, e7⟩
    have hD7 : MD h0 h7 s b := by rw [e7]; exact hD.six (by decide) (by decide) (by decide)
    have q7 : xI h7 56 35 = nSd q := by rw [e7, xI_at, va_up_eq, hq]
    rw [hq]
    refine ⟨_, rfl, _, m_drawOf hD7.1 (bLast b) (by omega) (by omega), ?_⟩
    rintro v h8 ⟨rfl, e8⟩
    have hD8 : MD h0 h8 s b := by rw [e8]; exact hD7.six (by decide) (by decide) (by decide)
    have q8 : xI h8 56 35 = nSd (nSd q) := by rw [e8, xI_at, va_up_eq, q7]
    rw [q7]
    have d1 : drw (nSd q) (bLast b - 1) < bLast b - 1 := Nat.mod_lt _ (by omega)
    have d2 : drw (nSd (nSd q)) (bLast b) < bLast b := Nat.mod_lt _ (by omega)
    unfold dLp at hQ
    generalize drw (nSd q) (bLast b - 1) = f at *
    generalize drw (nSd (nSd q)) (bLast b) = t at *
    refine ⟨_, rfl, ?_⟩
    have e1 : (1 : Int32) = nI 1 := rfl
    have ef : (1 : Int32) + nI f = nI (f + 1) := by rw [e1, nI_add, Nat.add_comm]
    have et : (1 : Int32) + nI t = nI (t + 1) := by rw [e1, nI_add, Nat.add_comm]
    rw [ef, et, nI_1, nI_eq (by omega) (by omega)]
    refine ⟨fun c => ?_, fun c => ⟨_, m_isFoot hD8.1 hD8.2.2.1 hb (show f + 1 ≤ 100 by omega), ?_⟩⟩
    · rw [if_pos (Or.inl (by omega))] at hQ
      exact ih (i + 1) b (nSd (nSd q)) _ (by omega) hD8 q8 hb rfl (by omega) hQ
    rintro v h9 ⟨rfl, e9⟩
    subst e9
    refine ⟨_, rfl, fun c2 => ?_, fun c2 => ?_⟩
    · have hf : dFt b (f + 1) = false := bI_0.1 c2
      rw [if_neg (fun z => by rcases z with z | z; exact c (by omega); rw [hf] at z; exact absurd z (by decide))] at hQ
      have e24 : (24 : Int32) = nI 24 := rfl
      have ek : xI h9 59 9 = nI (bKx b) := hD8.2.2.1.1.2.1
      rw [ek, e24, nI_add, nI_clamp (by omega), nI_1]
      refine ⟨hD8.1 (5, 61) (by decide), hD8.1 (3, 59) (by decide), vp_in_nI (by omega) (by omega), hD8.1 (6, 62) (by decide), hD8.1 (3, 59) (by decide), vp_in_nI (by omega) (by omega), hD8.1 (3, 59) (by decide), ?_⟩
      exact ih (i + 1) (dAdd b (f + 1) (t + 1)) (nSd (nSd q)) _ (by omega) hD8.add (by rw [xI_ne (by decide), xI_ne (by decide), xI_ne (by decide)]; exact q8) (dAdd_good hb (by omega) (by omega) (by omega) (by omega) (by omega) hf) rfl (show bKx b + 1 ≤ i + 1 by omega) hQ
    · rw [if_pos (Or.inr (bI_n0.1 c2))] at hQ
      exact ih (i + 1) b (nSd (nSd q)) _ (by omega) hD8 q8 hb rfl (by omega) hQ
theorem l_mdie {h0 : XH} {q : Int32} {m n : Nat} {od : Nat → Nat} (hod : ∀ f, 1 ≤ f → f ≤ 6 → xI h0 60 (f - 1) = nI (od f)) {Q : Option Value → XH → Prop} {X : String → XH → Prop} : ∀ (c i : Nat) (h : XH), i + c = 6 → xMod (xP h) → xP h = xP h0 → (∀ c, c ≠ 60 → xI h c = xI h0 c) → (∀ j, j < 6 → xI h 60 j = xI h0 60 j) → (∀ j, j < i → xI h 60 (6 + j) = xI h0 60 j) →
    (∀ h', xP h' = xP h0 → (∀ c, c ≠ 60 → xI h' c = xI h0 c) → (∀ f, 1 ≤ f → f ≤ 6 → xI h' 60 (6 + (f - 1)) = nI (od f)) → XW (xrm 3 0 0) mX11_draw (xE 100 Q X 0 0) 100 0 0 (xSI 56 (va_up (xI h' 56) 35 q) (xSI 59 (va_up (xI h' 59) 8 (nI m)) h')) 90 [some (.ref 56), none, some (.int (nI m)), some (.int (nI n)), some (.int 0), none, none] []) →
    XW (xrm 3 0 0) mX11_draw (xE 100 Q X 0 0) 100 0 0 h 44 [some (.ref 56), some (.int q), some (.int (nI m)), some (.int (nI n)), some (.int (nI i)), none, none] [] := by
  intro c
  induction c with
  | zero =>
    intro i h hi hM k1 k2 k3 k4 hQ
    have : i = 6 := by omega
    subst this
    exact v_X11_draw_44 hM q (nI m) (nI n) (nI 6) ⟨fun _ => hQ h k1 k2 (fun f f1 f2 => (k4 (f - 1) (by omega)).trans (hod f f1 f2)), fun c => absurd (by decide) c⟩
  | succ c ih =>
    intro i h hi hM k1 k2 k3 k4 hQ
    have e6 : (6 : Int32) = nI 6 := rfl
    refine v_X11_draw_44 hM q (nI m) (nI n) (nI i) ⟨fun c => absurd c (nI_ge (b := 6) (by omega) (by omega)), fun _ => ?_⟩
    rw [e6, nI_add, nI_clamp (show 6 + i < 2 ^ 31 by omega), nI_clamp (show i < 2 ^ 31 by omega), nI_1]
    refine ⟨vp_in_nI (by omega) (by omega), vp_in_nI (by omega) (by omega), ih (i + 1) _ (by omega) hM k1 (fun c q => by rw [xI_ne q]; exact k2 c q) (fun j hj => by rw [xI_at, va_up_of _ _ (by omega)]; exact k3 j hj) (fun j hj => ?_) hQ⟩
    rw [xI_at]
    by_cases z : j = i
    · rw [z, va_up_eq]; exact k3 i (by omega)
    · rw [va_up_of _ _ (by omega)]; exact k4 j (by omega)
theorem s_X11_draw {h : XH} {s : SG} (hM : MI h s) (hg : GoodS s) (q m k0 : Int32) : XSpec mX11_draw 3 0 0 100 100 [.ref 56, .int q, .int m, .int k0] h (fun v h' => ∃ w, v = some (.int w) ∧ xI h' 56 2 = nI (kd1 (inR m 10 100 && inR k0 0 24)) ∧ mch h h' ∧ (kd1 (inR m 10 100 && inR k0 0 24) = 0 → w = nI (bKx (drB s q m.toNatClampNeg k0.toNatClampNeg)) ∧ MI h' (sNew s (drB s q m.toNatClampNeg k0.toNatClampNeg))) ∧ (kd1 (inR m 10 100 && inR k0 0 24) = 1 → MI h' s)) xno := by
  obtain ⟨hM0, hm0, e0⟩ := m_code hM 0
  refine XSpec.of rfl (by decide) (Nat.le_of_ble_eq_true rfl) rfl (v_X11_draw_0 hM.1 q m k0 ⟨_, m_isInR m 10 100 10 100 10 100 (by decide) (by decide) (by decide) (by decide), ?_⟩)
  rintro v h1 ⟨rfl, e1⟩
  subst e1
  refine ⟨_, rfl, fun c => ⟨_, m_failX hM0 hm0 1 1 rfl, ?_⟩, fun c => ⟨_, m_isInR k0 0 24 0 24 0 24 (by decide) (by decide) (by decide) (by decide), ?_⟩⟩
  · rintro v h2 ⟨rfl, k1, k2, k3⟩
    have e : kd1 (inR m 10 100 && inR k0 0 24) = 1 := kd1_f (by rw [bI_0.1 c]; rfl)
    exact ⟨_, rfl, _, rfl, by rw [e]; exact k1, k3, fun z => absurd (e.symm.trans z) (by decide), fun _ => k2⟩
  rintro v h3 ⟨rfl, e3⟩
  subst e3
  refine ⟨_, rfl, fun c2 => ⟨_, m_begin hM0.1, ?_⟩, fun c2 => ⟨_, m_failX hM0 hm0 1 1 rfl, ?_⟩⟩
  · rintro v h4 ⟨rfl, hB⟩
    have hm := bI_n0.1 c
    have hn := bI_n0.1 c2
    have hk : kd1 (inR m 10 100 && inR k0 0 24) = 0 := kd1_t (by rw [hm]; exact hn)
    have hm9 := inR_t.1 hm
    obtain ⟨m, hm', rfl⟩ := inR_nI (x := m) (n := 100) (inR_t.2 (by omega))
    obtain ⟨n, hn', rfl⟩ := inR_nI (n := 24) hn
    rw [nI_toInt (by omega)] at hm9
    rw [nI_clamp (show m < 2 ^ 31 by omega), nI_clamp (show n < 2 ^ 31 by omega), hk]
    have hR := hB.rl (bLst (sB s)) (bFt (sB s)) (bHd (sB s)) (bTx (sB s)) (va_up (bC (sB s)) 0 (-1))
    obtain ⟨B1, B2, B3, B4, B5, B6⟩ := hB
    have hod : ∀ f, 1 ≤ f → f ≤ 6 → xI h4 60 (f - 1) = nI (bOd (sB s) f) := fun f f1 f2 => (B5 (f - 1) (by omega)).trans (hM0.ods f f1 f2)
    obtain ⟨M1, M2, M3, M4, ⟨M5, M6⟩, ⟨M7, M8⟩, M9, M10, M11⟩ := id hM0
    refine ⟨rfl, l_mdie (m := m) (n := n) (q := q) (h0 := h4) hod 6 0 h4 (by omega) (by rw [B1]; exact M1) rfl (fun _ _ => rfl) (fun _ _ => rfl) (fun j hj => absurd hj (by omega)) (fun h' k1 k2 k3 => ?_)⟩
    obtain ⟨⟨r1, r2, r3, r4, r5, r6⟩, ⟨r7, r8⟩, r9, r10, r11, r12⟩ := hR
    have g : ∀ c, c ≠ 59 → c ≠ 60 → xI h' c = xI (mz 0 h) c := fun c q1 q2 => (k2 c q2).trans (B2 c q1 q2)
    have e59 : xI h' 59 = xI h4 59 := k2 59 (by decide)
    have gp : xP h' = xP (mz 0 h) := k1.trans B1
    have hD : MD h (xSI 59 (va_up (xI h' 59) 8 (nI m)) h') s (dB1 (sB s) m) := by
      refine ⟨by rw [show xP (xSI 59 (va_up (xI h' 59) 8 (nI m)) h') = xP h' from rfl, gp]; exact M1, by rw [show xP (xSI 59 (va_up (xI h' 59) 8 (nI m)) h') = xP h' from rfl, gp]; exact M2, ⟨⟨by rw [xI_at, va_up_eq]; rfl, by rw [xI_at, va_up_of _ _ (by decide), e59]; exact r2, by rw [xI_at, va_up_of _ _ (by decide), e59]; exact r3, by rw [xI_at, va_up_of _ _ (by decide), e59]; exact r4, by rw [xI_at, va_up_of _ _ (by decide), e59]; exact r5, by rw [xI_at, va_up_of _ _ (by decide), e59]; exact r6⟩, ⟨fun z => by rw [xI_at, va_up_of _ _ (by decide), e59]; exact r7 z, fun z => absurd (show (0 : Nat) = 1 from z) (by decide)⟩, by rw [xI_at, va_up_of _ _ (by decide), e59]; exact r9, fun f f1 f2 => by rw [xI_ne (by decide)]; exact k3 f f1 f2, fun i hi => absurd hi (Nat.not_lt_zero i), fun i hi => absurd hi (Nat.not_lt_zero i)⟩, fun i hi => ?_, ⟨?_, ?_, fun i hi => ?_⟩, ?_, ?_⟩
      · rw [xI_ne (by decide), g 65 (by decide) (by decide)]; exact M4.2.2.2.2.2.2 i hi
      · rw [xI_ne (by decide), g 56 (by decide) (by decide)]; exact M9
      · rw [xI_ne (by decide), g 56 (by decide) (by decide)]; exact M10
      · rw [xI_ne (by decide), g 66 (by decide) (by decide)]; exact M11 i hi
      · rw [xI_ne (by decide), g 56 (by decide) (by decide)]; exact e0
      · exact hm0.trans (fun c hc => ⟨by rw [xI_ne (by omega)]; exact g c (by omega) (by omega), by rw [show xP (xSI 59 (va_up (xI h' 59) 8 (nI m)) h') = xP h' from rfl, gp]⟩)
    have hD2 := hD.six (j := 35) (v := q) (by decide) (by decide) (by decide)
    rw [xI_ne (by decide)] at hD2
    exact l_mdraw (h0 := h) hn' n 0 (dB1 (sB s) m) q _ (by omega) hD2 (by rw [xI_at, va_up_eq]) (dB0_good _ hg.die (by omega) hm') rfl (Nat.zero_le _) (fun h9 q1 q2 q3 => ⟨_, rfl, q2, q3, fun _ => ⟨rfl, q1⟩, fun z => absurd z (by decide)⟩)
  · rintro v h2 ⟨rfl, k1, k2, k3⟩
    have e : kd1 (inR m 10 100 && inR k0 0 24) = 1 := kd1_f (by rw [bI_0.1 c2, Bool.and_false])
    exact ⟨_, rfl, _, rfl, by rw [e]; exact k1, k3, fun z => absurd (e.symm.trans z) (by decide), fun _ => k2⟩
theorem drB_good {s : SG} (hg : GoodS s) {q : Int32} {m n : Nat} (h1 : 10 ≤ m) (h2 : m ≤ 100) (h3 : n ≤ 24) : GoodS (sNew s (drB s q m n)) :=
  sNew_good hg (dLp_good n (dB1 (sB s) m) q (dB0_good _ hg.die h1 h2) (show 0 + n ≤ 24 by omega)).1
