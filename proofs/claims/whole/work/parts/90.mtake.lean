/-! A NEW BOARD: the reference takes it -/
def hlf (i n : Nat) (f : Nat → Int32) : Nat → Int32 := fun j => if j < i then f (n + j) else f j
theorem m_half {a9 n : Nat} (ha9 : SH a9 = .inl (.int, 2 * n)) (han : a9 < 100) (hn : n < 2 ^ 29) (h : XH) : XSpec mX11_takeHalf 1 0 0 100 100 [.ref a9] h (fun v h' => v = none ∧ h' = xSI a9 (hlf n n (xI h a9)) h) xno := by
  refine XSpec.of rfl (by decide) (Nat.le_of_ble_eq_true rfl) rfl (v_X11_takeHalf_0 a9 (2 * n) ha9 han ?_)
  have eh : nI (2 * n) / 2 = nI n := by
    have e : nI (2 * n) / 2 = nI (2 * n / 2) := pk_div (d := 2) (by omega) (by omega) (by omega)
    rw [e]
    congr 1
    omega
  have key : ∀ (k i : Nat), i + k = n → XW (xrm 1 0 0) mX11_takeHalf (xE 100 (fun v h' => v = none ∧ h' = xSI a9 (hlf n n (xI h a9)) h) xno 0 0) 100 0 0 (xSI a9 (hlf i n (xI h a9)) h) 2 [some (.ref a9), some (.int (nI i))] [] := by
    intro k
    induction k with
    | zero =>
      intro i hi
      have : i = n := by omega
      subst this
      refine v_X11_takeHalf_2 a9 (2 * i) ha9 han (nI i) ?_
      rw [eh]
      exact ⟨fun _ => ⟨rfl, rfl⟩, fun c => absurd (nI_le (Nat.le_refl _) (by omega)) c⟩
    | succ k ih =>
      intro i hi
      refine v_X11_takeHalf_2 a9 (2 * n) ha9 han (nI i) ?_
      rw [eh, nI_add, nI_clamp (show n + i < 2 ^ 31 by omega), nI_clamp (show i < 2 ^ 31 by omega), xI_at, xSI_SI, nI_1]
      refine ⟨fun c => absurd c (nI_ge (by omega) (by omega)), fun _ => ⟨vp_in_nI (by omega) (by omega), vp_in_nI (by omega) (by omega), ?_⟩⟩
      have e : va_up (hlf i n (xI h a9)) i (hlf i n (xI h a9) (n + i)) = hlf (i + 1) n (xI h a9) := by
        funext j
        by_cases z : j = i
        · rw [z, va_up_eq]
          unfold hlf
          rw [if_neg (by omega), if_pos (by omega)]
        · rw [va_up_of _ _ z]
          unfold hlf
          by_cases y : j < i
          · rw [if_pos y, if_pos (by omega)]
          · rw [if_neg y, if_neg (by omega)]
      rw [e]
      exact ih (i + 1) (by omega)
  have e0 : hlf 0 n (xI h a9) = xI h a9 := by
    funext j
    exact if_neg (by omega)
  have := key n 0 (by omega)
  rw [e0, xSI_self] at this
  exact this
def MRl (h : XH) (b : BD) : Prop := (xI h 59 8 = nI (bLast b) ∧ xI h 59 9 = nI (bKx b) ∧ xI h 59 10 = nI (bPc b) ∧ xI h 59 11 = nI (bE b) ∧ xI h 59 12 = nI (bAg b) ∧ xI h 59 13 = nI (bMt b)) ∧ ((bTd b = 0 → xI h 59 14 = 0) ∧ (bTd b = 1 → xI h 59 14 = nI (bLen b) ∧ ∀ k, k < bLen b → xI h 63 (500 + k) = trc (bC b k))) ∧ xI h 59 15 = nI (bTl b) ∧ (∀ f, 1 ≤ f → f ≤ 6 → xI h 60 (6 + (f - 1)) = nI (bOd b f)) ∧ (∀ i, i < bKx b → xI h 61 (24 + i) = nI (bFt b i) ∧ xI h 62 (24 + i) = nI (bHd b i)) ∧ (∀ i, i < bTl b → xI h 64 (1000 + i) = nI (bTx b i))
/-- the second halves hold a raw board, the rest as it was -/
def MD (h0 h : XH) (s : SG) (b : BD) : Prop := xMod (xP h) ∧ MStr (xP h) ∧ MRl h b ∧ (∀ i, i < 3 → xI h 65 i = gSt (sG s) i) ∧ (xI h 56 11 = nI (sTl s) ∧ xI h 56 20 = sFp s ∧ ∀ i, i < sTl s → xI h 66 i = nI (sTp s i)) ∧ xI h 56 2 = 0 ∧ mch h0 h
theorem l_mplace {h0 : XH} {Q : Option Value → XH → Prop} {X : String → XH → Prop} : ∀ (c i : Nat) (h : XH), i + c = 4 → xMod (xP h) → (∀ c, c ≠ 71 → xI h c = xI h0 c) → (∀ q, q < i → xI h 71 q = 0) → xP h = xP h0 →
    (∀ h', (∀ c, c ≠ 71 → c ≠ 56 → xI h' c = xI h0 c) → (∀ q, q < 4 → xI h' 71 q = 0) → xP h' = xP h0 → xI h' 56 = va_up (va_up (va_up (va_up (va_up (xI h0 56) 33 0) 34 0) 46 0) 38 (-1)) 50 0 → Q none h') →
    XW (xrm 2 0 0) mX11_take (xE 100 Q X 0 0) 100 0 0 h 44 [some (.ref 56), some (.int (nI i))] [] := by
  intro c
  induction c with
  | zero =>
    intro i h hi hM hI hz hP hQ
    have : i = 4 := by omega
    subst this
    refine v_X11_take_44 hM (nI 4) ⟨fun _ => ?_, fun c => absurd (by decide) c⟩
    rw [xSI_SI, xSI_SI, xSI_SI, xSI_SI]
    refine hQ _ (fun c q1 q2 => by rw [xI_ne q2]; exact hI c q1) (fun q hq => by rw [xI_ne (by decide)]; exact hz q hq) hP ?_
    rw [xI_at, hI 56 (by decide)]
  | succ c ih =>
    intro i h hi hM hI hz hP hQ
    refine v_X11_take_44 hM (nI i) ⟨fun c => absurd c (nI_ge (b := 4) (by omega) (by omega)), fun _ => ⟨vp_in_nI (by omega) (by omega), ?_⟩⟩
    rw [nI_clamp (by omega), nI_1]
    refine ih (i + 1) _ (by omega) hM (fun c q => by rw [xI_ne q]; exact hI c q) (fun q hq => ?_) hP hQ
    rw [xI_at]
    by_cases z : q = i
    · rw [z, va_up_eq]
    · rw [va_up_of _ _ z]; exact hz q (by omega)
theorem hlf_in {n i : Nat} {f : Nat → Int32} (h : i < n) : hlf n n f i = f (n + i) := if_pos h
theorem m_take {h0 h : XH} {s : SG} {b : BD} (hD : MD h0 h s b) (hb : GoodBD b) : XSpec mX11_take 2 0 0 100 100 [.ref 56] h (fun v h' => v = none ∧ MI h' (sNew s b) ∧ xI h' 56 2 = 0 ∧ mch h0 h') xno := by
  obtain ⟨hM, hS, ⟨⟨r1, r2, r3, r4, r5, r6⟩, ⟨r7, r8⟩, r9, r10, r11, r12⟩, d4, ⟨d5, d6, d7⟩, d8, d9⟩ := hD
  obtain ⟨⟨b1, b2, b3, b4, b5, b6, b7, b8⟩, c1, c2, c3, c4, c5, c6, c7⟩ := id hb
  refine XSpec.of rfl (by decide) (Nat.le_of_ble_eq_true rfl) rfl (v_X11_take_0 hM ⟨_, m_half (a9 := 59) (n := 8) rfl (by decide) (by decide) h, ?_⟩)
  rintro v h1 ⟨rfl, e1⟩
  refine ⟨rfl, by rw [e1]; exact hM (4, 60) (by decide), _, m_half (a9 := 60) (n := 6) rfl (by decide) (by decide) h1, ?_⟩
  rintro v h2 ⟨rfl, e2⟩
  refine ⟨rfl, by rw [e2, e1]; exact hM (5, 61) (by decide), _, m_half (a9 := 61) (n := 24) rfl (by decide) (by decide) h2, ?_⟩
  rintro v h3 ⟨rfl, e3⟩
  refine ⟨rfl, by rw [e3, e2, e1]; exact hM (6, 62) (by decide), _, m_half (a9 := 62) (n := 24) rfl (by decide) (by decide) h3, ?_⟩
  rintro v h4 ⟨rfl, e4⟩
  refine ⟨rfl, by rw [e4, e3, e2, e1]; exact hM (7, 63) (by decide), _, m_half (a9 := 63) (n := 500) rfl (by decide) (by decide) h4, ?_⟩
  rintro v h5 ⟨rfl, e5⟩
  refine ⟨rfl, by rw [e5, e4, e3, e2, e1]; exact hM (8, 64) (by decide), _, m_half (a9 := 64) (n := 1000) rfl (by decide) (by decide) h5, ?_⟩
  rintro v h6 ⟨rfl, e6⟩
  have f : ∀ c, ¬ (59 ≤ c ∧ c ≤ 64) → xI h6 c = xI h c := fun c q => by
    rw [e6, xI_ne (by omega), e5, xI_ne (by omega), e4, xI_ne (by omega), e3, xI_ne (by omega), e2, xI_ne (by omega), e1, xI_ne (by omega)]
  have f59 : xI h6 59 = hlf 8 8 (xI h 59) := by rw [e6, xI_ne (by omega), e5, xI_ne (by omega), e4, xI_ne (by omega), e3, xI_ne (by omega), e2, xI_ne (by omega), e1, xI_at]
  have f60 : xI h6 60 = hlf 6 6 (xI h 60) := by rw [e6, xI_ne (by omega), e5, xI_ne (by omega), e4, xI_ne (by omega), e3, xI_ne (by omega), e2, xI_at, e1, xI_ne (by omega)]
  have f61 : xI h6 61 = hlf 24 24 (xI h 61) := by rw [e6, xI_ne (by omega), e5, xI_ne (by omega), e4, xI_ne (by omega), e3, xI_at, e2, xI_ne (by omega), e1, xI_ne (by omega)]
  have f62 : xI h6 62 = hlf 24 24 (xI h 62) := by rw [e6, xI_ne (by omega), e5, xI_ne (by omega), e4, xI_at, e3, xI_ne (by omega), e2, xI_ne (by omega), e1, xI_ne (by omega)]
  have f63 : xI h6 63 = hlf 500 500 (xI h 63) := by rw [e6, xI_ne (by omega), e5, xI_at, e4, xI_ne (by omega), e3, xI_ne (by omega), e2, xI_ne (by omega), e1, xI_ne (by omega)]
  have f64 : xI h6 64 = hlf 1000 1000 (xI h 64) := by rw [e6, xI_at, e5, xI_ne (by omega), e4, xI_ne (by omega), e3, xI_ne (by omega), e2, xI_ne (by omega), e1, xI_ne (by omega)]
  have fp : xP h6 = xP h := by rw [e6, e5, e4, e3, e2, e1]; rfl
  clear e1 e2 e3 e4 e5 e6
  refine ⟨rfl, l_mplace (h0 := h6) 4 0 h6 (by omega) (by rw [fp]; exact hM) (fun _ _ => rfl) (fun q hq => absurd hq (by omega)) rfl (fun h' k1 k2 k3 k4 => ?_)⟩
  have g59 : xI h' 59 = hlf 8 8 (xI h 59) := (k1 59 (by decide) (by decide)).trans f59
  have g60 : xI h' 60 = hlf 6 6 (xI h 60) := (k1 60 (by decide) (by decide)).trans f60
  have g61 : xI h' 61 = hlf 24 24 (xI h 61) := (k1 61 (by decide) (by decide)).trans f61
  have g62 : xI h' 62 = hlf 24 24 (xI h 62) := (k1 62 (by decide) (by decide)).trans f62
  have g63 : xI h' 63 = hlf 500 500 (xI h 63) := (k1 63 (by decide) (by decide)).trans f63
  have g64 : xI h' 64 = hlf 1000 1000 (xI h 64) := (k1 64 (by decide) (by decide)).trans f64
  have gp : xP h' = xP h := k3.trans fp
  have gc : ∀ c, c ≠ 71 → c ≠ 56 → ¬ (59 ≤ c ∧ c ≤ 64) → xI h' c = xI h c := fun c q1 q2 q3 => (k1 c q1 q2).trans (f c q3)
  have g56 : ∀ j, j ≠ 33 → j ≠ 34 → j ≠ 46 → j ≠ 38 → j ≠ 50 → xI h' 56 j = xI h 56 j := fun j q1 q2 q3 q4 q5 => by
    rw [k4, va_up_of _ _ q5, va_up_of _ _ q4, va_up_of _ _ q3, va_up_of _ _ q2, va_up_of _ _ q1, f 56 (by omega)]
  have hC : CodeM h' (bC b) (bLen b) := by
    refine ⟨b6, ?_⟩
    rw [g59, g63, hlf_in (by decide)]
    by_cases z : bTd b = 0
    · exact Or.inl ⟨r7 z, (c6 z).1, (c6 z).2.1⟩
    · have z1 : bTd b = 1 := by omega
      exact Or.inr ⟨(r8 z1).1, fun k hk => by rw [hlf_in (by have := b6.1; omega)]; exact (r8 z1).2 k hk⟩
  refine ⟨rfl, ⟨by rw [gp]; exact hM, by rw [gp]; exact hS, ⟨⟨by rw [gp]; exact hM, ?_, ?_, ?_, hC, fun f f1 f2 => ?_, fun i hi => ?_⟩, ?_, ?_, ?_, fun z => ?_, fun z => ?_, ?_, fun i hi => ?_⟩, ⟨?_, ?_, ?_, fun q hq => ?_, fun i hi => absurd hi (Nat.not_lt_zero i), fun i hi => absurd hi (Nat.not_lt_zero i), fun i hi => ?_⟩, ⟨by rw [k4, va_up_eq]; rfl, fun z => absurd (show (0 : Nat) = 1 from z) (by omega)⟩, ⟨?_, fun i hi => absurd (show (i : Int) < (-1 : Int32).toInt from hi) (by rw [show (-1 : Int32).toInt = -1 from rfl]; omega)⟩, ?_, ?_, fun i hi => ?_⟩, ?_, d9.trans (fun c hc => ⟨gc c (by omega) (by omega) (by omega), by rw [gp]⟩)⟩
  · rw [g59, hlf_in (by decide)]; exact r1
  · rw [g59, hlf_in (by decide)]; exact r2
  · rw [g59, hlf_in (by decide)]; exact r4
  · rw [g60, hlf_in (by omega)]; exact r10 f f1 f2
  · have hi' : i < bKx b := hi
    rw [g61, g62, hlf_in (by omega), hlf_in (by omega)]; exact r11 i hi
  · rw [g59, hlf_in (by decide)]; exact r3
  · rw [g59, hlf_in (by decide)]; exact r5
  · rw [g59, hlf_in (by decide)]; exact r6
  · rw [g59, hlf_in (by decide)]; exact r7 z
  · rw [g59, hlf_in (by decide)]; exact (r8 z).1
  · rw [g59, hlf_in (by decide)]; exact r9
  · have hi' : i < bTl b := hi
    rw [g64, hlf_in (by omega)]; exact r12 i hi
  · rw [k4, va_up_of _ _ (by decide), va_up_of _ _ (by decide), va_up_of _ _ (by decide), va_up_of _ _ (by decide), va_up_eq]; rfl
  · rw [k4, va_up_of _ _ (by decide), va_up_of _ _ (by decide), va_up_of _ _ (by decide), va_up_eq]; rfl
  · rw [k4, va_up_of _ _ (by decide), va_up_of _ _ (by decide), va_up_eq]; rfl
  · exact k2 q hq
  · rw [gc 65 (by decide) (by decide) (by decide)]; exact d4 i hi
  · rw [k4, va_up_of _ _ (by decide), va_up_eq]; rfl
  · rw [g56 11 (by decide) (by decide) (by decide) (by decide) (by decide)]; exact d5
  · rw [g56 20 (by decide) (by decide) (by decide) (by decide) (by decide)]; exact d6
  · rw [gc 66 (by decide) (by decide) (by decide)]; exact d7 i hi
  · rw [g56 2 (by decide) (by decide) (by decide) (by decide) (by decide)]; exact d8
