/-! THE BOARD WRITTEN BACK: the reference, its parts -/
def MT (h : XH) (L : List Nat) : Prop := xI h 56 49 = nI L.length ∧ ∀ i, i < L.length → xI h 89 i = nI (L.getD i 0)
def wmh (h h' : XH) : Prop := (∀ c, c ≠ 56 → c ≠ 89 → xI h' c = xI h c) ∧ (∀ j, j ≠ 49 → xI h' 56 j = xI h 56 j) ∧ xP h' = xP h
theorem wmh.rfl {h : XH} : wmh h h := ⟨fun _ _ _ => Eq.refl _, fun _ _ => Eq.refl _, Eq.refl _⟩
theorem wmh.trans {h h1 h2 : XH} (a : wmh h h1) (b : wmh h1 h2) : wmh h h2 := ⟨fun c q1 q2 => (b.1 c q1 q2).trans (a.1 c q1 q2), fun j q => (b.2.1 j q).trans (a.2.1 j q), b.2.2.trans a.2.2⟩
theorem xMod.w {h h' : XH} (hM : xMod (xP h)) (hc : wmh h h') : xMod (xP h') := by rw [hc.2.2]; exact hM
theorem m_say {h : XH} {L : List Nat} (hM : xMod (xP h)) (hT : MT h L) (hL : L.length < 1700) (c : Nat) : XSpec mX11_say 1 0 0 100 100 [.ref 56, .int (nI c)] h (fun v h' => v = none ∧ MT h' (L ++ [c]) ∧ wmh h h') xno := by
  refine XSpec.of rfl (by decide) (Nat.le_of_ble_eq_true rfl) rfl (v_X11_say_0 hM (nI c) ?_)
  rw [hT.1, nI_clamp (by omega), nI_1]
  refine ⟨vp_in_nI (by omega) (by omega), rfl, ⟨by rw [xI_at, va_up_eq, List.length_append]; rfl, fun i hi => ?_⟩, fun c q1 q2 => by rw [xI_ne q1, xI_ne q2], fun j q => by rw [xI_at, va_up_of _ _ q], rfl⟩
  rw [List.length_append] at hi
  have hi' : i < L.length + 1 := hi
  rw [xI_ne (by decide), xI_at]
  by_cases z : i = L.length
  · rw [z, va_up_eq, app_at]
  · rw [va_up_of _ _ z, app_in (by omega)]; exact hT.2 i (by omega)
theorem l_sayWord {h0 : XH} {L : List Nat} {i : Nat} (hi : i < jsN) (hL : L.length + jsL i ≤ 1700) {Q : Option Value → XH → Prop} {X : String → XH → Prop} (hQ : ∀ h', MT h' (L ++ jsT i) → wmh h0 h' → Q none h') : ∀ (c k : Nat) (h : XH), k + c = jsL i → xMod (xP h) → MT h (L ++ (jsT i).take k) → wmh h0 h →
    XW (xrm 12 0 0) mX11_sayWord (xE 100 Q X 0 0) 100 0 0 h 2 [some (.ref 56), some (.ref (1000 + i)), some (.int (nI k))] [] := by
  have hl := jsL_lt i hi
  have tl := jsT_len i
  intro c
  induction c with
  | zero =>
    intro k h hk hw hT hc
    have : k = jsL i := by omega
    subst this
    refine v_X11_sayWord_2 hw i hi (nI (jsL i)) ⟨_, s_strlen 100 hi h, ?_⟩
    rintro v h1 ⟨rfl, e1⟩
    subst e1
    refine ⟨_, rfl, fun _ => hQ _ ?_ hc, fun q => absurd (nI_le (Nat.le_refl _) (by omega)) q⟩
    rw [List.take_of_length_le (by omega)] at hT
    exact hT
  | succ c ih =>
    intro k h hk hw hT hc
    refine v_X11_sayWord_2 hw i hi (nI k) ⟨_, s_strlen 100 hi h, ?_⟩
    rintro v h1 ⟨rfl, e1⟩
    subst e1
    obtain ⟨ej, hj⟩ := jsC_b i hi k (by omega)
    have ht := take_s (jsT_at (i := i) (k := k) (by omega))
    refine ⟨_, rfl, fun q => absurd q (nI_ge (by omega) (by omega)), fun _ => ⟨_, s_charAt 100 hi (show k < jsL i by omega) _, ?_⟩⟩
    rintro v h2 ⟨rfl, e2⟩
    subst e2
    refine ⟨_, rfl, ?_⟩
    rw [ej]
    refine ⟨_, m_say hw hT (by rw [List.length_append, List.length_take]; omega) (jsC i k).toNatClampNeg, ?_⟩
    rintro v h3 ⟨rfl, hT3, hc3⟩
    rw [List.append_assoc, ← ht] at hT3
    rw [nI_1]
    exact ⟨rfl, ih (k + 1) h3 (by omega) (xMod.w hw hc3) hT3 (hc.trans hc3)⟩
theorem m_sayWord {h : XH} {L : List Nat} {i : Nat} (hi : i < jsN) (hM : xMod (xP h)) (hT : MT h L) (hL : L.length + jsL i ≤ 1700) : XSpec mX11_sayWord 12 0 0 100 100 [.ref 56, .ref (1000 + i)] h (fun v h' => v = none ∧ MT h' (L ++ jsT i) ∧ wmh h h') xno :=
  XSpec.of rfl (by decide) (Nat.le_of_ble_eq_true rfl) rfl (v_X11_sayWord_0 hM i hi (l_sayWord (h0 := h) hi hL (fun h' k1 k2 => ⟨rfl, k1, k2⟩) (jsL i) 0 h (by omega) hM (by rw [List.take_zero, List.append_nil]; exact hT) wmh.rfl))
theorem mdg (n u : Nat) (hn : n < 2 ^ 30) (h0 : 0 < u) (hu : u < 2 ^ 30) : (48 : Int32) + (nI n / nI u - nI n / nI u / 10 * 10) = nI (48 + n / u % 10) := by
  have e48 : (48 : Int32) = nI 48 := rfl
  have e10 : (10 : Int32) = nI 10 := rfl
  have h1 : n / u ≤ n := Nat.div_le_self _ _
  rw [pk_div (by omega) h0 (by omega), e10, pk_rem (by omega) (by omega) (by omega), e48, nI_add]
theorem m_u {h0 h : XH} {L : List Nat} {n u : Nat} (hn : n ≤ 999) (hu0 : 0 < u) (hu : u ≤ 100) (hM : xMod (xP h)) (hT : MT h L) (hc : wmh h0 h) (hL : L.length < 1700) {Q : Option Value → XH → Prop} {X : String → XH → Prop} (hN : ∀ h', xMod (xP h') → MT h' (L ++ [48 + n / u % 10]) → wmh h0 h' → XW (xrm 2 0 0) mX11_sayNumber (xE 100 Q X 0 0) 100 0 0 h' 26 [some (.ref 56), some (.int (nI n)), none, some (.int (nI (u / 10)))] []) :
    XW (xrm 2 0 0) mX11_sayNumber (xE 100 Q X 0 0) 100 0 0 h 26 [some (.ref 56), some (.int (nI n)), none, some (.int (nI u))] [] := by
  have e10 : (10 : Int32) = nI 10 := rfl
  refine v_X11_sayNumber_26 hM (nI n) (nI u) ⟨fun q => absurd q (nI_ge (b := u) (a := 0) hu0 (by omega)), fun _ => ⟨nI_ne0 hu0 (by omega), ?_⟩⟩
  rw [mdg n u (by omega) hu0 (by omega), e10, pk_div (by omega) (by omega) (by omega)]
  refine ⟨_, m_say hM hT hL (48 + n / u % 10), ?_⟩
  rintro v h2 ⟨rfl, hT2, hc2⟩
  exact ⟨rfl, hN h2 (xMod.w hM hc2) hT2 (hc.trans hc2)⟩
theorem m_sayNum {h : XH} {L : List Nat} {n : Nat} (hn : n ≤ 999) (hM : xMod (xP h)) (hT : MT h L) (hL : L.length + 4 ≤ 1700) : XSpec mX11_sayNumber 2 0 0 100 100 [.ref 56, .int (nI n)] h (fun v h' => v = none ∧ MT h' (L ++ tNum n) ∧ wmh h h') xno := by
  have e1 : (1 : Int32) = nI 1 := rfl
  have e10 : (10 : Int32) = nI 10 := rfl
  have e100 : (10 : Int32) * 10 = nI 100 := by decide
  have e110 : (1 : Int32) * 10 = nI 10 := by decide
  have q1 : nI n / nI 1 ≤ 9 ↔ n ≤ 9 := by
    rw [pk_div (by omega) (by omega) (by omega), Nat.div_one]
    exact nI_leI (b := 9) (by omega) (by omega)
  have q10 : nI n / nI 10 ≤ 9 ↔ n / 10 ≤ 9 := by
    rw [pk_div (by omega) (by omega) (by omega)]
    exact nI_leI (b := 9) (by omega) (by omega)
  have q100 : nI n / nI 100 ≤ 9 ↔ n / 100 ≤ 9 := by
    rw [pk_div (by omega) (by omega) (by omega)]
    exact nI_leI (b := 9) (by omega) (by omega)
  have ln : ∀ (L : List Nat) (c : Nat), (L ++ [c]).length = L.length + 1 := fun L c => by rw [List.length_append]; rfl
  refine XSpec.of rfl (by decide) (Nat.le_of_ble_eq_true rfl) rfl (v_X11_sayNumber_0 hM (nI n) ⟨_, m_say hM hT (by omega) 32, ?_⟩)
  rintro v h1 ⟨rfl, hT1, hc1⟩
  have hM1 := xMod.w hM hc1
  have fin : ∀ (h' : XH) (L' : List Nat), xMod (xP h') → MT h' L' → wmh h h' → L' = L ++ tNum n → XW (xrm 2 0 0) mX11_sayNumber (xE 100 (fun v h' => v = none ∧ MT h' (L ++ tNum n) ∧ wmh h h') xno 0 0) 100 0 0 h' 26 [some (.ref 56), some (.int (nI n)), none, some (.int (nI 0))] [] := fun h' L' m1 m2 m3 m4 => by
    subst m4
    exact v_X11_sayNumber_26 m1 (nI n) (nI 0) ⟨fun _ => ⟨rfl, m2, m3⟩, fun q => absurd (nI_le (Nat.le_refl _) (by omega)) q⟩
  refine ⟨rfl, ?_⟩
  rw [e1]
  refine v_X11_sayNumber_8 hM1 (nI n) (nI 1) ⟨nI_ne0 (by omega) (by omega), fun c => ?_, fun c => ?_⟩
  · have c' := q1.1 c
    refine m_u (h0 := h) (u := 1) hn (by omega) (by omega) hM1 hT1 hc1 (by rw [ln]; omega) (fun h2 m2 t2 w2 => fin h2 _ m2 t2 w2 ?_)
    unfold tNum
    rw [if_neg (by omega), if_neg (by omega), Nat.div_one, List.append_assoc]; rfl
  · have c' : ¬ n ≤ 9 := fun z => c (q1.2 z)
    rw [← e1, e110]
    refine v_X11_sayNumber_8 hM1 (nI n) (nI 10) ⟨nI_ne0 (by omega) (by omega), fun d => ?_, fun d => ?_⟩
    · have d' := q10.1 d
      refine m_u (h0 := h) (u := 10) hn (by omega) (by omega) hM1 hT1 hc1 (by rw [ln]; omega) (fun h2 m2 t2 w2 => m_u (h0 := h) (u := 1) hn (by omega) (by omega) m2 t2 w2 (by rw [ln, ln]; omega) (fun h3 m3 t3 w3 => fin h3 _ m3 t3 w3 ?_))
      unfold tNum
      rw [if_neg (by omega), if_pos (by omega), Nat.div_one, List.append_assoc, List.append_assoc]; rfl
    · have d' : ¬ n / 10 ≤ 9 := fun z => d (q10.2 z)
      rw [← e10, e100]
      refine v_X11_sayNumber_8 hM1 (nI n) (nI 100) ⟨nI_ne0 (by omega) (by omega), fun f => ?_, fun f => absurd (q100.2 (by omega)) f⟩
      refine m_u (h0 := h) (u := 100) hn (by omega) (by omega) hM1 hT1 hc1 (by rw [ln]; omega) (fun h2 m2 t2 w2 => m_u (h0 := h) (u := 10) hn (by omega) (by omega) m2 t2 w2 (by rw [ln, ln]; omega) (fun h3 m3 t3 w3 => m_u (h0 := h) (u := 1) hn (by omega) (by omega) m3 t3 w3 (by rw [ln, ln, ln]; omega) (fun h4 m4 t4 w4 => fin h4 _ m4 t4 w4 ?_)))
      unfold tNum
      rw [if_pos (by omega), if_pos (by omega), Nat.div_one, List.append_assoc, List.append_assoc, List.append_assoc]; rfl
theorem m_sayLine {h : XH} {L : List Nat} {i n : Nat} (hi : i < jsN) (hn : n ≤ 999) (hM : xMod (xP h)) (hT : MT h L) (hL : L.length + jsL i + 5 ≤ 1700) : XSpec mX11_sayLine 13 0 0 100 100 [.ref 56, .ref (1000 + i), .int (nI n)] h (fun v h' => v = none ∧ MT h' (L ++ (jsT i ++ tNum n ++ [59])) ∧ wmh h h') xno := by
  have tl := jsT_len i
  have nl := tNum_len n
  refine XSpec.of rfl (by decide) (Nat.le_of_ble_eq_true rfl) rfl (v_X11_sayLine_0 hM i hi (nI n) ⟨_, m_sayWord hi hM hT (by omega), ?_⟩)
  rintro v h1 ⟨rfl, hT1, hc1⟩
  have l1 : (L ++ jsT i).length = L.length + jsL i := by rw [List.length_append, tl]
  refine ⟨rfl, _, m_sayNum hn (xMod.w hM hc1) hT1 (by omega), ?_⟩
  rintro v h2 ⟨rfl, hT2, hc2⟩
  have l2 : (L ++ jsT i ++ tNum n).length ≤ L.length + jsL i + 4 := by rw [List.length_append, l1]; omega
  refine ⟨rfl, _, m_say (xMod.w (xMod.w hM hc1) hc2) hT2 (by omega) 59, ?_⟩
  rintro v h3 ⟨rfl, hT3, hc3⟩
  refine ⟨rfl, rfl, ?_, (hc1.trans hc2).trans hc3⟩
  rw [List.append_assoc, List.append_assoc] at hT3
  rw [List.append_assoc]
  exact hT3
