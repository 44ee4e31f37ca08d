/-! THE BOARD WRITTEN BACK: Writer.write -/
def HW (h : XH) (r : Nat) (b : BD) : Prop := CRl h r b ∧ xRul r (xP h) ∧ xWri (xP h)
theorem HW.w {h h' : XH} {r : Nat} {b : BD} (hH : HW h r b) (hc : wch h h') : HW h' r b := by
  obtain ⟨h1, h2, h3⟩ := hH
  have hr := h2.1
  exact ⟨h1.of (fun c q1 q2 _ => hc.1.1 c (by omega) (by omega)), by rw [hc.2]; exact h2, by rw [hc.2]; exact h3⟩
def fwG (Q : Option Value → XH → Prop) (r : Nat) (h8 : XH) : Prop := (xP h8 r 8 = some (r + 1)) ∧ (((xI h8 (r + 1) 0) = 0 → Q none h8) ∧ (¬ (xI h8 (r + 1) 0) = 0 → (xP h8 r 8 = some (r + 1)) ∧ (∃ Q1, XSpec mX9_putGoes 13 0 0 100 100 [.ref 55, .ref (r + 1)] h8 Q1 xno ∧ ∀ v h9, Q1 v h9 → v = none ∧ (Q none h9))))
def fwP (Q : Option Value → XH → Prop) (r : Nat) (h7 : XH) : Prop := ∃ Q1, XSpec mX9_putLine 13 0 0 100 100 [.ref 55, .ref (1000 + 27), .int (xI h7 r 6)] h7 Q1 xno ∧ ∀ v h8, Q1 v h8 → v = none ∧ fwG Q r h8
def fwM (Q : Option Value → XH → Prop) (r : Nat) (h7 : XH) : Prop := ((xI h7 r 5) = 0 → fwP Q r h7) ∧ (¬ (xI h7 r 5) = 0 → ∃ Q1, XSpec mX9_putText 12 0 0 100 100 [.ref 55, .ref (1000 + 26)] h7 Q1 xno ∧ ∀ v h10, Q1 v h10 → v = none ∧ fwP Q r h10)
def fwA (Q : Option Value → XH → Prop) (r : Nat) (h7 : XH) : Prop := ((xI h7 r 4) = 0 → fwM Q r h7) ∧ (¬ (xI h7 r 4) = 0 → ∃ Q1, XSpec mX9_putLine 13 0 0 100 100 [.ref 55, .ref (1000 + 25), .int (xI h7 r 4)] h7 Q1 xno ∧ ∀ v h13, Q1 v h13 → v = none ∧ fwM Q r h13)
theorem f_wG {Q : Option Value → XH → Prop} {h0 h : XH} {r : Nat} {b : BD} {L : List Nat} (hb : GoodBD b) (hH : HW h r b) (hT : WT h L) (hc : wch h0 h) (hL : L.length ≤ 394) (hQ : ∀ h', WT h' (L ++ tGo b) → wch h0 h' → Q none h') : fwG Q r h := by
  obtain ⟨⟨-, -, -, -, -, -, -, -, -, -, c10, c11, c12⟩, hr, hw⟩ := hH
  obtain ⟨-, -, -, -, t1, t2, t3, t4⟩ := hb
  unfold fwG
  rw [c10]
  refine ⟨hr.2.1, fun c => hQ h ?_ hc, fun c => ⟨hr.2.1, _, s_wgo (f := r + 1) (by have := hr.1; omega) hr.2.2.2.2.2.2 c11 t2 c12 t4 hw hT (by omega), ?_⟩⟩
  · have z : bTd b = 0 := (nI_eq (b := 0) (by omega) (by omega)).1 c
    unfold tGo
    rw [if_pos z, List.append_nil]; exact hT
  · rintro v h9 ⟨rfl, hT9, hc9⟩
    refine ⟨rfl, hQ h9 ?_ (hc.trans hc9)⟩
    unfold tGo
    rw [if_neg (fun z => c (by rw [z]; rfl))]; exact hT9
theorem f_wP {Q : Option Value → XH → Prop} {h0 h : XH} {r : Nat} {b : BD} {L : List Nat} (hb : GoodBD b) (hH : HW h r b) (hT : WT h L) (hc : wch h0 h) (hL : L.length ≤ 383) (hQ : ∀ h', WT h' (L ++ tPc b ++ tGo b) → wch h0 h' → Q none h') : fwP Q r h := by
  have e6 := hH.1.2.2.2.2.1
  have hp := hb.2.2.1
  have el : jsL 27 = 6 := rfl
  have lp := tPc_len b
  unfold fwP
  rw [e6]
  refine ⟨_, s_wline (i := 27) (by decide) (show bPc b ≤ 999 by omega) hH.2.2 hT (by omega), ?_⟩
  rintro v h8 ⟨rfl, hT8, hc8⟩
  rw [jsT_w.2.2.2.2.2.2.2.2.2.1] at hT8
  have e : [112, 105, 101, 99, 101, 115] ++ tNum (bPc b) ++ [59] = tPc b := rfl
  rw [e] at hT8
  exact ⟨rfl, f_wG hb (hH.w hc8) hT8 (hc.trans hc8) (by rw [List.length_append]; omega) hQ⟩
theorem f_wM {Q : Option Value → XH → Prop} {h0 h : XH} {r : Nat} {b : BD} {L : List Nat} (hb : GoodBD b) (hH : HW h r b) (hT : WT h L) (hc : wch h0 h) (hL : L.length ≤ 378) (hQ : ∀ h', WT h' (L ++ tMt b ++ tPc b ++ tGo b) → wch h0 h' → Q none h') : fwM Q r h := by
  have e5 := hH.1.2.2.2.1
  have hm := hb.2.2.2.1
  have el : jsL 26 = 5 := rfl
  unfold fwM
  rw [e5]
  refine ⟨fun c => f_wP hb hH hT hc (by omega) (fun h' k1 k2 => hQ h' ?_ k2), fun c => ⟨_, s_wtext (i := 26) (by decide) hH.2.2 hT (by omega), ?_⟩⟩
  · have z : bMt b = 0 := (nI_eq (b := 0) (by omega) (by omega)).1 c
    unfold tMt
    rw [if_pos z, List.append_nil]; exact k1
  · rintro v h10 ⟨rfl, hT10, hc10⟩
    have e : jsT 26 = tMt b := by
      unfold tMt
      rw [if_neg (fun z => c (by rw [z]; rfl))]
      exact jsT_w.2.2.2.2.2.2.2.2.1
    rw [e] at hT10
    have lm := tMt_len b
    exact ⟨rfl, f_wP hb (hH.w hc10) hT10 (hc.trans hc10) (by rw [List.length_append]; omega) hQ⟩
theorem f_wA {Q : Option Value → XH → Prop} {h0 h : XH} {r : Nat} {b : BD} {L : List Nat} (hb : GoodBD b) (hH : HW h r b) (hT : WT h L) (hc : wch h0 h) (hL : L.length ≤ 368) (hQ : ∀ h', WT h' (L ++ tAg b ++ tMt b ++ tPc b ++ tGo b) → wch h0 h' → Q none h') : fwA Q r h := by
  have e4 := hH.1.2.2.1
  have ha := hb.2.1
  have el : jsL 25 = 5 := rfl
  unfold fwA
  rw [e4]
  refine ⟨fun c => f_wM hb hH hT hc (by omega) (fun h' k1 k2 => hQ h' ?_ k2), fun c => ⟨_, s_wline (i := 25) (by decide) (show bAg b ≤ 999 by omega) hH.2.2 hT (by omega), ?_⟩⟩
  · have z : bAg b = 0 := (nI_eq (b := 0) (by omega) (by omega)).1 c
    unfold tAg
    rw [if_pos z, List.append_nil]; exact k1
  · rintro v h10 ⟨rfl, hT10, hc10⟩
    have e : jsT 25 ++ tNum (bAg b) ++ [59] = tAg b := by
      unfold tAg
      rw [if_neg (fun z => c (by rw [z]; rfl)), jsT_w.2.2.2.2.2.2.2.1]
    rw [e] at hT10
    have lm := tAg_len b
    exact ⟨rfl, f_wM hb (hH.w hc10) hT10 (hc.trans hc10) (by rw [List.length_append]; omega) hQ⟩
theorem s_wend {h : XH} {b : BD} (hE : bE b ≤ 2) : XSpec mX9_endLine 1 0 0 100 100 [.int (nI (bE b))] h (fun v h' => (∃ i, v = some (.ref (1000 + i)) ∧ i < jsN ∧ jsT i = tEnd b) ∧ h' = h) xno := by
  obtain ⟨-, -, -, -, j0, j1, j2, -⟩ := jsT_w
  refine XSpec.of rfl (by decide) (Nat.le_of_ble_eq_true rfl) rfl (v_X9_endLine_0 (nI (bE b)) ⟨fun c => ⟨fun c2 => ⟨⟨24, rfl, by decide, ?_⟩, rfl⟩, fun c2 => ⟨⟨23, rfl, by decide, ?_⟩, rfl⟩⟩, fun c => ⟨⟨22, rfl, by decide, ?_⟩, rfl⟩⟩)
  · unfold tEnd
    rw [if_neg (fun z => c (by rw [z]; rfl)), if_neg (fun z => c2 (by rw [z]; rfl))]; exact j2
  · have z : bE b = 1 := (nI_eq (b := 1) (by omega) (by omega)).1 c2
    unfold tEnd
    rw [z, if_neg (by decide), if_pos rfl]; exact j1
  · have z : bE b = 0 := (nI_eq (b := 0) (by omega) (by omega)).1 c
    unfold tEnd
    rw [z, if_pos rfl]; exact j0
theorem l_wex {h0 : XH} {r : Nat} {b : BD} {P : List Nat} (hb : GoodBD b) (hP : P.length ≤ 37) {Q : Option Value → XH → Prop} {X : String → XH → Prop} (hQ : ∀ h', WT h' (P ++ tEx b (bKx b) ++ tEnd b ++ tAg b ++ tMt b ++ tPc b ++ tGo b) → wch h0 h' → Q none h') : ∀ (c k : Nat) (h : XH), k + c = bKx b → HW h r b → WT h (P ++ tEx b k) → wch h0 h →
    XW (xrm 14 0 0) mX9_write (xE 100 Q X 0 0) 100 0 0 h 57 [some (.ref 55), some (.ref r), none, some (.int (nI k))] [] := by
  have kx := hb.1.2.2.1
  have b7 := hb.1.2.2.2.2.2.2.1
  have hE := hb.1.2.2.2.1
  have l2 := hb.1.2.1
  intro c
  induction c with
  | zero =>
    intro k h hk hH hT hc
    have : k = bKx b := by omega
    subst this
    have hr := hH.2.1.1
    refine v_X9_write_57 hH.2.2 r hH.2.1 (by omega) (nI (bKx b)) ?_
    rw [hH.1.2.2.2.2.2.1, hH.1.2.1]
    refine ⟨fun _ => ⟨_, s_wend hE, ?_⟩, fun q => absurd (nI_le (Nat.le_refl _) (by omega)) q⟩
    rintro v h6 ⟨⟨i, rfl, hi, ei⟩, e6⟩
    subst e6
    have le := tEnd_len b
    have lx := tEx_len b (bKx b)
    have li := jsT_len i
    rw [ei] at li
    refine ⟨_, rfl, _, s_wtext hi hH.2.2 hT (by rw [List.length_append]; omega), ?_⟩
    rintro v h7 ⟨rfl, hT7, hc7⟩
    rw [ei] at hT7
    have hA : fwA Q r h7 := f_wA hb (hH.w hc7) hT7 (hc.trans hc7) (by rw [List.length_append, List.length_append]; omega) hQ
    exact ⟨rfl, hA⟩
  | succ c ih =>
    intro k h hk hH hT hc
    have hr := hH.2.1.1
    have b7k := b7 k (by omega)
    have lx := tEx_len b k
    have e20 : jsL 20 = 4 := rfl
    have e21 : jsL 21 = 0 := rfl
    refine v_X9_write_57 hH.2.2 r hH.2.1 (by omega) (nI k) ?_
    rw [hH.1.2.2.2.2.2.1]
    refine ⟨fun q => absurd q (nI_ge (by omega) (by omega)), fun _ => ⟨_, s_wtext (i := 20) (by decide) hH.2.2 hT (by rw [List.length_append]; omega), ?_⟩⟩
    rintro v h1 ⟨rfl, hT1, hc1⟩
    have hH1 := hH.w hc1
    have l1 : (P ++ tEx b k ++ jsT 20).length = P.length + (tEx b k).length + 4 := by rw [List.length_append, List.length_append]; rfl
    refine ⟨rfl, _, s_X5_footOf 100 _ r hH1.2.1 (by omega) (nI k), ?_⟩
    rintro v h2 ⟨rfl, e2⟩
    subst e2
    rw [iz_rd (M := 24) rfl (by omega), (hH1.1.2.2.2.2.2.2.1 k (by omega)).1]
    refine ⟨_, rfl, _, s_wnum (show bFt b k ≤ 999 by omega) hH1.2.2 hT1 (by omega), ?_⟩
    rintro v h3 ⟨rfl, hT3, hc3⟩
    have hH3 := hH1.w hc3
    have n3 := tNum_len (bFt b k)
    have l3 : (P ++ tEx b k ++ jsT 20 ++ tNum (bFt b k)).length ≤ P.length + (tEx b k).length + 8 := by rw [List.length_append, l1]; omega
    refine ⟨rfl, _, s_X5_headOf 100 _ r hH3.2.1 (by omega) (nI k), ?_⟩
    rintro v h4 ⟨rfl, e4⟩
    subst e4
    rw [iz_rd (M := 24) rfl (by omega), (hH3.1.2.2.2.2.2.2.1 k (by omega)).2]
    refine ⟨_, rfl, _, s_wline (i := 21) (by decide) (show bHd b k ≤ 999 by omega) hH3.2.2 hT3 (by omega), ?_⟩
    rintro v h5 ⟨rfl, hT5, hc5⟩
    rw [nI_1]
    refine ⟨rfl, ih (k + 1) h5 (by omega) (hH3.w hc5) ?_ (((hc.trans hc1).trans hc3).trans hc5)⟩
    rw [jsT_w.2.2.1, jsT_w.2.2.2.1] at hT5
    rw [tEx_s]
    simp only [List.append_assoc, List.nil_append] at hT5 ⊢
    exact hT5
theorem l_wdie {h0 : XH} {r : Nat} {b : BD} (hb : GoodBD b) {Q : Option Value → XH → Prop} {X : String → XH → Prop} (hQ : ∀ h', WT h' (bText b) → wch h0 h' → Q none h') : ∀ (c k : Nat) (h : XH), k + c = 6 → HW h r b → WT h (tHd b ++ [100, 105, 101] ++ tDie b k) → wch h0 h →
    XW (xrm 14 0 0) mX9_write (xE 100 Q X 0 0) 100 0 0 h 28 [some (.ref 55), some (.ref r), none, some (.int (nI (k + 1)))] [] := by
  have o9 := hb.1.2.2.2.2.1.1
  have lh := tHd_len b
  intro c
  induction c with
  | zero =>
    intro k h hk hH hT hc
    have : k = 6 := by omega
    subst this
    have hr := hH.2.1.1
    have ld := tDie_len b 6
    have l1 : (tHd b ++ [100, 105, 101] ++ tDie b 6).length ≤ 36 := by
      rw [List.length_append, List.length_append]
      show _ + 3 + _ ≤ 36
      omega
    refine v_X9_write_28 hH.2.2 r hH.2.1 (by omega) (nI 7) ⟨fun _ => ⟨_, s_wput hH.2.2 hT (by omega) (c := 59) (by omega), ?_⟩, fun q => absurd (by decide) q⟩
    rintro v h3 ⟨rfl, hT3, hc3⟩
    refine ⟨rfl, l_wex (h0 := h0) (P := tHd b ++ [100, 105, 101] ++ tDie b 6 ++ [59]) hb (by rw [List.length_append]; show _ + 1 ≤ 37; omega) (fun h' k1 k2 => hQ h' (by rw [bText_eq]; exact k1) k2) (bKx b) 0 h3 (by omega) (hH.w hc3) ?_ (hc.trans hc3)⟩
    have : tEx b 0 = [] := rfl
    rw [this, List.append_nil]; exact hT3
  | succ c ih =>
    intro k h hk hH hT hc
    have hr := hH.2.1.1
    have ld := tDie_len b k
    have ok := o9 (k + 1) (by omega) (by omega)
    have l1 : (tHd b ++ [100, 105, 101] ++ tDie b k).length ≤ 36 := by
      rw [List.length_append, List.length_append]
      show _ + 3 + _ ≤ 36
      omega
    refine v_X9_write_28 hH.2.2 r hH.2.1 (by omega) (nI (k + 1)) ⟨fun q => absurd q (fun q => ?_), fun _ => ⟨_, s_X5_oddsOf 100 h r hH.2.1 (by omega) (nI (k + 1)), ?_⟩⟩
    · have := (nI_ltI (a := 6) (by omega) (by omega)).1 q
      omega
    rintro v h4 ⟨rfl, e4⟩
    subst e4
    rw [iz_rd (M := 7) rfl (by omega), hH.1.1.2.2.2 (k + 1) (by omega) (by omega)]
    refine ⟨_, rfl, _, s_wnum (show bOd b (k + 1) ≤ 999 by omega) hH.2.2 hT (by omega), ?_⟩
    rintro v h5 ⟨rfl, hT5, hc5⟩
    rw [nI_1]
    refine ⟨rfl, ih (k + 1) h5 (by omega) (hH.w hc5) ?_ (hc.trans hc5)⟩
    rw [tDie_s, ← List.append_assoc]
    exact hT5
theorem s_write {h : XH} {r : Nat} {b : BD} (hb : GoodBD b) (hH : HW h r b) (w : Int32) : XSpec mX9_write 14 0 0 100 100 [.ref 55, .ref r, .int w] h (fun v h' => v = none ∧ WT h' (bText b) ∧ xI h' 55 2 = w ∧ (∀ c, c ≠ 54 → c ≠ 55 → xI h' c = xI h c) ∧ xP h' = xP h) xno := by
  have hr := hH.2.1.1
  have l2 := hb.1.2.1
  have e18 : jsL 18 = 4 := rfl
  have e19 : jsL 19 = 3 := rfl
  have lh := tHd_len b
  refine XSpec.of rfl (by decide) (Nat.le_of_ble_eq_true rfl) rfl (v_X9_write_0 hH.2.2 r hH.2.1 (by omega) w ?_)
  rw [xSI_SI]
  obtain ⟨h0, e0⟩ : ∃ h0, h0 = xSI 55 (va_up (va_up (xI h 55) 0 0) 2 w) h := ⟨_, rfl⟩
  rw [← e0]
  have hI0 : ∀ c, c ≠ 55 → xI h0 c = xI h c := fun c q => by rw [e0]; exact xI_ne q
  have hP0 : xP h0 = xP h := by rw [e0]; rfl
  have hT0 : WT h0 [] := ⟨by rw [e0, xI_at, va_up_of _ _ (by decide), va_up_eq]; rfl, fun i hi => absurd hi (Nat.not_lt_zero i)⟩
  have hw0 : xI h0 55 2 = w := by rw [e0, xI_at, va_up_eq]
  have hH0 : HW h0 r b := ⟨hH.1.of (fun c q1 q2 _ => hI0 c (by omega)), by rw [hP0]; exact hH.2.1, hH.2.2⟩
  rw [hH.1.1.1]
  refine ⟨_, s_wline (i := 18) (by decide) (show bLast b ≤ 999 by omega) hH0.2.2 hT0 (by rw [e18]; show 0 + 4 + 5 ≤ 1400; omega), ?_⟩
  rintro v h1 ⟨rfl, hT1, hc1⟩
  have e1 : [] ++ (jsT 18 ++ tNum (bLast b) ++ [59]) = tHd b := by rw [jsT_w.1]; rfl
  rw [e1] at hT1
  refine ⟨rfl, _, s_wtext (i := 19) (by decide) (hH0.w hc1).2.2 hT1 (by omega), ?_⟩
  rintro v h2 ⟨rfl, hT2, hc2⟩
  rw [jsT_w.2.1] at hT2
  refine ⟨rfl, l_wdie (h0 := h0) hb (fun h' k1 k2 => ⟨rfl, k1, k2.1.2.trans hw0, fun c q1 q2 => (k2.1.1 c q1 q2).trans (hI0 c q2), k2.2.trans hP0⟩) 6 0 h2 (by omega) ((hH0.w hc1).w hc2) ?_ (hc1.trans hc2)⟩
  have : tDie b 0 = [] := rfl
  rw [this, List.append_nil]; exact hT2
theorem bText_len {b : BD} (hb : GoodBD b) : (bText b).length ≤ 1390 := by
  have h1 := tHd_len b
  have h2 := tDie_len b 6
  have h3 := tEx_len b (bKx b)
  have h4 := tEnd_len b
  have h5 := tAg_len b
  have h6 := tMt_len b
  have h7 := tPc_len b
  have h8 := tGo_len b
  have kx := hb.1.2.2.1
  have tl := hb.2.2.2.2.2.1
  rw [bText_eq]
  simp only [List.length_append, List.length_cons, List.length_nil]
  omega
def wrB (b : BD) (w : Int32) : Bool := decide (w = -1) || inR w 0 ((bText b).length - 1 : Int)
def wtA (b : BD) (w : Int32) : Int32 := if w = -1 then nI (bText b).length else nI ((bText b).getD w.toNatClampNeg 0)
theorem CI.wr {h h' : XH} {r : Nat} {s : SG} (hC : CI h r s) (hI : ∀ c, c ≠ 54 → c ≠ 55 → xI h' c = xI h c) (hP : xP h' = xP h) : CI h' r s ∧ cch h h' := by
  have hr := hC.r
  obtain ⟨c1, c2, c3, ⟨c4, c5⟩, c6, c7, c8⟩ := hC
  refine ⟨⟨by rw [hP]; exact c1, c2.of (h := h) (fun c _ => by rw [hP]) (fun c hc => hI c (by omega) (by omega)), c3.of (h := h) (fun c q1 q2 => hI c (by omega) (by omega)), ⟨by rw [hI 0 (by omega) (by omega)]; exact c4, fun z => (c5 z).of (h := h) (fun c q1 q2 => hI c (by omega) (by omega))⟩, ?_, ?_, c8⟩, fun c q => ⟨hI c (by omega) (by omega), by rw [hP]⟩⟩
  · unfold CKr at *
    rw [hI 39 (by omega) (by omega), hI 40 (by omega) (by omega)]; exact c6
  · unfold CTp at *
    rw [hI 0 (by omega) (by omega), hI 1 (by omega) (by omega)]; exact c7
theorem wrB_m1 {b : BD} {w : Int32} (c : w = -1) : kd1 (wrB b w) = 0 := kd1_t (by unfold wrB; rw [decide_eq_true c]; rfl)
theorem wrB_no {b : BD} {w : Int32} (c : ¬ w = -1) (h : w.toInt < 0 ∨ ((bText b).length : Int) ≤ w.toInt) : kd1 (wrB b w) = 1 := kd1_f (by
  unfold wrB
  rw [decide_eq_false c, inR_f.2 (by omega)]; rfl)
theorem wrB_yes {b : BD} {w : Int32} (h1 : ¬ w.toInt < 0) (h2 : w.toInt < ((bText b).length : Int)) : kd1 (wrB b w) = 0 := kd1_t (by
  unfold wrB
  rw [inR_t.2 (by omega), Bool.or_true])
theorem s_X10_written {h : XH} {r : Nat} {s : SG} (hC : CI h r s) (hg : GoodS s) (w : Int32) : XSpec mX10_written 15 1 6 100 100 [.ref 0, .int w] h (fun v h' => kd1 (wrB (sB s) w) = 0 ∧ v = some (.int (wtA (sB s) w)) ∧ CI h' r s ∧ cch h h') (fun E h' => kd1 (wrB (sB s) w) = 1 ∧ E = eN ∧ CI h' r s ∧ cch h h') := by
  have hl := bText_len hg.1
  have en := nI_toInt (show (bText (sB s)).length < 2 ^ 31 by omega)
  refine XSpec.of rfl (by decide) (Nat.le_of_ble_eq_true rfl) rfl (v_X10_written_0 r hC.bp w ⟨_, s_write hg.1 ⟨hC.rl, hC.rul, hC.1.2.2.2.2.2.2.2.2.2.1⟩ w, ?_⟩)
  rintro v h1 ⟨rfl, hT, hw1, hI, hP⟩
  obtain ⟨k1, k2⟩ := hC.wr hI hP
  have p15 : xP h1 0 15 = some 55 := by rw [hP]; exact hC.1.1.2.2.2.2.2.2.2.2.2.2.2.2
  rw [hT.1]
  refine ⟨rfl, fun c1 => ⟨fun c2 => ?_, fun c2 => ⟨p15, fun c3 => ⟨p15, ?_⟩, fun c3 => ?_⟩⟩, fun c1 => ⟨p15, wrB_m1 c1, by unfold wtA; rw [if_pos c1], k1, k2⟩⟩
  · rw [i32_lt0] at c2
    exact ⟨wrB_no c1 (Or.inl c2), rfl, k1, k2⟩
  · rw [i32_lt0] at c2
    rw [i32_lt, en] at c3
    refine ⟨wrB_yes c2 (by omega), ?_, k1, k2⟩
    obtain ⟨k, hk, rfl⟩ := inR_lt (x := w) (inR_t.2 (show 0 ≤ w.toInt ∧ w.toInt ≤ ((bText (sB s)).length : Int) - 1 by omega))
    unfold wtA
    rw [if_neg c1, nI_clamp (by omega), hT.2 k hk hw1]
  · rw [i32_lt, en] at c3
    exact ⟨wrB_no c1 (Or.inr (by omega)), rfl, k1, k2⟩
