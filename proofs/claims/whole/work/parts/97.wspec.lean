/-! THE BOARD WRITTEN BACK: the class, its parts -/
/-- the writer has put L: so long is it, and its wanted byte is that of L, once it is reached -/
def WT (h : XH) (L : List Nat) : Prop := xI h 55 0 = nI L.length ∧ ∀ k, k < L.length → xI h 55 2 = nI k → xI h 55 1 = nI (L.getD k 0)
def wch (h h' : XH) : Prop := ((∀ c, c ≠ 54 → c ≠ 55 → xI h' c = xI h c) ∧ xI h' 55 2 = xI h 55 2) ∧ xP h' = xP h
theorem wch.rfl {h : XH} : wch h h := ⟨⟨fun _ _ _ => Eq.refl _, Eq.refl _⟩, Eq.refl _⟩
theorem wch.trans {h h1 h2 : XH} (a : wch h h1) (b : wch h1 h2) : wch h h2 := ⟨⟨fun c q1 q2 => (b.1.1 c q1 q2).trans (a.1.1 c q1 q2), b.1.2.trans a.1.2⟩, b.2.trans a.2⟩
theorem app_in {L M : List Nat} {i : Nat} (h : i < L.length) : (L ++ M).getD i 0 = L.getD i 0 := by
  rw [List.getD_eq_getElem?_getD, List.getD_eq_getElem?_getD, List.getElem?_append_left h]
theorem app_at {L : List Nat} {c : Nat} : (L ++ [c]).getD L.length 0 = c := by
  rw [List.getD_eq_getElem?_getD, List.getElem?_append_right (Nat.le_refl _), Nat.sub_self]; rfl
theorem s_wput {h : XH} {L : List Nat} (hw : xWri (xP h)) (hT : WT h L) (hL : L.length < 1400) {c : Nat} (hc : c < 65536) : XSpec mX9_put 1 0 0 100 100 [.ref 55, .int (nI c)] h (fun v h' => v = none ∧ WT h' (L ++ [c]) ∧ wch h h') xno := by
  have el : (L ++ [c]).length = L.length + 1 := by rw [List.length_append]; rfl
  refine XSpec.of rfl (by decide) (Nat.le_of_ble_eq_true rfl) rfl (v_X9_put_0 hw (nI c) ⟨fun q => ?_, fun q => ⟨pk_charN hc, ?_⟩⟩)
  · refine ⟨rfl, ⟨?_, fun k hk e => ?_⟩, ⟨fun c q1 q2 => xI_ne q2, ?_⟩, rfl⟩
    · rw [xI_at, va_up_eq, hT.1, nI_1, el]
    · rw [xI_at, va_up_of _ _ (by decide)] at e ⊢
      rw [el] at hk
      have hk2 : k < L.length := by
        by_cases z : k = L.length
        · exact absurd (hT.1.trans (by rw [e, z])) q
        · omega
      rw [app_in hk2]
      exact hT.2 k hk2 e
    · rw [xI_at, va_up_of _ _ (by decide)]
  · rw [xSI_SI]
    refine ⟨rfl, ⟨?_, fun k hk e => ?_⟩, ⟨fun c q1 q2 => xI_ne q2, ?_⟩, rfl⟩
    · rw [xI_at, va_up_eq, va_up_of _ _ (by decide), hT.1, nI_1, el]
    · rw [xI_at, va_up_of _ _ (by decide), va_up_of _ _ (by decide)] at e
      rw [xI_at, va_up_of _ _ (by decide), va_up_eq]
      rw [el] at hk
      have hk2 : k = L.length := ((nI_eq (by omega) (by omega)).1 (hT.1.symm.trans (q.trans e))).symm
      rw [hk2, app_at]
    · rw [xI_at, va_up_of _ _ (by decide), va_up_of _ _ (by decide)]
theorem jsT_at {i k : Nat} (hk : k < jsL i) : (jsT i)[k]? = some (jsC i k).toNatClampNeg := by
  unfold jsT jsC
  unfold jsL at hk
  have e : (jsB.getD i []).getD k 0 = (jsB.getD i [])[k] := by
    rw [List.getD_eq_getElem?_getD, List.getElem?_eq_getElem hk]; rfl
  rw [List.getElem?_map, List.getElem?_eq_getElem hk, e]; rfl
theorem jsT_len (i : Nat) : (jsT i).length = jsL i := by
  unfold jsT jsL
  rw [List.length_map]
theorem take_s {l : List Nat} {k c : Nat} (h : l[k]? = some c) : l.take (k + 1) = l.take k ++ [c] := by
  rw [List.take_succ, h]; rfl
theorem xWri.w {h h' : XH} (hw : xWri (xP h)) (hc : wch h h') : xWri (xP h') := by rw [hc.2]; exact hw
theorem l_wtext {h0 : XH} {L : List Nat} {i : Nat} (hi : i < jsN) (hL : L.length + jsL i ≤ 1400) {Q : Option Value → XH → Prop} {X : String → XH → Prop} (hQ : ∀ h', WT h' (L ++ jsT i) → wch h0 h' → Q none h') : ∀ (c k : Nat) (h : XH), k + c = jsL i → xWri (xP h) → WT h (L ++ (jsT i).take k) → wch h0 h →
    XW (xrm 12 0 0) mX9_putText (xE 100 Q X 0 0) 100 0 0 h 2 [some (.ref 55), some (.ref (1000 + i)), some (.int (nI k))] [] := by
  have hl := jsL_lt i hi
  have tl := jsT_len i
  intro c
  induction c with
  | zero =>
    intro k h hk hw hT hc
    have : k = jsL i := by omega
    subst this
    refine v_X9_putText_2 hw i hi (nI (jsL i)) ⟨_, s_strlen 100 hi h, ?_⟩
    rintro v h1 ⟨rfl, e1⟩
    subst e1
    refine ⟨_, rfl, fun _ => hQ _ ?_ hc, fun q => absurd (nI_le (Nat.le_refl _) (by omega)) q⟩
    rw [List.take_of_length_le (by omega)] at hT
    exact hT
  | succ c ih =>
    intro k h hk hw hT hc
    refine v_X9_putText_2 hw i hi (nI k) ⟨_, s_strlen 100 hi h, ?_⟩
    rintro v h1 ⟨rfl, e1⟩
    subst e1
    obtain ⟨ej, hj⟩ := jsC_b i hi k (by omega)
    have ht := take_s (jsT_at (i := i) (k := k) (by omega))
    refine ⟨_, rfl, fun q => absurd q (nI_ge (by omega) (by omega)), fun _ => ⟨_, s_charAt 100 hi (show k < jsL i by omega) _, ?_⟩⟩
    rintro v h2 ⟨rfl, e2⟩
    subst e2
    refine ⟨_, rfl, ?_⟩
    rw [ej]
    refine ⟨_, s_wput hw hT (by rw [List.length_append, List.length_take]; omega) (c := (jsC i k).toNatClampNeg) (by omega), ?_⟩
    rintro v h3 ⟨rfl, hT3, hc3⟩
    rw [List.append_assoc, ← ht] at hT3
    rw [nI_1]
    exact ⟨rfl, ih (k + 1) h3 (by omega) (hw.w hc3) hT3 (hc.trans hc3)⟩
theorem s_wtext {h : XH} {L : List Nat} {i : Nat} (hi : i < jsN) (hw : xWri (xP h)) (hT : WT h L) (hL : L.length + jsL i ≤ 1400) : XSpec mX9_putText 12 0 0 100 100 [.ref 55, .ref (1000 + i)] h (fun v h' => v = none ∧ WT h' (L ++ jsT i) ∧ wch h h') xno :=
  XSpec.of rfl (by decide) (Nat.le_of_ble_eq_true rfl) rfl (v_X9_putText_0 hw i hi (l_wtext (h0 := h) hi hL (fun h' k1 k2 => ⟨rfl, k1, k2⟩) (jsL i) 0 h (by omega) hw (by rw [List.take_zero, List.append_nil]; exact hT) wch.rfl))
theorem dg (n : Nat) (hn : n < 2 ^ 30) : ((48 + (nI n - nI n / 10 * 10)).toUInt32 % 65536).toInt32 = nI (48 + n % 10) := by
  have e48 : (48 : Int32) = nI 48 := rfl
  have e10 : (10 : Int32) = nI 10 := rfl
  rw [e10, pk_rem (by omega) (by omega) (by omega), e48, nI_add]
  have := Nat.mod_lt n (show 0 < 10 by omega)
  exact (sb_byte (48 + n % 10) (by omega)).2.1
theorem dg2 (n d : Nat) (hn : n < 2 ^ 30) (hd0 : 0 < d) (hd : d < 2 ^ 30) : ((48 + (nI n / nI d - nI n / nI d / 10 * 10)).toUInt32 % 65536).toInt32 = nI (48 + n / d % 10) := by
  have h1 : n / d ≤ n := Nat.div_le_self _ _
  rw [pk_div (by omega) hd0 (by omega)]
  exact dg (n / d) (by omega)
theorem tNum_len (n : Nat) : (tNum n).length ≤ 4 := by
  unfold tNum
  by_cases a : 100 ≤ n <;> by_cases b : 10 ≤ n <;> simp [a, b]
theorem s_wnum {h : XH} {L : List Nat} {n : Nat} (hn : n ≤ 999) (hw : xWri (xP h)) (hT : WT h L) (hL : L.length + 4 ≤ 1400) : XSpec mX9_putNumber 2 0 0 100 100 [.ref 55, .int (nI n)] h (fun v h' => v = none ∧ WT h' (L ++ tNum n) ∧ wch h h') xno := by
  have c100 : nI n < 100 ↔ n < 100 := nI_ltI (b := 100) (by omega) (by omega)
  have c10 : nI n < 10 ↔ n < 10 := nI_ltI (b := 10) (by omega) (by omega)
  have d1 : ((48 + (nI n - nI n / 10 * 10)).toUInt32 % 65536).toInt32 = nI (48 + n % 10) := dg n (by omega)
  have d10 : ((48 + (nI n / 10 - nI n / 10 / 10 * 10)).toUInt32 % 65536).toInt32 = nI (48 + n / 10 % 10) := dg2 n 10 (by omega) (by omega) (by omega)
  have d100 : ((48 + (nI n / 100 - nI n / 100 / 10 * 10)).toUInt32 % 65536).toInt32 = nI (48 + n / 100 % 10) := dg2 n 100 (by omega) (by omega) (by omega)
  refine XSpec.of rfl (by decide) (Nat.le_of_ble_eq_true rfl) rfl (v_X9_putNumber_0 hw (nI n) ⟨_, s_wput hw hT (by omega) (c := 32) (by omega), ?_⟩)
  rw [c100, c10, d1, d10, d100]
  rintro v h1 ⟨rfl, hT1, hc1⟩
  have hw1 := hw.w hc1
  have l1 : (L ++ [32]).length = L.length + 1 := by rw [List.length_append]; rfl
  refine ⟨rfl, fun c => ⟨fun c2 => ⟨_, s_wput hw1 hT1 (by omega) (c := 48 + n % 10) (by omega), ?_⟩, fun c2 => ⟨_, s_wput hw1 hT1 (by omega) (c := 48 + n / 10 % 10) (by omega), ?_⟩⟩, fun c => ⟨_, s_wput hw1 hT1 (by omega) (c := 48 + n / 100 % 10) (by omega), ?_⟩⟩
  · rintro v h2 ⟨rfl, hT2, hc2⟩
    refine ⟨rfl, rfl, ?_, hc1.trans hc2⟩
    unfold tNum
    rw [if_neg (by omega), if_neg (by omega)]
    rw [List.append_assoc] at hT2
    exact hT2
  · rintro v h2 ⟨rfl, hT2, hc2⟩
    have l2 : (L ++ [32] ++ [48 + n / 10 % 10]).length = L.length + 2 := by rw [List.length_append, l1]; rfl
    refine ⟨rfl, _, s_wput (hw1.w hc2) hT2 (by omega) (c := 48 + n % 10) (by omega), ?_⟩
    rintro v h3 ⟨rfl, hT3, hc3⟩
    refine ⟨rfl, rfl, ?_, (hc1.trans hc2).trans hc3⟩
    unfold tNum
    rw [if_neg (by omega), if_pos (by omega)]
    rw [List.append_assoc, List.append_assoc] at hT3
    exact hT3
  · rintro v h2 ⟨rfl, hT2, hc2⟩
    have l2 : (L ++ [32] ++ [48 + n / 100 % 10]).length = L.length + 2 := by rw [List.length_append, l1]; rfl
    refine ⟨rfl, fun c2 => absurd c2 (by omega), fun c2 => ⟨_, s_wput (hw1.w hc2) hT2 (by omega) (c := 48 + n / 10 % 10) (by omega), ?_⟩⟩
    rintro v h3 ⟨rfl, hT3, hc3⟩
    have l3 : (L ++ [32] ++ [48 + n / 100 % 10] ++ [48 + n / 10 % 10]).length = L.length + 3 := by rw [List.length_append, l2]; rfl
    refine ⟨rfl, _, s_wput ((hw1.w hc2).w hc3) hT3 (by omega) (c := 48 + n % 10) (by omega), ?_⟩
    rintro v h4 ⟨rfl, hT4, hc4⟩
    refine ⟨rfl, rfl, ?_, ((hc1.trans hc2).trans hc3).trans hc4⟩
    unfold tNum
    rw [if_pos (by omega), if_pos (by omega)]
    rw [List.append_assoc, List.append_assoc, List.append_assoc] at hT4
    exact hT4
theorem s_wline {h : XH} {L : List Nat} {i n : Nat} (hi : i < jsN) (hn : n ≤ 999) (hw : xWri (xP h)) (hT : WT h L) (hL : L.length + jsL i + 5 ≤ 1400) : XSpec mX9_putLine 13 0 0 100 100 [.ref 55, .ref (1000 + i), .int (nI n)] h (fun v h' => v = none ∧ WT h' (L ++ (jsT i ++ tNum n ++ [59])) ∧ wch h h') xno := by
  have tl := jsT_len i
  have nl := tNum_len n
  refine XSpec.of rfl (by decide) (Nat.le_of_ble_eq_true rfl) rfl (v_X9_putLine_0 hw i hi (nI n) ⟨_, s_wtext hi hw hT (by omega), ?_⟩)
  rintro v h1 ⟨rfl, hT1, hc1⟩
  have l1 : (L ++ jsT i).length = L.length + jsL i := by rw [List.length_append, tl]
  refine ⟨rfl, _, s_wnum hn (hw.w hc1) hT1 (by omega), ?_⟩
  rintro v h2 ⟨rfl, hT2, hc2⟩
  have l2 : (L ++ jsT i ++ tNum n).length ≤ L.length + jsL i + 4 := by rw [List.length_append, l1]; omega
  refine ⟨rfl, _, s_wput ((hw.w hc1).w hc2) hT2 (by omega) (c := 59) (by omega), ?_⟩
  rintro v h3 ⟨rfl, hT3, hc3⟩
  refine ⟨rfl, rfl, ?_, (hc1.trans hc2).trans hc3⟩
  rw [List.append_assoc, List.append_assoc] at hT3
  rw [List.append_assoc]
  exact hT3
