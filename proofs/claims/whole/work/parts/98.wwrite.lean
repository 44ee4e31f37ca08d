/-! THE BOARD WRITTEN BACK: the class, the whole -/
theorem jsT_w : jsT 18 = [108, 97, 115, 116] ∧ jsT 19 = [100, 105, 101] ∧ jsT 20 = [101, 120, 105, 116] ∧ jsT 21 = [] ∧ jsT 22 = [101, 110, 100, 32, 115, 116, 97, 121, 59] ∧ jsT 23 = [101, 110, 100, 32, 98, 97, 99, 107, 59] ∧ jsT 24 = [101, 110, 100, 32, 105, 110, 59] ∧ jsT 25 = [97, 103, 97, 105, 110] ∧ jsT 26 = [109, 101, 101, 116, 59] ∧ jsT 27 = [112, 105, 101, 99, 101, 115] ∧ jsT 28 = [103, 111, 101, 115, 32] := by decide
def tDie (b : BD) (k : Nat) : List Nat := (List.range k).flatMap (fun f => tNum (bOd b (f + 1)))
def tEx (b : BD) (k : Nat) : List Nat := (List.range k).flatMap (fun k => [101, 120, 105, 116] ++ tNum (bFt b k) ++ tNum (bHd b k) ++ [59])
def tEnd (b : BD) : List Nat := if bE b = 0 then [101, 110, 100, 32, 115, 116, 97, 121, 59] else if bE b = 1 then [101, 110, 100, 32, 98, 97, 99, 107, 59] else [101, 110, 100, 32, 105, 110, 59]
def tAg (b : BD) : List Nat := if bAg b = 0 then [] else [97, 103, 97, 105, 110] ++ tNum (bAg b) ++ [59]
def tMt (b : BD) : List Nat := if bMt b = 0 then [] else [109, 101, 101, 116, 59]
def tPc (b : BD) : List Nat := [112, 105, 101, 99, 101, 115] ++ tNum (bPc b) ++ [59]
def tGo (b : BD) : List Nat := if bTd b = 0 then [] else [103, 111, 101, 115, 32] ++ (List.range (bTl b)).map (bTx b) ++ [59]
def tHd (b : BD) : List Nat := [108, 97, 115, 116] ++ tNum (bLast b) ++ [59]
theorem bText_eq (b : BD) : bText b = tHd b ++ [100, 105, 101] ++ tDie b 6 ++ [59] ++ tEx b (bKx b) ++ tEnd b ++ tAg b ++ tMt b ++ tPc b ++ tGo b := by
  unfold bText tHd tDie tEx tEnd tAg tMt tPc tGo
  simp only [List.append_assoc]
theorem tDie_s (b : BD) (k : Nat) : tDie b (k + 1) = tDie b k ++ tNum (bOd b (k + 1)) := by
  unfold tDie
  rw [List.range_succ, List.flatMap_append, List.flatMap_singleton]
theorem tEx_s (b : BD) (k : Nat) : tEx b (k + 1) = tEx b k ++ ([101, 120, 105, 116] ++ tNum (bFt b k) ++ tNum (bHd b k) ++ [59]) := by
  unfold tEx
  rw [List.range_succ, List.flatMap_append, List.flatMap_singleton]
theorem tDie_len (b : BD) : ∀ k, (tDie b k).length ≤ 4 * k := by
  intro k
  induction k with
  | zero => exact Nat.le_refl _
  | succ k ih =>
    have := tNum_len (bOd b (k + 1))
    rw [tDie_s, List.length_append]
    omega
theorem tEx_len (b : BD) : ∀ k, (tEx b k).length ≤ 13 * k := by
  intro k
  induction k with
  | zero => exact Nat.le_refl _
  | succ k ih =>
    have := tNum_len (bFt b k)
    have := tNum_len (bHd b k)
    rw [tEx_s, List.length_append, List.length_append, List.length_append, List.length_append]
    show _ + (4 + _ + _ + 1) ≤ _
    omega
theorem tHd_len (b : BD) : (tHd b).length ≤ 9 := by
  have := tNum_len (bLast b)
  unfold tHd
  rw [List.length_append, List.length_append]
  show 4 + _ + 1 ≤ 9
  omega
theorem tEnd_len (b : BD) : (tEnd b).length ≤ 9 := by
  unfold tEnd
  split
  · exact Nat.le_refl _
  · split
    · exact Nat.le_refl _
    · show 7 ≤ 9
      omega
theorem tAg_len (b : BD) : (tAg b).length ≤ 10 := by
  have := tNum_len (bAg b)
  unfold tAg
  split
  · show 0 ≤ 10
    omega
  · rw [List.length_append, List.length_append]
    show 5 + _ + 1 ≤ 10
    omega
theorem tMt_len (b : BD) : (tMt b).length ≤ 5 := by
  unfold tMt
  split
  · show 0 ≤ 5
    omega
  · exact Nat.le_refl _
theorem tPc_len (b : BD) : (tPc b).length ≤ 11 := by
  have := tNum_len (bPc b)
  unfold tPc
  rw [List.length_append, List.length_append]
  show 6 + _ + 1 ≤ 11
  omega
theorem tGo_len (b : BD) : (tGo b).length ≤ 6 + bTl b := by
  unfold tGo
  split
  · show 0 ≤ _
    omega
  · rw [List.length_append, List.length_append, List.length_map, List.length_range]
    show 5 + _ + 1 ≤ _
    omega
theorem mapr_s (f : Nat → Nat) (k : Nat) : (List.range (k + 1)).map f = (List.range k).map f ++ [f k] := by
  rw [List.range_succ, List.map_append]; rfl
theorem wch.at {h h' : XH} (hc : wch h h') {c : Nat} (q1 : c ≠ 54) (q2 : c ≠ 55) : xI h' c = xI h c := hc.1.1 c q1 q2
theorem l_wgo {h0 : XH} {L : List Nat} {f tl : Nat} {tx : Nat → Nat} (hf0 : f = 3 ∨ f = 13) (hf : xFor f (xP h0)) (h1 : xI h0 f 1 = nI tl) (ht : tl ≤ 1000) (h2 : ∀ i, i < tl → xI h0 (f + 1) i = nI (tx i)) (h3 : ∀ i, i < tl → tx i < 256) (hL : L.length + tl + 1 ≤ 1400) {Q : Option Value → XH → Prop} {X : String → XH → Prop} (hQ : ∀ h', WT h' (L ++ (List.range tl).map tx ++ [59]) → wch h0 h' → Q none h') : ∀ (c k : Nat) (h : XH), k + c = tl → xWri (xP h) → WT h (L ++ (List.range k).map tx) → wch h0 h →
    XW (xrm 13 0 0) mX9_putGoes (xE 100 Q X 0 0) 100 0 0 h 8 [some (.ref 55), some (.ref f), some (.int (nI k))] [] := by
  intro c
  induction c with
  | zero =>
    intro k h hk hw hT hc
    have : k = tl := by omega
    subst this
    refine v_X9_putGoes_8 hw f (by rw [hc.2]; exact hf) (by omega) (nI k) ?_
    rw [hc.at (c := f) (by omega) (by omega), h1]
    refine ⟨fun _ => ⟨_, s_wput hw hT (by rw [List.length_append, List.length_map, List.length_range]; omega) (c := 59) (by omega), ?_⟩, fun q => absurd (nI_le (Nat.le_refl _) (by omega)) q⟩
    rintro v h2' ⟨rfl, hT2, hc2⟩
    exact ⟨rfl, hQ _ hT2 (hc.trans hc2)⟩
  | succ c ih =>
    intro k h hk hw hT hc
    refine v_X9_putGoes_8 hw f (by rw [hc.2]; exact hf) (by omega) (nI k) ?_
    rw [hc.at (c := f) (by omega) (by omega), hc.at (c := f + 1) (by omega) (by omega), h1, nI_clamp (by omega), h2 k (by omega)]
    have h3k := h3 k (by omega)
    refine ⟨fun q => absurd q (nI_ge (by omega) (by omega)), fun _ => ⟨fun q => absurd q (nI_ge (b := 1000) (by omega) (by omega)), fun _ => ⟨vp_in_nI (by omega) (by omega), _, s_wput hw hT (by rw [List.length_append, List.length_map, List.length_range]; omega) (c := tx k) (by omega), ?_⟩⟩⟩
    rintro v h4 ⟨rfl, hT4, hc4⟩
    rw [List.append_assoc, ← mapr_s] at hT4
    rw [nI_1]
    exact ⟨rfl, ih (k + 1) h4 (by omega) (hw.w hc4) hT4 (hc.trans hc4)⟩
theorem s_wgo {h : XH} {L : List Nat} {f tl : Nat} {tx : Nat → Nat} (hf0 : f = 3 ∨ f = 13) (hf : xFor f (xP h)) (h1 : xI h f 1 = nI tl) (ht : tl ≤ 1000) (h2 : ∀ i, i < tl → xI h (f + 1) i = nI (tx i)) (h3 : ∀ i, i < tl → tx i < 256) (hw : xWri (xP h)) (hT : WT h L) (hL : L.length + tl + 6 ≤ 1400) : XSpec mX9_putGoes 13 0 0 100 100 [.ref 55, .ref f] h (fun v h' => v = none ∧ WT h' (L ++ ([103, 111, 101, 115, 32] ++ (List.range tl).map tx ++ [59])) ∧ wch h h') xno := by
  have el : jsL 28 = 5 := rfl
  refine XSpec.of rfl (by decide) (Nat.le_of_ble_eq_true rfl) rfl (v_X9_putGoes_0 hw f hf (by omega) ⟨_, s_wtext (i := 28) (by decide) hw hT (by omega), ?_⟩)
  rintro v h1' ⟨rfl, hT1, hc1⟩
  rw [jsT_w.2.2.2.2.2.2.2.2.2.2] at hT1
  refine ⟨rfl, l_wgo (h0 := h1') (L := L ++ [103, 111, 101, 115, 32]) hf0 (by rw [hc1.2]; exact hf) (by rw [hc1.at (c := f) (by omega) (by omega)]; exact h1) ht (fun i hi => by rw [hc1.at (c := f + 1) (by omega) (by omega)]; exact h2 i hi) h3 (by rw [List.length_append]; show L.length + 5 + tl + 1 ≤ 1400; omega) (fun h' k1 k2 => ⟨rfl, ?_, hc1.trans k2⟩) tl 0 h1' (by omega) (hw.w hc1) (by rw [List.range_zero, List.map_nil, List.append_nil]; exact hT1) wch.rfl⟩
  rw [List.append_assoc, List.append_assoc] at k1
  rw [List.append_assoc]
  exact k1
