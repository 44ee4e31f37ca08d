/-! THE BOARD WRITTEN BACK: the reference's tellText, its end -/
theorem MBd.w {h h' : XH} {b : BD} (hB : MBd h b) (hc : wmh h h') : MBd h' b := hB.of (by rw [hc.2.2]) (fun c q1 q2 => hc.1 c (by omega) (by omega))
theorem l_mgo {h0 : XH} {L : List Nat} {b : BD} (hb : GoodBD b) (hL : L.length ≤ 399) {Q : Option Value → XH → Prop} {X : String → XH → Prop} (hQ : ∀ h', MT h' (L ++ (List.range (bTl b)).map (bTx b) ++ [59]) → wmh h0 h' → Q none h') : ∀ (c k : Nat) (h : XH), k + c = bTl b → xMod (xP h) → MBd h b → MT h (L ++ (List.range k).map (bTx b)) → wmh h0 h →
    XW (xrm 14 0 0) mX11_tellText (xE 100 Q X 0 0) 100 0 0 h 204 [some (.ref 56), some (.int (nI k))] [] := by
  have tl := hb.2.2.2.2.2.1
  intro c
  induction c with
  | zero =>
    intro k h hk hM hB hT hc
    have : k = bTl b := by omega
    subst this
    obtain ⟨-, -, -, -, -, -, m7, m8⟩ := hB
    refine v_X11_tellText_204 hM (nI (bTl b)) ?_
    rw [m7]
    refine ⟨fun _ => ⟨_, m_say hM hT (by rw [List.length_append, List.length_map, List.length_range]; omega) 59, ?_⟩, fun q => absurd (nI_le (Nat.le_refl _) (by omega)) q⟩
    rintro v h2 ⟨rfl, hT2, hc2⟩
    exact ⟨rfl, hQ _ hT2 (hc.trans hc2)⟩
  | succ c ih =>
    intro k h hk hM hB hT hc
    obtain ⟨-, -, -, -, -, -, m7, m8⟩ := id hB
    refine v_X11_tellText_204 hM (nI k) ?_
    rw [m7, nI_clamp (by omega), m8 k (by omega)]
    refine ⟨fun q => absurd q (nI_ge (by omega) (by omega)), fun _ => ⟨vp_in_nI (by omega) (by omega), _, m_say hM hT (by rw [List.length_append, List.length_map, List.length_range]; omega) (bTx b k), ?_⟩⟩
    rintro v h4 ⟨rfl, hT4, hc4⟩
    rw [List.append_assoc, ← mapr_s] at hT4
    rw [nI_1]
    exact ⟨rfl, ih (k + 1) h4 (by omega) (xMod.w hM hc4) (hB.w hc4) hT4 (hc.trans hc4)⟩
theorem jsT_m : jsT 34 = [108, 97, 115, 116] ∧ jsT 36 = [100, 105, 101] ∧ jsT 42 = [101, 120, 105, 116] ∧ jsT 46 = [101, 110, 100, 32] ∧ jsT 29 = [115, 116, 97, 121] ∧ jsT 30 = [98, 97, 99, 107] ∧ jsT 31 = [105, 110] ∧ jsT 38 = [97, 103, 97, 105, 110] ∧ jsT 47 = [109, 101, 101, 116, 59] ∧ jsT 40 = [112, 105, 101, 99, 101, 115] ∧ jsT 48 = [103, 111, 101, 115, 32] := by decide
def fmG (Q : Option Value → XH → Prop) (X : String → XH → Prop) (h9 : XH) : Prop := (xP h9 56 3 = some 59) ∧ ((¬ (xI h9 59 6) = 0 → ∃ Q1, XSpec mX11_sayWord 12 0 0 100 100 [.ref 56, .ref (1000 + 48)] h9 Q1 xno ∧ ∀ v h10, Q1 v h10 → v = none ∧ (XW (xrm 14 0 0) mX11_tellText (xE 100 Q X 0 0) 100 0 0 h10 204 [some (.ref 56), some (.int 0)] [])) ∧ ((xI h9 59 6) = 0 → Q none h9))
theorem g_mG {Q : Option Value → XH → Prop} {X : String → XH → Prop} {h0 h : XH} {b : BD} {L : List Nat} (hb : GoodBD b) (hM : xMod (xP h)) (hB : MBd h b) (hT : MT h L) (hc : wmh h0 h) (hL : L.length ≤ 394) (hQ : ∀ h', MT h' (L ++ tGo b) → wmh h0 h' → Q none h') : fmG Q X h := by
  obtain ⟨-, -, -, -, m5, m6, m7, m8⟩ := id hB
  have td := hb.2.2.2.2.1
  have hln := hb.1.2.2.2.2.2.1
  have el : jsL 48 = 5 := rfl
  have hpos : bTd b = 1 → ¬ nI (bLen b) = 0 := fun z y => by
    have h0 : bLen b = 0 := (nI_eq (b := 0) (by have := hln.1; omega) (by omega)).1 y
    have := hln.2.1
    rw [h0] at this
    exact absurd (show (0 : Nat) = 1 from this) (by decide)
  unfold fmG
  refine ⟨hM (3, 59) (by decide), fun c => ⟨_, m_sayWord (i := 48) (by decide) hM hT (by omega), ?_⟩, fun c => hQ h ?_ hc⟩
  · have z : bTd b = 1 := by
      have : bTd b ≠ 0 := fun y => c (m5 y)
      omega
    rintro v h10 ⟨rfl, hT10, hc10⟩
    rw [jsT_m.2.2.2.2.2.2.2.2.2.2] at hT10
    refine ⟨rfl, l_mgo (h0 := h0) (L := L ++ [103, 111, 101, 115, 32]) hb (by rw [List.length_append]; show L.length + 5 ≤ 399; omega) (fun h' k1 k2 => hQ h' ?_ k2) (bTl b) 0 h10 (by omega) (xMod.w hM hc10) (hB.w hc10) (by rw [List.range_zero, List.map_nil, List.append_nil]; exact hT10) (hc.trans hc10)⟩
    unfold tGo
    rw [if_neg (by omega)]
    rw [List.append_assoc, List.append_assoc] at k1
    rw [List.append_assoc]
    exact k1
  · have z : bTd b = 0 := by
      have : bTd b ≠ 1 := fun y => hpos y (by rw [← m6 y]; exact c)
      omega
    unfold tGo
    rw [if_pos z, List.append_nil]; exact hT
def fmP (Q : Option Value → XH → Prop) (X : String → XH → Prop) (h8 : XH) : Prop := (xP h8 56 3 = some 59) ∧ (∃ Q1, XSpec mX11_sayLine 13 0 0 100 100 [.ref 56, .ref (1000 + 40), .int (xI h8 59 2)] h8 Q1 xno ∧ ∀ v h9, Q1 v h9 → v = none ∧ fmG Q X h9)
theorem g_mP {Q : Option Value → XH → Prop} {X : String → XH → Prop} {h0 h : XH} {b : BD} {L : List Nat} (hb : GoodBD b) (hM : xMod (xP h)) (hB : MBd h b) (hT : MT h L) (hc : wmh h0 h) (hL : L.length ≤ 383) (hQ : ∀ h', MT h' (L ++ tPc b ++ tGo b) → wmh h0 h' → Q none h') : fmP Q X h := by
  obtain ⟨-, m2, -⟩ := id hB
  have hp := hb.2.2.1
  have el : jsL 40 = 6 := rfl
  have lp := tPc_len b
  unfold fmP
  rw [m2]
  refine ⟨hM (3, 59) (by decide), _, m_sayLine (i := 40) (by decide) (show bPc b ≤ 999 by omega) hM hT (by omega), ?_⟩
  rintro v h8 ⟨rfl, hT8, hc8⟩
  have e : jsT 40 ++ tNum (bPc b) ++ [59] = tPc b := by rw [jsT_m.2.2.2.2.2.2.2.2.2.1]; rfl
  rw [e] at hT8
  exact ⟨rfl, g_mG hb (xMod.w hM hc8) (hB.w hc8) hT8 (hc.trans hc8) (by rw [List.length_append]; omega) hQ⟩
def fmM (Q : Option Value → XH → Prop) (X : String → XH → Prop) (h8 : XH) : Prop := (xP h8 56 3 = some 59) ∧ (((xI h8 59 5) ≤ 0 → fmP Q X h8) ∧ (¬ (xI h8 59 5) ≤ 0 → ∃ Q1, XSpec mX11_sayWord 12 0 0 100 100 [.ref 56, .ref (1000 + 47)] h8 Q1 xno ∧ ∀ v h11, Q1 v h11 → v = none ∧ fmP Q X h11))
theorem g_mM {Q : Option Value → XH → Prop} {X : String → XH → Prop} {h0 h : XH} {b : BD} {L : List Nat} (hb : GoodBD b) (hM : xMod (xP h)) (hB : MBd h b) (hT : MT h L) (hc : wmh h0 h) (hL : L.length ≤ 378) (hQ : ∀ h', MT h' (L ++ tMt b ++ tPc b ++ tGo b) → wmh h0 h' → Q none h') : fmM Q X h := by
  obtain ⟨-, -, -, m4, -⟩ := id hB
  have hm := hb.2.2.2.1
  have el : jsL 47 = 5 := rfl
  unfold fmM
  rw [m4, show nI (bMt b) ≤ 0 ↔ bMt b ≤ 0 from nI_leI (b := 0) (by omega) (by omega)]
  refine ⟨hM (3, 59) (by decide), fun c => g_mP hb hM hB hT hc (by omega) (fun h' k1 k2 => hQ h' ?_ k2), fun c => ⟨_, m_sayWord (i := 47) (by decide) hM hT (by omega), ?_⟩⟩
  · unfold tMt
    rw [if_pos (by omega), List.append_nil]; exact k1
  · rintro v h10 ⟨rfl, hT10, hc10⟩
    have e : jsT 47 = tMt b := by
      unfold tMt
      rw [if_neg (by omega)]
      exact jsT_m.2.2.2.2.2.2.2.2.1
    rw [e] at hT10
    have lm := tMt_len b
    exact ⟨rfl, g_mP hb (xMod.w hM hc10) (hB.w hc10) hT10 (hc.trans hc10) (by rw [List.length_append]; omega) hQ⟩
def fmA (Q : Option Value → XH → Prop) (X : String → XH → Prop) (h8 : XH) : Prop := (xP h8 56 3 = some 59) ∧ (((xI h8 59 4) ≤ 0 → fmM Q X h8) ∧ (¬ (xI h8 59 4) ≤ 0 → (xP h8 56 3 = some 59) ∧ (∃ Q1, XSpec mX11_sayLine 13 0 0 100 100 [.ref 56, .ref (1000 + 38), .int (xI h8 59 4)] h8 Q1 xno ∧ ∀ v h14, Q1 v h14 → v = none ∧ fmM Q X h14)))
theorem g_mA {Q : Option Value → XH → Prop} {X : String → XH → Prop} {h0 h : XH} {b : BD} {L : List Nat} (hb : GoodBD b) (hM : xMod (xP h)) (hB : MBd h b) (hT : MT h L) (hc : wmh h0 h) (hL : L.length ≤ 368) (hQ : ∀ h', MT h' (L ++ tAg b ++ tMt b ++ tPc b ++ tGo b) → wmh h0 h' → Q none h') : fmA Q X h := by
  obtain ⟨-, -, m3, -⟩ := id hB
  have ha := hb.2.1
  have el : jsL 38 = 5 := rfl
  unfold fmA
  rw [m3, show nI (bAg b) ≤ 0 ↔ bAg b ≤ 0 from nI_leI (b := 0) (by omega) (by omega)]
  refine ⟨hM (3, 59) (by decide), fun c => g_mM hb hM hB hT hc (by omega) (fun h' k1 k2 => hQ h' ?_ k2), fun c => ⟨hM (3, 59) (by decide), _, m_sayLine (i := 38) (by decide) (show bAg b ≤ 999 by omega) hM hT (by omega), ?_⟩⟩
  · unfold tAg
    rw [if_pos (by omega), List.append_nil]; exact k1
  · rintro v h10 ⟨rfl, hT10, hc10⟩
    have e : jsT 38 ++ tNum (bAg b) ++ [59] = tAg b := by
      unfold tAg
      rw [if_neg (by omega), jsT_m.2.2.2.2.2.2.2.1]
    rw [e] at hT10
    have lm := tAg_len b
    exact ⟨rfl, g_mM hb (xMod.w hM hc10) (hB.w hc10) hT10 (hc.trans hc10) (by rw [List.length_append]; omega) hQ⟩
theorem l_mex {h0 : XH} {b : BD} {P : List Nat} (hb : GoodBD b) (hS : MStr (xP h0)) (hP : P.length ≤ 37) {Q : Option Value → XH → Prop} {X : String → XH → Prop} (hQ : ∀ h', MT h' (P ++ tEx b (bKx b) ++ tEnd b ++ tAg b ++ tMt b ++ tPc b ++ tGo b) → wmh h0 h' → Q none h') : ∀ (c k : Nat) (h : XH), k + c = bKx b → xMod (xP h) → MBd h b → MT h (P ++ tEx b k) → wmh h0 h →
    XW (xrm 14 0 0) mX11_tellText (xE 100 Q X 0 0) 100 0 0 h 56 [some (.ref 56), some (.int (nI k))] [] := by
  have kx := hb.1.2.2.1
  have b7 := hb.1.2.2.2.2.2.2.1
  have hE := hb.1.2.2.2.1
  have l2 := hb.1.2.1
  obtain ⟨-, -, -, j46, j29, j30, j31, -⟩ := jsT_m
  intro c
  induction c with
  | zero =>
    intro k h hk hM hB hT hc
    have : k = bKx b := by omega
    subst this
    obtain ⟨⟨b1, b2, b3, b4, b5, b6, b8⟩, m1⟩ := id hB
    have lx := tEx_len b (bKx b)
    have e46 : jsL 46 = 4 := rfl
    refine v_X11_tellText_56 hM (nI (bKx b)) ?_
    rw [b3]
    refine ⟨fun _ => ⟨_, m_sayWord (i := 46) (by decide) hM hT (by rw [List.length_append]; omega), ?_⟩, fun q => absurd (nI_le (Nat.le_refl _) (by omega)) q⟩
    rintro v h5 ⟨rfl, hT5, hc5⟩
    have hM5 := xMod.w hM hc5
    have hB5 := hB.w hc5
    have e3 : xI h5 59 3 = nI (bE b) := by rw [hc5.1 59 (by decide) (by decide)]; exact b4
    rw [e3, nI_clamp (by omega)]
    have hy := hS.1 (bE b) (by omega)
    have hp5 : xP h5 57 (bE b) = some (1029 + bE b) := by rw [hc5.2.2, hc.2.2]; exact hy
    have lw : jsL (29 + bE b) ≤ 4 := by
      rcases (show bE b = 0 ∨ bE b = 1 ∨ bE b = 2 by omega) with z | z | z <;> rw [z] <;> decide
    refine ⟨rfl, hM5 (0, 57) (by decide), hM5 (3, 59) (by decide), vp_in_nI (by omega) (by omega), 1029 + bE b, hp5, ?_⟩
    have e10 : 1029 + bE b = 1000 + (29 + bE b) := by omega
    rw [e10]
    have l5 : (P ++ tEx b (bKx b) ++ jsT 46).length ≤ 353 := by rw [List.length_append, List.length_append, jsT_len]; omega
    refine ⟨_, m_sayWord (i := 29 + bE b) (by unfold jsN; omega) hM5 hT5 (by omega), ?_⟩
    rintro v h7 ⟨rfl, hT7, hc7⟩
    have hM7 := xMod.w hM5 hc7
    have l7 : (P ++ tEx b (bKx b) ++ jsT 46 ++ jsT (29 + bE b)).length ≤ 357 := by rw [List.length_append, jsT_len (29 + bE b)]; omega
    refine ⟨rfl, _, m_say hM7 hT7 (by omega) 59, ?_⟩
    rintro v h8 ⟨rfl, hT8, hc8⟩
    have ee : P ++ tEx b (bKx b) ++ jsT 46 ++ jsT (29 + bE b) ++ [59] = P ++ tEx b (bKx b) ++ tEnd b := by
      rw [j46, List.append_assoc, List.append_assoc]
      unfold tEnd
      rcases (show bE b = 0 ∨ bE b = 1 ∨ bE b = 2 by omega) with z | z | z
      · rw [z, j29]; rfl
      · rw [z, j30]; rfl
      · rw [z, j31]; rfl
    rw [ee] at hT8
    have le := tEnd_len b
    have hA : fmA Q X h8 := g_mA hb (xMod.w hM7 hc8) ((hB5.w hc7).w hc8) hT8 (((hc.trans hc5).trans hc7).trans hc8) (by rw [List.length_append, List.length_append]; omega) hQ
    exact ⟨rfl, hA⟩
  | succ c ih =>
    intro k h hk hM hB hT hc
    have b7k := b7 k (by omega)
    have lx := tEx_len b k
    have e42 : jsL 42 = 4 := rfl
    obtain ⟨⟨b1, b2, b3, b4, b5, b6, b8⟩, m1⟩ := id hB
    refine v_X11_tellText_56 hM (nI k) ?_
    rw [b3, nI_clamp (by omega)]
    refine ⟨fun q => absurd q (nI_ge (by omega) (by omega)), fun _ => ⟨_, m_sayWord (i := 42) (by decide) hM hT (by rw [List.length_append]; omega), ?_⟩⟩
    rintro v h1 ⟨rfl, hT1, hc1⟩
    have hM1 := xMod.w hM hc1
    have l1 : (P ++ tEx b k ++ jsT 42).length = P.length + (tEx b k).length + 4 := by rw [List.length_append, List.length_append]; rfl
    rw [hc1.1 61 (by decide) (by decide), (b8 k (by omega)).1]
    refine ⟨rfl, hM1 (5, 61) (by decide), vp_in_nI (by omega) (by omega), _, m_sayNum (show bFt b k ≤ 999 by omega) hM1 hT1 (by omega), ?_⟩
    rintro v h3 ⟨rfl, hT3, hc3⟩
    have hM3 := xMod.w hM1 hc3
    have n3 := tNum_len (bFt b k)
    have l3 : (P ++ tEx b k ++ jsT 42 ++ tNum (bFt b k)).length ≤ P.length + (tEx b k).length + 8 := by rw [List.length_append, l1]; omega
    rw [hc3.1 62 (by decide) (by decide), hc1.1 62 (by decide) (by decide), (b8 k (by omega)).2]
    refine ⟨rfl, hM3 (6, 62) (by decide), vp_in_nI (by omega) (by omega), _, m_sayNum (show bHd b k ≤ 999 by omega) hM3 hT3 (by omega), ?_⟩
    rintro v h5 ⟨rfl, hT5, hc5⟩
    have n5 := tNum_len (bHd b k)
    have l5 : (P ++ tEx b k ++ jsT 42 ++ tNum (bFt b k) ++ tNum (bHd b k)).length ≤ P.length + (tEx b k).length + 12 := by rw [List.length_append]; omega
    refine ⟨rfl, _, m_say (xMod.w hM3 hc5) hT5 (by omega) 59, ?_⟩
    rintro v h6 ⟨rfl, hT6, hc6⟩
    rw [nI_1]
    refine ⟨rfl, ih (k + 1) h6 (by omega) (xMod.w (xMod.w hM3 hc5) hc6) (((hB.w hc1).w hc3).w hc5 |>.w hc6) ?_ ((((hc.trans hc1).trans hc3).trans hc5).trans hc6)⟩
    rw [jsT_m.2.2.1] at hT6
    rw [tEx_s]
    simp only [List.append_assoc] at hT6 ⊢
    exact hT6
theorem l_mdieT {h0 : XH} {b : BD} (hb : GoodBD b) (hS : MStr (xP h0)) {Q : Option Value → XH → Prop} {X : String → XH → Prop} (hQ : ∀ h', MT h' (bText b) → wmh h0 h' → Q none h') : ∀ (c k : Nat) (h : XH), k + c = 6 → xMod (xP h) → MBd h b → MT h (tHd b ++ [100, 105, 101] ++ tDie b k) → wmh h0 h →
    XW (xrm 14 0 0) mX11_tellText (xE 100 Q X 0 0) 100 0 0 h 26 [some (.ref 56), some (.int (nI k))] [] := by
  have o9 := hb.1.2.2.2.2.1.1
  have lh := tHd_len b
  intro c
  induction c with
  | zero =>
    intro k h hk hM hB hT hc
    have : k = 6 := by omega
    subst this
    have ld := tDie_len b 6
    have l1 : (tHd b ++ [100, 105, 101] ++ tDie b 6).length ≤ 36 := by
      rw [List.length_append, List.length_append]
      show _ + 3 + _ ≤ 36
      omega
    refine v_X11_tellText_26 hM (nI 6) ⟨fun _ => ⟨_, m_say hM hT (by omega) 59, ?_⟩, fun q => absurd (by decide) q⟩
    rintro v h3 ⟨rfl, hT3, hc3⟩
    refine ⟨rfl, l_mex (h0 := h0) (P := tHd b ++ [100, 105, 101] ++ tDie b 6 ++ [59]) hb hS (by rw [List.length_append]; show _ + 1 ≤ 37; omega) (fun h' k1 k2 => hQ h' (by rw [bText_eq]; exact k1) k2) (bKx b) 0 h3 (by omega) (xMod.w hM hc3) (hB.w hc3) ?_ (hc.trans hc3)⟩
    have : tEx b 0 = [] := rfl
    rw [this, List.append_nil]; exact hT3
  | succ c ih =>
    intro k h hk hM hB hT hc
    have ld := tDie_len b k
    have ok := o9 (k + 1) (by omega) (by omega)
    have l1 : (tHd b ++ [100, 105, 101] ++ tDie b k).length ≤ 36 := by
      rw [List.length_append, List.length_append]
      show _ + 3 + _ ≤ 36
      omega
    obtain ⟨⟨b1, b2, b3, b4, b5, b6, b8⟩, m1⟩ := id hB
    have e := b6 (k + 1) (by omega) (by omega)
    rw [Nat.add_sub_cancel] at e
    refine v_X11_tellText_26 hM (nI k) ⟨fun q => absurd q (nI_ge (b := 6) (by omega) (by omega)), fun _ => ?_⟩
    rw [nI_clamp (by omega), e]
    refine ⟨vp_in_nI (by omega) (by omega), _, m_sayNum (show bOd b (k + 1) ≤ 999 by omega) hM hT (by omega), ?_⟩
    rintro v h5 ⟨rfl, hT5, hc5⟩
    rw [nI_1]
    refine ⟨rfl, ih (k + 1) h5 (by omega) (xMod.w hM hc5) (hB.w hc5) ?_ (hc.trans hc5)⟩
    rw [tDie_s, ← List.append_assoc]
    exact hT5
