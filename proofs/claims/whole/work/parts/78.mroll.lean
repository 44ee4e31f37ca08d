/-! MOVES: roll, rolls, undo: the reference -/
theorem canMv_f {s : SG} (h : canMv s = false) (ht : gTh (sG s) ≤ 200) : gTh (sG s) = 200 ∨ ovB s = true := by
  unfold canMv at h
  by_cases z : gTh (sG s) = 200
  · exact Or.inl z
  · rw [decide_eq_true (show gTh (sG s) < 200 by omega), Bool.and_true] at h
    exact Or.inr (by simpa using h)
theorem canMv_y {s : SG} (h1 : gTh (sG s) < 200) (h2 : ovB s = false) : canMv s = true := by
  unfold canMv
  rw [h2, decide_eq_true h1]; rfl
theorem canMv_n1 {s : SG} (h1 : ¬ gTh (sG s) < 200) : canMv s = false := by
  unfold canMv
  rw [decide_eq_false h1, Bool.and_false]
theorem canMv_n2 {s : SG} (h2 : ovB s = true) : canMv s = false := by
  unfold canMv
  rw [h2]; rfl
theorem s_X11_roll {h : XH} {s : SG} (hM : MI h s) (hg : GoodS s) (f : Int32) : XSpec mX11_roll 6 0 0 100 100 [.ref 56, .int f] h (fun v h' => ∃ w, v = some (.int w) ∧ xI h' 56 2 = nI (kd1 (inR f 1 6)) ∧ mch h h' ∧ (kd1 (inR f 1 6) = 0 → w = rlA s f.toNatClampNeg ∧ MI h' (sRoll s f.toNatClampNeg)) ∧ (kd1 (inR f 1 6) = 1 → MI h' s)) xno := by
  have hl := hg.l
  have ht := hg.th
  have hR := m3.code hM
  refine XSpec.of rfl (by decide) (Nat.le_of_ble_eq_true rfl) rfl (v_X11_roll_0 hM.1 f ⟨_, m_isFace 100 _ f, ?_⟩)
  rintro v h1 ⟨rfl, rfl⟩
  refine ⟨_, rfl, fun c => ?_, fun c => ⟨_, m_failX hR.1 hR.2.1 1 1 rfl, ?_⟩⟩
  · have hf := bI_n0.1 c
    have hk := kd1_t hf
    obtain ⟨f, f1, f2, rfl⟩ := inR_1 (n := 6) hf
    have rf : canMv s = false → ∃ w, some (.int (-1)) = some (Value.int w) ∧ xI (xSI 65 (va_up (xI (mz 0 h) 65) 1 ((xI (mz 0 h) 65 1) + 1)) (mz 0 h)) 56 2 = nI 0 ∧ mch h (xSI 65 (va_up (xI (mz 0 h) 65) 1 ((xI (mz 0 h) 65 1) + 1)) (mz 0 h)) ∧ (0 = 0 → w = rlA s f ∧ MI (xSI 65 (va_up (xI (mz 0 h) 65) 1 ((xI (mz 0 h) 65 1) + 1)) (mz 0 h)) (sRoll s f)) ∧ (0 = 1 → MI (xSI 65 (va_up (xI (mz 0 h) 65) 1 ((xI (mz 0 h) 65 1) + 1)) (mz 0 h)) s) := fun z => by
      obtain ⟨r1, r2⟩ := hR.1.ref (k := 1) (by omega) rfl
      unfold rlA sRoll
      rw [z]
      exact ⟨_, rfl, by rw [xI_ne (by decide)]; exact hR.2.2, hR.2.1.trans r2, fun _ => ⟨rfl, r1⟩, fun z => absurd z (by decide)⟩
    have e34 : xI (mz 0 h) 56 34 = nI (gTh (sG s)) := hR.1.gm.2.1
    have e2 : (200 : Int32) = nI 200 := rfl
    rw [nI_clamp (show f < 2 ^ 31 by omega), hk, e34, e2, nI_eq (by omega) (by omega)]
    refine ⟨fun c2 => ⟨mp_status hR.1.1, rf (canMv_n1 (by omega))⟩, fun c2 => ⟨_, m_isOver hR.1 hg, ?_⟩⟩
    rintro v h2 ⟨rfl, e2⟩
    subst e2
    refine ⟨_, rfl, fun c3 => ⟨_, m_tellT hg hR, ?_⟩, fun c3 => ⟨mp_status hR.1.1, rf (canMv_n2 (bI_n0.1 c3))⟩⟩
    have hcan : canMv s = true := canMv_y (by omega) (bI_0.1 c3)
    rintro v h3 ⟨rfl, hR3⟩
    refine ⟨rfl, _, m_throw hR3 hg hcan f1 f2, ?_⟩
    rintro v h4 ⟨rfl, hR4, -⟩
    unfold rlA sRoll
    rw [hcan]
    exact ⟨_, rfl, _, rfl, hR4.2.2.2, hR4.2.2.1, fun _ => ⟨rfl, hR4.2.1⟩, fun z => absurd z (by decide)⟩
  · rintro v h2 ⟨rfl, k1, k2, k3⟩
    have e := kd1_f (bI_0.1 c)
    exact ⟨_, rfl, _, rfl, by rw [e]; exact k1, k3, fun z => absurd (e.symm.trans z) (by decide), fun _ => k2⟩
theorem ashr16 (q : Int32) : (q >>> ((16 : Int32) &&& 31)) &&& 32767 = nI (q.toBitVec.toNat / 65536 % 32768) := by
  have e := pk_and (q >>> ((16 : Int32) &&& 31)) (m := 32767) 15 (by decide)
  have e2 := pk_shr q ((16 : Int32) &&& 31) 16 (by decide)
  rw [e]
  congr 1
  have t1 : (q >>> ((16 : Int32) &&& 31)).toInt = (q >>> ((16 : Int32) &&& 31)).toBitVec.toInt := rfl
  have t2 : q.toInt = q.toBitVec.toInt := rfl
  rw [t1, t2, BitVec.toInt_eq_toNat_cond, BitVec.toInt_eq_toNat_cond, Int.shiftRight_eq_div_pow] at e2
  have b1 := (q >>> ((16 : Int32) &&& 31)).toBitVec.isLt
  have b2 := q.toBitVec.isLt
  generalize (q >>> ((16 : Int32) &&& 31)).toBitVec.toNat = x at *
  generalize q.toBitVec.toNat = y at *
  split at e2 <;> split at e2 <;> omega
theorem m_drawOf {h : XH} (hM : xMod (xP h)) (m : Nat) (hm : 0 < m) (hm2 : m < 2 ^ 31) : XSpec mX11_drawOf 1 0 0 100 100 [.ref 56, .int (nI m)] h (fun v h' => v = some (.int (nI (drw (nSd (xI h 56 35)) m))) ∧ h' = xSI 56 (va_up (xI h 56) 35 (nSd (xI h 56 35))) h) xno := by
  refine XSpec.of rfl (by decide) (Nat.le_of_ble_eq_true rfl) rfl (v_X11_drawOf_0 hM (nI m) ?_)
  have hlt : (nSd (xI h 56 35)).toBitVec.toNat / 65536 % 32768 < 2 ^ 31 := by omega
  rw [va_up_eq]
  have e : (xI h 56 35) * 1103515245 + 12345 = nSd (xI h 56 35) := rfl
  rw [e, ashr16, pk_rem hlt hm hm2]
  exact ⟨nI_ne0 hm hm2, rfl, rfl⟩
theorem mT.six {h0 h : XH} {s : SG} {T : Nat → Nat → Nat} (hR : mT h0 h s T) {j : Nat} {v : Int32} (hj : SM6 j) (hj2 : j ≠ 2) : mT h0 (xSI 56 (va_up (xI h 56) j v) h) s T := by
  obtain ⟨⟨hM, r1, r4, r5, r6, r7, r8⟩, r9, r10, r11⟩ := hR
  exact ⟨⟨hM, by rw [xI_ne (by decide)]; exact r1, r4, r5, r6, fun e e1 e2 => by rw [xI_ne (by decide)]; exact r7 e e1 e2, fun q hq e he => by rw [xI_ne (by decide)]; exact r8 q hq e he⟩, r9.msc (msc.SI6 hj), r10.trans mch.SI6, by rw [xI_at, va_up_of _ _ (fun z => hj2 z.symm)]; exact r11⟩
theorem l_mface {h0 : XH} {m n d : Nat} {Q : Option Value → XH → Prop} {X : String → XH → Prop} {s : SG} (hg : GoodS s) {h : XH} (hR : mT h0 h s (bT (sB s))) (hd : d < od6 (bOd (sB s))) : ∀ (c x : Nat), x + c = 5 → sN (bOd (sB s)) 1 x ≤ d →
    (∃ Q1, XSpec mX11_throwOnce 2 0 0 100 100 [.ref 56, .int (nI (fcA (bOd (sB s)) d c (x + 1)))] h Q1 xno ∧ ∀ v h7, Q1 v h7 → ∃ r7 : Int32, v = some (.int r7) ∧ XW (xrm 6 0 0) mX11_rolls (xE 100 Q X 0 0) 100 0 0 h7 34 [some (.ref 56), none, some (.int (nI m)), some (.int (nI (n + 1))), none, none] []) →
    XW (xrm 6 0 0) mX11_rolls (xE 100 Q X 0 0) 100 0 0 h 69 [some (.ref 56), none, some (.int (nI m)), some (.int (nI n)), some (.int (nI (d - sN (bOd (sB s)) 1 x))), some (.int (nI x))] [] := by
  have ha := hg.die.all
  obtain ⟨hM, r1, r4, r5, r6, r7, r8⟩ := id hR.1
  have key : ∀ x, x ≤ 5 → xI h 60 x = nI (bOd (sB s) (x + 1)) := fun x hx => by
    have := r7 (x + 1) (by omega) (by omega)
    rw [Nat.add_sub_cancel] at this
    exact this
  have es : ∀ x, sN (bOd (sB s)) 1 (x + 1) = sN (bOd (sB s)) 1 x + bOd (sB s) (x + 1) := fun x => by rw [sN_last, Nat.add_comm 1 x]
  intro c
  induction c with
  | zero =>
    intro x hx hle hQ
    have : x = 5 := by omega
    subst this
    have o9 := hg.die.1 6 (by omega) (by omega)
    have h6 := es 5
    rw [sN_od6] at h6
    refine v_X11_rolls_69 hM _ _ _ (nI 5) ⟨vp_in_nI (by omega) (by omega), fun _ => ?_, fun c => absurd ?_ c⟩
    · rw [nI_1, nI_1]; exact hQ
    · rw [nI_clamp (by omega), key 5 (by omega)]; exact nI_lt (by omega) (by omega)
  | succ c ih =>
    intro x hx hle hQ
    have o9 := hg.die.1 (x + 1) (by omega) (by omega)
    have e1 := es x
    refine v_X11_rolls_69 hM _ _ _ (nI x) ?_
    rw [nI_clamp (show x < 2 ^ 31 by omega), key x (by omega), nI_ltI (by omega) (by omega)]
    unfold fcA at hQ
    refine ⟨vp_in_nI (by omega) (by omega), fun c1 => ?_, fun c1 => ⟨vp_in_nI (by omega) (by omega), ?_⟩⟩
    · rw [if_pos (by omega)] at hQ
      rw [nI_1, nI_1]; exact hQ
    · rw [if_neg (by omega)] at hQ
      rw [nI_1, pk_sub (by omega)]
      have := ih (x + 1) (by omega) (by omega) hQ
      rw [e1, Nat.sub_add_eq] at this
      exact this
theorem l_mrolls {m : Nat} (hm : m ≤ 200) (h0 : XH) {Q : Option Value → XH → Prop} {X : String → XH → Prop} : ∀ (c i : Nat) (s : SG) (h : XH), i + c = m → mT h0 h s (bT (sB s)) → GoodS s → (∀ h', mT h0 h' (rlS c (xI h 56 35) s).1 (bT (sB (rlS c (xI h 56 35) s).1)) → Q (some (.int (nI (i + (rlS c (xI h 56 35) s).2)))) h') →
    XW (xrm 6 0 0) mX11_rolls (xE 100 Q X 0 0) 100 0 0 h 34 [some (.ref 56), none, some (.int (nI m)), some (.int (nI i)), none, none] [] := by
  intro c
  induction c with
  | zero =>
    intro i s h hi hR hg hQ
    have : i = m := by omega
    subst this
    exact v_X11_rolls_34 hR.1.1 _ (nI i) ⟨fun _ => hQ h hR, fun c => absurd (nI_le (Nat.le_refl _) (by omega)) c⟩
  | succ c ih =>
    intro i s h hi hR hg hQ
    have ha := hg.die.all
    have ht := hg.th
    unfold rlS at hQ
    refine v_X11_rolls_34 hR.1.1 _ (nI i) ⟨fun c => absurd c (nI_ge (by omega) (by omega)), fun _ => ?_⟩
    have e2 : (200 : Int32) = nI 200 := rfl
    rw [hR.2.1.gm.2.1, e2, nI_leI (by omega) (by omega)]
    refine ⟨fun c1 => ?_, fun c1 => ⟨_, m_isOver hR.2.1 hg, ?_⟩⟩
    · rw [canMv_n1 (by omega)] at hQ
      exact hQ h hR
    rintro v h1 ⟨rfl, e1⟩
    subst e1
    refine ⟨_, rfl, fun c2 => ?_, fun c2 => ⟨_, s_X11_allOdds _ hg.die.1 h1 hR.1.1 hR.1.2.2.2.2.2.1, ?_⟩⟩
    · rw [canMv_n2 (bI_n0.1 c2)] at hQ
      exact hQ h1 hR
    · have hcan : canMv s = true := canMv_y (by omega) (bI_0.1 c2)
      rw [if_pos hcan] at hQ
      rintro v h2 ⟨rfl, e3⟩
      subst e3
      refine ⟨_, rfl, _, m_drawOf hR.1.1 _ ha.1 (by omega), ?_⟩
      rintro v h3 ⟨rfl, e3⟩
      have hR3 : mT h0 h3 s (bT (sB s)) := by rw [e3]; exact hR.six (Or.inr (Or.inr (Or.inl rfl))) (by decide)
      have s3 : xI h3 56 35 = nSd (xI h2 56 35) := by rw [e3, xI_at, va_up_eq]
      have hd : drw (nSd (xI h2 56 35)) (od6 (bOd (sB s))) < od6 (bOd (sB s)) := Nat.mod_lt _ ha.1
      have hf := fcD_in (sB s) (nSd (xI h2 56 35))
      refine ⟨_, rfl, ?_⟩
      have key := l_mface (m := m) (n := i) (Q := Q) (X := X) hg hR3 hd 5 0 rfl (Nat.zero_le _)
      have z0 : sN (bOd (sB s)) 1 0 = 0 := rfl
      have zf : fcA (bOd (sB s)) (drw (nSd (xI h2 56 35)) (od6 (bOd (sB s)))) 5 (0 + 1) = fcD (sB s) (nSd (xI h2 56 35)) := rfl
      rw [z0, Nat.sub_zero, zf] at key
      refine key ⟨_, m_throw hR3 hg hcan (f := fcD (sB s) (nSd (xI h2 56 35))) hf.1 hf.2, ?_⟩
      rintro v h7 ⟨rfl, hR7, k7⟩
      refine ⟨_, rfl, ?_⟩
      have s7 : xI h7 56 35 = nSd (xI h2 56 35) := by rw [k7 35 (by decide) (by decide)]; exact s3
      refine ih (i + 1) _ h7 (by omega) hR7 (sThr_good hg hf.1 hf.2 hcan) (fun h' k1 => ?_)
      rw [s7] at k1 ⊢
      have := hQ h' k1
      rw [show i + 1 + (rlS c (nSd (xI h2 56 35)) (sThr s (fcD (sB s) (nSd (xI h2 56 35))))).2 = i + ((rlS c (nSd (xI h2 56 35)) (sThr s (fcD (sB s) (nSd (xI h2 56 35))))).2 + 1) by omega]
      exact this
theorem s_X11_rolls {h : XH} {s : SG} (hM : MI h s) (hg : GoodS s) (q m : Int32) : XSpec mX11_rolls 6 0 0 100 100 [.ref 56, .int q, .int m] h (fun v h' => ∃ w, v = some (.int w) ∧ xI h' 56 2 = nI (kd1 (inR m 0 200)) ∧ mch h h' ∧ (kd1 (inR m 0 200) = 0 → w = nI (rlS m.toNatClampNeg q s).2 ∧ MI h' (rlS m.toNatClampNeg q s).1) ∧ (kd1 (inR m 0 200) = 1 → MI h' s)) xno := by
  have hR := m3.code hM
  refine XSpec.of rfl (by decide) (Nat.le_of_ble_eq_true rfl) rfl (v_X11_rolls_0 hM.1 q m ⟨_, m_isIn0 m 200 200 200 (by decide) (by decide), ?_⟩)
  rintro v h1 ⟨rfl, rfl⟩
  refine ⟨_, rfl, fun c => ⟨_, m_tellT hg hR, ?_⟩, fun c => ⟨_, m_failX hR.1 hR.2.1 1 1 rfl, ?_⟩⟩
  · have hf : inR m 0 200 = true := bI_n0.1 c
    have hk := kd1_t hf
    obtain ⟨m, hm, rfl⟩ := inR_nI (n := 200) hf
    rw [nI_clamp (show m < 2 ^ 31 by omega), hk]
    rintro v h2 ⟨rfl, hR2⟩
    refine ⟨rfl, ?_⟩
    refine l_mrolls hm h m 0 s _ (by omega) (hR2.six (j := 35) (v := q) (Or.inr (Or.inr (Or.inl rfl))) (by decide)) hg (fun h' k => ?_)
    rw [xI_at, va_up_eq] at k ⊢
    rw [Nat.zero_add]
    exact ⟨_, rfl, k.2.2.2, k.2.2.1, fun _ => ⟨rfl, k.2.1⟩, fun z => absurd z (by decide)⟩
  · rintro v h2 ⟨rfl, k1, k2, k3⟩
    have e : kd1 (inR m 0 200) = 1 := kd1_f (bI_0.1 c)
    exact ⟨_, rfl, _, rfl, by rw [e]; exact k1, k3, fun z => absurd (e.symm.trans z) (by decide), fun _ => k2⟩
/-! undo -/
def uPm (g : GD) (k p : Nat) : Nat := if p < k ∧ (gLg g (gTh g - 1) 4).testBit p = true then gLg g (gTh g - 1) 3 else gPl g p
theorem uPm_step {g : GD} {p q : Nat} (h : q = p → (gLg g (gTh g - 1) 4).testBit p = false) : uPm g (p + 1) q = uPm g p q := by
  unfold uPm
  by_cases y : q = p
  · rw [if_neg (show ¬ (q < p + 1 ∧ _) from fun w => by rw [y, h y] at w; exact absurd w.2 (by decide)), if_neg (show ¬ (q < p ∧ _) from fun w => by omega)]
  · by_cases w : q < p
    · simp only [w, show q < p + 1 by omega]
    · rw [if_neg (show ¬ (q < p + 1 ∧ _) from fun v => by omega), if_neg (show ¬ (q < p ∧ _) from fun v => w v.1)]
theorem l_mundo {s : SG} (hg : GoodS s) (t0 : 0 < gTh (sG s)) {h0 : XH} (hM : xMod (xP h0)) (a2 : xI h0 59 2 = nI (bPc (sB s))) (a34 : xI h0 56 34 = nI (gTh (sG s) - 1)) (hlg : ∀ k, k < 5 → xI h0 (72 + k) (gTh (sG s) - 1) = nI (gLg (sG s) (gTh (sG s) - 1) k)) (h78 : xI h0 78 (gTh (sG s) - 1) = nI (gLg (sG s) (gTh (sG s) - 1) 0)) {Q : Option Value → XH → Prop} {X : String → XH → Prop} : ∀ (k p : Nat) (h : XH), p + k = bPc (sB s) → xP h = xP h0 → (∀ c, c ≠ 71 → xI h c = xI h0 c) → (∀ q, q < 4 → xI h 71 q = nI (uPm (sG s) p q)) →
    (∀ F : Nat → Int32, (∀ q, q < 4 → F q = nI (uPl (sG s) (bPc (sB s)) q)) → Q (some (.int (nI (gTh (sG s) - 1)))) (xSI 56 (va_up (xI h0 56) 33 (nI (gLg (sG s) (gTh (sG s) - 1) 0))) (xSI 71 F h0))) →
    (∃ F, h = xSI 71 F h0) →
    XW (xrm 1 0 0) mX11_undo (xE 100 Q X 0 0) 100 0 0 h 31 [some (.ref 56), some (.int (nI (gTh (sG s) - 1))), some (.int (nI p))] [] := by
  have hp := hg.pc
  have ht := hg.th
  have lk := hg.2.1.2.2.2.2.1 (gTh (sG s) - 1) (by omega)
  intro k
  induction k with
  | zero =>
    intro p h hpp hP hn hv hQ hF
    have : p = bPc (sB s) := by omega
    subst this
    obtain ⟨F, rfl⟩ := hF
    have e72 : xI (xSI 71 F h0) 72 (gTh (sG s) - 1) = nI (gLg (sG s) (gTh (sG s) - 1) 0) := by rw [xI_ne (by decide)]; exact hlg 0 (by decide)
    have e74 : xI (xSI 71 F h0) 74 (gTh (sG s) - 1) = nI (gLg (sG s) (gTh (sG s) - 1) 2) := by rw [xI_ne (by decide)]; exact hlg 2 (by decide)
    have e78 : xI (xSI 71 F h0) 78 (gTh (sG s) - 1) = nI (gLg (sG s) (gTh (sG s) - 1) 0) := by rw [xI_ne (by decide)]; exact h78
    refine v_X11_undo_31 (h := xSI 71 F h0) hM _ (nI _) ⟨fun _ => ?_, fun c => absurd ?_ c⟩
    · rw [nI_clamp (by omega), e72, e74, e78, nI_clamp (by omega), xI_at, xSI_SI, xI_ne (show (56 : Nat) ≠ 71 by decide), va_up_of _ _ (by decide), a34]
      refine ⟨vp_in_nI (by omega) (by omega), vp_in_nI (by omega) (by omega), vp_in_nI (by omega) (by omega), vp_in_nI (by omega) (by omega), hQ _ (fun q hq => ?_)⟩
      have hvq := hv q hq
      rw [xI_at] at hvq
      by_cases y : q = gLg (sG s) (gTh (sG s) - 1) 0
      · rw [y, va_up_eq]
        unfold uPl
        rw [if_pos rfl]
      · rw [va_up_of _ _ y, hvq]
        unfold uPl uPm
        rw [if_neg y]
    · rw [hn 59 (by decide), a2]; exact nI_le (Nat.le_refl _) (by omega)
  | succ k ih =>
    intro p h hpp hP hn hv hQ hF
    have e76 : xI h 76 (gTh (sG s) - 1) = nI (gLg (sG s) (gTh (sG s) - 1) 4) := by rw [hn 76 (by decide)]; exact hlg 4 (by decide)
    have e75 : xI h 75 (gTh (sG s) - 1) = nI (gLg (sG s) (gTh (sG s) - 1) 3) := by rw [hn 75 (by decide)]; exact hlg 3 (by decide)
    refine v_X11_undo_31 (by rw [hP]; exact hM) _ (nI _) ⟨fun c => absurd c ?_, fun _ => ?_⟩
    · rw [hn 59 (by decide), a2]; exact nI_ge (by omega) (by omega)
    rw [nI_clamp (show gTh (sG s) - 1 < 2 ^ 31 by omega), e76, e75, shr4 _ lk.2.2.2.2.2.1 p (by omega), nI_clamp (show p < 2 ^ 31 by omega), nI_1]
    refine ⟨vp_in_nI (by omega) (by omega), fun c => ?_, fun c => ⟨vp_in_nI (by omega) (by omega), vp_in_nI (by omega) (by omega), ?_⟩⟩
    · refine ih (p + 1) h (by omega) hP hn (fun q hq => ?_) hQ hF
      rw [hv q hq, uPm_step (fun _ => by simpa using c)]
    · obtain ⟨F, rfl⟩ := hF
      refine ih (p + 1) _ (by omega) hP (fun c hc => by rw [xI_ne hc]; exact hn c hc) (fun q hq => ?_) hQ ⟨_, by rw [xI_at, xSI_SI]⟩
      rw [xI_at]
      by_cases y : q = p
      · rw [y, va_up_eq]
        unfold uPm
        rw [if_pos ⟨by omega, c⟩]
      · rw [va_up_of _ _ y, hv q hq, uPm_step (fun z => absurd z y)]
theorem s_X11_undo {h : XH} {s : SG} (hM : MI h s) (hg : GoodS s) : XSpec mX11_undo 1 0 0 100 100 [.ref 56] h (fun v h' => v = some (.int (unA s)) ∧ MI h' (sUnd s) ∧ mch h h') xno := by
  have ht := hg.th
  have hp := hg.pc
  obtain ⟨hM0, hm0, e0⟩ := m_code hM 0
  obtain ⟨g1, g2, g3, g4, g5, g6, g7⟩ := hM.gm
  have e34 : va_up (xI h 56) 2 0 34 = nI (gTh (sG s)) := by rw [va_up_of _ _ (by decide)]; exact g2
  unfold unA sUnd
  refine XSpec.of rfl (by decide) (Nat.le_of_ble_eq_true rfl) rfl (v_X11_undo_0 hM.1 ?_)
  rw [e34, va_up_eq]
  refine ⟨fun c => ?_, fun c => ?_⟩
  · have t0 : 0 < gTh (sG s) := Nat.pos_of_ne_zero (fun y => c (by rw [y]; rfl))
    have lk := hg.2.1.2.2.2.2.1 (gTh (sG s) - 1) (by omega)
    rw [if_neg (by omega), if_neg (by omega), nI_p1 t0]
    have f : ∀ c, c ≠ 56 → xI (xSI 56 (va_up (va_up (xI h 56) 2 0) 34 (nI (gTh (sG s) - 1))) (mz 0 h)) c = xI h c := fun c q1 => by rw [xI_ne q1]; exact xI_ne q1
    refine l_mundo hg t0 (h0 := xSI 56 (va_up (va_up (xI h 56) 2 0) 34 (nI (gTh (sG s) - 1))) (mz 0 h)) hM.1 (by rw [f 59 (by decide)]; exact hM.pc) (by rw [xI_at, va_up_eq]) (fun k hk => by rw [f (72 + k) (by omega)]; exact (g5 _ (by omega)).1 k hk) (by rw [f 78 (by decide)]; exact (g5 _ (by omega)).2) (bPc (sB s)) 0 _ (by omega) rfl (fun _ _ => rfl) (fun q hq => ?_) (fun F hF => ⟨rfl, ?_, ?_⟩) ⟨xI (xSI 56 (va_up (va_up (xI h 56) 2 0) 34 (nI (gTh (sG s) - 1))) (mz 0 h)) 71, (xSI_self _ _).symm⟩
    · rw [f 71 (by decide), g4 q hq]
      unfold uPm
      rw [if_neg (fun z => by omega)]
    · have nf : ∀ c, c ≠ 56 → c ≠ 71 → xI (xSI 56 (va_up (xI (xSI 56 (va_up (va_up (xI h 56) 2 0) 34 (nI (gTh (sG s) - 1))) (mz 0 h)) 56) 33 (nI (gLg (sG s) (gTh (sG s) - 1) 0))) (xSI 71 F (xSI 56 (va_up (va_up (xI h 56) 2 0) 34 (nI (gTh (sG s) - 1))) (mz 0 h)))) c = xI h c := fun c c1 c2 => by rw [xI_ne c1, xI_ne c2]; exact f c c1
      have f56 : ∀ j, j ≠ 2 → j ≠ 33 → j ≠ 34 → xI (xSI 56 (va_up (xI (xSI 56 (va_up (va_up (xI h 56) 2 0) 34 (nI (gTh (sG s) - 1))) (mz 0 h)) 56) 33 (nI (gLg (sG s) (gTh (sG s) - 1) 0))) (xSI 71 F (xSI 56 (va_up (va_up (xI h 56) 2 0) 34 (nI (gTh (sG s) - 1))) (mz 0 h)))) 56 j = xI h 56 j := fun j j0 j1 j2 => by
        rw [xI_at, va_up_of _ _ j1, xI_at, va_up_of _ _ j2, va_up_of _ _ j0]
      refine hM.game _ (fun c c1 c2 c3 c4 _ => nf c c1 (by omega)) (fun j j1 j2 j3 _ => f56 j (fun z => j1 (Or.inl z)) j2 j3) (fun _ _ => rfl) ⟨?_, ?_, ?_, ?_, ?_, ?_, ?_⟩
      · rw [xI_at, va_up_eq]; rfl
      · rw [xI_at, va_up_of _ _ (by decide), xI_at, va_up_eq]; rfl
      · rw [f56 46 (by decide) (by decide) (by decide)]; exact g3
      · intro q hq
        rw [xI_ne (by decide), xI_at]; exact hF q hq
      · intro i hi
        have hi' : i < gTh (sG s) - 1 := hi
        exact ⟨fun k hk => by rw [nf (72 + k) (by omega) (by omega)]; exact (g5 i (by omega)).1 k hk, by rw [nf 78 (by decide) (by decide)]; exact (g5 i (by omega)).2⟩
      · intro i hi; rw [nf 87 (by decide) (by decide)]; exact g6 i hi
      · intro i hi; rw [nf 65 (by decide) (by decide)]; exact g7 i hi
    · exact fun c hc => ⟨by rw [xI_ne (by omega), xI_ne (by omega)]; exact f c (by omega), Eq.refl _⟩
  · have z : gTh (sG s) = 0 := (nI_eq (b := 0) (by omega) (by omega)).1 c
    rw [if_pos z, if_pos z]
    exact ⟨rfl, hM0, hm0⟩
