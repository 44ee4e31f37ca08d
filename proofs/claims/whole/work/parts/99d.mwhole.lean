/-! THE BOARD WRITTEN BACK: the reference, whole -/
theorem m_tellText {h : XH} {b : BD} (hb : GoodBD b) (hM : xMod (xP h)) (hS : MStr (xP h)) (hB : MBd h b) : XSpec mX11_tellText 14 0 0 100 100 [.ref 56] h (fun v h' => v = none ∧ MT h' (bText b) ∧ wmh h h') xno := by
  have l2 := hb.1.2.1
  have e34 : jsL 34 = 4 := rfl
  have e36 : jsL 36 = 3 := rfl
  have lh := tHd_len b
  have hc0 : wmh h (xSI 56 (va_up (xI h 56) 49 0) h) := ⟨fun c q1 _ => xI_ne q1, fun j q => by rw [xI_at, va_up_of _ _ q], rfl⟩
  have hT0 : MT (xSI 56 (va_up (xI h 56) 49 0) h) [] := ⟨by rw [xI_at, va_up_eq]; rfl, fun i hi => absurd hi (Nat.not_lt_zero i)⟩
  refine XSpec.of rfl (by decide) (Nat.le_of_ble_eq_true rfl) rfl (v_X11_tellText_0 hM ?_)
  rw [hB.1.2.1]
  refine ⟨_, m_sayLine (i := 34) (by decide) (show bLast b ≤ 999 by omega) (xMod.w hM hc0) hT0 (by rw [e34]; show 0 + 4 + 5 ≤ 1700; omega), ?_⟩
  rintro v h1 ⟨rfl, hT1, hc1⟩
  have e1 : [] ++ (jsT 34 ++ tNum (bLast b) ++ [59]) = tHd b := by rw [jsT_m.1]; rfl
  rw [e1] at hT1
  have hM1 := xMod.w (xMod.w hM hc0) hc1
  refine ⟨rfl, _, m_sayWord (i := 36) (by decide) hM1 hT1 (by omega), ?_⟩
  rintro v h2 ⟨rfl, hT2, hc2⟩
  rw [jsT_m.2.1] at hT2
  refine ⟨rfl, l_mdieT (h0 := h) hb hS (fun h' k1 k2 => ⟨rfl, k1, k2⟩) 6 0 h2 (by omega) (xMod.w hM1 hc2) (((hB.w hc0).w hc1).w hc2) ?_ ((hc0.trans hc1).trans hc2)⟩
  have : tDie b 0 = [] := rfl
  rw [this, List.append_nil]; exact hT2
theorem wmh_m {h h' : XH} (hc : wmh h h') : msc h h' := ⟨fun c q1 q2 => hc.1 c q2 (fun z => q1 (by rw [z]; exact Or.inr (Or.inr (Or.inr (Or.inr rfl))))), fun j q => hc.2.1 j (fun z => q (by rw [z]; exact Or.inr (Or.inr (Or.inr rfl)))), fun c _ => by rw [hc.2.2]⟩
theorem wmh_mch {h h' : XH} (hc : wmh h h') : mch h h' := fun c q => ⟨hc.1 c (by omega) (by omega), by rw [hc.2.2]⟩
theorem s_X11_written {h : XH} {s : SG} (hM : MI h s) (hg : GoodS s) (w : Int32) : XSpec mX11_written 15 0 0 100 100 [.ref 56, .int w] h (mEndI h s (kd1 (wrB (sB s) w)) (fun z => z = wtA (sB s) w)) xno := by
  have hl := bText_len hg.1
  have en := nI_toInt (show (bText (sB s)).length < 2 ^ 31 by omega)
  obtain ⟨hM0, hm0, e0⟩ := m_code hM 0
  refine XSpec.of rfl (by decide) (Nat.le_of_ble_eq_true rfl) rfl (v_X11_written_0 hM.1 w ⟨_, m_tellText hg.1 hM0.1 hM0.2.1 hM0.2.2.1, ?_⟩)
  rintro v h1 ⟨rfl, hT, hc⟩
  have hM1 : MI h1 s := hM0.msc (wmh_m hc)
  have hm1 : mch h h1 := hm0.trans (wmh_mch hc)
  have e1 : xI h1 56 2 = 0 := (hc.2.1 2 (by decide)).trans e0
  rw [hT.1]
  refine ⟨rfl, fun c1 => ?_, fun c1 => ⟨_, rfl, fun _ => by unfold wtA; rw [if_pos c1], ?_, hM1, hm1⟩⟩
  · refine ⟨_, m_isIn 100 _ w 0 _ 0 (nI (bText (sB s)).length - 1) (by decide) rfl, ?_⟩
    rintro v h2 ⟨rfl, rfl⟩
    have e2 : (nI (bText (sB s)).length - 1).toInt = ((bText (sB s)).length : Int) - 1 := by
      rw [iz_nI, iz_lit 1, iz_sub, iz_toInt (by omega) (by omega)]; rfl
    have ez : (0 : Int32).toInt = 0 := by decide
    rw [e2, ez]
    refine ⟨_, rfl, fun c2 => m_failI hM1 hm1 1 (kd1_f ?_) (by decide) 1 rfl, fun c2 => ?_⟩
    · unfold wrB
      rw [decide_eq_false c1, bI_0.1 c2]; rfl
    · have hq := inR_t.1 (bI_n0.1 c2)
      refine ⟨hM1.1 (48, 89) (by decide), vp_in_iff.mpr (by omega), _, rfl, fun _ => ?_, ?_, hM1, hm1⟩
      · obtain ⟨k, hk, rfl⟩ := inR_lt (x := w) (bI_n0.1 c2)
        unfold wtA
        rw [if_neg c1, nI_clamp (by omega)]
        exact hT.2 k hk
      · rw [e1, wrB_yes (by omega) (by omega)]; rfl
  · rw [e1, wrB_m1 c1]; rfl
