/-! DRAW: the class, the whole -/
theorem code1_ok (C : Nat → Int32) : CodeOK (va_up C 0 (-1)) 1 := by
  have e : va_up C 0 (-1 : Int32) 0 = -1 := va_up_eq _ _ _
  refine ⟨by omega, ?_, fun k hk => ?_⟩
  · show dep (va_up C 0 (-1)) (0 + 1) = 1
    unfold dep
    rw [e, if_pos (by decide)]
    rfl
  · have : k = 0 := by omega
    subst this
    rw [e]
    exact ⟨by decide, fun _ => show (0 : Nat) < 64 by decide, fun z => absurd z (by decide), fun z => absurd (by decide) z⟩
def dB1 (b : BD) (last : Nat) : BD := dB0 (bOd b) (bLst b) last (bFt b) (bHd b) (bTx b) (va_up (bC b) 0 (-1))
theorem dB0_good {od ft hd tx : Nat → Nat} {lst last : Nat} (C : Nat → Int32) (hd6 : Die od lst) (l1 : 10 ≤ last) (l2 : last ≤ 100) : GoodBD (dB0 od lst last ft hd tx (va_up C 0 (-1))) :=
  ⟨⟨l1, l2, Nat.zero_le _, Nat.zero_le _, hd6, code1_ok C, fun i hi => absurd hi (Nat.not_lt_zero i), fun i j hi => absurd hi (Nat.not_lt_zero i)⟩, Nat.zero_le _, ⟨show 1 ≤ 2 by decide, show 2 ≤ 4 by decide⟩, Nat.zero_le _, Nat.zero_le _, Nat.zero_le _, fun _ => ⟨rfl, va_up_eq C 0 (-1), rfl⟩, fun i hi => absurd hi (Nat.not_lt_zero i)⟩
theorem dLp_good : ∀ (k : Nat) (b : BD) (q : Int32), GoodBD b → bKx b + k ≤ 24 → GoodBD (dLp k b q).1 ∧ bLast (dLp k b q).1 = bLast b := by
  intro k
  induction k with
  | zero => intro b q hb _; exact ⟨hb, rfl⟩
  | succ k ih =>
    intro b q hb hk
    unfold dLp
    have l1 := hb.1.1
    have d1 : drw (nSd q) (bLast b - 1) < bLast b - 1 := Nat.mod_lt _ (by omega)
    have d2 : drw (nSd (nSd q)) (bLast b) < bLast b := Nat.mod_lt _ (by omega)
    split
    · exact ih b _ hb (by omega)
    · rename_i z
      have hf : dFt b (drw (nSd q) (bLast b - 1) + 1) = false := by
        cases y : dFt b (drw (nSd q) (bLast b - 1) + 1)
        · rfl
        · exact absurd (Or.inr y) z
      have hb' := dAdd_good (t := drw (nSd (nSd q)) (bLast b) + 1) hb (by omega) (show 1 ≤ drw (nSd q) (bLast b - 1) + 1 by omega) (by omega) (by omega) (by omega) hf
      exact ih _ _ hb' (show bKx b + 1 + k ≤ 24 by omega)
theorem l_cdraw {h0 : XH} {r : Nat} {s : SG} {m n : Nat} (hn : n ≤ 24) {Q : Option Value → XH → Prop} {X : String → XH → Prop} : ∀ (k i : Nat) (b : BD) (q : Int32) (h : XH), i + k = n → DD h0 h r s b → GoodBD b → bLast b = m → bKx b ≤ i →
    (∀ h', CI h' r (sNew s (dLp k b q).1) → cch h0 h' → Q (some (.int (nI (bKx (dLp k b q).1)))) h') →
    XW (xrm 7 1 6) mX10_draw (xE 100 Q X 1 6) 100 1 6 h 51 [some (.ref 0), none, some (.int (nI m)), some (.int (nI n)), some (.int q), some (.int (nI i)), none, none] [] := by
  have hbp : ∀ {h : XH} {b : BD}, DD h0 h r s b → BP r h := fun {h b} hD => by
    obtain ⟨hP, hr, ha, -⟩ := hD
    have hr2 := hr.1
    exact ⟨hP.1, hr, by omega, ha, hP.2.1, hP.2.2.1, hP.2.2.2.1, hP.2.2.2.2.1, hP.2.2.2.2.2.2.2.2.1, hP.2.2.2.2.2.2.2.2.2.1⟩
  intro k
  induction k with
  | zero =>
    intro i b q h hi hD hb hm hk hQ
    have : i = n := by omega
    subst this
    refine v_X10_draw_51 r (hbp hD) (nI m) (nI i) q (nI i) ⟨fun _ => ⟨_, s_anew hD.1 hD.2.1 hD.2.2.1 hD.2.2.2.1 hb hD.2.2.2.2.1 hD.2.2.2.2.2.1, ?_⟩, fun c => absurd (nI_le (Nat.le_refl _) (by omega)) c⟩
    rintro v h2 ⟨rfl, hC, hc⟩
    refine ⟨rfl, hC.p3, ?_⟩
    rw [hC.kx]
    exact hQ h2 hC (hD.2.2.2.2.2.2.trans hc)
  | succ k ih =>
    intro i b q h hi hD hb hm hk hQ
    have hl := hb.1.1
    have hl2 := hb.1.2.1
    have b7 := hb.1.2.2.2.2.2.2.1
    subst hm
    refine v_X10_draw_51 r (hbp hD) (nI (bLast b)) (nI n) q (nI i) ⟨fun c => absurd c (nI_ge (by omega) (by omega)), fun _ => ⟨_, s_nextSeed 100 h q, ?_⟩⟩
    rintro v h3 ⟨rfl, rfl⟩
    refine ⟨_, rfl, ?_⟩
    rw [nI_p1 (show 1 ≤ bLast b by omega)]
    refine ⟨_, s_drawn 100 _ (nSd q) (bLast b - 1) (by omega) (by omega), ?_⟩
    rintro v h4 ⟨rfl, rfl⟩
    refine ⟨_, rfl, _, s_nextSeed 100 _ (nSd q), ?_⟩
    rintro v h5 ⟨rfl, rfl⟩
    refine ⟨_, rfl, _, s_drawn 100 _ (nSd (nSd q)) (bLast b) (by omega) (by omega), ?_⟩
    rintro v h6 ⟨rfl, rfl⟩
    have d1 : drw (nSd q) (bLast b - 1) < bLast b - 1 := Nat.mod_lt _ (by omega)
    have d2 : drw (nSd (nSd q)) (bLast b) < bLast b := Nat.mod_lt _ (by omega)
    unfold dLp at hQ
    generalize drw (nSd q) (bLast b - 1) = f at *
    generalize drw (nSd (nSd q)) (bLast b) = t at *
    refine ⟨_, rfl, ?_⟩
    rw [nI_1, nI_1, nI_1, nI_eq (by omega) (by omega)]
    refine ⟨fun c => ?_, fun c => ⟨hD.1.1.2.1, _, s_X5_isFoot 100 _ r hD.2.1 (by have := hD.2.1.1; omega) (nI (f + 1)), ?_⟩⟩
    · rw [if_pos (Or.inl (by omega))] at hQ
      exact ih (i + 1) b (nSd (nSd q)) _ (by omega) hD hb rfl (by omega) hQ
    rintro v h7 ⟨rfl, rfl⟩
    rw [if_neg (nI_pos (by omega)), if_neg (show ¬ (101 : Int32) ≤ nI (f + 1) from nI_ge (b := 101) (by omega) (by omega)), nI_clamp (by omega)]
    have e8 := hD.2.2.2.1.2.2.2.2.2.2.2.1 (f + 1) (by omega)
    have eF : (dFt b (f + 1) = true) ↔ ¬ jmps (bFt b) (bHd b) (bKx b) (f + 1) = 0 := by unfold dFt; simp
    refine ⟨_, rfl, fun c2 => ?_, fun c2 => ⟨hD.1.1.2.1, _, hD.add hb (by omega) (show f + 1 ≤ 100 by omega) (show 1 ≤ t + 1 by omega), ?_⟩⟩
    · have : ¬ jmps (bFt b) (bHd b) (bKx b) (f + 1) = 0 := fun z => c2 (by rw [if_pos z] at e8; rw [if_pos e8])
      rw [if_pos (Or.inr (eF.2 this))] at hQ
      exact ih (i + 1) b (nSd (nSd q)) _ (by omega) hD hb rfl (by omega) hQ
    · have hf0 : jmps (bFt b) (bHd b) (bKx b) (f + 1) = 0 := Classical.byContradiction fun z => by
        rw [if_neg z] at e8
        rw [e8] at c2
        exact absurd c2 (by decide)
      have hf : dFt b (f + 1) = false := by
        cases y : dFt b (f + 1)
        · rfl
        · exact absurd hf0 (eF.1 y)
      rw [if_neg (fun z => by rcases z with z | z; exact c (by omega); rw [hf] at z; exact absurd z (by decide))] at hQ
      rintro v h8 ⟨rfl, hD8⟩
      exact ⟨rfl, ih (i + 1) (dAdd b (f + 1) (t + 1)) (nSd (nSd q)) _ (by omega) hD8 (dAdd_good hb (by omega) (by omega) (by omega) (by omega) (by omega) hf) rfl (show bKx b + 1 ≤ i + 1 by omega) hQ⟩
def drB (s : SG) (q : Int32) (m n : Nat) : BD := (dLp n (dB1 (sB s) m) q).1
theorem s_X10_draw {h : XH} {r : Nat} {s : SG} (hC : CI h r s) (hg : GoodS s) (q m k0 : Int32) : XSpec mX10_draw 7 1 6 100 100 [.ref 0, .int q, .int m, .int k0] h (fun v h' => kd1 (inR m 10 100 && inR k0 0 24) = 0 ∧ v = some (.int (nI (bKx (drB s q m.toNatClampNeg k0.toNatClampNeg)))) ∧ CI h' r (sNew s (drB s q m.toNatClampNeg k0.toNatClampNeg)) ∧ cch h h') (cThr h (kd1 (inR m 10 100 && inR k0 0 24)) eA eA) := by
  have e10 : (10 : Int32).toInt = 10 := by decide
  have e100 : (100 : Int32).toInt = 100 := by decide
  have e24 : (24 : Int32).toInt = 24 := by decide
  refine XSpec.of rfl (by decide) (Nat.le_of_ble_eq_true rfl) rfl (v_X10_draw_0 r hC.bp q m k0 ⟨fun c => ⟨rfl, Or.inl ⟨kd1_f ?_, rfl⟩⟩, fun c => ⟨fun c2 => ⟨rfl, Or.inl ⟨kd1_f ?_, rfl⟩⟩, fun c2 => ⟨fun c3 => ⟨rfl, Or.inl ⟨kd1_f ?_, rfl⟩⟩, fun c3 => ⟨fun c4 => ?_, fun c4 => ⟨rfl, Or.inl ⟨kd1_f ?_, rfl⟩⟩⟩⟩⟩⟩)
  · rw [i32_lt, e10] at c; rw [inR_f.2 (by omega)]; rfl
  · rw [i32_lt, e100] at c2; rw [inR_f.2 (by omega)]; rfl
  · rw [i32_lt0] at c3; rw [Bool.and_eq_false_iff]; exact Or.inr (inR_f.2 (by omega))
  · rw [i32_lt, e10] at c
    rw [i32_lt, e100] at c2
    rw [i32_lt0] at c3
    rw [i32_le, e24] at c4
    have hm : inR m 10 100 = true := inR_t.2 (by omega)
    have hn : inR k0 0 24 = true := inR_t.2 (by omega)
    have hk : kd1 (inR m 10 100 && inR k0 0 24) = 0 := kd1_t (by rw [hm]; exact hn)
    obtain ⟨m, hm', rfl⟩ := inR_nI (x := m) (n := 100) (inR_t.2 (by omega))
    obtain ⟨n, hn', rfl⟩ := inR_nI (n := 24) hn
    rw [nI_toInt (by omega)] at c
    rw [nI_clamp (show m < 2 ^ 31 by omega), nI_clamp (show n < 2 ^ 31 by omega)]
    refine ⟨_, s_clearBD hC.rul, ?_⟩
    rintro v h1 ⟨rfl, hc⟩
    obtain ⟨⟨g1, g2, g3, g7⟩, -⟩ := hC.rl
    have hr := hC.r
    have hR := hc.rl (ft := bFt (sB s)) (hd := bHd (sB s)) (tx := bTx (sB s)) g2 g3 g7
    rw [hC.C] at hR
    obtain ⟨k1, k2, k3⟩ := hc
    have hp3 : xP h1 0 3 = some r := by rw [k1]; exact hC.p3
    have hD0 : DD h h r s (sB s) := ⟨hC.1, hC.rul, hC.geo.2.1, hC.rl, hC.gm.2.2.2.2.2.2.2, hC.2.2.2.2.2.1, cch.rfl⟩
    have hD1 : DD h h1 r s (dB1 (sB s) 36) := hD0.of k1 (fun c q => k2 c (by omega) (by omega) (by omega) (by omega)) hR
    have hD2 : DD h (xSI r (va_up (xI h1 r) 0 (nI m)) h1) r s (dB1 (sB s) m) := by
      refine hD1.of rfl (fun c q => xI_ne (by omega)) ?_
      obtain ⟨⟨q1, q2, q3, q4⟩, c1, c2, c3, c4, c5, c6, c7, c8, c9, c10, c11, c12⟩ := hD1.2.2.2.1
      refine ⟨⟨by rw [xI_at, va_up_eq]; rfl, by rw [xI_at, va_up_of _ _ (by decide)]; exact q2, by rw [xI_at, va_up_of _ _ (by decide)]; exact q3, by rw [xI_ne (by omega)]; exact q4⟩, by rw [xI_at, va_up_of _ _ (by decide)]; exact c1, by rw [xI_at, va_up_of _ _ (by decide)]; exact c2, by rw [xI_at, va_up_of _ _ (by decide)]; exact c3, by rw [xI_at, va_up_of _ _ (by decide)]; exact c4, by rw [xI_at, va_up_of _ _ (by decide)]; exact c5, by rw [xI_ne (by omega), xI_ne (by omega)]; exact c6, by rw [xI_ne (by omega)]; exact c7, by rw [xI_ne (by omega)]; exact c8, by rw [xI_ne (by omega)]; exact c9, by rw [xI_ne (by omega)]; exact c10, by rw [xI_ne (by omega)]; exact c11, by rw [xI_ne (by omega)]; exact c12⟩
    exact ⟨rfl, hp3, l_cdraw (h0 := h) hn' n 0 (dB1 (sB s) m) q _ (by omega) hD2 (dB0_good _ hg.die (by omega) hm') rfl (Nat.zero_le _) (fun h' k1 k2 => ⟨hk, rfl, k1, k2⟩)⟩
  · rw [i32_le, e24] at c4; rw [Bool.and_eq_false_iff]; exact Or.inr (inR_f.2 (by omega))
