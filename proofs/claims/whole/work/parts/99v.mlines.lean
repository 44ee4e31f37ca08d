/-! READ: the reference's lines: exits, the die -/
def Lch (h h' : XH) : Prop := (∀ c, c ≠ 56 → (c < 59 ∨ 64 < c) → xI h' c = xI h c) ∧ (∀ j, ¬ SB j → xI h' 56 j = xI h 56 j) ∧ ((∀ j, j < 8 → xI h' 59 j = xI h 59 j) ∧ (∀ j, j < 6 → xI h' 60 j = xI h 60 j) ∧ (∀ j, j < 24 → xI h' 61 j = xI h 61 j) ∧ (∀ j, j < 24 → xI h' 62 j = xI h 62 j) ∧ (∀ j, j < 500 → xI h' 63 j = xI h 63 j) ∧ (∀ j, j < 1000 → xI h' 64 j = xI h 64 j)) ∧ xP h' = xP h
theorem Lch.rfl {h : XH} : Lch h h := ⟨fun _ _ _ => Eq.refl _, fun _ _ => Eq.refl _, ⟨fun _ _ => Eq.refl _, fun _ _ => Eq.refl _, fun _ _ => Eq.refl _, fun _ _ => Eq.refl _, fun _ _ => Eq.refl _, fun _ _ => Eq.refl _⟩, Eq.refl _⟩
theorem Lch.trans {h h1 h2 : XH} (a : Lch h h1) (b : Lch h1 h2) : Lch h h2 := by
  obtain ⟨a1, a2, ⟨a3, a4, a5, a6, a7, a8⟩, a9⟩ := a
  obtain ⟨b1, b2, ⟨b3, b4, b5, b6, b7, b8⟩, b9⟩ := b
  exact ⟨fun c q1 q2 => (b1 c q1 q2).trans (a1 c q1 q2), fun j q => (b2 j q).trans (a2 j q), ⟨fun j q => (b3 j q).trans (a3 j q), fun j q => (b4 j q).trans (a4 j q), fun j q => (b5 j q).trans (a5 j q), fun j q => (b6 j q).trans (a6 j q), fun j q => (b7 j q).trans (a7 j q), fun j q => (b8 j q).trans (a8 j q)⟩, b9.trans a9⟩
theorem Mfc.l {h h' : XH} (a : Mfc h h') : Lch h h' := ⟨fun c q _ => a.1 c q, a.2.1, ⟨fun _ _ => by rw [a.1 59 (by decide)], fun _ _ => by rw [a.1 60 (by decide)], fun _ _ => by rw [a.1 61 (by decide)], fun _ _ => by rw [a.1 62 (by decide)], fun _ _ => by rw [a.1 63 (by decide)], fun _ _ => by rw [a.1 64 (by decide)]⟩, a.2.2⟩
theorem Mch.l {h h' : XH} (a : Mch h h') : Lch h h' := a.fc.l
theorem MRl.fc {h h' : XH} {b : BD} (hR : MRl h b) (a : Mfc h h') : MRl h' b := by
  unfold MRl at *
  rw [a.1 59 (by decide), a.1 60 (by decide), a.1 61 (by decide), a.1 62 (by decide), a.1 63 (by decide), a.1 64 (by decide)]
  exact hR
/-- a change behind the first halves of the rows -/
theorem Lch.put {h0 h : XH} {a k : Nat} {v : Int32} (hc : Lch h0 h) (hk : (a = 59 ∧ 8 ≤ k) ∨ (a = 60 ∧ 6 ≤ k) ∨ (a = 61 ∧ 24 ≤ k) ∨ (a = 62 ∧ 24 ≤ k) ∨ (a = 63 ∧ 500 ≤ k) ∨ (a = 64 ∧ 1000 ≤ k)) : Lch h0 (xSI a (va_up (xI h a) k v) h) := by
  refine hc.trans ⟨fun c q1 q2 => xI_ne (by omega), fun j _ => by rw [xI_ne (by omega)], ⟨fun j q => ?_, fun j q => ?_, fun j q => ?_, fun j q => ?_, fun j q => ?_, fun j q => ?_⟩, Eq.refl _⟩
  · by_cases z : 59 = a
    · rw [← z, xI_at, va_up_of _ _ (by omega)]
    · rw [xI_ne z]
  · by_cases z : 60 = a
    · rw [← z, xI_at, va_up_of _ _ (by omega)]
    · rw [xI_ne z]
  · by_cases z : 61 = a
    · rw [← z, xI_at, va_up_of _ _ (by omega)]
    · rw [xI_ne z]
  · by_cases z : 62 = a
    · rw [← z, xI_at, va_up_of _ _ (by omega)]
    · rw [xI_ne z]
  · by_cases z : 63 = a
    · rw [← z, xI_at, va_up_of _ _ (by omega)]
    · rw [xI_ne z]
  · by_cases z : 64 = a
    · rw [← z, xI_at, va_up_of _ _ (by omega)]
    · rw [xI_ne z]
theorem MK.o {h h' : XH} {T : Nat → Nat} {n s : Nat} (hK : MK h T n s) (h1 : xI h' 56 = xI h 56) (h2 : xI h' 66 = xI h 66) (hp : xP h' = xP h) : MK h' T n s := by
  obtain ⟨k1, k2, k3, k4⟩ := hK
  exact ⟨by rw [hp]; exact k1, by unfold TM at *; rw [h1, h2]; exact k2, by unfold KM at *; rw [h1]; exact k3, by rw [h1]; exact k4⟩
theorem MB.o {h h' : XH} {T : Nat → Nat} {n f p : Nat} (hB : MB h T n f p) (h1 : xI h' 56 = xI h 56) (h2 : xI h' 66 = xI h 66) (hp : xP h' = xP h) : MB h' T n f p := by
  obtain ⟨k1, k2, k3, k4, k5⟩ := hB
  exact ⟨by rw [hp]; exact k1, by unfold TM at *; rw [h1, h2]; exact k2, by rw [h1]; exact k3, k4, by rw [h1]; exact k5⟩
/-- where the reading of lines stands -/
def LM (T : Nat → Nat) (n : Nat) (h0 : XH) (x : QR) (h : XH) : Prop := Lch h0 h ∧ (match x with
  | .inl e => MB h T n e.1 e.2
  | .inr y => MK h T n y.1 ∧ MRl h y.2)
theorem LM.hM {T : Nat → Nat} {n : Nat} {h0 h : XH} {x : QR} (hL : LM T n h0 x h) : xMod (xP h) := by
  rcases x with e | y
  · exact hL.2.1
  · exact hL.2.1.1
theorem LM.tr {T : Nat → Nat} {n : Nat} {h0 h h' : XH} {x : QR} (a : Lch h0 h) (hL : LM T n h x h') : LM T n h0 x h' := ⟨a.trans hL.1, hL.2⟩
theorem LM.fl {T : Nat → Nat} {n f p : Nat} {h0 h h' : XH} (a : Lch h0 h) (hB : MB h' T n f p) (c : Mfc h h') : LM T n h0 (.inl (f, p)) h' := ⟨a.trans c.l, hB⟩
theorem MRl.add {h : XH} {b : BD} {f t : Nat} (hR : MRl h b) : MRl (xSI 59 (va_up (xI h 59) 9 (nI (bKx b + 1))) (xSI 62 (va_up (xI h 62) (24 + bKx b) (nI t)) (xSI 61 (va_up (xI h 61) (24 + bKx b) (nI f)) h))) (dAdd b f t) := by
  obtain ⟨⟨r1, r2, r3, r4, r5, r6⟩, ⟨r7, r8⟩, r9, r10, r11, r12⟩ := hR
  obtain ⟨h', e⟩ : ∃ h', h' = xSI 59 (va_up (xI h 59) 9 (nI (bKx b + 1))) (xSI 62 (va_up (xI h 62) (24 + bKx b) (nI t)) (xSI 61 (va_up (xI h 61) (24 + bKx b) (nI f)) h)) := ⟨_, rfl⟩
  rw [← e]
  have a : ∀ c, c ≠ 59 → c ≠ 61 → c ≠ 62 → xI h' c = xI h c := fun c q1 q2 q3 => by rw [e, xI_ne q1, xI_ne q3, xI_ne q2]
  have a59 : ∀ j, j ≠ 9 → xI h' 59 j = xI h 59 j := fun j q => by rw [e, xI_at, va_up_of _ _ q]
  have a9 : xI h' 59 9 = nI (bKx b + 1) := by rw [e, xI_at, va_up_eq]
  have a61 : xI h' 61 = va_up (xI h 61) (24 + bKx b) (nI f) := by rw [e, xI_ne (by decide), xI_ne (by decide), xI_at]
  have a62 : xI h' 62 = va_up (xI h 62) (24 + bKx b) (nI t) := by rw [e, xI_ne (by decide), xI_at]
  clear e
  refine ⟨⟨by rw [a59 8 (by decide)]; exact r1, a9, by rw [a59 10 (by decide)]; exact r3, by rw [a59 11 (by decide)]; exact r4, by rw [a59 12 (by decide)]; exact r5, by rw [a59 13 (by decide)]; exact r6⟩, ⟨fun z => by rw [a59 14 (by decide)]; exact r7 z, fun z => by rw [a59 14 (by decide), a 63 (by decide) (by decide) (by decide)]; exact r8 z⟩, by rw [a59 15 (by decide)]; exact r9, fun f f1 f2 => by rw [a 60 (by decide) (by decide) (by decide)]; exact r10 f f1 f2, fun i hi => ?_, fun i hi => by rw [a 64 (by decide) (by decide) (by decide)]; exact r12 i hi⟩
  have hi' : i < bKx b + 1 := hi
  rw [a61, a62]
  show _ = nI (va_up (bFt b) (bKx b) f i) ∧ _ = nI (va_up (bHd b) (bKx b) t i)
  by_cases z : i = bKx b
  · rw [z, va_up_eq, va_up_eq, va_up_eq, va_up_eq]; exact ⟨rfl, rfl⟩
  · refine ⟨?_, ?_⟩
    · rw [va_up_of _ _ (by omega), va_up_of _ _ z]; exact (r11 i (by omega)).1
    · rw [va_up_of _ _ (by omega), va_up_of _ _ z]; exact (r11 i (by omega)).2
theorem m_readExitB {h : XH} {T : Nat → Nat} {n f p : Nat} (hB : MB h T n f p) : XSpec mX11_readExit 3 0 0 100 100 [.ref 56] h (fun v h' => v = none ∧ h' = h) xno := by
  have s17 : XW (xrm 3 0 0) mX11_readExit (xE 100 (fun v h' => v = none ∧ h' = h) xno 0 0) 100 0 0 h 17 [some (.ref 56), none, none] [] := v_X11_readExit_17 hB.1 ⟨fun q => absurd q hB.n0, fun _ => ⟨rfl, rfl⟩⟩
  refine XSpec.of rfl (by decide) (Nat.le_of_ble_eq_true rfl) rfl (v_X11_readExit_0 hB.1 ⟨fun _ => s17, fun _ => ⟨_, m_wrongB hB _, ?_⟩⟩)
  rintro v h1 ⟨rfl, e⟩
  subst h1
  exact ⟨rfl, s17⟩
theorem m_readExit {h : XH} {T : Nat → Nat} {n s : Nat} {b : BD} (hK : MK h T n s) (hR : MRl h b) (hb : GoodBD b) : XSpec mX11_readExit 3 0 0 100 100 [.ref 56] h (fun v h' => v = none ∧ LM T n h (if 24 ≤ bKx b then .inl (2, s) else lExit T n (nx T n s) b) h') xno := by
  have hkx := hb.1.2.2.1
  have hl10 := hb.1.1
  have hl100 := hb.1.2.1
  have k24 : nI (bKx b) = 24 ↔ bKx b = 24 := nI_eq (b := 24) (by omega) (by omega)
  have bt105 : ∀ (h7 : XH) (x1 x2 : Int32) (f p : Nat) (res : QR), res = .inl (f, p) → MB h7 T n f p → Lch h h7 → XW (xrm 3 0 0) mX11_readExit (xE 100 (fun v h' => v = none ∧ LM T n h res h') xno 0 0) 100 0 0 h7 105 [some (.ref 56), some (.int x1), some (.int x2)] [] := fun h7 x1 x2 f p res he hB hc => by
    subst he
    exact v_X11_readExit_105 hB.1 x1 x2 ⟨fun q => absurd q hB.n0, fun _ => ⟨rfl, hc, hB⟩⟩
  have bt64 : ∀ (h7 : XH) (x1 : Int32) (f p : Nat) (res : QR), res = .inl (f, p) → MB h7 T n f p → Lch h h7 → XW (xrm 3 0 0) mX11_readExit (xE 100 (fun v h' => v = none ∧ LM T n h res h') xno 0 0) 100 0 0 h7 64 [some (.ref 56), some (.int x1), none] [] := fun h7 x1 f p res he hB hc => by
    refine v_X11_readExit_64 hB.1 x1 ⟨fun _ => v_X11_readExit_75 hB.1 x1 ⟨_, m_numberB hB _ _, ?_⟩, fun q => absurd q hB.n0⟩
    rintro v h8 ⟨rfl, e8⟩
    subst h8
    exact ⟨_, rfl, fun _ => bt105 h7 _ _ f p res he hB hc, fun q => absurd q hB.n0⟩
  refine XSpec.of rfl (by decide) (Nat.le_of_ble_eq_true rfl) rfl (v_X11_readExit_0 hK.1 ?_)
  rw [hR.1.2.1, k24]
  refine ⟨fun c => ?_, fun c => ⟨_, m_wrong hK (f := 2) (by omega), ?_⟩⟩
  · rw [if_neg (by omega)]
    refine v_X11_readExit_17 hK.1 ⟨fun _ => ⟨_, m_stepOn hK, ?_⟩, fun q => absurd hK.2.2.2 q⟩
    rintro v h2 ⟨rfl, k1, k2⟩
    have hR2 := hR.fc k2.fc
    refine ⟨rfl, k1.1 (3, 59) (by decide), ?_⟩
    rw [hR2.1.1, nI_p1 (by omega)]
    refine ⟨_, m_number (lo := 1) (hi := bLast b - 1) k1 (by omega) (by omega), ?_⟩
    rintro v h3 (⟨a, e, rfl, e1⟩ | ⟨f, e, rfl, m1, m2⟩)
    · subst h3
      have ha := num_r e
      have eq1 : lExit T n (nx T n s) b = (if dFt b a = true then .inl (4, nx T n s) else match num T n 1 (bLast b) (nx T n (nx T n s)) with
        | .inl f => .inl (f, nx T n (nx T n s))
        | .inr t => if t = a then .inl (2, nx T n (nx T n s)) else .inr (nx T n (nx T n (nx T n s)), dAdd b a t)) := by
        unfold lExit
        rw [e]
        rfl
      refine ⟨_, rfl, fun q => absurd k1.2.2.2 q, fun _ => ⟨_, m_isFoot k1.1 hR2 hb (show a ≤ 100 by omega), ?_⟩⟩
      rintro v h4 ⟨rfl, e4⟩
      subst h4
      refine ⟨_, rfl, fun q => ?_, fun q => ⟨_, m_wrong k1 (f := 4) (by omega), ?_⟩⟩
      · rw [if_neg (by rw [bI_0.1 q]; decide)] at eq1
        refine v_X11_readExit_64 k1.1 _ ⟨fun z => absurd k1.2.2.2 z, fun _ => ⟨_, m_stepOn k1, ?_⟩⟩
        rintro v h5 ⟨rfl, k3, k4⟩
        have hR5 := hR2.fc k4.fc
        have c5 : Lch h h5 := k2.l.trans k4.l
        refine ⟨rfl, v_X11_readExit_75 k3.1 _ ?_⟩
        rw [hR5.1.1]
        refine ⟨_, m_number (lo := 1) (hi := bLast b) k3 (by omega) (by omega), ?_⟩
        rintro v h6 (⟨u, e6, rfl, e7⟩ | ⟨f, e6, rfl, m1, m2⟩)
        · subst h6
          have hu := num_r e6
          rw [e6] at eq1
          have eq2 : lExit T n (nx T n s) b = (if u = a then .inl (2, nx T n (nx T n s)) else .inr (nx T n (nx T n (nx T n s)), dAdd b a u)) := eq1
          have ne : nI a = nI u ↔ a = u := nI_eq (by omega) (by omega)
          refine ⟨_, rfl, ?_⟩
          rw [ne]
          refine ⟨fun z => absurd k3.2.2.2 z, fun _ => ⟨fun z => ?_, fun z => ⟨_, m_wrong k3 (f := 2) (by omega), ?_⟩⟩⟩
          · rw [if_neg (fun w => z w.symm)] at eq2
            rw [eq2]
            refine v_X11_readExit_105 k3.1 _ _ ⟨fun _ => v_X11_readExit_113 k3.1 _ _ ⟨_, m_stepOn k3, ?_⟩, fun w => absurd k3.2.2.2 w⟩
            rintro v h8 ⟨rfl, k5, k6⟩
            have hR8 := hR5.fc k6.fc
            have e24 : (24 : Int32) = nI 24 := rfl
            have eA := hR8.add (f := a) (t := u)
            rw [hR8.1.2.1, e24, nI_add, nI_clamp (by omega), nI_1]
            refine ⟨rfl, k5.1 (5, 61) (by decide), k5.1 (3, 59) (by decide), vp_in_nI (by omega) (by omega), k5.1 (6, 62) (by decide), k5.1 (3, 59) (by decide), vp_in_nI (by omega) (by omega), k5.1 (3, 59) (by decide), rfl, ?_, k5.o ?_ ?_ rfl, eA⟩
            · have t1 := (c5.trans k6.l).put (a := 61) (k := 24 + bKx b) (v := nI a) (by omega)
              have t2 := t1.put (a := 62) (k := 24 + bKx b) (v := nI u) (by omega)
              have t3 := t2.put (a := 59) (k := 9) (v := nI (bKx b + 1)) (by omega)
              rw [xI_ne (show (59 : Nat) ≠ 62 by decide), xI_ne (show (59 : Nat) ≠ 61 by decide), xI_ne (show (62 : Nat) ≠ 61 by decide)] at t3
              exact t3
            · rw [xI_ne (by decide), xI_ne (by decide), xI_ne (by decide)]
            · rw [xI_ne (by decide), xI_ne (by decide), xI_ne (by decide)]
          · rw [if_pos z.symm] at eq2
            rintro v h8 ⟨rfl, m1, m2⟩
            exact ⟨rfl, bt105 h8 _ _ 2 _ _ eq2 m1 (c5.trans m2.l)⟩
        · rw [e6] at eq1
          exact ⟨_, rfl, fun _ => bt105 h6 _ _ f _ _ eq1 m1 (c5.trans m2.l), fun z => absurd z m1.n0⟩
      · rw [if_pos (bI_n0.1 q)] at eq1
        rintro v h5 ⟨rfl, m1, m2⟩
        exact ⟨rfl, bt64 h5 _ 4 _ _ eq1 m1 (k2.l.trans m2.l)⟩
    · have eq1 : lExit T n (nx T n s) b = .inl (f, nx T n s) := by unfold lExit; rw [e]
      exact ⟨_, rfl, fun _ => bt64 h3 _ f _ _ eq1 m1 (k2.l.trans m2.l), fun z => absurd z m1.n0⟩
  · rw [if_pos (by omega)]
    rintro v h1 ⟨rfl, m1, m2⟩
    exact ⟨rfl, v_X11_readExit_17 m1.1 ⟨fun z => absurd z m1.n0, fun _ => ⟨rfl, m2.l, m1⟩⟩⟩
/-! the die -/
def sO (od : Nat → Nat) : Nat → Nat
  | 0 => 0
  | k + 1 => sO od k + od (k + 1)
theorem sO_6 (od : Nat → Nat) : sO od 6 = od6 od := by
  show 0 + od 1 + od 2 + od 3 + od 4 + od 5 + od 6 = od 1 + od 2 + od 3 + od 4 + od 5 + od 6
  omega
theorem sO_up {od : Nat → Nat} {f v : Nat} : ∀ k, k < f → sO (va_up od f v) k = sO od k := by
  intro k
  induction k with
  | zero => intro _; rfl
  | succ k ih =>
    intro h
    show sO (va_up od f v) k + va_up od f v (k + 1) = sO od k + od (k + 1)
    rw [ih (by omega), va_up_of _ _ (by omega)]
theorem sO_le {od : Nat → Nat} (h9 : ∀ f, 1 ≤ f → f ≤ 6 → od f ≤ 9) : ∀ k, k ≤ 6 → sO od k ≤ 9 * k := by
  intro k
  induction k with
  | zero => intro _; exact Nat.le_refl 0
  | succ k ih =>
    intro h
    have h1 := ih (by omega)
    have h2 := h9 (k + 1) (by omega) h
    show sO od k + od (k + 1) ≤ 9 * (k + 1)
    omega
theorem MRl.od {h : XH} {b : BD} {f v : Nat} (hf : f < 6) (hR : MRl h b) : MRl (xSI 60 (va_up (xI h 60) (6 + f) (nI v)) h) (dOd b (f + 1) v) := by
  obtain ⟨r1, r2, r9, r10, r11, r12⟩ := hR
  refine ⟨by rw [xI_ne (by decide)]; exact r1, by rw [xI_ne (by decide), xI_ne (by decide)]; exact r2, by rw [xI_ne (by decide)]; exact r9, fun g g1 g2 => ?_, fun i hi => by rw [xI_ne (by decide), xI_ne (by decide)]; exact r11 i hi, fun i hi => by rw [xI_ne (by decide)]; exact r12 i hi⟩
  rw [xI_at]
  show _ = nI (va_up (bOd b) (f + 1) v g)
  by_cases z : g = f + 1
  · rw [z, va_up_eq, show 6 + (f + 1 - 1) = 6 + f by omega, va_up_eq]
  · rw [va_up_of _ _ z, va_up_of _ _ (by omega)]; exact r10 g g1 g2
theorem m_readDieB {h : XH} {T : Nat → Nat} {n f p : Nat} (hB : MB h T n f p) : XSpec mX11_readDie 3 0 0 100 100 [.ref 56] h (fun v h' => v = none ∧ h' = h) xno :=
  XSpec.of rfl (by decide) (Nat.le_of_ble_eq_true rfl) rfl (v_X11_readDie_0 hB.1 (v_X11_readDie_4 hB.1 0 0 ⟨fun q => absurd q (by decide), fun _ => ⟨fun _ => ⟨rfl, rfl⟩, fun q => absurd q hB.n0⟩⟩))
theorem l_mdie6 {h0 : XH} {T : Nat → Nat} {n : Nat} {res : QR} {Q : Option Value → XH → Prop} {X : String → XH → Prop} (hQ : ∀ h', LM T n h0 res h' → Q none h') : ∀ (k s : Nat) (b : BD) (h : XH), k ≤ 6 → MK h T n s → MRl h b → Good9 b → Lch h0 h → lDie T n k s b = res →
    XW (xrm 3 0 0) mX11_readDie (xE 100 Q X 0 0) 100 0 0 h 4 [some (.ref 56), some (.int (nI (sO (bOd b) (6 - k)))), some (.int (nI (6 - k)))] [] := by
  intro k
  induction k with
  | zero =>
    intro s b h hk hK hR h9 hc hres
    refine v_X11_readDie_4 hK.1 _ _ ⟨fun _ => hQ h ?_, fun q => absurd (by decide) q⟩
    rw [← hres]
    exact ⟨hc, hK, hR⟩
  | succ k ih =>
    intro s b h hk hK hR h9 hc hres
    have hs9 := sO_le h9 (6 - (k + 1)) (by omega)
    generalize hf : 6 - (k + 1) = f at *
    have h6 : f + 1 = 6 - k := by omega
    have e6 : (6 : Int32) = nI 6 := rfl
    unfold lDie at hres
    rw [← h6] at hres
    have bt66 : ∀ (h7 : XH) (x1 : Int32) (g p : Nat), res = .inl (g, p) → MB h7 T n g p → Lch h0 h7 → XW (xrm 3 0 0) mX11_readDie (xE 100 Q X 0 0) 100 0 0 h7 66 [some (.ref 56), some (.int x1), some (.int (nI f))] [] := fun h7 x1 g p he hB hc7 => by
      refine v_X11_readDie_66 hB.1 _ _ ⟨fun _ => v_X11_readDie_77 hB.1 _ _ ?_, fun q => absurd q hB.n0⟩
      have q1 : Q none h7 := hQ h7 (by rw [he]; exact ⟨hc7, hB⟩)
      exact v_X11_readDie_4 hB.1 _ _ ⟨fun _ => q1, fun _ => ⟨fun _ => q1, fun q => absurd q hB.n0⟩⟩
    refine v_X11_readDie_4 hK.1 _ _ ⟨fun q => ?_, fun _ => ⟨fun q => absurd hK.2.2.2 q, fun _ => ⟨_, m_number (lo := 0) (hi := 9) hK (by omega) (by omega), ?_⟩⟩⟩
    · have := (nI_leI (a := 6) (by omega) (by omega)).1 q
      omega
    rw [e6, nI_add, nI_clamp (show 6 + f < 2 ^ 31 by omega)]
    have f5 : nI f = 5 ↔ f = 5 := nI_eq (b := 5) (by omega) (by omega)
    rw [f5]
    rintro v h1 (⟨w, e, rfl, e1⟩ | ⟨g, e, rfl, m1, m2⟩)
    · subst h1
      have hw := num_r e
      rw [e] at hres
      have hres' : (if k = 0 ∧ od6 (bOd (dOd b (f + 1) w)) = 0 then (.inl (2, s) : QR) else lDie T n k (nx T n s) (dOd b (f + 1) w)) = res := hres
      have hR1 := hR.od (f := f) (v := w) (by omega)
      have c1 : Lch h0 (xSI 60 (va_up (xI h 60) (6 + f) (nI w)) h) := hc.put (by omega)
      have hK1 : MK (xSI 60 (va_up (xI h 60) (6 + f) (nI w)) h) T n s := hK.o (xI_ne (by decide)) (xI_ne (by decide)) rfl
      have n18 : xI (xSI 60 (va_up (xI h 60) (6 + f) (nI w)) h) 56 18 = 0 := hK1.2.2.2
      have h9' : Good9 (dOd b (f + 1) w) := fun g g1 g2 => by
        show va_up (bOd b) (f + 1) w g ≤ 9
        by_cases z : g = f + 1
        · rw [z, va_up_eq]; omega
        · rw [va_up_of _ _ z]; exact h9 g g1 g2
      have es : nI (sO (bOd b) f) + (va_up (xI h 60) (6 + f) (nI w) (6 + f)) = nI (sO (bOd (dOd b (f + 1) w)) (f + 1)) := by
        rw [va_up_eq, nI_add]
        congr 1
        show _ = sO (va_up (bOd b) (f + 1) w) f + va_up (bOd b) (f + 1) w (f + 1)
        rw [sO_up f (by omega), va_up_eq]
      refine ⟨_, rfl, ?_⟩
      rw [es]
      have hs9' := sO_le h9' (f + 1) (by omega)
      have z0 : nI (sO (bOd (dOd b (f + 1) w)) (f + 1)) = 0 ↔ sO (bOd (dOd b (f + 1) w)) (f + 1) = 0 := nI_eq (b := 0) (by omega) (by omega)
      rw [z0]
      have on : ¬ (k = 0 ∧ od6 (bOd (dOd b (f + 1) w)) = 0) → XW (xrm 3 0 0) mX11_readDie (xE 100 Q X 0 0) 100 0 0 (xSI 60 (va_up (xI h 60) (6 + f) (nI w)) h) 66 [some (.ref 56), some (.int (nI (sO (bOd (dOd b (f + 1) w)) (f + 1)))), some (.int (nI f))] [] := fun hn => by
        rw [if_neg hn] at hres'
        refine v_X11_readDie_66 hK1.1 _ _ ⟨fun q => absurd n18 q, fun _ => ⟨_, m_stepOn hK1, ?_⟩⟩
        rintro v h2 ⟨rfl, k1, k2⟩
        refine ⟨rfl, v_X11_readDie_77 k1.1 _ _ ?_⟩
        have := ih (nx T n s) (dOd b (f + 1) w) h2 (by omega) k1 (hR1.fc k2.fc) h9' (c1.trans k2.l) hres'
        rw [← h6] at this
        rw [nI_1]
        exact this
      refine ⟨vp_in_nI (by omega) (by omega), hK.1 (4, 60) (by decide), vp_in_nI (by omega) (by omega), fun q => absurd hK.2.2.2 q, fun _ => ⟨fun q => on (fun z => q (by omega)), fun q => ⟨fun q2 => on (fun z => q2 (by have z2 := z.2; rw [q] at z2 ⊢; exact (sO_6 _).trans z2)), fun q2 => ⟨_, m_wrong hK1 (f := 2) (by omega), ?_⟩⟩⟩⟩
      rintro v h2 ⟨rfl, m1, m2⟩
      have d0 : od6 (bOd (dOd b (f + 1) w)) = 0 := by rw [q] at q2 ⊢; exact (sO_6 _).symm.trans q2
      rw [if_pos ⟨by omega, d0⟩] at hres'
      exact ⟨rfl, bt66 h2 _ 2 s hres'.symm m1 (c1.trans m2.l)⟩
    · rw [e] at hres
      have hB1 : MB (xSI 60 (va_up (xI h1 60) (6 + f) 0) h1) T n g s := m1.o (xI_ne (by decide)) (xI_ne (by decide)) rfl
      exact ⟨_, rfl, vp_in_nI (by omega) (by omega), m1.1 (4, 60) (by decide), vp_in_nI (by omega) (by omega), fun _ => bt66 _ _ g s hres.symm hB1 ((hc.trans m2.l).put (by omega)), fun q => absurd q m1.n0⟩
theorem m_readDie {h : XH} {T : Nat → Nat} {n s : Nat} {b : BD} (hK : MK h T n s) (hR : MRl h b) (h9 : Good9 b) : XSpec mX11_readDie 3 0 0 100 100 [.ref 56] h (fun v h' => v = none ∧ LM T n h (lDie T n 6 s b) h') xno :=
  XSpec.of rfl (by decide) (Nat.le_of_ble_eq_true rfl) rfl (v_X11_readDie_0 hK.1 (l_mdie6 (h0 := h) (fun h' k => ⟨rfl, k⟩) 6 s b h (by omega) hK hR h9 Lch.rfl rfl))
