/-! A NEW BOARD: what the rules hold; all begins anew -/
def CRl (h : XH) (r : Nat) (b : BD) : Prop := (xI h r 0 = nI (bLast b) ∧ xI h r 1 = nI (od6 (bOd b)) ∧ xI h r 2 = nI (bLst b) ∧ (∀ f, 1 ≤ f → f ≤ 6 → xI h (r + 5) f = nI (bOd b f))) ∧ xI h r 3 = nI (bE b) ∧ xI h r 4 = nI (bAg b) ∧ xI h r 5 = nI (bMt b) ∧ xI h r 6 = nI (bPc b) ∧ xI h r 7 = nI (bKx b) ∧ (∀ i, i < bKx b → xI h (r + 6) i = nI (bFt b i) ∧ xI h (r + 7) i = nI (bHd b i)) ∧ (∀ q, q < 101 → xI h (r + 8) q = if jmps (bFt b) (bHd b) (bKx b) q = 0 then 0 else 1) ∧ xI h (r + 1) 3 = nI (bLen b) ∧ xI h (r + 3) = bC b ∧ xI h (r + 1) 0 = nI (bTd b) ∧ xI h (r + 1) 1 = nI (bTl b) ∧ (∀ i, i < bTl b → xI h (r + 2) i = nI (bTx b i))
theorem CRl.of {h h' : XH} {r : Nat} {b : BD} (he : ∀ c, r ≤ c → c ≤ r + 8 → c ≠ r + 4 → xI h' c = xI h c) (hC : CRl h r b) : CRl h' r b := by
  unfold CRl at *
  rw [he r (by omega) (by omega) (by omega), he (r + 1) (by omega) (by omega) (by omega), he (r + 2) (by omega) (by omega) (by omega), he (r + 3) (by omega) (by omega) (by omega), he (r + 5) (by omega) (by omega) (by omega), he (r + 6) (by omega) (by omega) (by omega), he (r + 7) (by omega) (by omega) (by omega), he (r + 8) (by omega) (by omega) (by omega)]
  exact hC
theorem CI.rl {h : XH} {r : Nat} {s : SG} (hC : CI h r s) : CRl h r (sB s) := by
  obtain ⟨⟨hr, ha, g1, g2, g3, g4, g5, g6, g7, g8⟩, c1, c2, c3, c4, c5, c6, c7, c8, c9, c10, c11, c12⟩ := hC.2.1
  exact ⟨⟨g1, g2, g3, g7⟩, c1, c2, c3, c4, c5, c6, c7, c8, c9, c10, c11, c12⟩
theorem CRl.cbd {h : XH} {r : Nat} {b : BD} (hR : CRl h r b) (hr : xRul r (xP h)) (ha : xPth 21 (xP h)) (hg : GoodBD b) (hT : ∀ s, s ≤ bLast b → ∀ f, f ≤ 6 → xI h 24 (s * 7 + f) = nI (bT b s f)) : CBd h r b := by
  obtain ⟨⟨g1, g2, g3, g7⟩, c1, c2, c3, c4, c5, c6, c7, c8, c9, c10, c11, c12⟩ := hR
  refine ⟨⟨hr, ha, g1, g2, g3, hg.1.1, hg.1.2.1, hg.1.2.2.2.2.1, g7, fun s hs f hf => ⟨hT s hs f hf, ?_⟩⟩, c1, c2, c3, c4, c5, c6, c7, c8, c9, c10, c11, c12⟩
  exact goTo_le hs hg.1.jl.1
def gNew (g : GD) : GD := ((0, 0, 0), fun _ => 0, gLg g, gNr g, gSt g)
def sNew (s : SG) (b : BD) : SG := (b, gNew (sG s), (0, sI s), (-1, sKr s), s.2.2.2.2)
theorem isOv_new {b : BD} (hg : GoodBD b) : isOv (bLast b) (bPc b) (fun _ => 0) = false := by
  unfold isOv
  rw [List.all_eq_false]
  have h1 := hg.2.2.1.1
  have h2 := hg.1.1
  refine ⟨0, List.mem_range.2 h1, ?_⟩
  simp
  omega
theorem sNew_good {s : SG} {b : BD} (hs : GoodS s) (hb : GoodBD b) : GoodS (sNew s b) := by
  have h1 := hb.2.2.1
  have h2 := hb.1.1
  refine ⟨hb, ⟨h1.1, Nat.zero_le _, Nat.zero_le _, fun p _ => Nat.zero_le _, fun i hi => absurd hi (Nat.not_lt_zero i), fun i hi => absurd hi (Nat.not_lt_zero i), fun _ z => ?_⟩, Or.inl rfl, Or.inl rfl, hs.2.2.2.2⟩
  have z' : (0 : Nat) = bLast b := z
  omega
def PC (c : Nat) : Prop := c = 0 ∨ c = 25 ∨ c = 29 ∨ c = 34 ∨ c = 39 ∨ c = 43 ∨ c = 46 ∨ c = 49 ∨ c = 52 ∨ c = 54 ∨ c = 11 ∨ (2 ≤ c ∧ c ≤ 3) ∨ (12 ≤ c ∧ c ≤ 13)
theorem CPtr.pc2 {r : Nat} {P P' : Nat → Nat → Option Nat} (hp : ∀ c, PC c → P' c = P c) (hC : CPtr r P) : CPtr r P' := by
  obtain ⟨h1, h2, h3, h4, h5, h6, h7, h8, h9, h10, r2, h11, h12, h13⟩ := hC
  have q := h13.1
  refine ⟨?_, ?_, ?_, ?_, ?_, ?_, ?_, ?_, ?_, ?_, r2, h11, ?_, h13.pc (hp _ (by unfold PC; omega)) (hp _ (by unfold PC; omega))⟩
  · unfold xBrd at *; rw [hp 0 (by unfold PC; omega)]; exact h1
  · unfold xPth at *; rw [hp 25 (by unfold PC; omega)]; exact h2
  · unfold xSta at *; rw [hp 29 (by unfold PC; omega)]; exact h3
  · unfold xSta at *; rw [hp 34 (by unfold PC; omega)]; exact h4
  · unfold xWay at *; rw [hp 39 (by unfold PC; omega)]; exact h5
  · obtain ⟨y, z, k⟩ := h6; refine ⟨y, z, ?_⟩; unfold xSnd at *; rw [hp 43 (by unfold PC; omega)]; exact k
  · obtain ⟨y, z, k⟩ := h7; refine ⟨y, z, ?_⟩; unfold xSnd at *; rw [hp 46 (by unfold PC; omega)]; exact k
  · obtain ⟨y, z, k⟩ := h8; refine ⟨y, z, ?_⟩; unfold xHop at *; rw [hp 49 (by unfold PC; omega)]; exact k
  · obtain ⟨na, nb, k⟩ := h9; refine ⟨na, nb, ?_⟩; unfold xNot at *; rw [hp 52 (by unfold PC; omega)]; exact k
  · exact h10
  · unfold xRdr at *; rw [hp 11 (by unfold PC; omega)]; exact h12
theorem s_gbegin {h : XH} {r m : Nat} (hbp : BP r h) (hm : m ≤ 4) : XSpec mX7_begin 2 0 0 100 100 [.ref 29, .int (nI m)] h (fun v h' => v = none ∧ h' = xSI 29 (va_up (va_up (va_up (va_up (xI h 29) 3 (nI m)) 0 0) 1 0) 2 0) (xSI 30 (fl 4 0 (xI h 30)) h)) xno := by
  refine XSpec.of rfl (by decide) (Nat.le_of_ble_eq_true rfl) rfl (v_X7_begin_0 r hbp (nI m) ⟨rfl, ?_⟩)
  have e : (if 0 < (if 4 < nI m then 4 else nI m) then (if 4 < nI m then 4 else nI m) else 0) = nI m := by
    rw [if_neg (show ¬ 4 < nI m from fun z => by have := (nI_ltI (a := 4) (by omega) (by omega)).1 z; omega)]
    by_cases z : 0 < m
    · exact if_pos ((nI_ltI (a := 0) (by omega) (by omega)).2 z)
    · have : m = 0 := by omega
      subst this
      rfl
  rw [e, xSI_SI, xSI_SI]
  refine Prod.ext (funext fun c => ?_) rfl
  by_cases z : c = 29
  · rw [z]
    exact xI_at.trans xI_at.symm
  · refine (va_up_of _ _ z).trans (Eq.trans ?_ (va_up_of _ _ z).symm)
    by_cases y : c = 30
    · rw [y]
      exact xI_at.trans xI_at.symm
    · exact (va_up_of _ _ y).trans ((va_up_of _ _ z).trans (va_up_of _ _ y).symm)
theorem s_anew {h : XH} {r : Nat} {s : SG} {b : BD} (hP : CPtr r (xP h)) (hr : xRul r (xP h)) (ha : xPth 21 (xP h)) (hR : CRl h r b) (hb : GoodBD b) (hs : ∀ i, i < 3 → xI h 33 i = gSt (sG s) i) (hT : CTp h s) : XSpec mX10_startAnew 6 0 0 100 100 [.ref 0] h (fun v h' => v = none ∧ CI h' r (sNew s b) ∧ cch h h') xno := by
  have hr2 : r = 2 ∨ r = 12 := hr.1
  have hnr : r + 9 ≤ 100 := by omega
  have hbp : BP r h := ⟨hP.1, hr, hnr, ha, hP.2.1, hP.2.2.1, hP.2.2.2.1, hP.2.2.2.2.1, hP.2.2.2.2.2.2.2.2.1, hP.2.2.2.2.2.2.2.2.2.1⟩
  obtain ⟨⟨g1, g2, g3, g7⟩, c1, c2, c3, c4, c5, c6, c7, c8, c9, c10, c11, c12⟩ := id hR
  obtain ⟨b1, b2, b3, b4, b5, b6, b7, b8⟩ := id hb.1
  have hpc := hb.2.2.1
  have hJ := hb.1.jl
  refine XSpec.of rfl (by decide) (Nat.le_of_ble_eq_true rfl) rfl (v_X10_startAnew_0 r hbp ⟨_, s_X3_takeFeet 100 21 h ha (by omega) r hr hnr _ _ (bKx b) b3 (fun i hi => by have := b7 i hi; omega) c5 c6, ?_⟩)
  rintro v h1 ⟨rfl, k1, f1⟩
  have hr1 : xRul r (xP h1) := hr.pc (f1 r (by omega)).2.2 (f1 (r + 1) (by omega)).2.2
  have ha1 : xPth 21 (xP h1) := by unfold xPth at *; rw [(f1 21 (by omega)).2.2]; exact ha
  have e1 : xI h1 r = xI h r := (f1 r (by omega)).1
  have e2 : xI h1 (r + 1) = xI h (r + 1) := (f1 (r + 1) (by omega)).1
  have e3 : xI h1 (r + 3) = xI h (r + 3) := (f1 (r + 3) (by omega)).1
  have p0 : xP h1 0 = xP h 0 := (f1 0 (by omega)).2.2
  refine ⟨rfl, by rw [p0]; exact hbp.1.2.2.2.1, by rw [p0]; exact hbp.1.2.1, _, s_X3_measure 100 21 r h1 ha1 (by omega) hr1 hnr (bLast b) (bLen b) (jmps (bFt b) (bHd b) (bKx b)) b2 (by rw [e3, c9]; exact b6) hJ.1 hJ.2 (by rw [e1]; exact g1) (by rw [e2]; exact c8) (fun j hj => k1 j (by omega)), ?_⟩
  rintro v h2 ⟨rfl, k2, f2⟩
  have F2 : ∀ c, c ≠ 22 → c ≠ 23 → c ≠ r + 4 → xI h2 c = xI h c ∧ xP h2 c = xP h c := fun c q1 q2 q3 => ⟨((f2 c (by omega)).1).trans (f1 c (by omega)).1, ((f2 c (by omega)).2.2).trans (f1 c (by omega)).2.2⟩
  have hr2' : xRul r (xP h2) := hr.pc (F2 r (by omega) (by omega) (by omega)).2 (F2 (r + 1) (by omega) (by omega) (by omega)).2
  have ha2 : xPth 21 (xP h2) := by unfold xPth at *; rw [(F2 21 (by omega) (by omega) (by omega)).2]; exact ha
  have e20 : xI h2 r = xI h r := (F2 r (by omega) (by omega) (by omega)).1
  have p02 : xP h2 0 = xP h 0 := (F2 0 (by omega) (by omega) (by omega)).2
  rw [e3, c9] at k2
  refine ⟨rfl, by rw [p02]; exact hbp.1.2.2.2.1, by rw [p02]; exact hbp.1.2.1, by rw [p02]; exact hbp.1.2.1, ?_⟩
  rw [e20, c1]
  refine ⟨_, s_X3_lay 100 21 r h2 ha2 (by omega) hr2' hnr (bLast b) (bE b) (jmps (bFt b) (bHd b) (bKx b)) (farAt (bC b) (bLen b) (bLast b) (jmps (bFt b) (bHd b) (bKx b))) b2 b4 (fun s g => farAt_b _ _ _ _ s g) hJ.1 (by rw [e20]; exact g1) (fun j hj => by rw [(f2 22 (by omega)).1]; exact k1 j (by omega)) k2, ?_⟩
  rintro v h3 ⟨rfl, k3, f3⟩
  have F3 : ∀ c, c ≠ 22 → c ≠ 23 → c ≠ 24 → c ≠ r + 4 → xI h3 c = xI h c ∧ xP h3 c = xP h c := fun c q1 q2 q4 q3 => ⟨((f3 c (by omega)).1).trans (F2 c q1 q2 q3).1, ((f3 c (by omega)).2.2).trans (F2 c q1 q2 q3).2⟩
  have p03 : xP h3 0 = xP h 0 := (F3 0 (by omega) (by omega) (by omega) (by omega)).2
  have e30 : xI h3 r = xI h r := (F3 r (by omega) (by omega) (by omega) (by omega)).1
  have hP3 : CPtr r (xP h3) := hP.pc2 (fun c q => (F3 c (by unfold PC at q; omega) (by unfold PC at q; omega) (by unfold PC at q; omega) (by unfold PC at q; omega)).2)
  have hr3 : xRul r (xP h3) := hr.pc (F3 r (by omega) (by omega) (by omega) (by omega)).2 (F3 (r + 1) (by omega) (by omega) (by omega) (by omega)).2
  have ha3 : xPth 21 (xP h3) := by unfold xPth at *; rw [(F3 21 (by omega) (by omega) (by omega) (by omega)).2]; exact ha
  have hbp3 : BP r h3 := ⟨hP3.1, hr3, hnr, ha3, hP3.2.1, hP3.2.2.1, hP3.2.2.2.1, hP3.2.2.2.2.1, hP3.2.2.2.2.2.2.2.2.1, hP3.2.2.2.2.2.2.2.2.2.1⟩
  refine ⟨rfl, by rw [p03]; exact hbp.1.2.2.2.2.2.1, by rw [p03]; exact hbp.1.2.1, ?_⟩
  rw [e30, c4]
  refine ⟨_, s_gbegin hbp3 hpc.2, ?_⟩
  rintro v h4 ⟨rfl, e4⟩
  subst e4
  refine ⟨rfl, by show xP h3 0 10 = some 39; rw [p03]; exact hbp.1.2.2.2.2.2.2.2.1, rfl, ?_⟩
  obtain ⟨h5, e5⟩ : ∃ h5, h5 = (xSI 0 (va_up (xI (xSI 29 (va_up (va_up (va_up (va_up (xI h3 29) 3 (nI (bPc b))) 0 0) 1 0) 2 0) (xSI 30 (fl 4 0 (xI h3 30)) h3)) 0) 9 0) (xSI 39 (va_up (xI (xSI 29 (va_up (va_up (va_up (va_up (xI h3 29) 3 (nI (bPc b))) 0 0) 1 0) 2 0) (xSI 30 (fl 4 0 (xI h3 30)) h3)) 39) 0 (-1)) (xSI 29 (va_up (va_up (va_up (va_up (xI h3 29) 3 (nI (bPc b))) 0 0) 1 0) 2 0) (xSI 30 (fl 4 0 (xI h3 30)) h3)))) := ⟨_, rfl⟩
  rw [← e5]
  have t : ∀ c, c ≠ 0 → c ≠ 39 → c ≠ 29 → c ≠ 30 → xI h5 c = xI h3 c := fun c q1 q2 q3 q4 => by rw [e5, xI_ne q1, xI_ne q2, xI_ne q3, xI_ne q4]
  have t0 : ∀ j, j ≠ 9 → j ≠ 16 → xI h5 0 j = xI h 0 j := fun j q1 _ => by
    rw [e5, xI_at, va_up_of _ _ q1, xI_ne (by decide), xI_ne (by decide), (F3 0 (by omega) (by omega) (by omega) (by omega)).1]
  have t9 : xI h5 0 9 = 0 := by rw [e5, xI_at, va_up_eq]
  have t39 : xI h5 39 0 = -1 := by rw [e5, xI_ne (by decide), xI_at, va_up_eq]
  have t29 : xI h5 29 = va_up (va_up (va_up (va_up (xI h3 29) 3 (nI (bPc b))) 0 0) 1 0) 2 0 := by rw [e5, xI_ne (by decide), xI_ne (by decide), xI_at]
  have t30 : xI h5 30 = fl 4 0 (xI h3 30) := by rw [e5, xI_ne (by decide), xI_ne (by decide), xI_ne (by decide), xI_at]
  have tp : xP h5 = xP h3 := by rw [e5]; rfl
  clear e5
  have F5 : ∀ c, (c < 22 ∨ 24 < c) → c ≠ r + 4 → c ≠ 0 → c ≠ 39 → c ≠ 29 → c ≠ 30 → xI h5 c = xI h c := fun c q1 q2 q3 q4 q5 q6 => (t c q3 q4 q5 q6).trans (F3 c (by omega) (by omega) (by omega) q2).1
  refine ⟨⟨by rw [tp]; exact hP3, ?_, ⟨?_, ?_, ?_, ?_, ?_, ?_, ?_, ?_⟩, ⟨t9, fun z => absurd (show (0 : Nat) = 1 from z) (by omega)⟩, ⟨t39, fun i hi => absurd (show (i : Int) < (-1 : Int32).toInt from hi) (by rw [show (-1 : Int32).toInt = -1 from rfl]; omega)⟩, ⟨?_, ?_, ?_⟩, True.intro⟩, fun c q => ⟨F5 c (by omega) (by omega) (by omega) (by omega) (by omega) (by omega), by rw [tp]; exact (F3 c (by omega) (by omega) (by omega) (by omega)).2⟩⟩
  · refine (hR.of (h' := h5) (fun c q1 q2 q3 => F5 c (by omega) q3 (by omega) (by omega) (by omega) (by omega))).cbd (by rw [tp]; exact hr3) (by rw [tp]; exact ha3) hb (fun s hs f hf => ?_)
    rw [t 24 (by decide) (by decide) (by decide) (by decide)]
    exact k3 s hs f (by omega)
  · show _ = (if isOv (bLast b) (bPc b) (fun _ => 0) = true then -1 else nI 0)
    rw [isOv_new hb, if_neg (by decide), t29, va_up_of _ _ (by decide), va_up_of _ _ (by decide), va_up_eq]
    rfl
  · rw [t29, va_up_of _ _ (by decide), va_up_eq]; rfl
  · rw [t29, va_up_eq]; rfl
  · rw [t29, va_up_of _ _ (by decide), va_up_of _ _ (by decide), va_up_of _ _ (by decide), va_up_eq]; rfl
  · intro p hp
    rw [t30]
    unfold fl
    rw [if_pos hp]; rfl
  · intro i hi
    exact absurd hi (Nat.not_lt_zero i)
  · intro i hi
    exact absurd hi (Nat.not_lt_zero i)
  · intro i hi
    rw [F5 33 (by omega) (by omega) (by omega) (by omega) (by omega) (by omega)]
    exact hs i hi
  · rw [t0 1 (by decide) (by decide)]; exact hT.1
  · rw [t0 2 (by decide) (by decide)]; exact hT.2.1
  · intro i hi
    rw [F5 1 (by omega) (by omega) (by omega) (by omega) (by omega) (by omega)]
    exact hT.2.2 i hi
