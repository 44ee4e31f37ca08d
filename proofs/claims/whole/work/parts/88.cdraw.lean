/-! DRAW: the class -/
theorem c_fclear {h : XH} {f : Nat} (hf : xFor f (xP h)) (hn : f + 4 ≤ 100) : XSpec mX0_clear 2 0 0 100 100 [.ref f] h (fun v h' => v = none ∧ xP h' = xP h ∧ (∀ c, c ≠ f → c ≠ f + 2 → xI h' c = xI h c) ∧ (xI h' f 0 = 0 ∧ xI h' f 1 = 0 ∧ xI h' f 3 = 1) ∧ xI h' (f + 2) = va_up (xI h (f + 2)) 0 (-1)) xno := by
  refine XSpec.of rfl (by decide) (Nat.le_of_ble_eq_true rfl) rfl (v_X0_clear_0 f hf hn ?_)
  rw [xSI_SI, xSI_SI]
  refine ⟨_, s_X0_add 100 (xSI f (va_up (va_up (va_up (xI h f) 0 0) 1 0) 3 0) h) f hf hn (-1), ?_⟩
  rintro v h1 ⟨rfl, e⟩
  have e3 : xI (xSI f (va_up (va_up (va_up (xI h f) 0 0) 1 0) 3 0) h) f 3 = 0 := by rw [xI_at, va_up_eq]
  rw [e3, if_neg (by decide), if_neg (by decide), xI_at] at e
  have z0 : (0 : Int32).toNatClampNeg = 0 := by decide
  rw [z0] at e
  refine ⟨rfl, rfl, by rw [e]; rfl, fun c q1 q2 => by rw [e, xI_ne q1, xI_ne q2, xI_ne q1], ⟨?_, ?_, ?_⟩, ?_⟩
  · rw [e, xI_at, va_up_of _ _ (by decide), va_up_of _ _ (by decide), va_up_of _ _ (by decide), va_up_eq]
  · rw [e, xI_at, va_up_of _ _ (by decide), va_up_of _ _ (by decide), va_up_eq]
  · rw [e, xI_at, va_up_eq]; rfl
  · rw [e, xI_ne (by omega), xI_at, xI_ne (by omega)]
theorem l_clearBD {h0 : XH} {r : Nat} (hr : xRul r (xP h0)) {Q : Option Value → XH → Prop} {X : String → XH → Prop} : ∀ (c i : Nat) (h : XH), i + c = 101 → xP h = xP h0 → (∀ c, c ≠ r + 8 → xI h c = xI h0 c) → (∀ q, q < i → xI h (r + 8) q = 0) →
    (∀ h', xP h' = xP h0 → (∀ c, c ≠ r + 8 → c ≠ r + 1 → c ≠ r + 3 → xI h' c = xI h0 c) → (∀ q, q < 101 → xI h' (r + 8) q = 0) → (xI h' (r + 1) 0 = 0 ∧ xI h' (r + 1) 1 = 0 ∧ xI h' (r + 1) 3 = 1) → xI h' (r + 3) = va_up (xI h0 (r + 3)) 0 (-1) → Q none h') →
    XW (xrm 3 0 0) mX5_clearButDie (xE 100 Q X 0 0) 100 0 0 h 33 [some (.ref r), some (.int (nI i))] [] := by
  have hr2 := hr.1
  intro c
  induction c with
  | zero =>
    intro i h hi hP hI hz hQ
    have : i = 101 := by omega
    subst this
    refine v_X5_clearButDie_33 r (by rw [hP]; exact hr) (by omega) (nI 101) ⟨fun _ => ⟨_, c_fclear (f := r + 1) (by rw [hP]; exact hr.2.2.2.2.2.2) (by omega), ?_⟩, fun c => absurd (by decide) c⟩
    rintro v h1 ⟨rfl, k1, k2, k3, k4⟩
    refine ⟨rfl, hQ h1 (k1.trans hP) (fun c q1 q2 q3 => (k2 c (by omega) (by omega)).trans (hI c q1)) (fun q hq => by rw [k2 (r + 8) (by omega) (by omega)]; exact hz q hq) k3 ?_⟩
    rw [show r + 1 + 2 = r + 3 from rfl] at k4
    rw [k4, hI (r + 3) (by omega)]
  | succ c ih =>
    intro i h hi hP hI hz hQ
    refine v_X5_clearButDie_33 r (by rw [hP]; exact hr) (by omega) (nI i) ⟨fun c => absurd c (nI_ge (b := 101) (by omega) (by omega)), fun _ => ⟨vp_in_nI (by omega) (by omega), ?_⟩⟩
    rw [nI_clamp (by omega), nI_1]
    refine ih (i + 1) _ (by omega) hP (fun c q => by rw [xI_ne q]; exact hI c q) (fun q hq => ?_) hQ
    rw [xI_at]
    by_cases z : q = i
    · rw [z, va_up_eq]; rfl
    · rw [va_up_of _ _ z]; exact hz q (by omega)
/-- what is cleared but the die -/
def CClr (h h' : XH) (r : Nat) : Prop := xP h' = xP h ∧ (∀ c, c ≠ r → c ≠ r + 1 → c ≠ r + 3 → c ≠ r + 8 → xI h' c = xI h c) ∧ (∀ j, j = 1 ∨ j = 2 → xI h' r j = xI h r j) ∧ (xI h' r 0 = 36 ∧ xI h' r 3 = 0 ∧ xI h' r 4 = 0 ∧ xI h' r 5 = 0 ∧ xI h' r 6 = 2 ∧ xI h' r 7 = 0) ∧ (∀ q, q < 101 → xI h' (r + 8) q = 0) ∧ (xI h' (r + 1) 0 = 0 ∧ xI h' (r + 1) 1 = 0 ∧ xI h' (r + 1) 3 = 1) ∧ xI h' (r + 3) = va_up (xI h (r + 3)) 0 (-1)
theorem s_clearBD {h : XH} {r : Nat} (hr : xRul r (xP h)) : XSpec mX5_clearButDie 3 0 0 100 100 [.ref r] h (fun v h' => v = none ∧ CClr h h' r) xno := by
  have hr2 := hr.1
  refine XSpec.of rfl (by decide) (Nat.le_of_ble_eq_true rfl) rfl (v_X5_clearButDie_0 r hr (by omega) ?_)
  rw [xSI_SI, xSI_SI, xSI_SI, xSI_SI, xSI_SI]
  obtain ⟨F, hF⟩ : ∃ F, F = va_up (va_up (va_up (va_up (va_up (va_up (xI h r) 0 36) 3 0) 4 0) 5 0) 6 2) 7 0 := ⟨_, rfl⟩
  rw [← hF]
  have F1 : (∀ j, j = 1 ∨ j = 2 → F j = xI h r j) ∧ (F 0 = 36 ∧ F 3 = 0 ∧ F 4 = 0 ∧ F 5 = 0 ∧ F 6 = 2 ∧ F 7 = 0) := by
    rw [hF]
    refine ⟨fun j hj => ?_, rfl, rfl, rfl, rfl, rfl, rfl⟩
    rcases hj with rfl | rfl <;> rfl
  clear hF
  refine l_clearBD (h0 := xSI r F h) (r := r) hr 101 0 (xSI r F h) (by omega) rfl (fun _ _ => rfl) (fun q hq => absurd hq (by omega)) (fun h' k1 k2 k3 k4 k5 => ⟨rfl, k1, fun c q1 q2 q3 q4 => (k2 c q4 q2 q3).trans (xI_ne q1), fun j hj => ?_, ?_, k3, k4, ?_⟩)
  · rw [k2 r (by omega) (by omega) (by omega), xI_at]
    exact F1.1 j hj
  · rw [k2 r (by omega) (by omega) (by omega), xI_at]
    exact F1.2
  · rw [k5, xI_ne (by omega)]
/-- the empty board with a die -/
def dB0 (od : Nat → Nat) (lst last : Nat) (ft hd tx : Nat → Nat) (C : Nat → Int32) : BD := ((last, 0, 0, 1, lst, 0, 2, 0, 0, 0), (ft, hd, od, tx), C)
theorem CClr.rl {h h' : XH} {r lst : Nat} {od ft hd tx : Nat → Nat} (hc : CClr h h' r) (h1 : xI h r 1 = nI (od6 od)) (h2 : xI h r 2 = nI lst) (h5 : ∀ f, 1 ≤ f → f ≤ 6 → xI h (r + 5) f = nI (od f)) : CRl h' r (dB0 od lst 36 ft hd tx (va_up (xI h (r + 3)) 0 (-1))) := by
  obtain ⟨k1, k2, k3, ⟨k4, k5, k6, k7, k8, k9⟩, k10, ⟨k11, k12, k13⟩, k14⟩ := hc
  exact ⟨⟨k4, (k3 1 (Or.inl rfl)).trans h1, (k3 2 (Or.inr rfl)).trans h2, fun f f1 f2 => by rw [k2 (r + 5) (by omega) (by omega) (by omega) (by omega)]; exact h5 f f1 f2⟩, k5, k6, k7, k8, k9, fun i hi => absurd hi (Nat.not_lt_zero i), fun q hq => (k10 q hq).trans (if_pos rfl).symm, k13, k14, k11, k12, fun i hi => absurd hi (Nat.not_lt_zero i)⟩
/-! the exits that a seed draws -/
def dAdd (b : BD) (f t : Nat) : BD := ((bLast b, bKx b + 1, bE b, bLen b, bLst b, bAg b, bPc b, bMt b, bTd b, bTl b), (va_up (bFt b) (bKx b) f, va_up (bHd b) (bKx b) t, bOd b, bTx b), bC b)
def dFt (b : BD) (f : Nat) : Bool := jmps (bFt b) (bHd b) (bKx b) f != 0
/-- the drawing, k times more -/
def dLp : Nat → BD → Int32 → BD × Int32
  | 0, b, q => (b, q)
  | k + 1, b, q => dLp k (if drw (nSd q) (bLast b - 1) = drw (nSd (nSd q)) (bLast b) ∨ dFt b (drw (nSd q) (bLast b - 1) + 1) = true then b else dAdd b (drw (nSd q) (bLast b - 1) + 1) (drw (nSd (nSd q)) (bLast b) + 1)) (nSd (nSd q))
theorem jmps_congr {ft ft' hd hd' : Nat → Nat} : ∀ k, (∀ i, i < k → ft' i = ft i ∧ hd' i = hd i) → jmps ft' hd' k = jmps ft hd k := by
  intro k
  induction k with
  | zero => intro _; rfl
  | succ k ih =>
    intro h
    rw [jmps_s, jmps_s, ih (fun i hi => h i (by omega)), (h k (by omega)).1, (h k (by omega)).2]
theorem dAdd_jmps (b : BD) (f t : Nat) : jmps (bFt (dAdd b f t)) (bHd (dAdd b f t)) (bKx (dAdd b f t)) = va_up (jmps (bFt b) (bHd b) (bKx b)) f t := by
  show jmps (va_up (bFt b) (bKx b) f) (va_up (bHd b) (bKx b) t) (bKx b + 1) = _
  rw [jmps_s, va_up_eq, va_up_eq, jmps_congr (bKx b) (fun i hi => ⟨va_up_of _ _ (by omega), va_up_of _ _ (by omega)⟩)]
theorem dFt_f {b : BD} {f : Nat} (h : dFt b f = false) : ∀ i, i < bKx b → bHd b i ≠ 0 → (∀ i j, i < bKx b → j < bKx b → bFt b i = bFt b j → i = j) → bFt b i ≠ f := by
  intro i hi h0 hinj z
  have e := jmps_at (ft := bFt b) (hd := bHd b) (q := f) (bKx b) i hi z hinj
  unfold dFt at h
  rw [e] at h
  simp [h0] at h
theorem dAdd_good {b : BD} {f t : Nat} (hb : GoodBD b) (hk : bKx b < 24) (f1 : 1 ≤ f) (f2 : f < bLast b) (t1 : 1 ≤ t) (t2 : t ≤ bLast b) (hf : dFt b f = false) : GoodBD (dAdd b f t) := by
  obtain ⟨⟨b1, b2, b3, b4, b5, b6, b7, b8⟩, r⟩ := hb
  refine ⟨⟨b1, b2, show bKx b + 1 ≤ 24 by omega, b4, b5, b6, fun i hi => ?_, fun i j hi hj => ?_⟩, r⟩
  · show 1 ≤ va_up (bFt b) (bKx b) f i ∧ va_up (bFt b) (bKx b) f i < bLast b ∧ 1 ≤ va_up (bHd b) (bKx b) t i ∧ va_up (bHd b) (bKx b) t i ≤ bLast b
    have hi' : i < bKx b + 1 := hi
    by_cases z : i = bKx b
    · rw [z, va_up_eq, va_up_eq]; exact ⟨f1, f2, t1, t2⟩
    · rw [va_up_of _ _ z, va_up_of _ _ z]; exact b7 i (by omega)
  · show va_up (bFt b) (bKx b) f i = va_up (bFt b) (bKx b) f j → _
    have hi' : i < bKx b + 1 := hi
    have hj' : j < bKx b + 1 := hj
    have no : ∀ k, k < bKx b → bFt b k ≠ f := fun k hk' => dFt_f hf k hk' (by have := b7 k hk'; omega) b8
    by_cases z : i = bKx b
    · by_cases y : j = bKx b
      · intro _; omega
      · rw [z, va_up_eq, va_up_of _ _ y]
        intro w
        exact absurd w.symm (no j (by omega))
    · by_cases y : j = bKx b
      · rw [y, va_up_eq, va_up_of _ _ z]
        intro w
        exact absurd w (no i (by omega))
      · rw [va_up_of _ _ z, va_up_of _ _ y]
        exact b8 i j (by omega) (by omega)
/-- rules with a raw board, the rest as it was -/
def DD (h0 h : XH) (r : Nat) (s : SG) (b : BD) : Prop := CPtr r (xP h) ∧ xRul r (xP h) ∧ xPth 21 (xP h) ∧ CRl h r b ∧ (∀ i, i < 3 → xI h 33 i = gSt (sG s) i) ∧ CTp h s ∧ cch h0 h
theorem DD.of {h0 h h' : XH} {r : Nat} {s : SG} {b b' : BD} (hD : DD h0 h r s b) (hP : xP h' = xP h) (hI : ∀ c, c < r ∨ r + 8 < c → xI h' c = xI h c) (hR : CRl h' r b') : DD h0 h' r s b' := by
  obtain ⟨d1, d2, d3, d4, d5, d6, d7⟩ := hD
  have hr := d2.1
  refine ⟨by rw [hP]; exact d1, by rw [hP]; exact d2, by rw [hP]; exact d3, hR, fun i hi => by rw [hI 33 (by omega)]; exact d5 i hi, ?_, fun c hc => ⟨(hI c (by omega)).trans (d7 c hc).1, by rw [hP]; exact (d7 c hc).2⟩⟩
  unfold CTp at *
  rw [hI 0 (by omega), hI 1 (by omega)]; exact d6
theorem DD.add {h0 h : XH} {r : Nat} {s : SG} {b : BD} {f t : Nat} (hD : DD h0 h r s b) (hb : GoodBD b) (hk : bKx b < 24) (f2 : f ≤ 100) (t1 : 1 ≤ t) : XSpec mX5_addExit 1 0 0 100 100 [.ref r, .int (nI f), .int (nI t)] h (fun v h' => v = none ∧ DD h0 h' r s (dAdd b f t)) xno := by
  have hr := hD.2.1.1
  refine (s_X5_addExit 100 h r hD.2.1 (by omega) (nI f) (nI t)).mono ?_ (fun _ _ z => z)
  obtain ⟨⟨g1, g2, g3, g7⟩, c1, c2, c3, c4, c5, c6, c7, c8, c9, c10, c11, c12⟩ := id hD.2.2.2.1
  rintro v h' ⟨rfl, e⟩
  rw [c5, if_neg (nI_pos (by omega)), if_neg (show ¬ (24 : Int32) ≤ nI (bKx b) from nI_ge (b := 24) (by omega) (by omega)), if_neg (nI_pos (by omega)), if_neg (show ¬ (101 : Int32) ≤ nI f from nI_ge (b := 101) (by omega) (by omega)), nI_clamp (by omega), nI_clamp (by omega), nI_1] at e
  subst e
  have a1 : ∀ c, c ≠ r → c ≠ r + 6 → c ≠ r + 7 → c ≠ r + 8 → xI (xSI r (va_up (xI h r) 7 (nI (bKx b + 1))) (xSI (r + 8) (va_up (xI h (r + 8)) f 1) (xSI (r + 7) (va_up (xI h (r + 7)) (bKx b) (nI t)) (xSI (r + 6) (va_up (xI h (r + 6)) (bKx b) (nI f)) h)))) c = xI h c := fun c q1 q2 q3 q4 => by rw [xI_ne q1, xI_ne q4, xI_ne q3, xI_ne q2]
  have a0 : xI (xSI r (va_up (xI h r) 7 (nI (bKx b + 1))) (xSI (r + 8) (va_up (xI h (r + 8)) f 1) (xSI (r + 7) (va_up (xI h (r + 7)) (bKx b) (nI t)) (xSI (r + 6) (va_up (xI h (r + 6)) (bKx b) (nI f)) h)))) r = va_up (xI h r) 7 (nI (bKx b + 1)) := xI_at
  have a6 : xI (xSI r (va_up (xI h r) 7 (nI (bKx b + 1))) (xSI (r + 8) (va_up (xI h (r + 8)) f 1) (xSI (r + 7) (va_up (xI h (r + 7)) (bKx b) (nI t)) (xSI (r + 6) (va_up (xI h (r + 6)) (bKx b) (nI f)) h)))) (r + 6) = va_up (xI h (r + 6)) (bKx b) (nI f) := by rw [xI_ne (by omega), xI_ne (by omega), xI_ne (by omega), xI_at]
  have a7 : xI (xSI r (va_up (xI h r) 7 (nI (bKx b + 1))) (xSI (r + 8) (va_up (xI h (r + 8)) f 1) (xSI (r + 7) (va_up (xI h (r + 7)) (bKx b) (nI t)) (xSI (r + 6) (va_up (xI h (r + 6)) (bKx b) (nI f)) h)))) (r + 7) = va_up (xI h (r + 7)) (bKx b) (nI t) := by rw [xI_ne (by omega), xI_ne (by omega), xI_at]
  have a8 : xI (xSI r (va_up (xI h r) 7 (nI (bKx b + 1))) (xSI (r + 8) (va_up (xI h (r + 8)) f 1) (xSI (r + 7) (va_up (xI h (r + 7)) (bKx b) (nI t)) (xSI (r + 6) (va_up (xI h (r + 6)) (bKx b) (nI f)) h)))) (r + 8) = va_up (xI h (r + 8)) f 1 := by rw [xI_ne (by omega), xI_at]
  refine ⟨rfl, hD.of rfl (fun c hc => a1 c (by omega) (by omega) (by omega) (by omega)) ?_⟩
  refine ⟨⟨by rw [a0, va_up_of _ _ (by decide)]; exact g1, by rw [a0, va_up_of _ _ (by decide)]; exact g2, by rw [a0, va_up_of _ _ (by decide)]; exact g3, by rw [a1 (r + 5) (by omega) (by omega) (by omega) (by omega)]; exact g7⟩, by rw [a0, va_up_of _ _ (by decide)]; exact c1, by rw [a0, va_up_of _ _ (by decide)]; exact c2, by rw [a0, va_up_of _ _ (by decide)]; exact c3, by rw [a0, va_up_of _ _ (by decide)]; exact c4, by rw [a0, va_up_eq]; rfl, fun i hi => ?_, fun q hq => ?_, by rw [a1 (r + 1) (by omega) (by omega) (by omega) (by omega)]; exact c8, by rw [a1 (r + 3) (by omega) (by omega) (by omega) (by omega)]; exact c9, by rw [a1 (r + 1) (by omega) (by omega) (by omega) (by omega)]; exact c10, by rw [a1 (r + 1) (by omega) (by omega) (by omega) (by omega)]; exact c11, by rw [a1 (r + 2) (by omega) (by omega) (by omega) (by omega)]; exact c12⟩
  · have hi' : i < bKx b + 1 := hi
    rw [a6, a7]
    show _ = nI (va_up (bFt b) (bKx b) f i) ∧ _ = nI (va_up (bHd b) (bKx b) t i)
    by_cases z : i = bKx b
    · rw [z, va_up_eq, va_up_eq, va_up_eq, va_up_eq]; exact ⟨rfl, rfl⟩
    · rw [va_up_of _ _ z, va_up_of _ _ z, va_up_of _ _ z, va_up_of _ _ z]; exact c6 i (by omega)
  · rw [a8, dAdd_jmps]
    by_cases z : q = f
    · rw [z, va_up_eq, va_up_eq, if_neg (by omega)]
    · rw [va_up_of _ _ z, va_up_of _ _ z]; exact c7 q hq
