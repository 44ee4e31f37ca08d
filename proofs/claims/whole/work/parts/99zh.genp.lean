/-! MADE ANEW: the contracts of the constructors' calls, with fewer cells -/
theorem c_fclearn {h : XH} {n f : Nat} (hf : xFor f (xP h)) (hn : f + 4 ≤ n) : XSpec mX0_clear 2 0 0 n n [.ref f] h (fun v h' => v = none ∧ xP h' = xP h ∧ (∀ c, c ≠ f → c ≠ f + 2 → xI h' c = xI h c) ∧ (xI h' f 0 = 0 ∧ xI h' f 1 = 0 ∧ xI h' f 3 = 1) ∧ xI h' (f + 2) = va_up (xI h (f + 2)) 0 (-1)) xno := by
  refine XSpec.of rfl (by decide) (Nat.le_of_ble_eq_true rfl) rfl (v_X0_clearn_0 n f hf hn ?_)
  rw [xSI_SI, xSI_SI]
  refine ⟨_, s_X0_add n (xSI f (va_up (va_up (va_up (xI h f) 0 0) 1 0) 3 0) h) f hf hn (-1), ?_⟩
  rintro v h1 ⟨rfl, e⟩
  have e3 : xI (xSI f (va_up (va_up (va_up (xI h f) 0 0) 1 0) 3 0) h) f 3 = 0 := by rw [xI_at, va_up_eq]
  rw [e3, if_neg (by decide), if_neg (by decide), xI_at] at e
  have z0 : (0 : Int32).toNatClampNeg = 0 := by decide
  rw [z0] at e
  refine ⟨rfl, rfl, by rw [e]; rfl, fun c q1 q2 => by rw [e, xI_ne q1, xI_ne q2, xI_ne q1], ⟨?_, ?_, ?_⟩, ?_⟩
  · rw [e, xI_at, va_up_of _ _ (by decide), va_up_of _ _ (by decide), va_up_of _ _ (by decide), va_up_eq]
  · rw [e, xI_at, va_up_of _ _ (by decide), va_up_of _ _ (by decide), va_up_eq]
  · rw [e, xI_at, va_up_eq]; rfl
  · rw [e, xI_ne (by omega), xI_at, xI_ne (by omega)]
theorem l_clearBDn {h0 : XH} {n r : Nat} (hnn : r + 9 ≤ n) (hr : xRul r (xP h0)) {Q : Option Value → XH → Prop} {X : String → XH → Prop} : ∀ (c i : Nat) (h : XH), i + c = 101 → xP h = xP h0 → (∀ c, c ≠ r + 8 → xI h c = xI h0 c) → (∀ q, q < i → xI h (r + 8) q = 0) →
    (∀ h', xP h' = xP h0 → (∀ c, c ≠ r + 8 → c ≠ r + 1 → c ≠ r + 3 → xI h' c = xI h0 c) → (∀ q, q < 101 → xI h' (r + 8) q = 0) → (xI h' (r + 1) 0 = 0 ∧ xI h' (r + 1) 1 = 0 ∧ xI h' (r + 1) 3 = 1) → xI h' (r + 3) = va_up (xI h0 (r + 3)) 0 (-1) → Q none h') →
    XW (xrm 3 0 0) mX5_clearButDie (xE n Q X 0 0) n 0 0 h 33 [some (.ref r), some (.int (nI i))] [] := by
  have hr2 := hr.1
  intro c
  induction c with
  | zero =>
    intro i h hi hP hI hz hQ
    have : i = 101 := by omega
    subst this
    refine v_X5_clearButDien_33 n r (by rw [hP]; exact hr) (by omega) (nI 101) ⟨fun _ => ⟨_, c_fclearn (n := n) (f := r + 1) (by rw [hP]; exact hr.2.2.2.2.2.2) (by omega), ?_⟩, fun c => absurd (by decide) c⟩
    rintro v h1 ⟨rfl, k1, k2, k3, k4⟩
    refine ⟨rfl, hQ h1 (k1.trans hP) (fun c q1 q2 q3 => (k2 c (by omega) (by omega)).trans (hI c q1)) (fun q hq => by rw [k2 (r + 8) (by omega) (by omega)]; exact hz q hq) k3 ?_⟩
    rw [show r + 1 + 2 = r + 3 from rfl] at k4
    rw [k4, hI (r + 3) (by omega)]
  | succ c ih =>
    intro i h hi hP hI hz hQ
    refine v_X5_clearButDien_33 n r (by rw [hP]; exact hr) (by omega) (nI i) ⟨fun c => absurd c (nI_ge (b := 101) (by omega) (by omega)), fun _ => ⟨vp_in_nI (by omega) (by omega), ?_⟩⟩
    rw [nI_clamp (by omega), nI_1]
    refine ih (i + 1) _ (by omega) hP (fun c q => by rw [xI_ne q]; exact hI c q) (fun q hq => ?_) hQ
    rw [xI_at]
    by_cases z : q = i
    · rw [z, va_up_eq]; rfl
    · rw [va_up_of _ _ z]; exact hz q (by omega)
theorem s_clearBDn {h : XH} {n r : Nat} (hnn : r + 9 ≤ n) (hr : xRul r (xP h)) : XSpec mX5_clearButDie 3 0 0 n n [.ref r] h (fun v h' => v = none ∧ CClr h h' r) xno := by
  have hr2 := hr.1
  refine XSpec.of rfl (by decide) (Nat.le_of_ble_eq_true rfl) rfl (v_X5_clearButDien_0 n r hr (by omega) ?_)
  rw [xSI_SI, xSI_SI, xSI_SI, xSI_SI, xSI_SI]
  obtain ⟨F, hF⟩ : ∃ F, F = va_up (va_up (va_up (va_up (va_up (va_up (xI h r) 0 36) 3 0) 4 0) 5 0) 6 2) 7 0 := ⟨_, rfl⟩
  rw [← hF]
  have F1 : (∀ j, j = 1 ∨ j = 2 → F j = xI h r j) ∧ (F 0 = 36 ∧ F 3 = 0 ∧ F 4 = 0 ∧ F 5 = 0 ∧ F 6 = 2 ∧ F 7 = 0) := by
    rw [hF]
    refine ⟨fun j hj => ?_, rfl, rfl, rfl, rfl, rfl, rfl⟩
    rcases hj with rfl | rfl <;> rfl
  clear hF
  refine l_clearBDn (h0 := xSI r F h) (r := r) hnn hr 101 0 (xSI r F h) (by omega) rfl (fun _ _ => rfl) (fun q hq => absurd hq (by omega)) (fun h' k1 k2 k3 k4 k5 => ⟨rfl, k1, fun c q1 q2 q3 q4 => (k2 c q4 q2 q3).trans (xI_ne q1), fun j hj => ?_, ?_, k3, k4, ?_⟩)
  · rw [k2 r (by omega) (by omega) (by omega), xI_at]
    exact F1.1 j hj
  · rw [k2 r (by omega) (by omega) (by omega), xI_at]
    exact F1.2
  · rw [k5, xI_ne (by omega)]
theorem l_sumOn {h0 : XH} {n r : Nat} (hnn : r + 9 ≤ n) {od : Nat → Nat} (hr : xRul r (xP h0)) (h5 : ∀ f, 1 ≤ f → f ≤ 6 → xI h0 (r + 5) f = nI (od f)) (h9 : ∀ f, 1 ≤ f → f ≤ 6 → od f ≤ 9) {Q : Option Value → XH → Prop} {X : String → XH → Prop} (e : Nat × Nat)
    (hQ : ∀ h', xP h' = xP h0 → (∀ c, c ≠ r → xI h' c = xI h0 c) → (∀ j, j ≠ 1 → j ≠ 2 → xI h' r j = xI h0 r j) → xI h' r 1 = nI e.1 → xI h' r 2 = nI e.2 → Q none h') : ∀ (f a l : Nat) (h : XH), f ≤ 6 → a + 9 * f ≤ 100 → xP h = xP h0 → (∀ c, c ≠ r → xI h c = xI h0 c) → (∀ j, j ≠ 1 → j ≠ 2 → xI h r j = xI h0 r j) → xI h r 1 = nI a → xI h r 2 = nI l → rnO od f (a, l) = e →
    XW (xrm 2 0 0) mX5_sumOdds (xE n Q X 0 0) n 0 0 h 13 [some (.ref r), some (.int (nI f))] [] := by
  have hr2 := hr.1
  intro f
  induction f with
  | zero =>
    intro a l h hf ha hp hc hj h1 h2 he
    subst he
    exact v_X5_sumOddsn_13 n r (by rw [hp]; exact hr) (by omega) _ ⟨fun _ => hQ h hp hc hj h1 h2, fun q => absurd (by decide) q⟩
  | succ f ih =>
    intro a l h hf ha hp hc hj h1 h2 he
    have e5 : xI h (r + 5) = xI h0 (r + 5) := hc _ (by omega)
    have o9 := h9 (f + 1) (by omega) (by omega)
    refine v_X5_sumOddsn_13 n r (by rw [hp]; exact hr) (by omega) _ ⟨fun q => ?_, fun _ => ⟨_, s_X5_oddsOf n h r (by rw [hp]; exact hr) (by omega) (nI (f + 1)), ?_⟩⟩
    · have := (nI_ltI (b := 1) (by omega) (by omega)).1 q
      omega
    rintro v h3 ⟨rfl, e3⟩
    subst h3
    have er : ∀ g : Nat → Int32, g = xI h (r + 5) → rd g 7 0 (nI (f + 1)) = nI (od (f + 1)) := fun g hg => by
      rw [iz_rd (M := 7) rfl (by omega), hg, e5]; exact h5 (f + 1) (by omega) (by omega)
    rw [er _ rfl, h1]
    refine ⟨_, rfl, _, s_X5_oddsOf n _ r (by show xRul r (xP h); rw [hp]; exact hr) (by omega) (nI (f + 1)), ?_⟩
    rintro v h3 ⟨rfl, e3⟩
    subst h3
    rw [er _ (xI_ne (by omega)), pk_m1, nI_add]
    have hI : ∀ j, j ≠ 1 → j ≠ 2 → (va_up (xI h r) 1 (nI (a + od (f + 1)))) j = xI h0 r j := fun j q1 q2 => (va_up_of _ _ q1).trans (hj j q1 q2)
    refine ⟨_, rfl, fun q => ?_, fun q => ?_⟩
    · have o0 : od (f + 1) = 0 := by
        have := (nI_leI (b := 0) (by omega) (by omega)).1 q
        omega
      refine ih (a + od (f + 1)) l _ (by omega) (by omega) hp (fun c q1 => (xI_ne q1).trans (hc c q1)) (fun j q1 q2 => by rw [xI_at]; exact hI j q1 q2) (by rw [xI_at, va_up_eq]) (by rw [xI_at, va_up_of _ _ (by decide)]; exact h2) ?_
      rw [← he]
      show _ = rnO od f (a + od (f + 1), if 0 < od (f + 1) then f + 1 else l)
      rw [if_neg (by omega)]
    · have o0 : 0 < od (f + 1) := by
        have h3 : ¬ od (f + 1) ≤ 0 := fun z => q ((nI_leI (b := 0) (by omega) (by omega)).2 z)
        omega
      refine ih (a + od (f + 1)) (f + 1) _ (by omega) (by omega) hp (fun c q1 => (xI_ne q1).trans ((xI_ne q1).trans (hc c q1))) (fun j q1 q2 => by rw [xI_at, va_up_of _ _ q2, xI_at]; exact hI j q1 q2) (by rw [xI_at, va_up_of _ _ (by decide), xI_at, va_up_eq]) (by rw [xI_at, va_up_eq]) ?_
      rw [← he]
      show _ = rnO od f (a + od (f + 1), if 0 < od (f + 1) then f + 1 else l)
      rw [if_pos o0]
theorem c_sumOddsn {h : XH} {n r : Nat} (hnn : r + 9 ≤ n) {od : Nat → Nat} (hr : xRul r (xP h)) (h5 : ∀ f, 1 ≤ f → f ≤ 6 → xI h (r + 5) f = nI (od f)) (h9 : ∀ f, 1 ≤ f → f ≤ 6 → od f ≤ 9) : XSpec mX5_sumOdds 2 0 0 n n [.ref r] h (fun v h' => v = none ∧ xP h' = xP h ∧ (∀ c, c ≠ r → xI h' c = xI h c) ∧ (∀ j, j ≠ 1 → j ≠ 2 → xI h' r j = xI h r j) ∧ xI h' r 1 = nI (od6 od) ∧ xI h' r 2 = nI (lfc od)) xno := by
  have hr2 := hr.1
  refine XSpec.of rfl (by decide) (Nat.le_of_ble_eq_true rfl) rfl (v_X5_sumOddsn_0 n r hr (by omega) ?_)
  rw [xSI_SI]
  refine l_sumOn (h0 := h) hnn hr h5 h9 _ (fun h' k1 k2 k3 k4 k5 => ⟨rfl, k1, k2, k3, k4, k5⟩) 6 0 0 _ (by omega) (by omega) rfl (fun c q => xI_ne q) (fun j q1 q2 => by rw [xI_at, va_up_of _ _ q2, va_up_of _ _ q1]) (by rw [xI_at, va_up_of _ _ (by decide), va_up_eq]; rfl) (by rw [xI_at, va_up_eq]; rfl) (rnO_6 od)
theorem l_cclrn {h0 : XH} {n r : Nat} (hnn : r + 9 ≤ n) (hr : xRul r (xP h0)) {Q : Option Value → XH → Prop} {X : String → XH → Prop} (hQ : ∀ h', xP h' = xP h0 → (∀ c, c ≠ r → c ≠ r + 5 → xI h' c = xI h0 c) → (∀ j, j ≠ 1 → j ≠ 2 → xI h' r j = xI h0 r j) → (∀ f, 1 ≤ f → f ≤ 6 → xI h' (r + 5) f = 1) → xI h' r 1 = 6 → xI h' r 2 = 1 → Q none h') : ∀ (c i : Nat) (h : XH), i + c = 7 → 1 ≤ i → xP h = xP h0 → (∀ c, c ≠ r + 5 → xI h c = xI h0 c) → (∀ f, 1 ≤ f → f < i → xI h (r + 5) f = 1) →
    XW (xrm 4 0 0) mX5_clear (xE n Q X 0 0) n 0 0 h 6 [some (.ref r), some (.int (nI i))] [] := by
  have hr2 := hr.1
  intro c
  induction c with
  | zero =>
    intro i h hi h1 hP hI ho
    have : i = 7 := by omega
    subst this
    have hrh : xRul r (xP h) := by rw [hP]; exact hr
    refine v_X5_clearn_6 n r hrh (by omega) (nI 7) ⟨fun _ => ⟨_, c_sumOddsn (od := fun _ => 1) hnn hrh (fun f f1 f2 => ho f f1 (by omega)) (fun f _ _ => by omega), ?_⟩, fun q => absurd (by decide) q⟩
    rintro v h2 ⟨rfl, k1, k2, k3, k4, k5⟩
    exact ⟨rfl, hQ h2 (k1.trans hP) (fun c q1 q2 => (k2 c q1).trans (hI c q2)) (fun j q1 q2 => (k3 j q1 q2).trans (by rw [hI r (by omega)])) (fun f f1 f2 => by rw [k2 (r + 5) (by omega)]; exact ho f f1 (by omega)) k4 k5⟩
  | succ c ih =>
    intro i h hi h1 hP hI ho
    have hrh : xRul r (xP h) := by rw [hP]; exact hr
    refine v_X5_clearn_6 n r hrh (by omega) (nI i) ⟨fun q => ?_, fun _ => ⟨_, s_X5_putOdds n h r hrh (by omega) (nI i) 1, ?_⟩⟩
    · have := (nI_ltI (a := 6) (by omega) (by omega)).1 q
      omega
    rintro v h2 ⟨rfl, e2⟩
    rw [iz_wr (M := 7) rfl (by omega)] at e2
    rw [nI_1]
    refine ⟨rfl, ih (i + 1) h2 (by omega) (by omega) (by rw [e2]; exact hP) (fun c q => by rw [e2, xI_ne q]; exact hI c q) (fun f f1 f2 => ?_)⟩
    rw [e2, xI_at]
    by_cases z : f = i
    · rw [z, va_up_eq]
    · rw [va_up_of _ _ z]; exact ho f f1 (by omega)
theorem c_clearn {h : XH} {n r : Nat} (hnn : r + 9 ≤ n) (hr : xRul r (xP h)) : XSpec mX5_clear 4 0 0 n n [.ref r] h (fun v h' => v = none ∧ CRw h' r b0T ∧ (∀ c, (c < r ∨ r + 8 < c) → xI h' c = xI h c) ∧ xP h' = xP h) xno := by
  have hr2 := hr.1
  refine XSpec.of rfl (by decide) (Nat.le_of_ble_eq_true rfl) rfl (v_X5_clearn_0 n r hr (by omega) ⟨_, s_clearBDn hnn hr, ?_⟩)
  rintro v h1 ⟨rfl, k1, k2, k3, ⟨k4, k5, k6, k7, k8, k9⟩, k10, ⟨k11, k12, k13⟩, k14⟩
  refine ⟨rfl, l_cclrn (h0 := h1) hnn (by rw [k1]; exact hr) (fun h' f1 f2 f3 f4 f5 f6 => ⟨rfl, ⟨⟨?_, f5, f6, ?_, ?_, ?_, ?_, ?_⟩, ⟨fun f a1 a2 => f4 f a1 a2, fun i hi => absurd hi (Nat.not_lt_zero i), fun q hq => ?_⟩, ⟨?_, fun k hk => ?_, ?_, ?_, fun i hi => absurd hi (Nat.not_lt_zero i)⟩⟩, fun c q => (f2 c (by omega) (by omega)).trans (k2 c (by omega) (by omega) (by omega) (by omega)), f1.trans k1⟩) 6 1 h1 (by omega) (by omega) rfl (fun _ _ => rfl) (fun f f1 f2 => absurd f2 (by omega))⟩
  · rw [f3 0 (by decide) (by decide)]; exact k4
  · rw [f3 3 (by decide) (by decide)]; exact k5
  · rw [f3 4 (by decide) (by decide)]; exact k6
  · rw [f3 5 (by decide) (by decide)]; exact k7
  · rw [f3 6 (by decide) (by decide)]; exact k8
  · rw [f3 7 (by decide) (by decide)]; exact k9
  · rw [f2 (r + 8) (by omega) (by omega)]; exact (k10 q hq).trans (if_pos rfl).symm
  · rw [f2 (r + 1) (by omega) (by omega)]; exact k13
  · have k0 : k = 0 := by
      have : k < 1 := hk
      omega
    subst k0
    rw [f2 (r + 3) (by omega) (by omega), k14, va_up_eq]; rfl
  · rw [f2 (r + 1) (by omega) (by omega)]; exact k11
  · rw [f2 (r + 1) (by omega) (by omega)]; exact k12
theorem s_gbeginn {h : XH} {n r m : Nat} (hn56 : 56 ≤ n) (hbp : BP r h) (hm : m ≤ 4) : XSpec mX7_begin 2 0 0 n n [.ref 29, .int (nI m)] h (fun v h' => v = none ∧ h' = xSI 29 (va_up (va_up (va_up (va_up (xI h 29) 3 (nI m)) 0 0) 1 0) 2 0) (xSI 30 (fl 4 0 (xI h 30)) h)) xno := by
  refine XSpec.of rfl (by decide) (Nat.le_of_ble_eq_true rfl) rfl (v_X7_beginn_0 n hn56 r hbp (nI m) ⟨rfl, ?_⟩)
  have e : (if 0 < (if 4 < nI m then 4 else nI m) then (if 4 < nI m then 4 else nI m) else 0) = nI m := by
    rw [if_neg (show ¬ 4 < nI m from fun z => by have := (nI_ltI (a := 4) (by omega) (by omega)).1 z; omega)]
    by_cases z : 0 < m
    · exact if_pos ((nI_ltI (a := 0) (by omega) (by omega)).2 z)
    · have : m = 0 := by omega
      subst this
      rfl
  rw [e, xSI_SI, xSI_SI]
  refine Prod.ext (funext fun c => ?_) rfl
  by_cases z : c = 29
  · rw [z]
    exact xI_at.trans xI_at.symm
  · refine (va_up_of _ _ z).trans (Eq.trans ?_ (va_up_of _ _ z).symm)
    by_cases y : c = 30
    · rw [y]
      exact xI_at.trans xI_at.symm
    · exact (va_up_of _ _ y).trans ((va_up_of _ _ z).trans (va_up_of _ _ y).symm)
theorem s_anewn {h : XH} {n r : Nat} (hn56 : 56 ≤ n) {s : SG} {b : BD} (hP : CPtr r (xP h)) (hr : xRul r (xP h)) (ha : xPth 21 (xP h)) (hR : CRl h r b) (hb : GoodBD b) (hs : ∀ i, i < 3 → xI h 33 i = gSt (sG s) i) (hT : CTp h s) : XSpec mX10_startAnew 6 0 0 n n [.ref 0] h (fun v h' => v = none ∧ CI h' r (sNew s b) ∧ cch h h') xno := by
  have hr2 : r = 2 ∨ r = 12 := hr.1
  have hn100 : r + 9 ≤ 100 := by omega
  have hnr : r + 9 ≤ n := by omega
  have hbp : BP r h := ⟨hP.1, hr, hn100, ha, hP.2.1, hP.2.2.1, hP.2.2.2.1, hP.2.2.2.2.1, hP.2.2.2.2.2.2.2.2.1, hP.2.2.2.2.2.2.2.2.2.1⟩
  obtain ⟨⟨g1, g2, g3, g7⟩, c1, c2, c3, c4, c5, c6, c7, c8, c9, c10, c11, c12⟩ := id hR
  obtain ⟨b1, b2, b3, b4, b5, b6, b7, b8⟩ := id hb.1
  have hpc := hb.2.2.1
  have hJ := hb.1.jl
  refine XSpec.of rfl (by decide) (Nat.le_of_ble_eq_true rfl) rfl (v_X10_startAnewn_0 n hn56 r hbp ⟨_, s_X3_takeFeet n 21 h ha (by omega) r hr hnr _ _ (bKx b) b3 (fun i hi => by have := b7 i hi; omega) c5 c6, ?_⟩)
  rintro v h1 ⟨rfl, k1, f1⟩
  have hr1 : xRul r (xP h1) := hr.pc (f1 r (by omega)).2.2 (f1 (r + 1) (by omega)).2.2
  have ha1 : xPth 21 (xP h1) := by unfold xPth at *; rw [(f1 21 (by omega)).2.2]; exact ha
  have e1 : xI h1 r = xI h r := (f1 r (by omega)).1
  have e2 : xI h1 (r + 1) = xI h (r + 1) := (f1 (r + 1) (by omega)).1
  have e3 : xI h1 (r + 3) = xI h (r + 3) := (f1 (r + 3) (by omega)).1
  have p0 : xP h1 0 = xP h 0 := (f1 0 (by omega)).2.2
  refine ⟨rfl, by rw [p0]; exact hbp.1.2.2.2.1, by rw [p0]; exact hbp.1.2.1, _, s_X3_measure n 21 r h1 ha1 (by omega) hr1 hnr (bLast b) (bLen b) (jmps (bFt b) (bHd b) (bKx b)) b2 (by rw [e3, c9]; exact b6) hJ.1 hJ.2 (by rw [e1]; exact g1) (by rw [e2]; exact c8) (fun j hj => k1 j (by omega)), ?_⟩
  rintro v h2 ⟨rfl, k2, f2⟩
  have F2 : ∀ c, c ≠ 22 → c ≠ 23 → c ≠ r + 4 → xI h2 c = xI h c ∧ xP h2 c = xP h c := fun c q1 q2 q3 => ⟨((f2 c (by omega)).1).trans (f1 c (by omega)).1, ((f2 c (by omega)).2.2).trans (f1 c (by omega)).2.2⟩
  have hr2' : xRul r (xP h2) := hr.pc (F2 r (by omega) (by omega) (by omega)).2 (F2 (r + 1) (by omega) (by omega) (by omega)).2
  have ha2 : xPth 21 (xP h2) := by unfold xPth at *; rw [(F2 21 (by omega) (by omega) (by omega)).2]; exact ha
  have e20 : xI h2 r = xI h r := (F2 r (by omega) (by omega) (by omega)).1
  have p02 : xP h2 0 = xP h 0 := (F2 0 (by omega) (by omega) (by omega)).2
  rw [e3, c9] at k2
  refine ⟨rfl, by rw [p02]; exact hbp.1.2.2.2.1, by rw [p02]; exact hbp.1.2.1, by rw [p02]; exact hbp.1.2.1, ?_⟩
  rw [e20, c1]
  refine ⟨_, s_X3_lay n 21 r h2 ha2 (by omega) hr2' hnr (bLast b) (bE b) (jmps (bFt b) (bHd b) (bKx b)) (farAt (bC b) (bLen b) (bLast b) (jmps (bFt b) (bHd b) (bKx b))) b2 b4 (fun s g => farAt_b _ _ _ _ s g) hJ.1 (by rw [e20]; exact g1) (fun j hj => by rw [(f2 22 (by omega)).1]; exact k1 j (by omega)) k2, ?_⟩
  rintro v h3 ⟨rfl, k3, f3⟩
  have F3 : ∀ c, c ≠ 22 → c ≠ 23 → c ≠ 24 → c ≠ r + 4 → xI h3 c = xI h c ∧ xP h3 c = xP h c := fun c q1 q2 q4 q3 => ⟨((f3 c (by omega)).1).trans (F2 c q1 q2 q3).1, ((f3 c (by omega)).2.2).trans (F2 c q1 q2 q3).2⟩
  have p03 : xP h3 0 = xP h 0 := (F3 0 (by omega) (by omega) (by omega) (by omega)).2
  have e30 : xI h3 r = xI h r := (F3 r (by omega) (by omega) (by omega) (by omega)).1
  have hP3 : CPtr r (xP h3) := hP.pc2 (fun c q => (F3 c (by unfold PC at q; omega) (by unfold PC at q; omega) (by unfold PC at q; omega) (by unfold PC at q; omega)).2)
  have hr3 : xRul r (xP h3) := hr.pc (F3 r (by omega) (by omega) (by omega) (by omega)).2 (F3 (r + 1) (by omega) (by omega) (by omega) (by omega)).2
  have ha3 : xPth 21 (xP h3) := by unfold xPth at *; rw [(F3 21 (by omega) (by omega) (by omega) (by omega)).2]; exact ha
  have hbp3 : BP r h3 := ⟨hP3.1, hr3, hn100, ha3, hP3.2.1, hP3.2.2.1, hP3.2.2.2.1, hP3.2.2.2.2.1, hP3.2.2.2.2.2.2.2.2.1, hP3.2.2.2.2.2.2.2.2.2.1⟩
  refine ⟨rfl, by rw [p03]; exact hbp.1.2.2.2.2.2.1, by rw [p03]; exact hbp.1.2.1, ?_⟩
  rw [e30, c4]
  refine ⟨_, s_gbeginn hn56 hbp3 hpc.2, ?_⟩
  rintro v h4 ⟨rfl, e4⟩
  subst e4
  refine ⟨rfl, by show xP h3 0 10 = some 39; rw [p03]; exact hbp.1.2.2.2.2.2.2.2.1, rfl, ?_⟩
  obtain ⟨h5, e5⟩ : ∃ h5, h5 = (xSI 0 (va_up (xI (xSI 29 (va_up (va_up (va_up (va_up (xI h3 29) 3 (nI (bPc b))) 0 0) 1 0) 2 0) (xSI 30 (fl 4 0 (xI h3 30)) h3)) 0) 9 0) (xSI 39 (va_up (xI (xSI 29 (va_up (va_up (va_up (va_up (xI h3 29) 3 (nI (bPc b))) 0 0) 1 0) 2 0) (xSI 30 (fl 4 0 (xI h3 30)) h3)) 39) 0 (-1)) (xSI 29 (va_up (va_up (va_up (va_up (xI h3 29) 3 (nI (bPc b))) 0 0) 1 0) 2 0) (xSI 30 (fl 4 0 (xI h3 30)) h3)))) := ⟨_, rfl⟩
  rw [← e5]
  have t : ∀ c, c ≠ 0 → c ≠ 39 → c ≠ 29 → c ≠ 30 → xI h5 c = xI h3 c := fun c q1 q2 q3 q4 => by rw [e5, xI_ne q1, xI_ne q2, xI_ne q3, xI_ne q4]
  have t0 : ∀ j, j ≠ 9 → j ≠ 16 → xI h5 0 j = xI h 0 j := fun j q1 _ => by
    rw [e5, xI_at, va_up_of _ _ q1, xI_ne (by decide), xI_ne (by decide), (F3 0 (by omega) (by omega) (by omega) (by omega)).1]
  have t9 : xI h5 0 9 = 0 := by rw [e5, xI_at, va_up_eq]
  have t39 : xI h5 39 0 = -1 := by rw [e5, xI_ne (by decide), xI_at, va_up_eq]
  have t29 : xI h5 29 = va_up (va_up (va_up (va_up (xI h3 29) 3 (nI (bPc b))) 0 0) 1 0) 2 0 := by rw [e5, xI_ne (by decide), xI_ne (by decide), xI_at]
  have t30 : xI h5 30 = fl 4 0 (xI h3 30) := by rw [e5, xI_ne (by decide), xI_ne (by decide), xI_ne (by decide), xI_at]
  have tp : xP h5 = xP h3 := by rw [e5]; rfl
  clear e5
  have F5 : ∀ c, (c < 22 ∨ 24 < c) → c ≠ r + 4 → c ≠ 0 → c ≠ 39 → c ≠ 29 → c ≠ 30 → xI h5 c = xI h c := fun c q1 q2 q3 q4 q5 q6 => (t c q3 q4 q5 q6).trans (F3 c (by omega) (by omega) (by omega) q2).1
  refine ⟨⟨by rw [tp]; exact hP3, ?_, ⟨?_, ?_, ?_, ?_, ?_, ?_, ?_, ?_⟩, ⟨t9, fun z => absurd (show (0 : Nat) = 1 from z) (by omega)⟩, ⟨t39, fun i hi => absurd (show (i : Int) < (-1 : Int32).toInt from hi) (by rw [show (-1 : Int32).toInt = -1 from rfl]; omega)⟩, ⟨?_, ?_, ?_⟩, True.intro⟩, fun c q => ⟨F5 c (by omega) (by omega) (by omega) (by omega) (by omega) (by omega), by rw [tp]; exact (F3 c (by omega) (by omega) (by omega) (by omega)).2⟩⟩
  · refine (hR.of (h' := h5) (fun c q1 q2 q3 => F5 c (by omega) q3 (by omega) (by omega) (by omega) (by omega))).cbd (by rw [tp]; exact hr3) (by rw [tp]; exact ha3) hb (fun s hs f hf => ?_)
    rw [t 24 (by decide) (by decide) (by decide) (by decide)]
    exact k3 s hs f (by omega)
  · show _ = (if isOv (bLast b) (bPc b) (fun _ => 0) = true then -1 else nI 0)
    rw [isOv_new hb, if_neg (by decide), t29, va_up_of _ _ (by decide), va_up_of _ _ (by decide), va_up_eq]
    rfl
  · rw [t29, va_up_of _ _ (by decide), va_up_eq]; rfl
  · rw [t29, va_up_eq]; rfl
  · rw [t29, va_up_of _ _ (by decide), va_up_of _ _ (by decide), va_up_of _ _ (by decide), va_up_eq]; rfl
  · intro p hp
    rw [t30]
    unfold fl
    rw [if_pos hp]; rfl
  · intro i hi
    exact absurd hi (Nat.not_lt_zero i)
  · intro i hi
    exact absurd hi (Nat.not_lt_zero i)
  · intro i hi
    rw [F5 33 (by omega) (by omega) (by omega) (by omega) (by omega) (by omega)]
    exact hs i hi
  · rw [t0 1 (by decide) (by decide)]; exact hT.1
  · rw [t0 2 (by decide) (by decide)]; exact hT.2.1
  · intro i hi
    rw [F5 1 (by omega) (by omega) (by omega) (by omega) (by omega) (by omega)]
    exact hT.2.2 i hi
