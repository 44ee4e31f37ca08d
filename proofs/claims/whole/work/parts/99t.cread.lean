/-! READ: the class' reader, whole -/
theorem l_cclr {h0 : XH} {r : Nat} (hr : xRul r (xP h0)) {Q : Option Value → XH → Prop} {X : String → XH → Prop} (hQ : ∀ h', xP h' = xP h0 → (∀ c, c ≠ r → c ≠ r + 5 → xI h' c = xI h0 c) → (∀ j, j ≠ 1 → j ≠ 2 → xI h' r j = xI h0 r j) → (∀ f, 1 ≤ f → f ≤ 6 → xI h' (r + 5) f = 1) → xI h' r 1 = 6 → xI h' r 2 = 1 → Q none h') : ∀ (c i : Nat) (h : XH), i + c = 7 → 1 ≤ i → xP h = xP h0 → (∀ c, c ≠ r + 5 → xI h c = xI h0 c) → (∀ f, 1 ≤ f → f < i → xI h (r + 5) f = 1) →
    XW (xrm 4 0 0) mX5_clear (xE 100 Q X 0 0) 100 0 0 h 6 [some (.ref r), some (.int (nI i))] [] := by
  have hr2 := hr.1
  intro c
  induction c with
  | zero =>
    intro i h hi h1 hP hI ho
    have : i = 7 := by omega
    subst this
    have hrh : xRul r (xP h) := by rw [hP]; exact hr
    refine v_X5_clear_6 r hrh (by omega) (nI 7) ⟨fun _ => ⟨_, c_sumOdds (od := fun _ => 1) hrh (fun f f1 f2 => ho f f1 (by omega)) (fun f _ _ => by omega), ?_⟩, fun q => absurd (by decide) q⟩
    rintro v h2 ⟨rfl, k1, k2, k3, k4, k5⟩
    exact ⟨rfl, hQ h2 (k1.trans hP) (fun c q1 q2 => (k2 c q1).trans (hI c q2)) (fun j q1 q2 => (k3 j q1 q2).trans (by rw [hI r (by omega)])) (fun f f1 f2 => by rw [k2 (r + 5) (by omega)]; exact ho f f1 (by omega)) k4 k5⟩
  | succ c ih =>
    intro i h hi h1 hP hI ho
    have hrh : xRul r (xP h) := by rw [hP]; exact hr
    refine v_X5_clear_6 r hrh (by omega) (nI i) ⟨fun q => ?_, fun _ => ⟨_, s_X5_putOdds 100 h r hrh (by omega) (nI i) 1, ?_⟩⟩
    · have := (nI_ltI (a := 6) (by omega) (by omega)).1 q
      omega
    rintro v h2 ⟨rfl, e2⟩
    rw [iz_wr (M := 7) rfl (by omega)] at e2
    rw [nI_1]
    refine ⟨rfl, ih (i + 1) h2 (by omega) (by omega) (by rw [e2]; exact hP) (fun c q => by rw [e2, xI_ne q]; exact hI c q) (fun f f1 f2 => ?_)⟩
    rw [e2, xI_at]
    by_cases z : f = i
    · rw [z, va_up_eq]
    · rw [va_up_of _ _ z]; exact ho f f1 (by omega)
theorem c_clear {h : XH} {r : Nat} (hr : xRul r (xP h)) : XSpec mX5_clear 4 0 0 100 100 [.ref r] h (fun v h' => v = none ∧ CRw h' r b0T ∧ (∀ c, (c < r ∨ r + 8 < c) → xI h' c = xI h c) ∧ xP h' = xP h) xno := by
  have hr2 := hr.1
  refine XSpec.of rfl (by decide) (Nat.le_of_ble_eq_true rfl) rfl (v_X5_clear_0 r hr (by omega) ⟨_, s_clearBD hr, ?_⟩)
  rintro v h1 ⟨rfl, k1, k2, k3, ⟨k4, k5, k6, k7, k8, k9⟩, k10, ⟨k11, k12, k13⟩, k14⟩
  refine ⟨rfl, l_cclr (h0 := h1) (by rw [k1]; exact hr) (fun h' f1 f2 f3 f4 f5 f6 => ⟨rfl, ⟨⟨?_, f5, f6, ?_, ?_, ?_, ?_, ?_⟩, ⟨fun f a1 a2 => f4 f a1 a2, fun i hi => absurd hi (Nat.not_lt_zero i), fun q hq => ?_⟩, ⟨?_, fun k hk => ?_, ?_, ?_, fun i hi => absurd hi (Nat.not_lt_zero i)⟩⟩, fun c q => (f2 c (by omega) (by omega)).trans (k2 c (by omega) (by omega) (by omega) (by omega)), f1.trans k1⟩) 6 1 h1 (by omega) (by omega) rfl (fun _ _ => rfl) (fun f f1 f2 => absurd f2 (by omega))⟩
  · rw [f3 0 (by decide) (by decide)]; exact k4
  · rw [f3 3 (by decide) (by decide)]; exact k5
  · rw [f3 4 (by decide) (by decide)]; exact k6
  · rw [f3 5 (by decide) (by decide)]; exact k7
  · rw [f3 6 (by decide) (by decide)]; exact k8
  · rw [f3 7 (by decide) (by decide)]; exact k9
  · rw [f2 (r + 8) (by omega) (by omega)]; exact (k10 q hq).trans (if_pos rfl).symm
  · rw [f2 (r + 1) (by omega) (by omega)]; exact k13
  · have k0 : k = 0 := by
      have : k < 1 := hk
      omega
    subst k0
    rw [f2 (r + 3) (by omega) (by omega), k14, va_up_eq]; rfl
  · rw [f2 (r + 1) (by omega) (by omega)]; exact k11
  · rw [f2 (r + 1) (by omega) (by omega)]; exact k12
/-- the whole text is read -/
def RO (r : Nat) (h0 : XH) (x : RR) (v : Option Value) (h : XH) : Prop := match x with
  | .inl e => v = some (.int (nI e.1)) ∧ xI h 11 0 = nI e.2 ∧ (1 ≤ e.1 ∧ e.1 ≤ 5) ∧ Bch r h0 h
  | .inr y => v = some (.int 0) ∧ CRw h r y.2.1 ∧ Bch r h0 h
theorem l_cread {h0 : XH} {r n : Nat} {T : Nat → Nat} {res : RR} (hn : n ≤ 500) (ht : ∀ i, i < n → T i < 256) {Q : Option Value → XH → Prop} {X : String → XH → Prop} (hQ : ∀ v h', RO r h0 res v h' → Q v h') : ∀ (f i s t : Nat) (b : BD) (h : XH), i + f = 501 → LC h r T n s b t → GoodBD b → s ≤ n → t < 256 → Bch r h0 h → lAll T n f s b t = res →
    XW (xrm 82 0 0) mX4_read (xE 100 Q X 0 0) 100 0 0 h 67 [some (.ref 11), none, some (.int 1), some (.int (nI i))] [] := by
  intro f
  induction f with
  | zero =>
    intro i s t b h hi hL hb hs h8 he hres
    have : i = 501 := by omega
    subst this
    refine v_X4_read_67 r hL.1.1.1 hL.1.1.2.1 hL.1.1.2.2 _ _ ⟨fun _ => hQ _ _ ?_, fun q => absurd (by decide) q⟩
    rw [← hres, hL.1.2.2.2]
    exact ⟨rfl, hL.2.1, he⟩
  | succ f ih =>
    intro i s t b h hi hL hb hs h8 he hres
    have kl := kd_le (T := T) (n := n) (s := s)
    unfold lAll at hres
    refine v_X4_read_67 r hL.1.1.1 hL.1.1.2.1 hL.1.1.2.2 _ _ ⟨fun q => ?_, fun _ => ⟨fun q => absurd q (by decide), fun _ => ?_⟩⟩
    · have := (nI_ltI (a := 500) (by omega) (by omega)).1 q
      omega
    rw [hL.1.2.2.1.2.2.1]
    refine ⟨fun q => hQ _ _ ?_, fun q => ⟨_, c_readLine hL hb h8, ?_⟩⟩
    · have k0 := (nI_eq (b := 0) (by omega) (by omega)).1 q
      rw [if_pos k0] at hres
      rw [← hres, hL.1.2.2.2]
      exact ⟨rfl, hL.2.1, he⟩
    · have k0 : ¬ kd T n s = 0 := fun z => q (by rw [z]; rfl)
      rw [if_neg k0] at hres
      intro v h1 hq
      cases hz : lLine T n s b t with
      | inl e =>
        rw [hz] at hq hres
        obtain ⟨e1, e2, e3, e4, e5⟩ := hq
        have hR1 : RD h1 r := hL.1.1.p e5.2
        refine ⟨0, e1, v_X4_read_67 r hR1.1 hR1.2.1 hR1.2.2 _ _ ⟨fun _ => hQ _ _ ?_, fun _ => ⟨fun _ => hQ _ _ ?_, fun z => absurd rfl z⟩⟩⟩
        · rw [← hres, e3]; exact ⟨rfl, e2, e4, he.trans e5⟩
        · rw [← hres, e3]; exact ⟨rfl, e2, e4, he.trans e5⟩
      | inr y =>
        rw [hz] at hq hres
        obtain ⟨e1, e2, e3⟩ := hq
        obtain ⟨g1, g2, g3, g4⟩ := lLine_g hb hs hn ht h8 hz
        rw [nI_1]
        exact ⟨1, e1, ih (i + 1) y.1 y.2.2 y.2.1 h1 (by omega) e2 g3 g2 g4 (he.trans e3) hres⟩
theorem c_read {h : XH} {r n : Nat} {T : Nat → Nat} (hR : RD h r) (hn : n ≤ 500) (ht : ∀ i, i < n → xI h 1 i = nI (T i) ∧ T i < 256) : XSpec mX4_read 82 0 0 100 100 [.ref 11, .int (nI n)] h (RO r h (lText T n)) xno := by
  have hr := hR.r2
  refine XSpec.of rfl (by decide) (Nat.le_of_ble_eq_true rfl) rfl (v_X4_read_0 r hR.1 hR.2.1 hR.2.2 (nI n) ?_)
  have en : (if 0 < (if 500 < nI n then 500 else nI n) then (if 500 < nI n then 500 else nI n) else 0) = nI n := by
    rw [if_neg (show ¬ 500 < nI n from fun z => by have := (nI_ltI (a := 500) (by omega) (by omega)).1 z; omega)]
    by_cases z : 0 < n
    · exact if_pos ((nI_ltI (a := 0) (by omega) (by omega)).2 z)
    · have : n = 0 := by omega
      subst this
      rfl
  rw [en]
  obtain ⟨h0, e0⟩ : ∃ h0, h0 = xSI 11 (va_up (xI h 11) 2 (nI n)) h := ⟨_, rfl⟩
  rw [← e0]
  have p0 : xP h0 = xP h := by rw [e0]; rfl
  have n0 : ∀ c, c ≠ 11 → xI h0 c = xI h c := fun c q => by rw [e0, xI_ne q]
  have m0 : xI h0 11 2 = nI n := by rw [e0, xI_at, va_up_eq]
  clear e0
  have hR0 : RD h0 r := hR.p p0
  refine ⟨_, c_clear hR0.2.1, ?_⟩
  rintro v h1 ⟨rfl, hW, k1, k2⟩
  have i11 : xI h1 11 = xI h0 11 := k1 11 (by omega)
  rw [xSI_SI, xSI_SI]
  obtain ⟨h2, e2⟩ : ∃ h2, h2 = xSI 11 (va_up (va_up (va_up (xI h1 11) 5 0) 6 0) 3 0) h1 := ⟨_, rfl⟩
  rw [← e2]
  have p2 : xP h2 = xP h := by rw [e2]; exact k2.trans p0
  have n2 : ∀ c, c ≠ 11 → xI h2 c = xI h1 c := fun c q => by rw [e2, xI_ne q]
  have m2 : xI h2 11 2 = nI n ∧ xI h2 11 5 = 0 ∧ xI h2 11 6 = 0 ∧ xI h2 11 3 = 0 := by
    rw [e2, xI_at]
    refine ⟨?_, ?_, ?_, va_up_eq _ _ _⟩
    · rw [va_up_of _ _ (by decide), va_up_of _ _ (by decide), va_up_of _ _ (by decide), i11]; exact m0
    · rw [va_up_of _ _ (by decide), va_up_of _ _ (by decide), va_up_eq]
    · rw [va_up_of _ _ (by decide), va_up_eq]
  clear e2
  have hR2 : RD h2 r := hR.p p2
  have hT2 : TX h2 T n := ⟨m2.1, hn, fun i hi => by rw [n2 1 (by decide), k1 1 (by omega), n0 1 (by decide)]; exact ht i hi⟩
  have ht' : ∀ i, i < n → T i < 256 := fun i hi => (ht i hi).2
  refine ⟨rfl, _, c_readOn0 hR2 hT2 (q := 0) m2.2.2.2 (Nat.zero_le n), ?_⟩
  rintro v h3 ⟨rfl, c3, t3⟩
  have hC3 : CT h3 r T n (s0T T n) := ⟨hR2.c c3, hT2.c c3, t3, by rw [c3.2.1 5 (by decide) (by decide) (by decide)]; exact m2.2.1⟩
  have hL3 : LC h3 r T n (s0T T n) b0T 0 := ⟨hC3, hW.of (fun c q1 q2 => (c3.1 c (by omega)).trans (n2 c (by omega))), by rw [c3.2.1 6 (by decide) (by decide) (by decide)]; exact m2.2.2.1⟩
  have b3 : Bch r h h3 := ⟨fun c q1 q2 => (c3.1 c q1).trans ((n2 c q1).trans ((k1 c (by omega)).trans (n0 c q1))), c3.2.2.trans p2⟩
  have hs0 : s0T T n ≤ n := s0T_le
  refine ⟨rfl, _, c_isWord (i := 1) hC3 (by decide), ?_⟩
  rintro v h4 ⟨rfl, e4⟩
  subst h4
  rw [jsT_c.1]
  refine ⟨_, rfl, fun q => ?_, fun q => ⟨_, c_readLast hL3, ?_⟩⟩
  · have eh : lText T n = lAll T n 501 (s0T T n) b0T 0 := by
      unfold lText lHead
      rw [if_neg (by rw [bI_0.1 q]; decide)]
      rfl
    exact l_cread (h0 := h) hn ht' (fun _ _ z => z) 501 0 _ 0 b0T h3 (by omega) hL3 b0T_good hs0 (by omega) b3 eh.symm
  · have eh : lText T n = qbd (lLast T n (nx T n (s0T T n)) b0T) (fun s b => lAll T n 501 s b 0) := by
      unfold lText lHead
      rw [if_pos (bI_n0.1 q)]
    have ehd : lHead T n = lLast T n (nx T n (s0T T n)) b0T := by
      unfold lHead
      rw [if_pos (bI_n0.1 q)]
    intro v h5 hq
    cases hz : lLast T n (nx T n (s0T T n)) b0T with
    | inl e =>
      rw [hz] at hq eh
      obtain ⟨e1, e2, e3, e4, e5⟩ := hq
      have hR5 : RD h5 r := hL3.1.1.p e5.2
      refine ⟨0, e1, fun _ => v_X4_read_67 r hR5.1 hR5.2.1 hR5.2.2 _ _ ⟨fun q => absurd q (by decide), fun _ => ⟨fun _ => ?_, fun z => absurd rfl z⟩⟩, fun z => absurd rfl z⟩
      rw [eh, e3]
      exact ⟨rfl, e2, e4, b3.trans e5⟩
    | inr y =>
      rw [hz] at hq eh ehd
      obtain ⟨e1, e2, e3⟩ := hq
      obtain ⟨g1, g2⟩ := lHead_g ehd
      exact ⟨1, e1, fun z => absurd z (by decide), fun _ => l_cread (h0 := h) hn ht' (fun _ _ z => z) 501 0 y.1 0 y.2 h5 (by omega) e2 g2 g1 (by omega) (b3.trans e3) eh.symm⟩
