/-! READ: the class' tokens -/
theorem jsT_0 : jsT 0 = [59, 40, 41, 43, 45, 42, 47, 60, 61] := by decide
theorem isMk_m {c : Nat} : isMk c = true ↔ c ∈ jsT 0 := by
  rw [jsT_0]
  unfold isMk
  simp
theorem c_readOn0 {h : XH} {r n q : Nat} {T : Nat → Nat} (hR : RD h r) (hT : TX h T n) (hq : xI h 11 3 = nI q) (hqn : q ≤ n) : XSpec mX4_readOn 14 0 0 100 100 [.ref 11] h (fun v h' => v = none ∧ Rch h h' ∧ TK h' T n (sc isBk T n q)) xno := by
  have n5 := hT.2.1
  have hb := sc_b (p := isBk) (T := T) hqn
  obtain ⟨s, hs⟩ : ∃ s, sc isBk T n q = s := ⟨_, rfl⟩
  rw [hs] at hb ⊢
  refine XSpec.of rfl (by decide) (Nat.le_of_ble_eq_true rfl) rfl (v_X4_readOn_0 r hR.1 hR.2.1 hR.2.2 ?_)
  have hc0 : Rch h (xSI 11 (va_up (xI h 11) 0 (xI h 11 3)) h) := Rch.rfl.put (fun j q1 _ _ => va_up_of _ _ q1)
  refine l_ro1 hR hT (fun h1 hc1 e1 => ?_) (n - q) q _ (by omega) hc0 (by rw [xI_at, va_up_eq, hq]) hs
  have hR1 := hR.c hc1
  have hT1 := hT.c hc1
  refine v_X4_readOn_46 r hR1.1 hR1.2.1 hR1.2.2 ?_
  rw [va_up_of _ _ (by decide), e1]
  obtain ⟨h2, hh2⟩ : ∃ h2, h2 = xSI 11 (va_up (xI h1 11) 3 (nI s)) h1 := ⟨_, rfl⟩
  rw [← hh2]
  have hc2 : Rch h h2 := by rw [hh2]; exact hc1.put (fun j _ q2 _ => va_up_of _ _ q2)
  have a0 : xI h2 11 0 = nI s := by rw [hh2, xI_at, va_up_of _ _ (by decide)]; exact e1
  have a3 : xI h2 11 3 = nI s := by rw [hh2, xI_at, va_up_eq]
  clear hh2
  have hR2 := hR.c hc2
  have hT2 := hT.c hc2
  refine ⟨_, c_signAt hR2 hT2 s (by omega), ?_⟩
  rintro v h3 ⟨rfl, e3⟩
  subst h3
  rw [a0, hT2.1]
  have fin : ∀ (h' : XH) (k e : Nat), Rch h h' → xI h' 11 0 = nI s → xI h' 11 4 = nI k → xI h' 11 3 = nI e → kd T n s = k → sp T n s = e → (none : Option Value) = none ∧ Rch h h' ∧ TK h' T n s := fun h' k e f1 f2 f3 f4 f5 f6 => ⟨rfl, f1, f2, by rw [f6]; exact f4, by rw [f5]; exact f3, hb.2⟩
  refine ⟨_, rfl, fun q => ?_, fun q => ?_⟩
  · have hlt : s < n := (nI_ltI (by omega) (by omega)).1 q
    obtain ⟨-, t256⟩ := hT2.2.2 s hlt
    rw [Tz_in hlt]
    refine ⟨_, c_isLetter h2 _, ?_⟩
    rintro v h4 ⟨rfl, e4⟩
    subst h4
    rw [ltI_n (by omega)]
    refine ⟨_, rfl, fun c => ?_, fun c => ?_⟩
    · have cl := bI_0.1 c
      refine ⟨_, c_isDigit h2 _, ?_⟩
      rintro v h5 ⟨rfl, e5⟩
      subst h5
      rw [dgI_n (by omega)]
      refine ⟨_, rfl, fun c2 => ?_, fun c2 => ?_⟩
      · have cd := bI_0.1 c2
        refine ⟨_, s_idx 100 (i := 0) (by decide) (by decide) t256 h2, ?_⟩
        rintro v h6 ⟨e6, w, rfl, hw⟩
        subst h6
        have sp1 : sp T n s = s + 1 := by
          unfold sp
          rw [if_neg (by omega), if_neg (by rw [cl]; decide), if_neg (by rw [cd]; decide)]
        refine ⟨w, rfl, fun c3 => ?_, fun c3 => ?_⟩
        · have k4 : kd T n s = 4 := by
            unfold kd
            rw [if_neg (by omega), if_neg (by rw [cl]; decide), if_neg (by rw [cd]; decide), if_neg (fun z => hw.1 c3 (isMk_m.1 z))]
          have hc3 : Rch h (xSI 11 (va_up (xI h2 11) 4 4) h2) := hc2.put (fun j _ _ q3 => va_up_of _ _ q3)
          refine v_X4_readOn_210 r (hR.c hc3).1 (hR.c hc3).2.1 hR.2.2 (fin _ 4 (s + 1) (hc3.put (fun j _ q2 _ => by rw [va_up_of _ _ q2, xI_at])) ?_ ?_ ?_ k4 sp1)
          · rw [xI_at, va_up_of _ _ (by decide), va_up_of _ _ (by decide)]; exact a0
          · rw [xI_at, va_up_of _ _ (by decide), va_up_eq]; rfl
          · rw [xI_at, va_up_eq, va_up_of _ _ (by decide), a3, nI_1]
        · have k3 : kd T n s = 3 := by
            unfold kd
            rw [if_neg (by omega), if_neg (by rw [cl]; decide), if_neg (by rw [cd]; decide), if_pos (isMk_m.2 (Classical.byContradiction fun z => c3 (hw.2 z)))]
          have hc3 : Rch h (xSI 11 (va_up (xI h2 11) 4 3) h2) := hc2.put (fun j _ _ q3 => va_up_of _ _ q3)
          refine v_X4_readOn_210 r (hR.c hc3).1 (hR.c hc3).2.1 hR.2.2 (fin _ 3 (s + 1) (hc3.put (fun j _ q2 _ => by rw [va_up_of _ _ q2, xI_at])) ?_ ?_ ?_ k3 sp1)
          · rw [xI_at, va_up_of _ _ (by decide), va_up_of _ _ (by decide)]; exact a0
          · rw [xI_at, va_up_of _ _ (by decide), va_up_eq]; rfl
          · rw [xI_at, va_up_eq, va_up_of _ _ (by decide), a3, nI_1]
      · have cd := bI_n0.1 c2
        refine l_ro3 hR hT (s0 := nI s) (k0 := nI 2) (e := sp T n s) (fun h' f1 f2 f3 f4 => fin h' 2 _ f1 f2 f3 f4 ?_ rfl) (n - s) s _ (by omega) (hc2.put (fun j _ _ q3 => va_up_of _ _ q3)) ?_ ?_ ?_ ?_
        · unfold kd
          rw [if_neg (by omega), if_neg (by rw [cl]; decide), if_pos cd]
        · rw [xI_at, va_up_of _ _ (by decide)]; exact a0
        · rw [xI_at, va_up_eq]; rfl
        · rw [xI_at, va_up_of _ _ (by decide)]; exact a3
        · unfold sp
          rw [if_neg (by omega), if_neg (by rw [cl]; decide), if_pos cd]
    · have cl := bI_n0.1 c
      refine l_ro2 hR hT (s0 := nI s) (k0 := nI 1) (e := sp T n s) (fun h' f1 f2 f3 f4 => fin h' 1 _ f1 f2 f3 f4 ?_ rfl) (n - s) s _ (by omega) (hc2.put (fun j _ _ q3 => va_up_of _ _ q3)) ?_ ?_ ?_ ?_
      · unfold kd
        rw [if_neg (by omega), if_pos cl]
      · rw [xI_at, va_up_of _ _ (by decide)]; exact a0
      · rw [xI_at, va_up_eq]; rfl
      · rw [xI_at, va_up_of _ _ (by decide)]; exact a3
      · unfold sp
        rw [if_neg (by omega), if_pos cl]
  · have hge : ¬ s < n := fun z => q (nI_lt z (by omega))
    have hc3 : Rch h (xSI 11 (va_up (xI h2 11) 4 0) h2) := hc2.put (fun j _ _ q3 => va_up_of _ _ q3)
    refine v_X4_readOn_210 r (hR.c hc3).1 (hR.c hc3).2.1 hR.2.2 (fin _ 0 s hc3 ?_ ?_ ?_ ?_ ?_)
    · rw [xI_at, va_up_of _ _ (by decide)]; exact a0
    · rw [xI_at, va_up_eq]; rfl
    · rw [xI_at, va_up_of _ _ (by decide)]; exact a3
    · unfold kd; rw [if_pos (by omega)]
    · unfold sp; rw [if_pos (by omega)]
/-- the reader looks at the token that begins at s -/
def CT (h : XH) (r : Nat) (T : Nat → Nat) (n s : Nat) : Prop := RD h r ∧ TX h T n ∧ TK h T n s ∧ xI h 11 5 = 0
theorem c_readOn {h : XH} {r n s : Nat} {T : Nat → Nat} (hC : CT h r T n s) : XSpec mX4_readOn 14 0 0 100 100 [.ref 11] h (fun v h' => v = none ∧ CT h' r T n (nx T n s) ∧ Rch h h') xno := by
  obtain ⟨hR, hT, ⟨k1, k2, k3, k4⟩, hf⟩ := hC
  refine (c_readOn0 hR hT k2 (sp_b k4).2).mono ?_ (fun _ _ z => z)
  rintro v h' ⟨rfl, hc, hk⟩
  exact ⟨rfl, ⟨hR.c hc, hT.c hc, hk, by rw [hc.2.1 5 (by decide) (by decide) (by decide)]; exact hf⟩, hc⟩
theorem c_isSign {h : XH} {r n s : Nat} {T : Nat → Nat} (hC : CT h r T n s) {c : Nat} (hc : c < 256) : XSpec mX4_isSign 2 0 0 100 100 [.ref 11, .int (nI c)] h (xq (some (.int (bI (isS T n c s)))) h) xno := by
  obtain ⟨hR, hT, ⟨k1, k2, k3, k4⟩, hf⟩ := hC
  have kl := kd_le (T := T) (n := n) (s := s)
  have n5 := hT.2.1
  refine XSpec.of rfl (by decide) (Nat.le_of_ble_eq_true rfl) rfl (v_X4_isSign_0 r hR.1 hR.2.1 hR.2.2 (nI c) ?_)
  rw [k3, k1]
  refine ⟨fun q => ⟨?_, rfl⟩, fun q => ⟨_, c_signAt hR hT s (by omega), ?_⟩⟩
  · rw [show isS T n c s = false from decide_eq_false (fun z => q (by rw [z.1]; rfl))]; rfl
  · have e3 : kd T n s = 3 := (nI_eq (b := 3) (by omega) (by omega)).1 q
    have hlt : s < n := kd_lt (T := T) (by rw [e3]; decide)
    obtain ⟨-, t256⟩ := hT.2.2 s hlt
    rintro v h1 ⟨rfl, e1⟩
    subst h1
    rw [Tz_in hlt]
    refine ⟨_, rfl, fun q2 => ⟨?_, rfl⟩, fun q2 => ⟨?_, rfl⟩⟩
    · rw [show isS T n c s = false from decide_eq_false (fun z => q2 (by rw [z.2]))]; rfl
    · rw [show isS T n c s = true from decide_eq_true ⟨e3, (nI_eq (by omega) (by omega)).1 q2⟩]; rfl
/-- the fault f is found at the place p -/
def FL (h h' : XH) (f p : Nat) : Prop := xI h' 11 0 = nI p ∧ xI h' 11 5 = nI f ∧ Fch h h'
theorem CT.fl {h : XH} {r n s : Nat} {T : Nat → Nat} (hC : CT h r T n s) (f : Nat) : FL h (xSI 11 (va_up (xI h 11) 5 (nI f)) h) f s :=
  ⟨by rw [xI_at, va_up_of _ _ (by decide)]; exact hC.2.2.1.1, by rw [xI_at, va_up_eq], fun c q => xI_ne q, fun j _ _ _ q4 => by rw [xI_at, va_up_of _ _ q4], rfl⟩
theorem c_takeSign {h : XH} {r n s : Nat} {T : Nat → Nat} (hC : CT h r T n s) {c : Nat} (hc : c < 256) : XSpec mX4_takeSign 15 0 0 100 100 [.ref 11, .int (nI c)] h (fun v h' => (isS T n c s = true ∧ v = some (.int 1) ∧ CT h' r T n (nx T n s) ∧ Rch h h') ∨ (isS T n c s = false ∧ v = some (.int 0) ∧ FL h h' 1 s)) xno := by
  refine XSpec.of rfl (by decide) (Nat.le_of_ble_eq_true rfl) rfl (v_X4_takeSign_0 r hC.1.1 hC.1.2.1 hC.1.2.2 (nI c) ⟨_, c_isSign hC hc, ?_⟩)
  rintro v h1 ⟨rfl, e1⟩
  subst h1
  refine ⟨_, rfl, fun q => ⟨_, c_readOn hC, ?_⟩, fun q => ⟨_, c_fail hC.1 1, ?_⟩⟩
  · rintro v h2 ⟨rfl, k1, k2⟩
    exact ⟨rfl, Or.inl ⟨bI_n0.1 q, rfl, k1, k2⟩⟩
  · rintro v h2 ⟨rfl, e2⟩
    subst h2
    exact ⟨_, rfl, rfl, Or.inr ⟨bI_0.1 q, rfl, hC.fl 1⟩⟩
theorem vl_b {T : Nat → Nat} {s : Nat} : ∀ k, (∀ i, i < k → T (s + i) ≤ 57) → vl T s k < 10 ^ k := by
  intro k
  induction k with
  | zero => intro _; exact Nat.one_pos
  | succ k ih =>
    intro h
    have := ih (fun i hi => h i (by omega))
    have := h k (by omega)
    unfold vl
    rw [Nat.pow_succ]
    omega
theorem dg_p {T : Nat → Nat} {n s : Nat} (hk : kd T n s = 2) : s < n ∧ sp T n s = sc isDg T n s ∧ ∀ i, s ≤ i → i < sp T n s → 48 ≤ T i ∧ T i ≤ 57 := by
  have hlt : s < n := kd_lt (T := T) (by rw [hk]; decide)
  unfold kd at hk
  rw [if_neg (by omega)] at hk
  split at hk
  · exact absurd hk (by decide)
  · rename_i z
    split at hk
    · rename_i z2
      have e : sp T n s = sc isDg T n s := by
        unfold sp
        rw [if_neg (by omega), if_neg z, if_pos z2]
      refine ⟨hlt, e, fun i h1 h2 => ?_⟩
      rw [e] at h2
      exact of_decide_eq_true (sc_p (p := isDg) (T := T) (n := n) (n - s) s (by omega) i h1 h2)
    · split at hk <;> exact absurd hk (by decide)
theorem l_num {h : XH} {r n s e : Nat} {T : Nat → Nat} (hR : RD h r) (hT : TX h T n) (h3 : xI h 11 3 = nI e) (hen : e ≤ n) (h4 : e ≤ s + 4) (hd : ∀ i, s ≤ i → i < e → 48 ≤ T i ∧ T i ≤ 57) {Q : Option Value → XH → Prop} {X : String → XH → Prop} (hQ : Q (some (.int (nI (vl T s (e - s))))) h) : ∀ (c k : Nat), s + k + c = e →
    XW (xrm 2 0 0) mX4_numberHere (xE 100 Q X 0 0) 100 0 0 h 22 [some (.ref 11), some (.int (nI (vl T s k))), some (.int (nI (s + k)))] [] := by
  have n5 := hT.2.1
  intro c
  induction c with
  | zero =>
    intro k hk
    refine v_X4_numberHere_22 r hR.1 hR.2.1 hR.2.2 _ _ ?_
    rw [h3]
    refine ⟨fun _ => ?_, fun q => absurd (nI_le (by omega) (by omega)) q⟩
    rw [show k = e - s by omega]; exact hQ
  | succ c ih =>
    intro k hk
    refine v_X4_numberHere_22 r hR.1 hR.2.1 hR.2.2 _ _ ?_
    rw [h3]
    refine ⟨fun q => absurd q (nI_ge (by omega) (by omega)), fun _ => ⟨_, c_signAt hR hT (s + k) (by omega), ?_⟩⟩
    rintro v h1 ⟨rfl, e1⟩
    subst h1
    rw [Tz_in (show s + k < n by omega)]
    obtain ⟨d1, d2⟩ := hd (s + k) (by omega) (by omega)
    have e48 : (48 : Int32) = nI 48 := rfl
    have e10 : (10 : Int32) = nI 10 := rfl
    refine ⟨_, rfl, ?_⟩
    rw [e48, e10, pk_sub d1, pk_mul, nI_add, nI_1]
    exact ih (k + 1) (by omega)
theorem c_numberHere {h : XH} {r n s : Nat} {T : Nat → Nat} (hC : CT h r T n s) (hk : kd T n s = 2) : XSpec mX4_numberHere 2 0 0 100 100 [.ref 11] h (xq (some (.int (if 4 < sp T n s - s then -1 else nI (vl T s (sp T n s - s))))) h) xno := by
  obtain ⟨hR, hT, ⟨k1, k2, k3, k4⟩, hf⟩ := hC
  have n5 := hT.2.1
  obtain ⟨p1, p2, p3⟩ := dg_p hk
  have pb := sp_b (T := T) k4
  have e4 : (4 : Int32) = nI 4 := rfl
  refine XSpec.of rfl (by decide) (Nat.le_of_ble_eq_true rfl) rfl (v_X4_numberHere_0 r hR.1 hR.2.1 hR.2.2 ?_)
  rw [k1, k2, pk_sub pb.1, e4, nI_leI (by omega) (by omega)]
  refine ⟨fun q => l_num hR hT k2 pb.2 (by omega) p3 ⟨by rw [if_neg (by omega)], rfl⟩ (sp T n s - s) 0 (by omega), fun q => ⟨by rw [if_pos (by omega)], rfl⟩⟩
theorem num_v {T : Nat → Nat} {n s : Nat} (hs : s ≤ n) (hk : kd T n s = 2) (h4 : ¬ 4 < sp T n s - s) : vl T s (sp T n s - s) ≤ 9999 := by
  obtain ⟨p1, p2, p3⟩ := dg_p hk
  have h1 := vl_b (T := T) (s := s) (sp T n s - s) (fun i hi => (p3 (s + i) (by omega) (by omega)).2)
  have h2 : 10 ^ (sp T n s - s) ≤ 10 ^ 4 := Nat.pow_le_pow_right (by decide) (by omega)
  have e : 10 ^ 4 = 10000 := by decide
  omega
theorem c_number {h : XH} {r n s : Nat} {T : Nat → Nat} (hC : CT h r T n s) {lo hi : Nat} (hh : hi ≤ 9999) (hl : lo ≤ 9999) : XSpec mX4_checkedNumber 3 0 0 100 100 [.ref 11, .int (nI lo), .int (nI hi)] h (fun v h' => (∃ w, num T n lo hi s = .inr w ∧ v = some (.int (nI w)) ∧ h' = h) ∨ (∃ f, num T n lo hi s = .inl f ∧ v = some (.int (-1)) ∧ FL h h' f s)) xno := by
  have hC' := hC
  obtain ⟨hR, hT, ⟨k1, k2, k3, k4⟩, hf⟩ := hC
  have kl := kd_le (T := T) (n := n) (s := s)
  refine XSpec.of rfl (by decide) (Nat.le_of_ble_eq_true rfl) rfl (v_X4_checkedNumber_0 r hR.1 hR.2.1 hR.2.2 (nI lo) (nI hi) ?_)
  rw [k3]
  refine ⟨fun q => ?_, fun q => ⟨_, c_fail hR 1, ?_⟩⟩
  · have e2 : kd T n s = 2 := (nI_eq (b := 2) (by omega) (by omega)).1 q
    refine ⟨_, c_numberHere hC' e2, ?_⟩
    rintro v h1 ⟨rfl, e1⟩
    subst h1
    have fl2 : ∀ (f : num T n lo hi s = .inl 2), ∃ Q1, XSpec mX4_fail 1 0 0 100 100 [.ref 11, .int 2] h Q1 xno ∧ ∀ v h2, Q1 v h2 → ∃ r2 : Int32, v = some (.int r2) ∧ ((∃ w, num T n lo hi s = .inr w ∧ some (Value.int (-1)) = some (.int (nI w)) ∧ h2 = h) ∨ (∃ f, num T n lo hi s = .inl f ∧ some (Value.int (-1)) = some (.int (-1)) ∧ FL h h2 f s)) := fun f => by
      refine ⟨_, c_fail hR 2, ?_⟩
      rintro v h2 ⟨rfl, e⟩
      subst h2
      exact ⟨_, rfl, Or.inr ⟨2, f, rfl, hC'.fl 2⟩⟩
    by_cases c4 : 4 < sp T n s - s
    · rw [if_pos c4]
      have f : num T n lo hi s = .inl 2 := by
        unfold num
        rw [if_neg (by omega), if_pos c4]
      refine ⟨_, rfl, fun _ => fl2 f, fun q2 => absurd ?_ q2⟩
      rw [i32_lt, nI_toInt (by omega)]
      show (-1 : Int) < _
      omega
    · rw [if_neg c4]
      have v9 := num_v k4 e2 c4
      refine ⟨_, rfl, fun q2 => fl2 ?_, fun q2 => ⟨fun q3 => Or.inl ⟨_, ?_, rfl, rfl⟩, fun q3 => fl2 ?_⟩⟩
      · have := (nI_ltI (by omega) (by omega)).1 q2
        unfold num
        rw [if_neg (by omega), if_neg c4, if_pos (Or.inl this)]
      · have h1 : ¬ vl T s (sp T n s - s) < lo := fun z => q2 (nI_lt z (by omega))
        have h2 := (nI_leI (by omega) (by omega)).1 q3
        unfold num
        rw [if_neg (by omega), if_neg c4, if_neg (by omega)]
      · have h2 : ¬ vl T s (sp T n s - s) ≤ hi := fun z => q3 (nI_le z (by omega))
        unfold num
        rw [if_neg (by omega), if_neg c4, if_pos (Or.inr (by omega))]
  · have e2 : kd T n s ≠ 2 := fun z => q (by rw [z]; rfl)
    rintro v h2 ⟨rfl, e⟩
    subst h2
    exact ⟨_, rfl, Or.inr ⟨1, by unfold num; rw [if_pos e2], rfl, hC'.fl 1⟩⟩
theorem jsT_getD {i k : Nat} (hk : k < jsL i) : (jsT i).getD k 0 = (jsC i k).toNatClampNeg := by
  rw [List.getD_eq_getElem?_getD, jsT_at hk]; rfl
theorem l_isW {h : XH} {r n s i : Nat} {T : Nat → Nat} (hC : CT h r T n s) (hi : i < jsN) (hk : kd T n s = 1) (hp : sp T n s = s + jsL i) : ∀ (c k : Nat), k + c = jsL i → (∀ q, q < k → T (s + q) = (jsT i).getD q 0) →
    XW (xrm 12 0 0) mX4_isWord (xE 100 (xq (some (.int (bI (isW T n (jsT i) s)))) h) xno 0 0) 100 0 0 h 28 [some (.ref 11), some (.ref (1000 + i)), some (.int (nI k))] [] := by
  obtain ⟨hR, hT, ⟨k1, k2, k3, k4⟩, hf⟩ := hC
  have hl := jsL_lt i hi
  have pb := sp_b (T := T) k4
  have n5 := hT.2.1
  intro c
  induction c with
  | zero =>
    intro k hk' hq
    have : k = jsL i := by omega
    subst this
    refine v_X4_isWord_28 i hi r hR.1 hR.2.1 hR.2.2 _ ⟨_, s_strlen 100 hi h, ?_⟩
    rintro v h1 ⟨rfl, e1⟩
    subst h1
    refine ⟨_, rfl, fun _ => ⟨?_, rfl⟩, fun q => absurd (nI_le (Nat.le_refl _) (by omega)) q⟩
    rw [show isW T n (jsT i) s = true from decide_eq_true ⟨hk, by rw [jsT_len]; exact hp, fun q h1 => hq q (by rw [jsT_len] at h1; exact h1)⟩]; rfl
  | succ c ih =>
    intro k hk' hq
    refine v_X4_isWord_28 i hi r hR.1 hR.2.1 hR.2.2 _ ⟨_, s_strlen 100 hi h, ?_⟩
    rintro v h1 ⟨rfl, e1⟩
    subst h1
    rw [k1, nI_add]
    refine ⟨_, rfl, fun q => absurd q (nI_ge (by omega) (by omega)), fun _ => ⟨_, c_signAt hR hT (s + k) (by omega), ?_⟩⟩
    rintro v h1 ⟨rfl, e1⟩
    subst h1
    refine ⟨_, rfl, _, s_charAt 100 hi (show k < jsL i by omega) _, ?_⟩
    rintro v h1 ⟨rfl, e1⟩
    subst h1
    obtain ⟨b1, b2⟩ := jsC_b i hi k (by omega)
    rw [Tz_in (show s + k < n by omega), nI_1, b1]
    have t256 := (hT.2.2 (s + k) (by omega)).2
    refine ⟨_, rfl, fun q => ih (k + 1) (by omega) (fun j hj => ?_), fun q => ⟨?_, rfl⟩⟩
    · by_cases z : j = k
      · rw [z, jsT_getD (by omega)]
        exact (nI_eq (by omega) (by omega)).1 q
      · exact hq j (by omega)
    · rw [show isW T n (jsT i) s = false from decide_eq_false (fun z => q (by rw [z.2.2 k (by rw [jsT_len]; omega), jsT_getD (by omega)]))]; rfl
theorem c_isWord {h : XH} {r n s i : Nat} {T : Nat → Nat} (hC : CT h r T n s) (hi : i < jsN) : XSpec mX4_isWord 12 0 0 100 100 [.ref 11, .ref (1000 + i)] h (xq (some (.int (bI (isW T n (jsT i) s)))) h) xno := by
  have hC' := hC
  obtain ⟨hR, hT, ⟨k1, k2, k3, k4⟩, hf⟩ := hC
  have hl := jsL_lt i hi
  have pb := sp_b (T := T) k4
  have n5 := hT.2.1
  have kl := kd_le (T := T) (n := n) (s := s)
  refine XSpec.of rfl (by decide) (Nat.le_of_ble_eq_true rfl) rfl (v_X4_isWord_0 i hi r hR.1 hR.2.1 hR.2.2 ?_)
  rw [k3, k2, k1, pk_sub pb.1]
  refine ⟨fun q => ⟨?_, rfl⟩, fun q => ⟨_, s_strlen 100 hi h, ?_⟩⟩
  · rw [show isW T n (jsT i) s = false from decide_eq_false (fun z => q (by rw [z.1]; rfl))]; rfl
  · have e1 : kd T n s = 1 := (nI_eq (b := 1) (by omega) (by omega)).1 q
    rintro v h1 ⟨rfl, e⟩
    subst h1
    refine ⟨_, rfl, fun q2 => l_isW hC' hi e1 ?_ (jsL i) 0 (by omega) (fun q hq => absurd hq (Nat.not_lt_zero q)), fun q2 => ⟨?_, rfl⟩⟩
    · have := (nI_eq (by omega) (by omega)).1 q2
      omega
    · rw [show isW T n (jsT i) s = false from decide_eq_false (fun z => q2 ?_)]
      · rfl
      · rw [z.2.1, jsT_len]
        congr 1
        omega
