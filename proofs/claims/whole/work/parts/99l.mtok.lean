/-! READ: the reference's tokens -/
def SB (j : Nat) : Prop := j = 12 ∨ (14 ≤ j ∧ j ≤ 19)
/-- the reference looks at the token that begins at s; it has found the fault f at p -/
def MK (h : XH) (T : Nat → Nat) (n s : Nat) : Prop := xMod (xP h) ∧ TM h T n ∧ KM h T n s ∧ xI h 56 18 = 0
def MB (h : XH) (T : Nat → Nat) (n f p : Nat) : Prop := xMod (xP h) ∧ TM h T n ∧ xI h 56 18 = nI f ∧ (1 ≤ f ∧ f ≤ 5) ∧ xI h 56 19 = nI p
def Mfc (h h' : XH) : Prop := (∀ c, c ≠ 56 → xI h' c = xI h c) ∧ (∀ j, ¬ SB j → xI h' 56 j = xI h 56 j) ∧ xP h' = xP h
theorem Mfc.rfl {h : XH} : Mfc h h := ⟨fun _ _ => Eq.refl _, fun _ _ => Eq.refl _, Eq.refl _⟩
theorem Mfc.trans {h h1 h2 : XH} (a : Mfc h h1) (b : Mfc h1 h2) : Mfc h h2 := ⟨fun c q => (b.1 c q).trans (a.1 c q), fun j q => (b.2.1 j q).trans (a.2.1 j q), b.2.2.trans a.2.2⟩
theorem SJ.sb {j : Nat} (h : SJ j) : SB j := by unfold SJ at h; unfold SB; omega
theorem Mch.fc {h h' : XH} (a : Mch h h') : Mfc h h' := ⟨a.1, fun j q => a.2.1 j (fun z => q z.sb), a.2.2⟩
theorem MB.n0 {h : XH} {T : Nat → Nat} {n f p : Nat} (hB : MB h T n f p) : ¬ xI h 56 18 = 0 := by
  rw [hB.2.2.1]
  exact nI_ne0 (by have := hB.2.2.2.1; omega) (by have := hB.2.2.2.1; omega)
theorem m_stepOn {h : XH} {n s : Nat} {T : Nat → Nat} (hK : MK h T n s) : XSpec mX11_stepOn 2 0 0 100 100 [.ref 56] h (fun v h' => v = none ∧ MK h' T n (nx T n s) ∧ Mch h h') xno := by
  obtain ⟨hM, hT, hk, hb⟩ := hK
  refine (m_stepOn0 hM hT hk.2.2.1 (sp_b hk.2.2.2.2.1).2).mono ?_ (fun _ _ z => z)
  rintro v h' ⟨rfl, hc, k⟩
  exact ⟨rfl, ⟨hc.m hM, hT.c hc, k, by rw [hc.2.1 18 (by unfold SJ; omega)]; exact hb⟩, hc⟩
theorem TM.fc {h h' : XH} {T : Nat → Nat} {n : Nat} (hT : TM h T n) (hc : Mfc h h') : TM h' T n := by
  unfold TM at *
  rw [hc.1 66 (by decide), hc.2.1 13 (by unfold SB; omega)]; exact hT
theorem m_wrong {h : XH} {n s : Nat} {T : Nat → Nat} (hK : MK h T n s) {f : Nat} (hf : 1 ≤ f ∧ f ≤ 5) : XSpec mX11_wrong 1 0 0 100 100 [.ref 56, .int (nI f)] h (fun v h' => v = none ∧ MB h' T n f s ∧ Mfc h h') xno := by
  obtain ⟨hM, hT, hk, hb⟩ := hK
  refine XSpec.of rfl (by decide) (Nat.le_of_ble_eq_true rfl) rfl (v_X11_wrong_0 hM (nI f) ⟨fun _ => ?_, fun q => absurd hb q⟩)
  have hc : Mfc h (xSI 56 (va_up (va_up (xI h 56) 18 (nI f)) 19 (va_up (xI h 56) 18 (nI f) 16)) (xSI 56 (va_up (xI h 56) 18 (nI f)) h)) := ⟨fun c q => (xI_ne q).trans (xI_ne q), fun j q => by unfold SB at q; rw [xI_at, va_up_of _ _ (by omega), va_up_of _ _ (by omega)], rfl⟩
  refine ⟨rfl, ⟨hM, hT.fc hc, ?_, hf, ?_⟩, hc⟩
  · rw [xI_at, va_up_of _ _ (by decide), va_up_eq]
  · rw [xI_at, va_up_eq, va_up_of _ _ (by decide)]; exact hk.1
theorem m_wrongB {h : XH} {n f p : Nat} {T : Nat → Nat} (hB : MB h T n f p) (k : Int32) : XSpec mX11_wrong 1 0 0 100 100 [.ref 56, .int k] h (fun v h' => v = none ∧ h' = h) xno :=
  XSpec.of rfl (by decide) (Nat.le_of_ble_eq_true rfl) rfl (v_X11_wrong_0 hB.1 k ⟨fun q => absurd q hB.n0, fun _ => ⟨rfl, rfl⟩⟩)
theorem l_mis {h : XH} {n s i : Nat} {T : Nat → Nat} (hK : MK h T n s) (hi : i < jsN) (hk1 : kd T n s = 1) (hp : sp T n s = s + jsL i) : ∀ (c k : Nat), k + c = jsL i → (∀ q, q < k → T (s + q) = (jsT i).getD q 0) →
    XW (xrm 12 0 0) mX11_is (xE 100 (xq (some (.int (bI (isW T n (jsT i) s)))) h) xno 0 0) 100 0 0 h 39 [some (.ref 56), some (.ref (1000 + i)), some (.int 1), some (.int (nI k))] [] := by
  obtain ⟨hM, hT, hk, hb⟩ := hK
  have hl := jsL_lt i hi
  have pb := sp_b (T := T) hk.2.2.2.2.1
  have n5 := hT.2.1
  intro c
  induction c with
  | zero =>
    intro k hk' hq
    have : k = jsL i := by omega
    subst this
    refine v_X11_is_39 hM i hi _ _ ⟨fun q => absurd q (by decide), fun _ => ⟨_, s_strlen 100 hi h, ?_⟩⟩
    rintro v h1 ⟨rfl, e1⟩
    subst h1
    refine ⟨_, rfl, fun _ => ⟨rfl, ?_, rfl⟩, fun q => absurd (nI_le (Nat.le_refl _) (by omega)) q⟩
    rw [show isW T n (jsT i) s = true from decide_eq_true ⟨hk1, by rw [jsT_len]; exact hp, fun q h1 => hq q (by rw [jsT_len] at h1; exact h1)⟩]; rfl
  | succ c ih =>
    intro k hk' hq
    refine v_X11_is_39 hM i hi _ _ ⟨fun q => absurd q (by decide), fun _ => ⟨_, s_strlen 100 hi h, ?_⟩⟩
    rintro v h1 ⟨rfl, e1⟩
    subst h1
    refine ⟨_, rfl, fun q => absurd q (nI_ge (by omega) (by omega)), fun _ => ⟨_, s_charAt 100 hi (show k < jsL i by omega) _, ?_⟩⟩
    rintro v h1 ⟨rfl, e1⟩
    subst h1
    obtain ⟨b1, b2⟩ := jsC_b i hi k (by omega)
    obtain ⟨t1, t2⟩ := hT.2.2 (s + k) (by omega)
    rw [hk.1, nI_add, nI_clamp (by omega), t1, nI_1, b1]
    refine ⟨_, rfl, hM (10, 66) (by decide), vp_in_nI (by omega) (by omega), fun q => ?_, fun q => ih (k + 1) (by omega) (fun j hj => ?_)⟩
    · refine v_X11_is_39 hM i hi _ _ ⟨fun _ => ⟨rfl, ?_, rfl⟩, fun q2 => absurd rfl q2⟩
      rw [show isW T n (jsT i) s = false from decide_eq_false (fun z => q (by rw [z.2.2 k (by rw [jsT_len]; omega), jsT_getD (by omega)]))]; rfl
    · by_cases z : j = k
      · rw [z, jsT_getD (by omega)]
        exact ((nI_eq (by omega) (by omega)).1 q).symm
      · exact hq j (by omega)
theorem m_is {h : XH} {n s i : Nat} {T : Nat → Nat} (hK : MK h T n s) (hi : i < jsN) : XSpec mX11_is 12 0 0 100 100 [.ref 56, .ref (1000 + i)] h (xq (some (.int (bI (isW T n (jsT i) s)))) h) xno := by
  have hK' := hK
  obtain ⟨hM, hT, hk, hb⟩ := hK
  have hl := jsL_lt i hi
  have pb := sp_b (T := T) hk.2.2.2.2.1
  have n5 := hT.2.1
  have kl := kd_le (T := T) (n := n) (s := s)
  have no : isW T n (jsT i) s = false → XW (xrm 12 0 0) mX11_is (xE 100 (xq (some (.int (bI (isW T n (jsT i) s)))) h) xno 0 0) 100 0 0 h 39 [some (.ref 56), some (.ref (1000 + i)), some (.int 0), some (.int 0)] [] := fun z => by
    refine v_X11_is_39 hM i hi _ _ ⟨fun _ => ⟨rfl, ?_, rfl⟩, fun q2 => absurd rfl q2⟩
    rw [z]; rfl
  refine XSpec.of rfl (by decide) (Nat.le_of_ble_eq_true rfl) rfl (v_X11_is_0 hM i hi ?_)
  rw [hb, hk.2.2.2.1]
  refine ⟨fun q => absurd rfl q, fun _ => ⟨fun q => no (decide_eq_false (fun z => q (by rw [z.1]; rfl))), fun q => ⟨_, s_strlen 100 hi h, ?_⟩⟩⟩
  have e1 : kd T n s = 1 := (nI_eq (b := 1) (by omega) (by omega)).1 q
  rintro v h1 ⟨rfl, e⟩
  subst h1
  rw [hk.2.1, hk.1, pk_sub pb.1]
  refine ⟨_, rfl, fun q2 => no (decide_eq_false (fun z => q2 ?_)), fun q2 => l_mis hK' hi e1 ?_ (jsL i) 0 (by omega) (fun q hq => absurd hq (Nat.not_lt_zero q))⟩
  · rw [z.2.1, jsT_len]
    congr 1
    omega
  · have := (nI_eq (by omega) (by omega)).1 q2
    omega
theorem m_isB {h : XH} {n f p i : Nat} {T : Nat → Nat} (hB : MB h T n f p) (hi : i < jsN) : XSpec mX11_is 12 0 0 100 100 [.ref 56, .ref (1000 + i)] h (xq (some (.int 0)) h) xno :=
  XSpec.of rfl (by decide) (Nat.le_of_ble_eq_true rfl) rfl (v_X11_is_0 hB.1 i hi ⟨fun _ => v_X11_is_39 hB.1 i hi _ _ ⟨fun _ => ⟨rfl, rfl, rfl⟩, fun q2 => absurd rfl q2⟩, fun q => absurd q hB.n0⟩)
theorem m_isMarked {h : XH} {n s c : Nat} {T : Nat → Nat} (hK : MK h T n s) (hc : c < 256) : XSpec mX11_isMarked 1 0 0 100 100 [.ref 56, .int (nI c)] h (xq (some (.int (bI (isS T n c s)))) h) xno := by
  obtain ⟨hM, hT, hk, hb⟩ := hK
  have n5 := hT.2.1
  have hs := hk.2.2.2.2.1
  have kl := kd_le (T := T) (n := n) (s := s)
  refine XSpec.of rfl (by decide) (Nat.le_of_ble_eq_true rfl) rfl (v_X11_isMarked_0 hM (nI c) ?_)
  rw [hb, hk.2.2.2.1, hk.1]
  refine ⟨fun q => absurd rfl q, fun _ => ⟨fun q => ⟨?_, rfl⟩, fun q => ?_⟩⟩
  · rw [show isS T n c s = false from decide_eq_false (fun z => q (by rw [z.1]; rfl))]; rfl
  · have e3 : kd T n s = 3 := (nI_eq (b := 3) (by omega) (by omega)).1 q
    have hlt : s < n := kd_lt (T := T) (by rw [e3]; decide)
    obtain ⟨t1, t2⟩ := hT.2.2 s hlt
    rw [nI_clamp (by omega), t1]
    refine ⟨vp_in_nI (by omega) (by omega), fun q2 => ⟨?_, rfl⟩, fun q2 => ⟨?_, rfl⟩⟩
    · rw [show isS T n c s = false from decide_eq_false (fun z => q2 (by rw [z.2]))]; rfl
    · rw [show isS T n c s = true from decide_eq_true ⟨e3, (nI_eq (by omega) (by omega)).1 q2⟩]; rfl
theorem m_isMarkedB {h : XH} {n f p : Nat} {T : Nat → Nat} (hB : MB h T n f p) (c : Int32) : XSpec mX11_isMarked 1 0 0 100 100 [.ref 56, .int c] h (xq (some (.int 0)) h) xno :=
  XSpec.of rfl (by decide) (Nat.le_of_ble_eq_true rfl) rfl (v_X11_isMarked_0 hB.1 c ⟨fun _ => ⟨rfl, rfl⟩, fun q => absurd q hB.n0⟩)
theorem m_mark {h : XH} {n s c : Nat} {T : Nat → Nat} (hK : MK h T n s) (hc : c < 256) : XSpec mX11_mark 3 0 0 100 100 [.ref 56, .int (nI c)] h (fun v h' => v = none ∧ ((isS T n c s = true ∧ MK h' T n (nx T n s)) ∨ (isS T n c s = false ∧ MB h' T n 1 s)) ∧ Mfc h h') xno := by
  refine XSpec.of rfl (by decide) (Nat.le_of_ble_eq_true rfl) rfl (v_X11_mark_0 hK.1 (nI c) ⟨fun q => absurd hK.2.2.2 q, fun _ => ⟨_, m_isMarked hK hc, ?_⟩⟩)
  rintro v h2 ⟨rfl, e2⟩
  subst h2
  refine ⟨_, rfl, fun q => ⟨fun q2 => absurd hK.2.2.2 q2, fun _ => ⟨_, m_stepOn hK, ?_⟩⟩, fun q => ⟨_, m_wrong hK (f := 1) (by omega), ?_⟩⟩
  · rintro v h3 ⟨rfl, k1, k2⟩
    exact ⟨rfl, rfl, Or.inl ⟨bI_n0.1 q, k1⟩, k2.fc⟩
  · rintro v h4 ⟨rfl, k1, k2⟩
    exact ⟨rfl, fun _ => ⟨rfl, Or.inr ⟨bI_0.1 q, k1⟩, k2⟩, fun q2 => absurd q2 k1.n0⟩
theorem m_markB {h : XH} {n f p : Nat} {T : Nat → Nat} (hB : MB h T n f p) (c : Int32) : XSpec mX11_mark 3 0 0 100 100 [.ref 56, .int c] h (fun v h' => v = none ∧ h' = h) xno :=
  XSpec.of rfl (by decide) (Nat.le_of_ble_eq_true rfl) rfl (v_X11_mark_0 hB.1 c ⟨fun _ => ⟨fun _ => ⟨rfl, rfl⟩, fun q => absurd q hB.n0⟩, fun q => absurd q hB.n0⟩)
theorem m_number {h : XH} {n s lo hi : Nat} {T : Nat → Nat} (hK : MK h T n s) (hh : hi ≤ 9999) (hl : lo ≤ 9999) : XSpec mX11_numberNow 2 0 0 100 100 [.ref 56, .int (nI lo), .int (nI hi)] h (fun v h' => (∃ w, num T n lo hi s = .inr w ∧ v = some (.int (nI w)) ∧ h' = h) ∨ (∃ f, num T n lo hi s = .inl f ∧ v = some (.int 0) ∧ MB h' T n f s ∧ Mfc h h')) xno := by
  have hK' := hK
  obtain ⟨hM, hT, hk, hb⟩ := hK
  have n5 := hT.2.1
  have hs := hk.2.2.2.2.1
  have pb := sp_b (T := T) hs
  have kl := kd_le (T := T) (n := n) (s := s)
  have e4 : (4 : Int32) = nI 4 := rfl
  have wr : ∀ f : Nat, (1 ≤ f ∧ f ≤ 5) → num T n lo hi s = .inl f → ∃ Q1, XSpec mX11_wrong 1 0 0 100 100 [.ref 56, .int (nI f)] h Q1 xno ∧ ∀ v h1, Q1 v h1 → v = none ∧ (XW (xrm 2 0 0) mX11_numberNow (xE 100 (fun v h' => (∃ w, num T n lo hi s = .inr w ∧ v = some (.int (nI w)) ∧ h' = h) ∨ (∃ f, num T n lo hi s = .inl f ∧ v = some (.int 0) ∧ MB h' T n f s ∧ Mfc h h')) xno 0 0) 100 0 0 h1 59 [some (.ref 56), none, none] []) := fun f hf e => by
    refine ⟨_, m_wrong hK' hf, ?_⟩
    rintro v h1 ⟨rfl, k1, k2⟩
    exact ⟨rfl, v_X11_numberNow_59 k1.1 ⟨fun _ => Or.inr ⟨f, e, rfl, k1, k2⟩, fun q => absurd q k1.n0⟩⟩
  refine XSpec.of rfl (by decide) (Nat.le_of_ble_eq_true rfl) rfl (v_X11_numberNow_0 hM (nI lo) (nI hi) ?_)
  rw [hb, hk.2.2.2.1, hk.2.1, hk.1, pk_sub pb.1, e4]
  refine ⟨fun _ => ⟨fun q => ?_, fun q => wr 1 (by omega) ?_⟩, fun q => absurd rfl q⟩
  · have e2 : kd T n s = 2 := (nI_eq (b := 2) (by omega) (by omega)).1 q
    refine ⟨fun q2 => wr 2 (by omega) ?_, fun q2 => ?_⟩
    · have := (nI_ltI (by omega) (by omega)).1 q2
      unfold num
      rw [if_neg (by omega), if_pos this]
    · have c4 : ¬ 4 < sp T n s - s := fun z => q2 (nI_lt z (by omega))
      have v9 := num_v hs e2 c4
      rw [hk.2.2.2.2.2 e2 (by omega)]
      refine ⟨fun q3 => wr 2 (by omega) ?_, fun q3 => ⟨fun q4 => ?_, fun q4 => wr 2 (by omega) ?_⟩⟩
      · have := (nI_ltI (by omega) (by omega)).1 q3
        unfold num
        rw [if_neg (by omega), if_neg c4, if_pos (Or.inl this)]
      · have h1 : ¬ vl T s (sp T n s - s) < lo := fun z => q3 (nI_lt z (by omega))
        have h2 := (nI_leI (by omega) (by omega)).1 q4
        refine v_X11_numberNow_59 hM ⟨fun q5 => absurd hb q5, fun _ => Or.inl ⟨vl T s (sp T n s - s), ?_, ?_, rfl⟩⟩
        · unfold num
          rw [if_neg (by omega), if_neg c4, if_neg (by omega)]
        · rw [hk.2.2.2.2.2 e2 (by omega)]
      · have h2 : ¬ vl T s (sp T n s - s) ≤ hi := fun z => q4 (nI_le z (by omega))
        unfold num
        rw [if_neg (by omega), if_neg c4, if_pos (Or.inr (by omega))]
  · unfold num
    rw [if_pos (fun z => q (by rw [z]; rfl))]
theorem m_numberB {h : XH} {n f p : Nat} {T : Nat → Nat} (hB : MB h T n f p) (a b : Int32) : XSpec mX11_numberNow 2 0 0 100 100 [.ref 56, .int a, .int b] h (xq (some (.int 0)) h) xno :=
  XSpec.of rfl (by decide) (Nat.le_of_ble_eq_true rfl) rfl (v_X11_numberNow_0 hB.1 a b ⟨fun q => absurd q hB.n0, fun _ => ⟨rfl, rfl⟩⟩)
theorem m_readNumber {h : XH} {n s lo hi : Nat} {T : Nat → Nat} (hK : MK h T n s) (hh : hi ≤ 9999) (hl : lo ≤ 9999) : XSpec mX11_readNumber 3 0 0 100 100 [.ref 56, .int (nI lo), .int (nI hi)] h (fun v h' => ((∃ w, num T n lo hi s = .inr w ∧ v = some (.int (nI w)) ∧ MK h' T n (nx T n s)) ∨ (∃ f, num T n lo hi s = .inl f ∧ v = some (.int 0) ∧ MB h' T n f s)) ∧ Mfc h h') xno := by
  refine XSpec.of rfl (by decide) (Nat.le_of_ble_eq_true rfl) rfl (v_X11_readNumber_0 hK.1 (nI lo) (nI hi) ⟨_, m_number hK hh hl, ?_⟩)
  rintro v h1 (⟨w, e, rfl, e1⟩ | ⟨f, e, rfl, k1, k2⟩)
  · subst h1
    refine ⟨_, rfl, fun q => absurd hK.2.2.2 q, fun _ => ⟨_, m_stepOn hK, ?_⟩⟩
    rintro v h2 ⟨rfl, k1, k2⟩
    exact ⟨rfl, Or.inl ⟨w, e, rfl, k1⟩, k2.fc⟩
  · exact ⟨_, rfl, fun _ => ⟨Or.inr ⟨f, e, rfl, k1⟩, k2⟩, fun q => absurd q k1.n0⟩
theorem l_mwhich {h : XH} {n s a9 N9 i0 : Nat} {T : Nat → Nat} (hK : MK h T n s) (ha9 : SH a9 = .inl (.object "java/lang/String", N9)) (han : a9 < 100) (hN : i0 + N9 ≤ jsN) (hP : ∀ k, k < N9 → xP h a9 k = some (1000 + i0 + k)) {Q : Option Value → XH → Prop} {X : String → XH → Prop} (h1 : ∀ k, k < N9 → isW T n (jsT (i0 + k)) s = true → (∀ j, j < k → isW T n (jsT (i0 + j)) s = false) → Q (some (.int (nI k))) h) (h2 : (∀ j, j < N9 → isW T n (jsT (i0 + j)) s = false) → Q (some (.int (-1))) h) : ∀ (c k : Nat), k + c = N9 → (∀ j, j < k → isW T n (jsT (i0 + j)) s = false) →
    XW (xrm 13 0 0) mX11_which (xE 100 Q X 0 0) 100 0 0 h 2 [some (.ref 56), some (.ref a9), some (.int (nI k))] [] := by
  have jn : jsN ≤ 1000 := by decide
  intro c
  induction c with
  | zero =>
    intro k hk hj
    have : k = N9 := by omega
    subst this
    exact v_X11_which_2 hK.1 a9 k ha9 han _ ⟨fun _ => h2 hj, fun q => absurd (nI_le (Nat.le_refl _) (by omega)) q⟩
  | succ c ih =>
    intro k hk hj
    refine v_X11_which_2 hK.1 a9 N9 ha9 han _ ⟨fun q => absurd q (nI_ge (by omega) (by omega)), fun _ => ⟨vp_in_nI (by omega) (by omega), 1000 + (i0 + k), ?_, _, m_is hK (i := i0 + k) (by omega), ?_⟩⟩
    · rw [nI_clamp (by omega), hP k (by omega), Nat.add_assoc]
    · rintro v h3 ⟨rfl, e3⟩
      subst h3
      rw [nI_1]
      refine ⟨_, rfl, fun q => ih (k + 1) (by omega) (fun j hj' => ?_), fun q => h1 k (by omega) (bI_n0.1 q) hj⟩
      by_cases z : j = k
      · rw [z]; exact bI_0.1 q
      · exact hj j (by omega)
theorem l_mwhichB {h : XH} {n f p a9 N9 i0 : Nat} {T : Nat → Nat} (hB : MB h T n f p) (ha9 : SH a9 = .inl (.object "java/lang/String", N9)) (han : a9 < 100) (hN : i0 + N9 ≤ jsN) (hP : ∀ k, k < N9 → xP h a9 k = some (1000 + i0 + k)) {Q : Option Value → XH → Prop} {X : String → XH → Prop} (h2 : Q (some (.int (-1))) h) : ∀ (c k : Nat), k + c = N9 →
    XW (xrm 13 0 0) mX11_which (xE 100 Q X 0 0) 100 0 0 h 2 [some (.ref 56), some (.ref a9), some (.int (nI k))] [] := by
  have jn : jsN ≤ 1000 := by decide
  intro c
  induction c with
  | zero =>
    intro k hk
    have : k = N9 := by omega
    subst this
    exact v_X11_which_2 hB.1 a9 k ha9 han _ ⟨fun _ => h2, fun q => absurd (nI_le (Nat.le_refl _) (by omega)) q⟩
  | succ c ih =>
    intro k hk
    refine v_X11_which_2 hB.1 a9 N9 ha9 han _ ⟨fun q => absurd q (nI_ge (by omega) (by omega)), fun _ => ⟨vp_in_nI (by omega) (by omega), 1000 + (i0 + k), ?_, _, m_isB hB (i := i0 + k) (by omega), ?_⟩⟩
    · rw [nI_clamp (by omega), hP k (by omega), Nat.add_assoc]
    · rintro v h3 ⟨rfl, e3⟩
      subst h3
      rw [nI_1]
      exact ⟨_, rfl, fun _ => ih (k + 1) (by omega), fun q => absurd rfl q⟩
