/-! READ: the class' small functions -/
def RD (h : XH) (r : Nat) : Prop := xRdr r (xP h) ∧ xRul r (xP h) ∧ r + 9 ≤ 100
def TX (h : XH) (T : Nat → Nat) (n : Nat) : Prop := xI h 11 2 = nI n ∧ n ≤ 500 ∧ ∀ i, i < n → xI h 1 i = nI (T i) ∧ T i < 256
def TK (h : XH) (T : Nat → Nat) (n s : Nat) : Prop := xI h 11 0 = nI s ∧ xI h 11 3 = nI (sp T n s) ∧ xI h 11 4 = nI (kd T n s) ∧ s ≤ n
def Rch (h h' : XH) : Prop := (∀ c, c ≠ 11 → xI h' c = xI h c) ∧ (∀ j, j ≠ 0 → j ≠ 3 → j ≠ 4 → xI h' 11 j = xI h 11 j) ∧ xP h' = xP h
def Fch (h h' : XH) : Prop := (∀ c, c ≠ 11 → xI h' c = xI h c) ∧ (∀ j, j ≠ 0 → j ≠ 3 → j ≠ 4 → j ≠ 5 → xI h' 11 j = xI h 11 j) ∧ xP h' = xP h
theorem Rch.rfl {h : XH} : Rch h h := ⟨fun _ _ => Eq.refl _, fun _ _ _ _ => Eq.refl _, Eq.refl _⟩
theorem Rch.trans {h h1 h2 : XH} (a : Rch h h1) (b : Rch h1 h2) : Rch h h2 := ⟨fun c q => (b.1 c q).trans (a.1 c q), fun j q1 q2 q3 => (b.2.1 j q1 q2 q3).trans (a.2.1 j q1 q2 q3), b.2.2.trans a.2.2⟩
theorem Rch.f {h h1 : XH} (a : Rch h h1) : Fch h h1 := ⟨a.1, fun j q1 q2 q3 _ => a.2.1 j q1 q2 q3, a.2.2⟩
theorem Fch.trans {h h1 h2 : XH} (a : Fch h h1) (b : Fch h1 h2) : Fch h h2 := ⟨fun c q => (b.1 c q).trans (a.1 c q), fun j q1 q2 q3 q4 => (b.2.1 j q1 q2 q3 q4).trans (a.2.1 j q1 q2 q3 q4), b.2.2.trans a.2.2⟩
theorem Rch.put {h0 h : XH} {F : Nat → Int32} (hc : Rch h0 h) (hF : ∀ j, j ≠ 0 → j ≠ 3 → j ≠ 4 → F j = xI h 11 j) : Rch h0 (xSI 11 F h) := ⟨fun c q => (xI_ne q).trans (hc.1 c q), fun j q1 q2 q3 => by rw [xI_at, hF j q1 q2 q3]; exact hc.2.1 j q1 q2 q3, hc.2.2⟩
theorem RD.p {h h' : XH} {r : Nat} (hR : RD h r) (hp : xP h' = xP h) : RD h' r := by
  unfold RD at *
  rw [hp]; exact hR
theorem RD.c {h h' : XH} {r : Nat} (hR : RD h r) (hc : Rch h h') : RD h' r := hR.p hc.2.2
theorem TX.c {h h' : XH} {T : Nat → Nat} {n : Nat} (hT : TX h T n) (hc : Rch h h') : TX h' T n := by
  unfold TX at *
  rw [hc.1 1 (by decide), hc.2.1 2 (by decide) (by decide) (by decide)]; exact hT
theorem TX.f {h h' : XH} {T : Nat → Nat} {n : Nat} (hT : TX h T n) (hc : Fch h h') : TX h' T n := by
  unfold TX at *
  rw [hc.1 1 (by decide), hc.2.1 2 (by decide) (by decide) (by decide) (by decide)]; exact hT
def Tz (T : Nat → Nat) (n k : Nat) : Nat := if k < n then T k else 0
theorem Tz_in {T : Nat → Nat} {n k : Nat} (h : k < n) : Tz T n k = T k := if_pos h
theorem TX.z {h : XH} {T : Nat → Nat} {n k : Nat} (hT : TX h T n) : Tz T n k < 256 := by
  unfold Tz
  split
  · rename_i q; exact (hT.2.2 k q).2
  · omega
def ltI (c : Int32) : Bool := decide (97 ≤ c.toInt ∧ c.toInt ≤ 122)
def dgI (c : Int32) : Bool := decide (48 ≤ c.toInt ∧ c.toInt ≤ 57)
theorem ltI_n {c : Nat} (h : c < 2 ^ 31) : ltI (nI c) = isLt c := by
  unfold ltI isLt
  rw [nI_toInt h]
  exact decide_eq_decide.2 (by omega)
theorem dgI_n {c : Nat} (h : c < 2 ^ 31) : dgI (nI c) = isDg c := by
  unfold dgI isDg
  rw [nI_toInt h]
  exact decide_eq_decide.2 (by omega)
theorem c_isLetter (h : XH) (c : Int32) : XSpec mX4_isLetter 1 0 0 100 100 [.int c] h (xq (some (.int (bI (ltI c)))) h) xno := by
  have e1 : (97 : Int32).toInt = 97 := rfl
  have e2 : (122 : Int32).toInt = 122 := rfl
  refine XSpec.of rfl (by decide) (Nat.le_of_ble_eq_true rfl) rfl (v_X4_isLetter_0 c ⟨fun q => ⟨?_, rfl⟩, fun q => ⟨fun q2 => ⟨?_, rfl⟩, fun q2 => ⟨?_, rfl⟩⟩⟩)
  · rw [i32_lt, e1] at q; rw [show ltI c = false from decide_eq_false (by omega)]; rfl
  · rw [i32_lt, e2] at q2; rw [show ltI c = false from decide_eq_false (by omega)]; rfl
  · rw [i32_lt, e1] at q; rw [i32_lt, e2] at q2; rw [show ltI c = true from decide_eq_true (by omega)]; rfl
theorem c_isDigit (h : XH) (c : Int32) : XSpec mX4_isDigit 1 0 0 100 100 [.int c] h (xq (some (.int (bI (dgI c)))) h) xno := by
  have e1 : (48 : Int32).toInt = 48 := rfl
  have e2 : (57 : Int32).toInt = 57 := rfl
  refine XSpec.of rfl (by decide) (Nat.le_of_ble_eq_true rfl) rfl (v_X4_isDigit_0 c ⟨fun q => ⟨?_, rfl⟩, fun q => ⟨fun q2 => ⟨?_, rfl⟩, fun q2 => ⟨?_, rfl⟩⟩⟩)
  · rw [i32_lt, e1] at q; rw [show dgI c = false from decide_eq_false (by omega)]; rfl
  · rw [i32_lt, e2] at q2; rw [show dgI c = false from decide_eq_false (by omega)]; rfl
  · rw [i32_lt, e1] at q; rw [i32_lt, e2] at q2; rw [show dgI c = true from decide_eq_true (by omega)]; rfl
theorem m_isLetter (h : XH) (c : Int32) : XSpec mX11_isLetter 1 0 0 100 100 [.int c] h (xq (some (.int (bI (ltI c)))) h) xno := by
  have e1 : (97 : Int32).toInt = 97 := rfl
  have e2 : (122 : Int32).toInt = 122 := rfl
  refine XSpec.of rfl (by decide) (Nat.le_of_ble_eq_true rfl) rfl (v_X11_isLetter_0 c ⟨fun q => ⟨?_, rfl⟩, fun q => ⟨fun q2 => ⟨?_, rfl⟩, fun q2 => ⟨?_, rfl⟩⟩⟩)
  · rw [i32_lt, e1] at q; rw [show ltI c = false from decide_eq_false (by omega)]; rfl
  · rw [i32_lt, e2] at q2; rw [show ltI c = false from decide_eq_false (by omega)]; rfl
  · rw [i32_lt, e1] at q; rw [i32_lt, e2] at q2; rw [show ltI c = true from decide_eq_true (by omega)]; rfl
theorem m_isDigit (h : XH) (c : Int32) : XSpec mX11_isDigit 1 0 0 100 100 [.int c] h (xq (some (.int (bI (dgI c)))) h) xno := by
  have e1 : (48 : Int32).toInt = 48 := rfl
  have e2 : (57 : Int32).toInt = 57 := rfl
  refine XSpec.of rfl (by decide) (Nat.le_of_ble_eq_true rfl) rfl (v_X11_isDigit_0 c ⟨fun q => ⟨?_, rfl⟩, fun q => ⟨fun q2 => ⟨?_, rfl⟩, fun q2 => ⟨?_, rfl⟩⟩⟩)
  · rw [i32_lt, e1] at q; rw [show dgI c = false from decide_eq_false (by omega)]; rfl
  · rw [i32_lt, e2] at q2; rw [show dgI c = false from decide_eq_false (by omega)]; rfl
  · rw [i32_lt, e1] at q; rw [i32_lt, e2] at q2; rw [show dgI c = true from decide_eq_true (by omega)]; rfl
theorem c_isBlank (h : XH) {c : Nat} (hc : c < 2 ^ 31) : XSpec mX4_isBlank 1 0 0 100 100 [.int (nI c)] h (xq (some (.int (bI (isBk c)))) h) xno := by
  refine XSpec.of rfl (by decide) (Nat.le_of_ble_eq_true rfl) rfl (v_X4_isBlank_0 (nI c) ⟨fun q => ⟨?_, rfl⟩, fun q => ⟨fun q2 => ⟨?_, rfl⟩, fun q2 => ⟨?_, rfl⟩⟩⟩)
  · have := (nI_eq (b := 32) hc (by omega)).1 q
    rw [show isBk c = true from decide_eq_true (Or.inl this)]; rfl
  · have h1 : c ≠ 32 := fun z => q (by rw [z]; rfl)
    have h2 : c ≠ 10 := fun z => q2 (by rw [z]; rfl)
    rw [show isBk c = false from decide_eq_false (by omega)]; rfl
  · have := (nI_eq (b := 10) hc (by omega)).1 q2
    rw [show isBk c = true from decide_eq_true (Or.inr this)]; rfl
theorem c_fail {h : XH} {r : Nat} (hR : RD h r) (k : Int32) : XSpec mX4_fail 1 0 0 100 100 [.ref 11, .int k] h (xq (some (.int 0)) (xSI 11 (va_up (xI h 11) 5 k) h)) xno :=
  XSpec.of rfl (by decide) (Nat.le_of_ble_eq_true rfl) rfl (v_X4_fail_0 r hR.1 hR.2.1 hR.2.2 k ⟨rfl, rfl⟩)
theorem c_signAt {h : XH} {r n : Nat} {T : Nat → Nat} (hR : RD h r) (hT : TX h T n) (k : Nat) (hk : k < 2 ^ 31) : XSpec mX4_signAt 1 0 0 100 100 [.ref 11, .int (nI k)] h (xq (some (.int (nI (Tz T n k)))) h) xno := by
  obtain ⟨t1, t2, t3⟩ := hT
  refine XSpec.of rfl (by decide) (Nat.le_of_ble_eq_true rfl) rfl (v_X4_signAt_0 r hR.1 hR.2.1 hR.2.2 (nI k) ⟨fun q => absurd q (nI_pos hk), fun _ => ?_⟩)
  rw [t1]
  refine ⟨fun q => ⟨?_, rfl⟩, fun q => ?_⟩
  · have := (nI_leI (by omega) hk).1 q
    unfold Tz
    rw [if_neg (by omega)]; rfl
  · have h1 : k < n := Classical.byContradiction fun z => q ((nI_leI (by omega) hk).2 (by omega))
    obtain ⟨e1, e2⟩ := t3 k h1
    rw [nI_clamp hk, e1]
    refine ⟨fun q2 => absurd q2 (nI_ge (b := 500) (by omega) (by omega)), fun _ => ⟨vp_in_nI (by omega) (by omega), (pk_charN (by omega)).1, ?_, rfl⟩⟩
    rw [Tz_in h1]
/-! the next token -/
theorem sc_p {p : Nat → Bool} {T : Nat → Nat} {n : Nat} : ∀ (c i : Nat), i + c = n → ∀ k, i ≤ k → k < sc p T n i → p (T k) = true := by
  intro c
  induction c with
  | zero =>
    intro i hi k h1 h2
    rw [sc_e (by omega)] at h2
    omega
  | succ c ih =>
    intro i hi k h1 h2
    by_cases z : p (T i) = true
    · rw [sc_s (by omega) z] at h2
      by_cases y : k = i
      · rw [y]; exact z
      · exact ih (i + 1) (by omega) k (by omega) h2
    · rw [sc_e (fun w => z w.2)] at h2
      omega
theorem l_ro1 {h0 : XH} {r n e : Nat} {T : Nat → Nat} (hR : RD h0 r) (hT : TX h0 T n) {Q : Option Value → XH → Prop} {X : String → XH → Prop}
    (K : ∀ h', Rch h0 h' → xI h' 11 0 = nI e → XW (xrm 14 0 0) mX4_readOn (xE 100 Q X 0 0) 100 0 0 h' 46 [some (.ref 11), none] []) : ∀ (c i : Nat) (h : XH), i + c = n → Rch h0 h → xI h 11 0 = nI i → sc isBk T n i = e →
    XW (xrm 14 0 0) mX4_readOn (xE 100 Q X 0 0) 100 0 0 h 8 [some (.ref 11), none] [] := by
  have n5 := hT.2.1
  intro c
  induction c with
  | zero =>
    intro i h hi hc hs he
    have hR1 := hR.c hc
    have hT1 := hT.c hc
    rw [sc_e (by omega)] at he
    refine v_X4_readOn_8 r hR1.1 hR1.2.1 hR1.2.2 ?_
    rw [hT1.1, hs]
    exact ⟨fun _ => K h hc (by rw [hs, he]), fun q => absurd (nI_le (by omega) (by omega)) q⟩
  | succ c ih =>
    intro i h hi hc hs he
    have hR1 := hR.c hc
    have hT1 := hT.c hc
    refine v_X4_readOn_8 r hR1.1 hR1.2.1 hR1.2.2 ?_
    rw [hT1.1, hs]
    refine ⟨fun q => absurd q (nI_ge (by omega) (by omega)), fun _ => ⟨_, c_signAt hR1 hT1 i (by omega), ?_⟩⟩
    rintro v h1 ⟨rfl, e1⟩
    subst h1
    rw [Tz_in (show i < n by omega)]
    refine ⟨_, rfl, _, c_isBlank h (by have := (hT1.2.2 i (by omega)).2; omega), ?_⟩
    rintro v h1 ⟨rfl, e1⟩
    subst h1
    refine ⟨_, rfl, fun q => K h hc ?_, fun q => ?_⟩
    · rw [sc_e (fun z => by rw [bI_0] at q; rw [q] at z; exact absurd z.2 (by decide))] at he
      rw [hs, he]
    · rw [sc_s (by omega) (bI_n0.1 q)] at he
      refine ih (i + 1) _ (by omega) (hc.put (fun j q1 q2 q3 => va_up_of _ _ q1)) ?_ he
      rw [xI_at, va_up_eq, hs, nI_1]
theorem l_ro2 {h0 : XH} {r n e : Nat} {T : Nat → Nat} (hR : RD h0 r) (hT : TX h0 T n) {Q : Option Value → XH → Prop} {X : String → XH → Prop} {s0 k0 : Int32}
    (K : ∀ h', Rch h0 h' → xI h' 11 0 = s0 → xI h' 11 4 = k0 → xI h' 11 3 = nI e → Q none h') : ∀ (c i : Nat) (h : XH), i + c = n → Rch h0 h → xI h 11 0 = s0 → xI h 11 4 = k0 → xI h 11 3 = nI i → sc isLt T n i = e →
    XW (xrm 14 0 0) mX4_readOn (xE 100 Q X 0 0) 100 0 0 h 94 [some (.ref 11), none] [] := by
  have n5 := hT.2.1
  intro c
  induction c with
  | zero =>
    intro i h hi hc a1 a2 hs he
    have hR1 := hR.c hc
    have hT1 := hT.c hc
    rw [sc_e (by omega)] at he
    refine v_X4_readOn_94 r hR1.1 hR1.2.1 hR1.2.2 ?_
    rw [hT1.1, hs]
    exact ⟨fun _ => v_X4_readOn_210 r hR1.1 hR1.2.1 hR1.2.2 (K h hc a1 a2 (by rw [hs, he])), fun q => absurd (nI_le (by omega) (by omega)) q⟩
  | succ c ih =>
    intro i h hi hc a1 a2 hs he
    have hR1 := hR.c hc
    have hT1 := hT.c hc
    refine v_X4_readOn_94 r hR1.1 hR1.2.1 hR1.2.2 ?_
    rw [hT1.1, hs]
    refine ⟨fun q => absurd q (nI_ge (by omega) (by omega)), fun _ => ⟨_, c_signAt hR1 hT1 i (by omega), ?_⟩⟩
    rintro v h1 ⟨rfl, e1⟩
    subst h1
    rw [Tz_in (show i < n by omega)]
    refine ⟨_, rfl, _, c_isLetter h _, ?_⟩
    rintro v h1 ⟨rfl, e1⟩
    subst h1
    rw [ltI_n (by have := (hT1.2.2 i (by omega)).2; omega)]
    refine ⟨_, rfl, fun q => v_X4_readOn_210 r hR1.1 hR1.2.1 hR1.2.2 (K h hc a1 a2 ?_), fun q => ?_⟩
    · rw [sc_e (fun z => by rw [bI_0] at q; rw [q] at z; exact absurd z.2 (by decide))] at he
      rw [hs, he]
    · rw [sc_s (by omega) (bI_n0.1 q)] at he
      refine ih (i + 1) _ (by omega) (hc.put (fun j q1 q2 q3 => va_up_of _ _ q2)) ?_ ?_ ?_ he
      · rw [xI_at, va_up_of _ _ (by decide)]; exact a1
      · rw [xI_at, va_up_of _ _ (by decide)]; exact a2
      · rw [xI_at, va_up_eq, hs, nI_1]
theorem l_ro3 {h0 : XH} {r n e : Nat} {T : Nat → Nat} (hR : RD h0 r) (hT : TX h0 T n) {Q : Option Value → XH → Prop} {X : String → XH → Prop} {s0 k0 : Int32}
    (K : ∀ h', Rch h0 h' → xI h' 11 0 = s0 → xI h' 11 4 = k0 → xI h' 11 3 = nI e → Q none h') : ∀ (c i : Nat) (h : XH), i + c = n → Rch h0 h → xI h 11 0 = s0 → xI h 11 4 = k0 → xI h 11 3 = nI i → sc isDg T n i = e →
    XW (xrm 14 0 0) mX4_readOn (xE 100 Q X 0 0) 100 0 0 h 144 [some (.ref 11), none] [] := by
  have n5 := hT.2.1
  intro c
  induction c with
  | zero =>
    intro i h hi hc a1 a2 hs he
    have hR1 := hR.c hc
    have hT1 := hT.c hc
    rw [sc_e (by omega)] at he
    refine v_X4_readOn_144 r hR1.1 hR1.2.1 hR1.2.2 ?_
    rw [hT1.1, hs]
    exact ⟨fun _ => v_X4_readOn_210 r hR1.1 hR1.2.1 hR1.2.2 (K h hc a1 a2 (by rw [hs, he])), fun q => absurd (nI_le (by omega) (by omega)) q⟩
  | succ c ih =>
    intro i h hi hc a1 a2 hs he
    have hR1 := hR.c hc
    have hT1 := hT.c hc
    refine v_X4_readOn_144 r hR1.1 hR1.2.1 hR1.2.2 ?_
    rw [hT1.1, hs]
    refine ⟨fun q => absurd q (nI_ge (by omega) (by omega)), fun _ => ⟨_, c_signAt hR1 hT1 i (by omega), ?_⟩⟩
    rintro v h1 ⟨rfl, e1⟩
    subst h1
    rw [Tz_in (show i < n by omega)]
    refine ⟨_, rfl, _, c_isDigit h _, ?_⟩
    rintro v h1 ⟨rfl, e1⟩
    subst h1
    rw [dgI_n (by have := (hT1.2.2 i (by omega)).2; omega)]
    refine ⟨_, rfl, fun q => v_X4_readOn_210 r hR1.1 hR1.2.1 hR1.2.2 (K h hc a1 a2 ?_), fun q => ?_⟩
    · rw [sc_e (fun z => by rw [bI_0] at q; rw [q] at z; exact absurd z.2 (by decide))] at he
      rw [hs, he]
    · rw [sc_s (by omega) (bI_n0.1 q)] at he
      refine ih (i + 1) _ (by omega) (hc.put (fun j q1 q2 q3 => va_up_of _ _ q2)) ?_ ?_ ?_ he
      · rw [xI_at, va_up_of _ _ (by decide)]; exact a1
      · rw [xI_at, va_up_of _ _ (by decide)]; exact a2
      · rw [xI_at, va_up_eq, hs, nI_1]
theorem l_idx {n i : Nat} (hi : i < jsN) {h : XH} {Q : Option Value → XH → Prop} {X : String → XH → Prop} {x : Int32} (h1 : ∀ q, q < jsL i → jsC i q = x → Q (some (.int (nI q))) h) (h2 : (∀ q, q < jsL i → ¬ jsC i q = x) → Q (some (.int (-1))) h) : ∀ (c k : Nat), k + c = jsL i → (∀ q, q < k → ¬ jsC i q = x) →
    XW (xrm 1 0 0) mJ1_indexOfChar_4cfef (xE n Q X 0 0) n 0 0 h 7 [some (.ref (2000 + i)), none, none, some (.int (nI (jsL i))), some (.int x), some (.int (nI k))] [] := by
  have hl := jsL_lt i hi
  intro c
  induction c with
  | zero =>
    intro k hk hq
    have : k = jsL i := by omega
    subst this
    exact v_J1_indexOfChar_4cfef_7 n i hi _ _ _ ⟨fun _ => h2 hq, fun q => absurd (nI_le (Nat.le_refl _) (by omega)) q⟩
  | succ c ih =>
    intro k hk hq
    refine v_J1_indexOfChar_4cfef_7 n i hi _ _ _ ⟨fun q => absurd q (nI_ge (by omega) (by omega)), fun _ => ⟨vp_in_nI (by omega) (by omega), ?_⟩⟩
    rw [nI_clamp (by omega), nI_1]
    refine ⟨fun q => ih (k + 1) (by omega) (fun j hj => ?_), fun q => h1 k (by omega) q⟩
    by_cases z : j = k
    · rw [z]; exact q
    · exact hq j (by omega)
theorem i8_small : ∀ c, c < 256 → (c < 128 ∧ (nI c).toInt8.toInt32 = nI c) ∨ (128 ≤ c ∧ (nI c).toInt8.toInt32 < 0) := by decide +kernel
theorem s_idx (n : Nat) {i c : Nat} (hi : i < jsN) (h0 : 0 < jsL i) (hc : c < 256) (h : XH) : XSpec mJ0_indexOf_0f7a4 4 0 0 n n [.ref (1000 + i), .int (nI c)] h (fun v h' => h' = h ∧ ∃ w : Int32, v = some (.int w) ∧ (w < 0 ↔ ¬ c ∈ jsT i)) xno := by
  have hl := jsL_lt i hi
  have e255 : (255 : Int32) = nI 255 := rfl
  refine XSpec.of rfl (by decide) (Nat.le_of_ble_eq_true rfl) rfl (v_J0_indexOf_0f7a4_0 n i hi (nI c) ⟨fun v h' => h' = h ∧ ∃ w : Int32, v = some (.int w) ∧ (w < 0 ↔ ¬ c ∈ jsT i), ?_, ?_⟩)
  · refine XSpec.of rfl (by decide) (Nat.le_of_ble_eq_true rfl) rfl (v_J0_indexOf_7cf53_0 n i hi (nI c) 0 ⟨_, s_latin n hi h, ?_⟩)
    rintro v h1 ⟨rfl, e1⟩
    subst h1
    refine ⟨_, rfl, fun q => absurd q (by decide), fun _ => ⟨_, s_strlen n hi h, ?_⟩⟩
    rintro v h1 ⟨rfl, e1⟩
    subst h1
    refine ⟨_, rfl, fun v h' => h' = h ∧ ∃ w : Int32, v = some (.int w) ∧ (w < 0 ↔ ¬ c ∈ jsT i), ?_, ?_⟩
    · refine XSpec.of rfl (by decide) (Nat.le_of_ble_eq_true rfl) rfl (v_J1_indexOf_4cfef_0 n i hi (nI c) 0 (nI (jsL i)) ⟨fun v h' => v = some (.int 1) ∧ h' = h, ?_, ?_⟩)
      · refine XSpec.of rfl (by decide) (Nat.le_of_ble_eq_true rfl) rfl (v_J1_canEncode_9a6ad_0 n (nI c) ⟨fun q => absurd q (nI_pos (by omega)), fun _ => ⟨fun q => ?_, fun _ => ⟨rfl, rfl⟩⟩⟩)
        rw [e255] at q
        have := (nI_ltI (by omega) (by omega)).1 q
        omega
      · rintro v h1 ⟨rfl, e1⟩
        subst h1
        refine ⟨_, rfl, fun _ => ?_, fun q => absurd q (by decide)⟩
        have f0 : (if (0 : Int32) < 0 then (0 : Int32) else 0) = nI 0 := rfl
        have f1 : (if nI (jsL i) < nI (jsL i) then nI (jsL i) else nI (jsL i)) = nI (jsL i) := by split <;> rfl
        rw [f0, f1]
        refine ⟨fun _ => ⟨fun v h' => h' = h ∧ ∃ w : Int32, v = some (.int w) ∧ (w < 0 ↔ ¬ c ∈ jsT i), ?_, ?_⟩, fun q => absurd (nI_lt h0 (by omega)) q⟩
        · refine XSpec.of rfl (by decide) (Nat.le_of_ble_eq_true rfl) rfl (v_J1_indexOfChar_4cfef_0 n i hi (nI c) (nI 0) (nI (jsL i)) (l_idx hi (fun q hq e => ⟨rfl, _, rfl, ?_⟩) (fun hq9 => ⟨rfl, _, rfl, ?_⟩) (jsL i) 0 (by omega) (fun q hq => absurd hq (Nat.not_lt_zero q))))
          · refine ⟨fun z => absurd z (nI_pos (by omega)), fun z => absurd ?_ z⟩
            obtain ⟨b1, b2⟩ := jsC_b i hi q hq
            rcases i8_small c hc with ⟨k1, k2⟩ | ⟨k1, k2⟩
            · rw [k2, b1] at e
              have := (nI_eq (by omega) (by omega)).1 e
              rw [← this]
              exact List.mem_of_getElem? (jsT_at hq)
            · rw [← e, b1] at k2
              exact absurd k2 (nI_pos (by omega))
          · refine ⟨fun _ z => ?_, fun _ => by decide⟩
            obtain ⟨q, hq, e⟩ := List.getElem_of_mem z
            rw [jsT_len] at hq
            have e2 := jsT_at (i := i) hq
            rw [List.getElem?_eq_getElem (by rw [jsT_len]; exact hq), e] at e2
            have e3 : c = (jsC i q).toNatClampNeg := Option.some.inj e2
            obtain ⟨b1, b2⟩ := jsC_b i hi q hq
            rcases i8_small c hc with ⟨k1, k2⟩ | ⟨k1, k2⟩
            · exact hq9 q hq (by rw [k2, e3]; exact b1)
            · omega
        · rintro v h2 ⟨e, w, e2, e3⟩
          exact ⟨w, e2, e, w, rfl, e3⟩
    · rintro v h2 ⟨e, w, e2, e3⟩
      exact ⟨w, e2, e, w, rfl, e3⟩
  · rintro v h2 ⟨e, w, e2, e3⟩
    exact ⟨w, e2, e, w, rfl, e3⟩
