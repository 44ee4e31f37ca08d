/-! READ: the reference's small functions -/
def SJ (j : Nat) : Prop := j = 12 ∨ (14 ≤ j ∧ j ≤ 17)
def TM (h : XH) (T : Nat → Nat) (n : Nat) : Prop := xI h 56 13 = nI n ∧ n ≤ 500 ∧ ∀ i, i < n → xI h 66 i = nI (T i) ∧ T i < 256
def KM (h : XH) (T : Nat → Nat) (n s : Nat) : Prop := xI h 56 16 = nI s ∧ xI h 56 17 = nI (sp T n s) ∧ xI h 56 12 = nI (sp T n s) ∧ xI h 56 14 = nI (kd T n s) ∧ s ≤ n ∧ (kd T n s = 2 → sp T n s ≤ s + 4 → xI h 56 15 = nI (vl T s (sp T n s - s)))
def Mch (h h' : XH) : Prop := (∀ c, c ≠ 56 → xI h' c = xI h c) ∧ (∀ j, ¬ SJ j → xI h' 56 j = xI h 56 j) ∧ xP h' = xP h
theorem Mch.rfl {h : XH} : Mch h h := ⟨fun _ _ => Eq.refl _, fun _ _ => Eq.refl _, Eq.refl _⟩
theorem Mch.trans {h h1 h2 : XH} (a : Mch h h1) (b : Mch h1 h2) : Mch h h2 := ⟨fun c q => (b.1 c q).trans (a.1 c q), fun j q => (b.2.1 j q).trans (a.2.1 j q), b.2.2.trans a.2.2⟩
theorem Mch.put {h0 h : XH} {F : Nat → Int32} (hc : Mch h0 h) (hF : ∀ j, ¬ SJ j → F j = xI h 56 j) : Mch h0 (xSI 56 F h) := ⟨fun c q => (xI_ne q).trans (hc.1 c q), fun j q => by rw [xI_at, hF j q]; exact hc.2.1 j q, hc.2.2⟩
theorem Mch.up {h0 h : XH} {k : Nat} {v : Int32} (hc : Mch h0 h) (hk : SJ k) : Mch h0 (xSI 56 (va_up (xI h 56) k v) h) := hc.put (fun j q => va_up_of _ _ (fun z => q (by rw [z]; exact hk)))
theorem Mch.m {h h' : XH} (hc : Mch h h') (hM : xMod (xP h)) : xMod (xP h') := by rw [hc.2.2]; exact hM
theorem TM.c {h h' : XH} {T : Nat → Nat} {n : Nat} (hT : TM h T n) (hc : Mch h h') : TM h' T n := by
  unfold TM at *
  rw [hc.1 66 (by decide), hc.2.1 13 (by unfold SJ; omega)]; exact hT
def bz (T : Nat → Nat) (n k : Nat) : Int32 := if k < n then nI (T k) else -1
theorem m_byteAt {h : XH} {n : Nat} {T : Nat → Nat} (hM : xMod (xP h)) (hT : TM h T n) (k : Nat) (hk : k < 2 ^ 31) : XSpec mX11_byteAt 1 0 0 100 100 [.ref 56, .int (nI k)] h (xq (some (.int (bz T n k))) h) xno := by
  obtain ⟨t1, t2, t3⟩ := hT
  refine XSpec.of rfl (by decide) (Nat.le_of_ble_eq_true rfl) rfl (v_X11_byteAt_0 hM (nI k) ?_)
  rw [t1]
  refine ⟨fun q => ⟨?_, rfl⟩, fun q => ?_⟩
  · have := (nI_leI (by omega) hk).1 q
    unfold bz
    rw [if_neg (by omega)]
  · have h1 : k < n := Classical.byContradiction fun z => q ((nI_leI (by omega) hk).2 (by omega))
    rw [nI_clamp hk, (t3 k h1).1]
    refine ⟨vp_in_nI (by omega) (by omega), ?_, rfl⟩
    unfold bz
    rw [if_pos h1]
theorem nI_nm {c : Nat} (h : c < 256) : ¬ nI c = -1 := nI_nm1 (by omega)
theorem bz_bk {T : Nat → Nat} {n k : Nat} (ht : ∀ i, i < n → T i < 256) : (bz T n k = 32 ∨ bz T n k = 10) ↔ (k < n ∧ isBk (T k) = true) := by
  unfold bz isBk
  by_cases h : k < n
  · have := ht k h
    rw [if_pos h, decide_eq_true_iff]
    have e1 : nI (T k) = 32 ↔ T k = 32 := nI_eq (b := 32) (by omega) (by omega)
    have e2 : nI (T k) = 10 ↔ T k = 10 := nI_eq (b := 10) (by omega) (by omega)
    rw [e1, e2]
    exact ⟨fun z => ⟨h, z⟩, fun z => z.2⟩
  · rw [if_neg h]
    exact ⟨fun z => by rcases z with z | z <;> exact absurd z (by decide), fun z => absurd z.1 h⟩
theorem bz_lt {T : Nat → Nat} {n k : Nat} (ht : ∀ i, i < n → T i < 256) : ltI (bz T n k) = true ↔ (k < n ∧ isLt (T k) = true) := by
  unfold bz
  by_cases h : k < n
  · have := ht k h
    rw [if_pos h, ltI_n (by omega)]
    exact ⟨fun z => ⟨h, z⟩, fun z => z.2⟩
  · rw [if_neg h]
    exact ⟨fun z => absurd z (by decide), fun z => absurd z.1 h⟩
theorem bz_dg {T : Nat → Nat} {n k : Nat} (ht : ∀ i, i < n → T i < 256) : dgI (bz T n k) = true ↔ (k < n ∧ isDg (T k) = true) := by
  unfold bz
  by_cases h : k < n
  · have := ht k h
    rw [if_pos h, dgI_n (by omega)]
    exact ⟨fun z => ⟨h, z⟩, fun z => z.2⟩
  · rw [if_neg h]
    exact ⟨fun z => absurd z (by decide), fun z => absurd z.1 h⟩
theorem m_isMark (h : XH) {c : Nat} (hc : c < 256) : XSpec mX11_isMark 1 0 0 100 100 [.int (nI c)] h (xq (some (.int (bI (isMk c)))) h) xno := by
  have t : ∀ k, k < 256 → nI c = nI k → isMk k = true → some (Value.int 1) = some (.int (bI (isMk c))) ∧ h = h := fun k hk e hm => by
    have := (nI_eq (by omega) (by omega)).1 e
    rw [this, hm]; exact ⟨rfl, rfl⟩
  have ne : ∀ k : Nat, ¬ nI c = nI k → c ≠ k := fun k z y => z (by rw [y])
  refine XSpec.of rfl (by decide) (Nat.le_of_ble_eq_true rfl) rfl (v_X11_isMark_0 (nI c) ⟨fun q => t 59 (by decide) q (by decide), fun a1 => ⟨fun q => t 40 (by decide) q (by decide), fun a2 => ⟨fun q => t 41 (by decide) q (by decide), fun a3 => ⟨fun q => t 43 (by decide) q (by decide), fun a4 => ⟨fun q => t 45 (by decide) q (by decide), fun a5 => ⟨fun q => t 42 (by decide) q (by decide), fun a6 => ⟨fun q => t 47 (by decide) q (by decide), fun a7 => ⟨fun q => t 60 (by decide) q (by decide), fun a8 => ⟨fun a9 => ?_, fun q => t 61 (by decide) q (by decide)⟩⟩⟩⟩⟩⟩⟩⟩⟩)
  have b1 := ne 59 a1
  have b2 := ne 40 a2
  have b3 := ne 41 a3
  have b4 := ne 43 a4
  have b5 := ne 45 a5
  have b6 := ne 42 a6
  have b7 := ne 47 a7
  have b8 := ne 60 a8
  have b9 := ne 61 a9
  rw [show isMk c = false from decide_eq_false (by omega)]
  exact ⟨rfl, rfl⟩
theorem l_mo1 {h0 : XH} {n e : Nat} {T : Nat → Nat} (hM0 : xMod (xP h0)) (hT : TM h0 T n) {Q : Option Value → XH → Prop} {X : String → XH → Prop}
    (K : ∀ h', Mch h0 h' → xI h' 56 12 = nI e → XW (xrm 2 0 0) mX11_stepOn (xE 100 Q X 0 0) 100 0 0 h' 39 [some (.ref 56), none] []) : ∀ (c i : Nat) (h : XH), i + c = n → Mch h0 h → xI h 56 12 = nI i → sc isBk T n i = e →
    XW (xrm 2 0 0) mX11_stepOn (xE 100 Q X 0 0) 100 0 0 h 0 [some (.ref 56), none] [] := by
  have n5 := hT.2.1
  have ht : ∀ i, i < n → T i < 256 := fun i hi => (hT.2.2 i hi).2
  intro c
  induction c with
  | zero =>
    intro i h hi hc hs he
    have hM := hc.m hM0
    have hT1 := hT.c hc
    have nb : ¬ (bz T n i = 32 ∨ bz T n i = 10) := fun z => by have := (bz_bk ht).1 z; omega
    rw [sc_e (by omega)] at he
    refine v_X11_stepOn_0 hM ?_
    rw [hs]
    refine ⟨_, m_byteAt hM hT1 i (by omega), ?_⟩
    rintro v h1 ⟨rfl, e1⟩
    subst h1
    rw [hs]
    refine ⟨_, rfl, fun q => absurd (Or.inl q) nb, fun _ => ⟨_, m_byteAt hM hT1 i (by omega), ?_⟩⟩
    rintro v h1 ⟨rfl, e1⟩
    subst h1
    exact ⟨_, rfl, fun _ => K h hc (by rw [hs, he]), fun q => absurd (Or.inr q) nb⟩
  | succ c ih =>
    intro i h hi hc hs he
    have hM := hc.m hM0
    have hT1 := hT.c hc
    have go : (bz T n i = 32 ∨ bz T n i = 10) → XW (xrm 2 0 0) mX11_stepOn (xE 100 Q X 0 0) 100 0 0 (xSI 56 (va_up (xI h 56) 12 (nI i + 1)) h) 0 [some (.ref 56), none] [] := fun z => by
      rw [sc_s (by omega) ((bz_bk ht).1 z).2] at he
      refine ih (i + 1) _ (by omega) (hc.up (Or.inl rfl)) ?_ he
      rw [xI_at, va_up_eq, nI_1]
    refine v_X11_stepOn_0 hM ?_
    rw [hs]
    refine ⟨_, m_byteAt hM hT1 i (by omega), ?_⟩
    rintro v h1 ⟨rfl, e1⟩
    subst h1
    rw [hs]
    refine ⟨_, rfl, fun q => go (Or.inl q), fun q1 => ⟨_, m_byteAt hM hT1 i (by omega), ?_⟩⟩
    rintro v h1 ⟨rfl, e1⟩
    subst h1
    rw [hs]
    refine ⟨_, rfl, fun q2 => K h hc ?_, fun q => go (Or.inr q)⟩
    rw [sc_e (fun z => by rcases (bz_bk ht).2 z with y | y; exact q1 y; exact q2 y)] at he
    rw [hs, he]
theorem l_mo2 {h0 : XH} {n e : Nat} {T : Nat → Nat} (hM0 : xMod (xP h0)) (hT : TM h0 T n) {Q : Option Value → XH → Prop} {X : String → XH → Prop} {s0 : Int32}
    (K : ∀ h', Mch h0 h' → xI h' 56 16 = s0 → xI h' 56 14 = nI 1 → xI h' 56 12 = nI e → XW (xrm 2 0 0) mX11_stepOn (xE 100 Q X 0 0) 100 0 0 h' 212 [some (.ref 56), none] []) : ∀ (c i : Nat) (h : XH), i + c = n → Mch h0 h → xI h 56 16 = s0 → xI h 56 12 = nI i → sc isLt T n i = e →
    XW (xrm 2 0 0) mX11_stepOn (xE 100 Q X 0 0) 100 0 0 h 76 [some (.ref 56), none] [] := by
  have n5 := hT.2.1
  have ht : ∀ i, i < n → T i < 256 := fun i hi => (hT.2.2 i hi).2
  intro c
  induction c with
  | zero =>
    intro i h hi hc a1 hs he
    have hM := hc.m hM0
    rw [sc_e (by omega)] at he
    refine v_X11_stepOn_76 hM ?_
    rw [hs]
    refine ⟨_, m_byteAt hM (hT.c hc) i (by omega), ?_⟩
    rintro v h1 ⟨rfl, e1⟩
    subst h1
    refine ⟨_, rfl, _, m_isLetter h _, ?_⟩
    rintro v h1 ⟨rfl, e1⟩
    subst h1
    refine ⟨_, rfl, fun q => K _ (hc.up (Or.inr ⟨by decide, by decide⟩)) ?_ ?_ ?_, fun q => ?_⟩
    · rw [xI_at, va_up_of _ _ (by decide)]; exact a1
    · rw [xI_at, va_up_eq]; rfl
    · rw [xI_at, va_up_of _ _ (by decide), hs, he]
    · have := ((bz_lt ht).1 (bI_n0.1 q)).1
      omega
  | succ c ih =>
    intro i h hi hc a1 hs he
    have hM := hc.m hM0
    refine v_X11_stepOn_76 hM ?_
    rw [hs]
    refine ⟨_, m_byteAt hM (hT.c hc) i (by omega), ?_⟩
    rintro v h1 ⟨rfl, e1⟩
    subst h1
    refine ⟨_, rfl, _, m_isLetter h _, ?_⟩
    rintro v h1 ⟨rfl, e1⟩
    subst h1
    refine ⟨_, rfl, fun q => K _ (hc.up (Or.inr ⟨by decide, by decide⟩)) ?_ ?_ ?_, fun q => ?_⟩
    · rw [xI_at, va_up_of _ _ (by decide)]; exact a1
    · rw [xI_at, va_up_eq]; rfl
    · rw [sc_e (fun z => by have y := (bz_lt ht).2 z; rw [bI_0.1 q] at y; exact absurd y (by decide))] at he
      rw [xI_at, va_up_of _ _ (by decide), hs, he]
    · have z := (bz_lt ht).1 (bI_n0.1 q)
      rw [sc_s z.1 z.2] at he
      refine ih (i + 1) _ (by omega) (hc.up (Or.inl rfl)) ?_ ?_ he
      · rw [xI_at, va_up_of _ _ (by decide)]; exact a1
      · rw [xI_at, va_up_eq, hs, nI_1]
theorem l_mo3 {h0 : XH} {n e s : Nat} {T : Nat → Nat} (hM0 : xMod (xP h0)) (hT : TM h0 T n) {Q : Option Value → XH → Prop} {X : String → XH → Prop} {s0 : Int32}
    (K : ∀ h', Mch h0 h' → xI h' 56 16 = s0 → xI h' 56 14 = nI 2 → xI h' 56 12 = nI e → (e ≤ s + 4 → xI h' 56 15 = nI (vl T s (e - s))) → XW (xrm 2 0 0) mX11_stepOn (xE 100 Q X 0 0) 100 0 0 h' 212 [some (.ref 56), none] []) : ∀ (c j m : Nat) (h : XH), s + j + c = n → Mch h0 h → xI h 56 16 = s0 → xI h 56 12 = nI (s + j) → sc isDg T n (s + j) = e → xI h 56 15 = nI m → m ≤ 100000 → (j ≤ 4 → m = vl T s j ∧ m < 10 ^ j) →
    XW (xrm 2 0 0) mX11_stepOn (xE 100 Q X 0 0) 100 0 0 h 123 [some (.ref 56), none] [] := by
  have n5 := hT.2.1
  have ht : ∀ i, i < n → T i < 256 := fun i hi => (hT.2.2 i hi).2
  have out : ∀ (j m : Nat) (h : XH), Mch h0 h → xI h 56 16 = s0 → xI h 56 12 = nI (s + j) → s + j = e → xI h 56 15 = nI m → (j ≤ 4 → m = vl T s j ∧ m < 10 ^ j) → XW (xrm 2 0 0) mX11_stepOn (xE 100 Q X 0 0) 100 0 0 (xSI 56 (va_up (xI h 56) 14 2) h) 212 [some (.ref 56), none] [] := fun j m h hc a1 hs he hm hj => by
    refine K _ (hc.up (Or.inr ⟨by decide, by decide⟩)) ?_ ?_ ?_ (fun z => ?_)
    · rw [xI_at, va_up_of _ _ (by decide)]; exact a1
    · rw [xI_at, va_up_eq]; rfl
    · rw [xI_at, va_up_of _ _ (by decide), hs, he]
    · rw [xI_at, va_up_of _ _ (by decide), hm, (hj (by omega)).1, show e - s = j by omega]
  intro c
  induction c with
  | zero =>
    intro j m h hi hc a1 hs he hm hm1 hj
    have hM := hc.m hM0
    rw [sc_e (by omega)] at he
    refine v_X11_stepOn_123 hM ?_
    rw [hs]
    refine ⟨_, m_byteAt hM (hT.c hc) (s + j) (by omega), ?_⟩
    rintro v h1 ⟨rfl, e1⟩
    subst h1
    refine ⟨_, rfl, _, m_isDigit h _, ?_⟩
    rintro v h1 ⟨rfl, e1⟩
    subst h1
    refine ⟨_, rfl, fun q => out j m h hc a1 hs he hm hj, fun q => ?_⟩
    have := ((bz_dg ht).1 (bI_n0.1 q)).1
    omega
  | succ c ih =>
    intro j m h hi hc a1 hs he hm hm1 hj
    have hM := hc.m hM0
    refine v_X11_stepOn_123 hM ?_
    rw [hs]
    refine ⟨_, m_byteAt hM (hT.c hc) (s + j) (by omega), ?_⟩
    rintro v h1 ⟨rfl, e1⟩
    subst h1
    refine ⟨_, rfl, _, m_isDigit h _, ?_⟩
    rintro v h1 ⟨rfl, e1⟩
    subst h1
    rw [hs]
    refine ⟨_, rfl, fun q => out j m h hc a1 hs ?_ hm hj, fun q => ⟨_, m_byteAt hM (hT.c hc) (s + j) (by omega), ?_⟩⟩
    · rw [sc_e (fun z => by have y := (bz_dg ht).2 z; rw [bI_0.1 q] at y; exact absurd y (by decide))] at he
      exact he
    · have z := (bz_dg ht).1 (bI_n0.1 q)
      have zd : 48 ≤ T (s + j) ∧ T (s + j) ≤ 57 := of_decide_eq_true z.2
      rw [sc_s z.1 z.2] at he
      rintro v h1 ⟨rfl, e1⟩
      subst h1
      have eb : bz T n (s + j) = nI (T (s + j)) := if_pos z.1
      have e10 : (10 : Int32) = nI 10 := rfl
      have e48 : (48 : Int32) = nI 48 := rfl
      have e5 : (100000 : Int32) = nI 100000 := rfl
      have ev : (10 : Int32) * nI m + nI (T (s + j)) - 48 = nI (10 * m + (T (s + j) - 48)) := by
        rw [e10, e48, pk_mul, nI_add, pk_sub (by omega)]
        congr 1
        omega
      obtain ⟨m', hm'⟩ : ∃ m', m' = if 10 * m + (T (s + j) - 48) < 100000 then 10 * m + (T (s + j) - 48) else 100000 := ⟨_, rfl⟩
      have ei : (if nI (10 * m + (T (s + j) - 48)) < (100000 : Int32) then nI (10 * m + (T (s + j) - 48)) else 100000) = nI m' := by
        rw [hm', e5]
        by_cases y : 10 * m + (T (s + j) - 48) < 100000
        · rw [if_pos (nI_lt y (by omega)), if_pos y]
        · rw [if_neg (nI_nlt (by omega) (by omega)), if_neg y]
      refine ⟨_, rfl, ?_⟩
      rw [hm, eb, ev, ei]
      have a15 : SJ 15 := Or.inr ⟨by decide, by decide⟩
      refine ih (j + 1) m' _ (by omega) ((hc.up a15).put (fun i hi => ?_)) ?_ ?_ he ?_ (by rw [hm']; split <;> omega) (fun y => ?_)
      · rw [va_up_of _ _ (fun w => hi (by rw [w]; exact Or.inl rfl)), xI_at]
      · rw [xI_at, va_up_of _ _ (by decide), va_up_of _ _ (by decide)]; exact a1
      · rw [xI_at, va_up_eq, va_up_of _ _ (by decide), hs, nI_1]; rfl
      · rw [xI_at, va_up_of _ _ (by decide), va_up_eq]
      · obtain ⟨y1, y2⟩ := hj (by omega)
        have p : 10 ^ (j + 1) = 10 ^ j * 10 := Nat.pow_succ 10 j
        have p4 : 10 ^ (j + 1) ≤ 10 ^ 4 := Nat.pow_le_pow_right (by decide) y
        have e4 : 10 ^ 4 = 10000 := by decide
        have em : m' = 10 * m + (T (s + j) - 48) := by rw [hm', if_pos (by omega)]
        refine ⟨?_, by omega⟩
        rw [em]
        show _ = vl T s j * 10 + (T (s + j) - 48)
        rw [← y1]
        omega
theorem m_stepOn0 {h : XH} {n q : Nat} {T : Nat → Nat} (hM : xMod (xP h)) (hT : TM h T n) (hq : xI h 56 12 = nI q) (hqn : q ≤ n) : XSpec mX11_stepOn 2 0 0 100 100 [.ref 56] h (fun v h' => v = none ∧ Mch h h' ∧ KM h' T n (sc isBk T n q)) xno := by
  have n5 := hT.2.1
  have ht : ∀ i, i < n → T i < 256 := fun i hi => (hT.2.2 i hi).2
  have hb := sc_b (p := isBk) (T := T) hqn
  obtain ⟨s, hs⟩ : ∃ s, sc isBk T n q = s := ⟨_, rfl⟩
  rw [hs] at hb ⊢
  refine XSpec.of rfl (by decide) (Nat.le_of_ble_eq_true rfl) rfl (l_mo1 hM hT (fun h1 hc1 e1 => ?_) (n - q) q h (by omega) Mch.rfl hq hs)
  have hM1 := hc1.m hM
  refine v_X11_stepOn_39 hM1 ?_
  rw [va_up_of _ _ (by decide), e1]
  obtain ⟨h2, hh2⟩ : ∃ h2, h2 = xSI 56 (va_up (xI h1 56) 16 (nI s)) h1 := ⟨_, rfl⟩
  rw [← hh2]
  have j14 : SJ 14 := Or.inr ⟨by decide, by decide⟩
  have j15 : SJ 15 := Or.inr ⟨by decide, by decide⟩
  have j16 : SJ 16 := Or.inr ⟨by decide, by decide⟩
  have j17 : SJ 17 := Or.inr ⟨by decide, by decide⟩
  have hc2 : Mch h h2 := by rw [hh2]; exact hc1.up j16
  have a0 : xI h2 56 16 = nI s := by rw [hh2, xI_at, va_up_eq]
  have a3 : xI h2 56 12 = nI s := by rw [hh2, xI_at, va_up_of _ _ (by decide)]; exact e1
  clear hh2
  have hM2 := hc2.m hM
  have hT2 := hT.c hc2
  have fin : ∀ (h' : XH) (k e : Nat), Mch h h' → xI h' 56 16 = nI s → xI h' 56 14 = nI k → xI h' 56 12 = nI e → kd T n s = k → sp T n s = e → (k = 2 → e ≤ s + 4 → xI h' 56 15 = nI (vl T s (e - s))) → XW (xrm 2 0 0) mX11_stepOn (xE 100 (fun v h' => v = none ∧ Mch h h' ∧ KM h' T n s) xno 0 0) 100 0 0 h' 212 [some (.ref 56), none] [] := fun h' k e f1 f2 f3 f4 f5 f6 f7 => by
    refine v_X11_stepOn_212 (f1.m hM) ⟨rfl, f1.up j17, ?_, ?_, ?_, ?_, hb.2, fun z1 z2 => ?_⟩
    · rw [xI_at, va_up_of _ _ (by decide)]; exact f2
    · rw [xI_at, va_up_eq, f6]; exact f4
    · rw [xI_at, va_up_of _ _ (by decide), f6]; exact f4
    · rw [xI_at, va_up_of _ _ (by decide), f5]; exact f3
    · rw [f5] at z1
      rw [f6] at z2
      rw [xI_at, va_up_of _ _ (by decide), f6]; exact f7 z1 z2
  refine ⟨_, m_byteAt hM2 hT2 s (by omega), ?_⟩
  rintro v h3 ⟨rfl, e3⟩
  subst h3
  refine ⟨_, rfl, fun q1 => ?_, fun q1 => ?_⟩
  · have hlt : s < n := Classical.byContradiction fun z => q1 (if_neg z)
    have t256 := ht s hlt
    have eb : bz T n s = nI (T s) := if_pos hlt
    rw [eb]
    refine ⟨_, m_isLetter h2 _, ?_⟩
    rintro v h4 ⟨rfl, e4⟩
    subst h4
    rw [ltI_n (by omega)]
    refine ⟨_, rfl, fun c => ?_, fun c => ?_⟩
    · have cl := bI_0.1 c
      refine ⟨_, m_isDigit h2 _, ?_⟩
      rintro v h5 ⟨rfl, e5⟩
      subst h5
      rw [dgI_n (by omega)]
      refine ⟨_, rfl, fun c2 => ?_, fun c2 => ?_⟩
      · have cd := bI_0.1 c2
        have sp1 : sp T n s = s + 1 := by
          unfold sp
          rw [if_neg (by omega), if_neg (by rw [cl]; decide), if_neg (by rw [cd]; decide)]
        rw [a3, nI_1]
        obtain ⟨h3, hh3⟩ : ∃ h3, h3 = xSI 56 (va_up (xI h2 56) 12 (nI (s + 1))) h2 := ⟨_, rfl⟩
        rw [← hh3]
        have hc3 : Mch h h3 := by rw [hh3]; exact hc2.up (Or.inl rfl)
        have b0 : xI h3 56 16 = nI s := by rw [hh3, xI_at, va_up_of _ _ (by decide)]; exact a0
        have b3 : xI h3 56 12 = nI (s + 1) := by rw [hh3, xI_at, va_up_eq]
        clear hh3
        refine ⟨_, m_isMark h3 t256, ?_⟩
        rintro v h6 ⟨rfl, e6⟩
        subst h6
        refine ⟨_, rfl, fun c3 => fin _ 4 (s + 1) (hc3.up j14) ?_ ?_ ?_ ?_ sp1 (fun z => absurd z (by decide)), fun c3 => fin _ 3 (s + 1) (hc3.up j14) ?_ ?_ ?_ ?_ sp1 (fun z => absurd z (by decide))⟩
        · rw [xI_at, va_up_of _ _ (by decide)]; exact b0
        · rw [xI_at, va_up_eq]; rfl
        · rw [xI_at, va_up_of _ _ (by decide)]; exact b3
        · unfold kd
          rw [if_neg (by omega), if_neg (by rw [cl]; decide), if_neg (by rw [cd]; decide), if_neg (by rw [bI_0.1 c3]; decide)]
        · rw [xI_at, va_up_of _ _ (by decide)]; exact b0
        · rw [xI_at, va_up_eq]; rfl
        · rw [xI_at, va_up_of _ _ (by decide)]; exact b3
        · unfold kd
          rw [if_neg (by omega), if_neg (by rw [cl]; decide), if_neg (by rw [cd]; decide), if_pos (bI_n0.1 c3)]
      · have cd := bI_n0.1 c2
        refine l_mo3 hM hT (s := s) (s0 := nI s) (e := sp T n s) (fun h' f1 f2 f3 f4 f5 => fin h' 2 _ f1 f2 f3 f4 ?_ rfl (fun _ => f5)) (n - s) 0 0 _ (by omega) (hc2.up j15) ?_ ?_ ?_ ?_ (by omega) (fun _ => ⟨rfl, by decide⟩)
        · unfold kd
          rw [if_neg (by omega), if_neg (by rw [cl]; decide), if_pos cd]
        · rw [xI_at, va_up_of _ _ (by decide)]; exact a0
        · rw [xI_at, va_up_of _ _ (by decide)]; exact a3
        · unfold sp
          rw [if_neg (by omega), if_neg (by rw [cl]; decide), if_pos cd]; rfl
        · rw [xI_at, va_up_eq]; rfl
    · have cl := bI_n0.1 c
      refine l_mo2 hM hT (s0 := nI s) (e := sp T n s) (fun h' f1 f2 f3 f4 => fin h' 1 _ f1 f2 f3 f4 ?_ rfl (fun z => absurd z (by decide))) (n - s) s h2 (by omega) hc2 a0 a3 ?_
      · unfold kd
        rw [if_neg (by omega), if_pos cl]
      · unfold sp
        rw [if_neg (by omega), if_pos cl]
  · have hge : ¬ s < n := fun z => by
      have eb : bz T n s = nI (T s) := if_pos z
      rw [eb] at q1
      exact nI_nm (ht s z) q1
    refine fin _ 0 s (hc2.up j14) ?_ ?_ ?_ ?_ ?_ (fun z => absurd z (by decide))
    · rw [xI_at, va_up_of _ _ (by decide)]; exact a0
    · rw [xI_at, va_up_eq]; rfl
    · rw [xI_at, va_up_of _ _ (by decide)]; exact a3
    · unfold kd; rw [if_pos (by omega)]
    · unfold sp; rw [if_pos (by omega)]
