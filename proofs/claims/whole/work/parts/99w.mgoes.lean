/-! READ: the reference's lines: the rule -/
theorem m_isInWord (h : XH) {c : Nat} (hc : c < 2 ^ 31) : XSpec mX11_isInWord 2 0 0 100 100 [.int (nI c)] h (xq (some (.int (bI (inWd c)))) h) xno := by
  refine XSpec.of rfl (by decide) (Nat.le_of_ble_eq_true rfl) rfl (v_X11_isInWord_0 (nI c) ⟨_, m_isLetter h _, ?_⟩)
  rintro v h1 ⟨rfl, e1⟩
  subst h1
  rw [ltI_n hc]
  refine ⟨_, rfl, fun q => ⟨by unfold inWd; rw [bI_n0.1 q]; rfl, rfl⟩, fun q => ⟨_, m_isDigit h _, ?_⟩⟩
  rintro v h2 ⟨rfl, e2⟩
  subst h2
  rw [dgI_n hc]
  refine ⟨_, rfl, fun q2 => ⟨by unfold inWd; rw [bI_0.1 q, bI_0.1 q2]; rfl, rfl⟩, fun q2 => ⟨by unfold inWd; rw [bI_n0.1 q2, Bool.or_true]; rfl, rfl⟩⟩
theorem kpT_w {T : Nat → Nat} : ∀ (f i : Nat) (ap : Bool) (L : List Nat), kpT T f i 32 ap L = kpT T f i 59 ap L := by
  intro f
  induction f with
  | zero => intro i ap L; rfl
  | succ f ih =>
    intro i ap L
    have e : kpS 32 (T i) ap = kpS 59 (T i) ap := rfl
    unfold kpT
    rw [ih, e]
def MKT (h : XH) (L : List Nat) : Prop := ∀ i, i < L.length → xI h 64 (1000 + i) = nI (L.getD i 0)
def MKch (h h' : XH) : Prop := (∀ c, c ≠ 64 → xI h' c = xI h c) ∧ (∀ j, j < 1000 → xI h' 64 j = xI h 64 j) ∧ xP h' = xP h
theorem MKT.sn {h0 h : XH} {L : List Nat} {c : Nat} (hT : MKT h L) (hc : MKch h0 h) : MKT (xSI 64 (va_up (xI h 64) (1000 + L.length) (nI c)) h) (L ++ [c]) ∧ MKch h0 (xSI 64 (va_up (xI h 64) (1000 + L.length) (nI c)) h) := by
  refine ⟨fun i hi => ?_, fun c q => (xI_ne q).trans (hc.1 c q), fun j q => by rw [xI_at, va_up_of _ _ (by omega)]; exact hc.2.1 j q, hc.2.2⟩
  rw [List.length_append] at hi
  have hi' : i < L.length + 1 := hi
  rw [xI_at]
  by_cases z : i = L.length
  · rw [z, va_up_eq, app_at]
  · rw [va_up_of _ _ (by omega), app_in (by omega)]; exact hT i (by omega)
theorem l_mkpR {h0 : XH} {n e : Nat} {T : Nat → Nat} (hM0 : xMod (xP h0)) (hT0 : ∀ i, i < n → xI h0 66 i = nI (T i) ∧ T i < 256) (hn : n ≤ 500) (hen : e ≤ n) {res : List Nat} {Q : Option Value → XH → Prop} {X : String → XH → Prop} (hQ : ∀ h', MKT h' res → MKch h0 h' → Q none (xSI 59 (va_up (xI h' 59) 15 (nI res.length)) h')) : ∀ (f i w : Nat) (ap : Bool) (L : List Nat) (h : XH), i + f = e → w < 256 → MKT h L → L.length + 2 * f ≤ 1000 → MKch h0 h → kpT T f i w ap L = res →
    XW (xrm 3 0 0) mX11_keepRule (xE 100 Q X 0 0) 100 0 0 h 12 [some (.ref 56), none, some (.int (nI e)), some (.int (nI L.length)), some (.int (nI w)), some (.int (bI ap)), some (.int (nI i)), none] [] := by
  intro f
  induction f with
  | zero =>
    intro i w ap L h hi hw hK hl hc hres
    have hM : xMod (xP h) := by rw [hc.2.2]; exact hM0
    have hres' : L = res := hres
    subst hres'
    exact v_X11_keepRule_12 hM _ _ _ _ _ ⟨fun _ => hQ h hK hc, fun q => absurd (nI_le (by omega) (by omega)) q⟩
  | succ f ih =>
    intro i w ap L h hi hw hK hl hc hres
    have hM : xMod (xP h) := by rw [hc.2.2]; exact hM0
    obtain ⟨t1, t256⟩ := hT0 i (by omega)
    have t1' : xI h 66 i = nI (T i) := by rw [hc.1 66 (by decide)]; exact t1
    unfold kpT at hres
    refine v_X11_keepRule_12 hM _ _ _ _ _ ⟨fun q => absurd q (nI_ge (by omega) (by omega)), fun _ => ⟨vp_in_nI (by omega) (by omega), ?_⟩⟩
    rw [nI_clamp (show i < 2 ^ 31 by omega), t1']
    have k32 : nI (T i) = 32 ↔ T i = 32 := nI_eq (b := 32) (by omega) (by omega)
    have k10 : nI (T i) = 10 ↔ T i = 10 := nI_eq (b := 10) (by omega) (by omega)
    rw [k32, k10]
    have blank : isBk (T i) = true → XW (xrm 3 0 0) mX11_keepRule (xE 100 Q X 0 0) 100 0 0 h 118 [some (.ref 56), none, some (.int (nI e)), some (.int (nI L.length)), some (.int (nI w)), some (.int 1), some (.int (nI i)), none] [] := fun hb => by
      rw [if_pos hb] at hres
      refine v_X11_keepRule_118 hM _ _ _ _ _ ?_
      rw [nI_1]
      exact ih (i + 1) w true L h (by omega) hw hK (by omega) hc hres
    refine ⟨fun q => blank (decide_eq_true (Or.inl q)), fun q1 => ⟨fun q2 => ?_, fun q => blank (decide_eq_true (Or.inr q))⟩⟩
    have nb : ¬ isBk (T i) = true := fun z => by rcases of_decide_eq_true z with y | y; exact q1 y; exact q2 y
    rw [if_neg nb] at hres
    have s96 : ∀ (L' : List Nat) (h' : XH), MKT h' L' → MKch h0 h' → L'.length ≤ L.length + 1 → L' ++ [T i] = L ++ kpS w (T i) ap → XW (xrm 3 0 0) mX11_keepRule (xE 100 Q X 0 0) 100 0 0 h' 96 [some (.ref 56), none, some (.int (nI e)), some (.int (nI L'.length)), none, none, some (.int (nI i)), some (.int (nI (T i)))] [] := fun L' h' hK' hc' hl' el => by
      have hM' : xMod (xP h') := by rw [hc'.2.2]; exact hM0
      have e1000 : (1000 : Int32) = nI 1000 := rfl
      have hlen : (L' ++ [T i]).length = L'.length + 1 := by rw [List.length_append]; rfl
      refine v_X11_keepRule_96 hM' _ _ _ _ ?_
      rw [e1000, nI_add, nI_clamp (by omega), nI_1]
      obtain ⟨m1, m2⟩ := hK'.sn (c := T i) hc'
      refine ⟨vp_in_nI (by omega) (by omega), v_X11_keepRule_118 (by rw [show xP (xSI 64 (va_up (xI h' 64) (1000 + L'.length) (nI (T i))) h') = xP h' from rfl]; exact hM') _ _ _ _ _ ?_⟩
      rw [nI_1, ← hlen]
      exact ih (i + 1) (T i) false (L' ++ [T i]) _ (by omega) t256 m1 (by omega) m2 (by rw [el]; exact hres)
    have one : ((inWd w && inWd (T i)) = false ∨ (ap || (isLt w != isLt (T i))) = false) → XW (xrm 3 0 0) mX11_keepRule (xE 100 Q X 0 0) 100 0 0 h 96 [some (.ref 56), none, some (.int (nI e)), some (.int (nI L.length)), none, none, some (.int (nI i)), some (.int (nI (T i)))] [] := fun hz => s96 L h hK hc (by omega) (by
      unfold kpS
      rw [if_neg (fun z => by rw [Bool.and_eq_true] at z; rcases hz with y | y; rw [y] at z; exact absurd z.1 (by decide); rw [y] at z; exact absurd z.2 (by decide))])
    have two : (inWd w && inWd (T i)) = true → (ap || (isLt w != isLt (T i))) = true → XW (xrm 3 0 0) mX11_keepRule (xE 100 Q X 0 0) 100 0 0 h 81 [some (.ref 56), none, some (.int (nI e)), some (.int (nI L.length)), none, none, some (.int (nI i)), some (.int (nI (T i)))] [] := fun hz1 hz2 => by
      have e1000 : (1000 : Int32) = nI 1000 := rfl
      have e32 : (32 : Int32) = nI 32 := rfl
      have hlen : (L ++ [32]).length = L.length + 1 := by rw [List.length_append]; rfl
      refine v_X11_keepRule_81 hM _ _ _ _ ?_
      rw [e1000, e32, nI_add, nI_clamp (by omega), nI_1]
      obtain ⟨m1, m2⟩ := hK.sn (c := 32) hc
      refine ⟨vp_in_nI (by omega) (by omega), ?_⟩
      have := s96 (L ++ [32]) _ m1 m2 (by omega) (by
        unfold kpS
        rw [hz1, hz2, if_pos (by decide), List.append_assoc]
        rfl)
      rw [hlen] at this
      exact this
    refine ⟨_, m_isInWord h (by omega), ?_⟩
    rintro v h1 ⟨rfl, e1⟩
    subst h1
    refine ⟨_, rfl, fun q => one (Or.inl (by rw [bI_0.1 q, Bool.and_false])), fun q => ⟨_, m_isInWord h (by omega), ?_⟩⟩
    rintro v h2 ⟨rfl, e2⟩
    subst h2
    refine ⟨_, rfl, fun q3 => one (Or.inl (by rw [bI_0.1 q3]; rfl)), fun q3 => ?_⟩
    have both : (inWd w && inWd (T i)) = true := by rw [bI_n0.1 q, bI_n0.1 q3]; rfl
    refine ⟨fun q4 => two both (by rw [bI_n0.1 q4]; rfl), fun q4 => ⟨_, m_isLetter h _, ?_⟩⟩
    have fa : ap = false := bI_0.1 q4
    rintro v h3 ⟨rfl, e3⟩
    subst h3
    refine ⟨_, rfl, _, m_isLetter h _, ?_⟩
    rintro v h3 ⟨rfl, e3⟩
    subst h3
    rw [ltI_n (by omega), ltI_n (by omega)]
    refine ⟨_, rfl, fun u => one (Or.inr ?_), fun u => two both ?_⟩
    · rw [fa]
      cases h3 : isLt w <;> cases h4 : isLt (T i) <;> rw [h3, h4] at u <;> first | rfl | exact absurd u (by decide)
    · rw [fa]
      cases h3 : isLt w <;> cases h4 : isLt (T i) <;> rw [h3, h4] at u <;> first | rfl | exact absurd rfl u
theorem m_keepRule {h : XH} {n s e : Nat} {T : Nat → Nat} (hM : xMod (xP h)) (hT : TM h T n) (hse : s ≤ e) (hen : e ≤ n) : XSpec mX11_keepRule 3 0 0 100 100 [.ref 56, .int (nI s), .int (nI e)] h (fun v h' => v = none ∧ ∃ h1, MKT h1 (kpT T (e - s) s 59 false []) ∧ MKch h h1 ∧ h' = xSI 59 (va_up (xI h1 59) 15 (nI (kpT T (e - s) s 59 false []).length)) h1) xno := by
  have n5 := hT.2.1
  refine XSpec.of rfl (by decide) (Nat.le_of_ble_eq_true rfl) rfl (v_X11_keepRule_0 hM _ _ (l_mkpR (h0 := h) hM hT.2.2 n5 hen (fun h' k1 k2 => ⟨rfl, h', k1, k2, rfl⟩) (e - s) s 32 false [] h (by omega) (by omega) (fun i hi => absurd hi (Nat.not_lt_zero i)) (by show 0 + 2 * (e - s) ≤ 1000; omega) ⟨fun _ _ => rfl, fun _ _ => rfl, rfl⟩ (kpT_w _ _ _ _)))
theorem MEch.l {h h' : XH} (a : MEch h h') : Lch h h' := ⟨fun c q1 q2 => a.1 c q1 (by omega) (by omega), a.2.1, ⟨fun j q => a.2.2.1 j (by omega), fun _ _ => by rw [a.1 60 (by decide) (by decide) (by decide)], fun _ _ => by rw [a.1 61 (by decide) (by decide) (by decide)], fun _ _ => by rw [a.1 62 (by decide) (by decide) (by decide)], fun j q => a.2.2.2.1 j q, fun _ _ => by rw [a.1 64 (by decide) (by decide) (by decide)]⟩, a.2.2.2.2⟩
theorem m_readGoesB {h : XH} {T : Nat → Nat} {n f p : Nat} (hS : MStr (xP h)) (hB : MB h T n f p) (hn : n ≤ 500) : XSpec mX11_readGoes 61 0 0 100 100 [.ref 56] h (fun v h' => v = none ∧ MB h' T n f p ∧ Lch h h') xno := by
  have hx := m_expr (n := n) (T := T) hn 6 (Nat.le_refl _) h (.inl (f, p)) (fun z => absurd z (by decide)) (fun y hy => by cases hy) ⟨hS, hB⟩
  refine XSpec.of rfl (by decide) (Nat.le_of_ble_eq_true rfl) rfl (v_X11_readGoes_0 hB.1 ⟨_, hx, ?_⟩)
  rintro v h1 ⟨rfl, k1, k2⟩
  have k3 : MB h1 T n f p := k1.2
  exact ⟨rfl, fun _ => ⟨rfl, k3, k2.l⟩, fun q => absurd q k3.n0⟩
theorem m_readGoes {h : XH} {T : Nat → Nat} {n s : Nat} {b : BD} (hS : MStr (xP h)) (hK : MK h T n s) (hR : MRl h b) (hb : GoodBD b) (ht : bTd b = 0) : XSpec mX11_readGoes 61 0 0 100 100 [.ref 56] h (fun v h' => v = none ∧ LM T n h (lGoes T n s b) h') xno := by
  have hn := hK.2.1.2.1
  have hsn := hK.2.2.1.2.2.2.2.1
  have hC : MC h [] := ⟨hR.2.1.1 ht, fun k hk => absurd hk (Nat.not_lt_zero k)⟩
  have hx := m_expr (n := n) (T := T) hn 6 (Nat.le_refl _) h (.inr (s, [])) (fun z => absurd z (by decide)) (fun y hy => by cases hy; exact Nat.zero_le _) ⟨hS, hK, hC⟩
  refine XSpec.of rfl (by decide) (Nat.le_of_ble_eq_true rfl) rfl (v_X11_readGoes_0 hK.1 ⟨_, hx, ?_⟩)
  rintro v h1 ⟨rfl, k1, k2⟩
  refine ⟨rfl, ?_⟩
  have k1' : MS h1 T n (pE T n 6 s []) := k1
  cases hz : pE T n 6 s [] with
  | inl e =>
    rw [hz] at k1'
    have k3 : MB h1 T n e.1 e.2 := k1'.2
    have el : lGoes T n s b = .inl e := by unfold lGoes; rw [hz]
    rw [el]
    exact ⟨fun _ => ⟨rfl, k2.l, k3⟩, fun q => absurd q k3.n0⟩
  | inr y =>
    rw [hz] at k1'
    obtain ⟨-, k3, k4⟩ := k1'
    obtain ⟨g1, g2, g3, -⟩ := pE_g (T := T) (n := n) 6 s [] y.1 y.2 hsn hz
    have el : lGoes T n s b = .inr (y.1, dGo b y.2 (kpT T (y.1 - s) s 59 false [])) := by unfold lGoes; rw [hz]
    rw [el, hK.2.2.1.1, k3.2.2.1.1]
    refine ⟨fun q => absurd k3.2.2.2 q, fun _ => ⟨_, m_keepRule k3.1 k3.2.1 (by omega) g2, ?_⟩⟩
    rintro v h3 ⟨rfl, h2, m1, m2, e3⟩
    generalize kpT T (y.1 - s) s 59 false [] = L at *
    have n3 : ∀ c, c ≠ 59 → c ≠ 64 → xI h3 c = xI h1 c := fun c q1 q2 => by rw [e3, xI_ne q1]; exact m2.1 c q2
    have n59 : ∀ j, j ≠ 15 → xI h3 59 j = xI h1 59 j := fun j q => by rw [e3, xI_at, va_up_of _ _ q, m2.1 59 (by decide)]
    have n15 : xI h3 59 15 = nI L.length := by rw [e3, xI_at, va_up_eq]
    have n64 : xI h3 64 = xI h2 64 := by rw [e3, xI_ne (by decide)]
    have p3 : xP h3 = xP h1 := by rw [e3]; exact m2.2.2
    clear e3
    obtain ⟨⟨r1, r2, r3, r4, r5, r6⟩, r8, r9, r10, r11, r12⟩ := hR
    have o59 : ∀ j, j ≠ 14 → j ≠ 15 → xI h3 59 j = xI h 59 j := fun j q1 q2 => (n59 j q2).trans (k2.2.2.1 j q1)
    have l3 : Lch h1 h3 := ⟨fun c q1 q2 => n3 c (by omega) (by omega), fun j _ => by rw [n3 56 (by decide) (by decide)], ⟨fun j q => n59 j (by omega), fun j _ => by rw [n3 60 (by decide) (by decide)], fun j _ => by rw [n3 61 (by decide) (by decide)], fun j _ => by rw [n3 62 (by decide) (by decide)], fun j _ => by rw [n3 63 (by decide) (by decide)], fun j q => by rw [n64]; exact m2.2.1 j q⟩, p3⟩
    refine ⟨rfl, rfl, k2.l.trans l3, k3.o (n3 56 (by decide) (by decide)) (n3 66 (by decide) (by decide)) p3, ⟨by rw [o59 8 (by decide) (by decide)]; exact r1, by rw [o59 9 (by decide) (by decide)]; exact r2, by rw [o59 10 (by decide) (by decide)]; exact r3, by rw [o59 11 (by decide) (by decide)]; exact r4, by rw [o59 12 (by decide) (by decide)]; exact r5, by rw [o59 13 (by decide) (by decide)]; exact r6⟩, ⟨fun z => absurd (show (1 : Nat) = 0 from z) (by decide), fun _ => ⟨?_, fun k hk => ?_⟩⟩, n15, fun f f1 f2 => ?_, fun i hi => ?_, fun i hi => ?_⟩
    · rw [n59 14 (by decide)]; exact k4.1
    · rw [n3 63 (by decide) (by decide)]; exact k4.2 k hk
    · rw [n3 60 (by decide) (by decide), k2.1 60 (by decide) (by decide) (by decide)]; exact r10 f f1 f2
    · rw [n3 61 (by decide) (by decide), k2.1 61 (by decide) (by decide) (by decide), n3 62 (by decide) (by decide), k2.1 62 (by decide) (by decide) (by decide)]; exact r11 i hi
    · rw [n64]; exact m1 i hi
