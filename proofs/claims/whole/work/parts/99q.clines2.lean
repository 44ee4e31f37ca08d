/-! READ: the class' lines, exits and the rule -/
theorem c_addExit {h : XH} {r n s t : Nat} {T : Nat → Nat} {b : BD} (hL : LC h r T n s b t) (hk : bKx b < 24) {f u : Nat} (f2 : f ≤ 100) (t1 : 1 ≤ u) : XSpec mX5_addExit 1 0 0 100 100 [.ref r, .int (nI f), .int (nI u)] h (fun v h' => v = none ∧ LC h' r T n s (dAdd b f u) t ∧ Bch r h h') xno := by
  have hr := hL.1.1.r2
  refine (s_X5_addExit 100 h r hL.1.1.2.1 hL.1.1.2.2 (nI f) (nI u)).mono ?_ (fun _ _ z => z)
  obtain ⟨⟨r0, r1, r2, r3, r4, r5, r6, r7⟩, ⟨o1, o2, o3⟩, hf⟩ := id hL.2.1
  rintro v h' ⟨rfl, e⟩
  rw [r7, if_neg (nI_pos (by omega)), if_neg (show ¬ (24 : Int32) ≤ nI (bKx b) from nI_ge (b := 24) (by omega) (by omega)), if_neg (nI_pos (by omega)), if_neg (show ¬ (101 : Int32) ≤ nI f from nI_ge (b := 101) (by omega) (by omega)), nI_clamp (by omega), nI_clamp (by omega), nI_1] at e
  have a1 : ∀ c, c ≠ r → c ≠ r + 6 → c ≠ r + 7 → c ≠ r + 8 → xI h' c = xI h c := fun c q1 q2 q3 q4 => by rw [e, xI_ne q1, xI_ne q4, xI_ne q3, xI_ne q2]
  have a0 : xI h' r = va_up (xI h r) 7 (nI (bKx b + 1)) := by rw [e, xI_at]
  have a6 : xI h' (r + 6) = va_up (xI h (r + 6)) (bKx b) (nI f) := by rw [e, xI_ne (by omega), xI_ne (by omega), xI_ne (by omega), xI_at]
  have a7 : xI h' (r + 7) = va_up (xI h (r + 7)) (bKx b) (nI u) := by rw [e, xI_ne (by omega), xI_ne (by omega), xI_at]
  have a8 : xI h' (r + 8) = va_up (xI h (r + 8)) f 1 := by rw [e, xI_ne (by omega), xI_at]
  have ap : xP h' = xP h := by rw [e]; rfl
  clear e
  refine ⟨rfl, ⟨hL.1.o (a1 1 (by omega) (by omega) (by omega) (by omega)) (fun j _ => by rw [a1 11 (by omega) (by omega) (by omega) (by omega)]) ap, ⟨?_, ⟨?_, fun i hi => ?_, fun q hq => ?_⟩, ?_⟩, by rw [a1 11 (by omega) (by omega) (by omega) (by omega)]; exact hL.2.2⟩, ⟨fun c q1 q2 => a1 c (by omega) (by omega) (by omega) (by omega), ap⟩⟩
  · rw [a0]
    exact ⟨(va_up_of _ _ (by decide)).trans r0, (va_up_of _ _ (by decide)).trans r1, (va_up_of _ _ (by decide)).trans r2, (va_up_of _ _ (by decide)).trans r3, (va_up_of _ _ (by decide)).trans r4, (va_up_of _ _ (by decide)).trans r5, (va_up_of _ _ (by decide)).trans r6, va_up_eq _ _ _⟩
  · rw [a1 (r + 5) (by omega) (by omega) (by omega) (by omega)]; exact o1
  · have hi' : i < bKx b + 1 := hi
    rw [a6, a7]
    show _ = nI (va_up (bFt b) (bKx b) f i) ∧ _ = nI (va_up (bHd b) (bKx b) u i)
    by_cases z : i = bKx b
    · rw [z, va_up_eq, va_up_eq, va_up_eq, va_up_eq]; exact ⟨rfl, rfl⟩
    · rw [va_up_of _ _ z, va_up_of _ _ z, va_up_of _ _ z, va_up_of _ _ z]; exact o2 i (by omega)
  · rw [a8, dAdd_jmps]
    by_cases z : q = f
    · rw [z, va_up_eq, va_up_eq, if_neg (by omega)]
    · rw [va_up_of _ _ z, va_up_of _ _ z]; exact o3 q hq
  · exact CRf.of (b := dAdd b f u) (h := h) hf (fun c q1 q2 => a1 c (by omega) (by omega) (by omega) (by omega))
theorem c_readExit {h : XH} {r n s t : Nat} {T : Nat → Nat} {b : BD} (hL : LC h r T n s b t) (hb : GoodBD b) (hk : bKx b < 24) : XSpec mX4_readExit 15 0 0 100 100 [.ref 11] h (LO r T n h (lExit T n s b) t) xno := by
  have hr := hL.1.1.r2
  have hl10 := hb.1.1
  have hl100 := hb.1.2.1
  obtain ⟨r0, r1, r2, r3, r4, r5, r6, r7⟩ := hL.2.1.1
  have o3 := hL.2.1.2.1.2.2
  refine XSpec.of rfl (by decide) (Nat.le_of_ble_eq_true rfl) rfl (v_X4_readExit_0 r hL.1.1.1 hL.1.1.2.1 hL.1.1.2.2 ?_)
  rw [r0, nI_p1 (by omega)]
  refine ⟨_, c_number (lo := 1) (hi := bLast b - 1) hL.1 (by omega) (by omega), ?_⟩
  rintro v h1 (⟨a, e, rfl, e1⟩ | ⟨f, e, rfl, e1⟩)
  · subst h1
    have ha := num_r e
    have eq1 : lExit T n s b = (if dFt b a = true then .inl (4, s) else match num T n 1 (bLast b) (nx T n s) with
      | .inl f => .inl (f, nx T n s)
      | .inr t => if t = a then .inl (2, nx T n s) else .inr (nx T n (nx T n s), dAdd b a t)) := by
      unfold lExit
      rw [e]
      rfl
    have e8 := o3 a (by omega)
    have eF : (dFt b a = true) ↔ ¬ jmps (bFt b) (bHd b) (bKx b) a = 0 := by unfold dFt; simp
    refine ⟨_, rfl, fun _ => ⟨hL.1.1.1.2, _, s_X5_isFoot 100 h r hL.1.1.2.1 hL.1.1.2.2 (nI a), ?_⟩, fun q => absurd q (nI_nm1 (by omega))⟩
    rintro v h2 ⟨rfl, e2⟩
    subst h2
    rw [if_neg (nI_pos (by omega)), if_neg (show ¬ (101 : Int32) ≤ nI a from nI_ge (b := 101) (by omega) (by omega)), nI_clamp (by omega), e8]
    refine ⟨_, rfl, fun q => ?_, fun q => ⟨_, c_fail hL.1.1 4, ?_⟩⟩
    · have j0 : jmps (bFt b) (bHd b) (bKx b) a = 0 := Classical.byContradiction fun z => by
        rw [if_neg z, if_neg (by decide)] at q
        exact absurd q (by decide)
      have nF : ¬ dFt b a = true := fun z => eF.1 z j0
      rw [if_neg nF] at eq1
      refine ⟨_, c_readOn hL.1, ?_⟩
      rintro v h3 ⟨rfl, k1, k2⟩
      have hL3 := hL.rch k1 k2
      have r03 : xI h3 r 0 = nI (bLast b) := hL3.2.1.1.1
      refine ⟨rfl, hL3.1.1.1.2, ?_⟩
      rw [r03]
      refine ⟨_, c_number (lo := 1) (hi := bLast b) hL3.1 (by omega) (by omega), ?_⟩
      rintro v h4 (⟨u, e4, rfl, e5⟩ | ⟨f, e4, rfl, e5⟩)
      · subst h4
        have hu := num_r e4
        rw [e4] at eq1
        have eq2 : lExit T n s b = (if u = a then .inl (2, nx T n s) else .inr (nx T n (nx T n s), dAdd b a u)) := eq1
        refine ⟨_, rfl, fun _ => ⟨fun q2 => ⟨hL3.1.1.1.2, _, c_addExit hL3 hk (f := a) (u := u) (by omega) (by omega), ?_⟩, fun q2 => ⟨_, c_fail hL3.1.1 2, ?_⟩⟩, fun q2 => absurd q2 (nI_nm1 (by omega))⟩
        · have nu : ¬ u = a := fun z => q2 (by rw [z])
          rw [if_neg nu] at eq2
          rw [eq2]
          rintro v h5 ⟨rfl, k3, k4⟩
          refine ⟨rfl, _, c_readOn k3.1, ?_⟩
          rintro v h6 ⟨rfl, k5, k6⟩
          exact ⟨rfl, rfl, k3.rch k5 k6, ((Bch_r k2).trans k4).trans (Bch_r k6)⟩
        · have nu : u = a := (nI_eq (by omega) (by omega)).1 q2
          rw [if_pos nu] at eq2
          rw [eq2]
          rintro v h5 ⟨rfl, e6⟩
          subst h5
          exact ⟨_, rfl, rfl, LO.fl (Bch_r k2) (hL3.1.fl 2) (by omega)⟩
      · rw [e4] at eq1
        rw [eq1]
        exact ⟨_, rfl, fun q2 => absurd rfl q2, fun _ => LO.fl (Bch_r k2) e5 (num_f e4)⟩
    · have j0 : ¬ jmps (bFt b) (bHd b) (bKx b) a = 0 := fun z => by
        rw [if_pos z, if_pos rfl] at q
        exact q rfl
      rw [if_pos (eF.2 j0)] at eq1
      rw [eq1]
      rintro v h3 ⟨rfl, e3⟩
      subst h3
      exact ⟨_, rfl, rfl, LO.fl Bch.rfl (hL.1.fl 4) (by omega)⟩
  · have el : lExit T n s b = .inl (f, s) := by unfold lExit; rw [e]
    rw [el]
    exact ⟨_, rfl, fun q => absurd rfl q, fun _ => LO.fl Bch.rfl e1 (num_f e)⟩
/-! the rule's text -/
def KT (h : XH) (r : Nat) (L : List Nat) : Prop := xI h (r + 1) 1 = nI L.length ∧ ∀ i, i < L.length → xI h (r + 2) i = nI (L.getD i 0)
def Kch (r : Nat) (h h' : XH) : Prop := (∀ c, c ≠ r + 1 → c ≠ r + 2 → xI h' c = xI h c) ∧ (∀ j, j ≠ 1 → xI h' (r + 1) j = xI h (r + 1) j) ∧ xP h' = xP h
theorem Kch.rfl {r : Nat} {h : XH} : Kch r h h := ⟨fun _ _ _ => Eq.refl _, fun _ _ => Eq.refl _, Eq.refl _⟩
theorem Kch.trans {r : Nat} {h h1 h2 : XH} (a : Kch r h h1) (b : Kch r h1 h2) : Kch r h h2 := ⟨fun c q1 q2 => (b.1 c q1 q2).trans (a.1 c q1 q2), fun j q => (b.2.1 j q).trans (a.2.1 j q), b.2.2.trans a.2.2⟩
theorem c_addSign {h : XH} {r : Nat} {L : List Nat} (hR : RD h r) (hK : KT h r L) (hl : L.length < 1000) {c : Nat} (hc : c < 256) : XSpec mX0_addSign 1 0 0 100 100 [.ref (r + 1), .int (nI c)] h (fun v h' => v = none ∧ KT h' r (L ++ [c]) ∧ Kch r h h') xno := by
  have hr := hR.r2
  refine (s_X0_addSign 100 h (r + 1) hR.2.1.2.2.2.2.2.2 (by have := hR.2.2; omega) (nI c)).mono ?_ (fun _ _ q => q)
  rintro v h' ⟨rfl, e⟩
  have ec : vp_nar .char (nI c) = nI c := Value.int.inj (pk_charN (by omega)).1
  rw [hK.1, if_neg (nI_pos (by omega)), if_neg (show ¬ (1000 : Int32) ≤ nI L.length from nI_ge (b := 1000) hl (by omega)), nI_clamp (by omega), nI_1, ec, show r + 1 + 1 = r + 2 from rfl] at e
  subst h'
  refine ⟨rfl, ⟨by rw [xI_at, va_up_eq, List.length_append]; rfl, fun i hi => ?_⟩, fun q q1 q2 => by rw [xI_ne q1, xI_ne q2], fun j q => by rw [xI_at, va_up_of _ _ q], rfl⟩
  rw [List.length_append] at hi
  have hi' : i < L.length + 1 := hi
  rw [xI_ne (by omega), xI_at]
  by_cases z : i = L.length
  · rw [z, va_up_eq, app_at]
  · rw [va_up_of _ _ z, app_in (by omega)]; exact hK.2 i (by omega)
theorem Kch_tx {r n : Nat} {T : Nat → Nat} {h h' : XH} (hr : r = 2 ∨ r = 12) (hT : TX h T n) (hc : Kch r h h') : TX h' T n := by
  unfold TX at *
  rw [hc.1 1 (by omega) (by omega), hc.1 11 (by omega) (by omega)]; exact hT
theorem l_kpT {h0 : XH} {r n e : Nat} {T : Nat → Nat} (hR0 : RD h0 r) (hT0 : TX h0 T n) (hen : e ≤ n) {res : List Nat} {Q : Option Value → XH → Prop} {X : String → XH → Prop} (hQ : ∀ h', KT h' r res → Kch r h0 h' → Q none h') : ∀ (f i w : Nat) (ap : Bool) (L : List Nat) (h : XH), i + f = e → w < 256 → KT h r L → L.length + 2 * f ≤ 1000 → Kch r h0 h → kpT T f i w ap L = res →
    XW (xrm 2 0 0) mX4_keepText (xE 100 Q X 0 0) 100 0 0 h 9 [some (.ref 11), none, some (.int (nI e)), some (.int (nI w)), some (.int (bI ap)), some (.int (nI i)), none, none] [] := by
  have n5 := hT0.2.1
  have hr := hR0.r2
  intro f
  induction f with
  | zero =>
    intro i w ap L h hi hw hK hl hc hres
    have hR : RD h r := hR0.p hc.2.2
    refine v_X4_keepText_9 r hR.1 hR.2.1 hR.2.2 _ _ _ _ ⟨fun _ => hQ h ?_ hc, fun q => absurd (nI_le (by omega) (by omega)) q⟩
    rw [← hres]; exact hK
  | succ f ih =>
    intro i w ap L h hi hw hK hl hc hres
    have hR : RD h r := hR0.p hc.2.2
    have hT : TX h T n := Kch_tx hr hT0 hc
    have t256 := (hT.2.2 i (by omega)).2
    refine v_X4_keepText_9 r hR.1 hR.2.1 hR.2.2 _ _ _ _ ⟨fun q => absurd q (nI_ge (by omega) (by omega)), fun _ => ⟨_, c_signAt hR hT i (by omega), ?_⟩⟩
    rintro v h1 ⟨rfl, e1⟩
    subst h1
    rw [Tz_in (show i < n by omega)]
    refine ⟨_, rfl, _, c_isBlank h (by omega), ?_⟩
    rintro v h1 ⟨rfl, e1⟩
    subst h1
    unfold kpT at hres
    rw [nI_1]
    refine ⟨_, rfl, fun q => ?_, fun q => ?_⟩
    · rw [if_neg (by rw [bI_0.1 q]; decide)] at hres
      have s108 : ∀ (L' : List Nat) (h' : XH), KT h' r L' → Kch r h0 h' → L'.length ≤ L.length + 1 → L' ++ [T i] = L ++ kpS w (T i) ap → XW (xrm 2 0 0) mX4_keepText (xE 100 Q X 0 0) 100 0 0 h' 108 [some (.ref 11), none, some (.int (nI e)), none, none, some (.int (nI i)), some (.int (nI (T i))), none] [] := fun L' h' hK' hc' hl' el => by
        have hR' : RD h' r := hR0.p hc'.2.2
        refine v_X4_keepText_108 r hR'.1 hR'.2.1 hR'.2.2 _ _ _ ⟨_, c_addSign hR' hK' (by omega) t256, ?_⟩
        rintro v h2 ⟨rfl, k1, k2⟩
        have hlen : (L' ++ [T i]).length = L'.length + 1 := by rw [List.length_append]; rfl
        rw [nI_1]
        refine ⟨rfl, ih (i + 1) (T i) false (L' ++ [T i]) h2 (by omega) t256 k1 (by omega) (hc'.trans k2) ?_⟩
        rw [el]; exact hres
      have s74 : ∀ m : Bool, (inWd w && inWd (T i)) = m → XW (xrm 2 0 0) mX4_keepText (xE 100 Q X 0 0) 100 0 0 h 74 [some (.ref 11), none, some (.int (nI e)), some (.int (nI w)), some (.int (bI ap)), some (.int (nI i)), some (.int (nI (T i))), some (.int (bI m))] [] := fun m hm => by
        have one : (m = false ∨ (ap || (isLt w != isLt (T i))) = false) → XW (xrm 2 0 0) mX4_keepText (xE 100 Q X 0 0) 100 0 0 h 108 [some (.ref 11), none, some (.int (nI e)), none, none, some (.int (nI i)), some (.int (nI (T i))), none] [] := fun hz => s108 L h hK hc (by omega) (by
          unfold kpS
          rw [hm, if_neg (fun z => by rw [Bool.and_eq_true] at z; rcases hz with y | y; rw [y] at z; exact absurd z.1 (by decide); rw [y] at z; exact absurd z.2 (by decide))])
        have two : m = true → (ap || (isLt w != isLt (T i))) = true → ∃ Q1, XSpec mX0_addSign 1 0 0 100 100 [.ref (r + 1), .int 32] h Q1 xno ∧ ∀ v h9, Q1 v h9 → v = none ∧ (XW (xrm 2 0 0) mX4_keepText (xE 100 Q X 0 0) 100 0 0 h9 108 [some (.ref 11), none, some (.int (nI e)), none, none, some (.int (nI i)), some (.int (nI (T i))), none] []) := fun hz1 hz2 => by
          refine ⟨_, c_addSign hR hK (by omega) (c := 32) (by omega), ?_⟩
          rintro v h9 ⟨rfl, k1, k2⟩
          refine ⟨rfl, s108 (L ++ [32]) h9 k1 (hc.trans k2) (by rw [List.length_append]; exact Nat.le_refl _) ?_⟩
          unfold kpS
          rw [hm, hz1, hz2, if_pos (by decide), List.append_assoc]
          rfl
        refine v_X4_keepText_74 r hR.1 hR.2.1 hR.2.2 _ _ _ _ _ _ ⟨fun z => one (Or.inl (bI_0.1 z)), fun z => ⟨fun y => two (bI_n0.1 z) (by rw [bI_n0.1 y]; rfl), fun y => ⟨_, c_isLetter h _, ?_⟩⟩⟩
        have fa : ap = false := bI_0.1 y
        rintro v h2 ⟨rfl, e2⟩
        subst h2
        refine ⟨_, rfl, _, c_isLetter h _, ?_⟩
        rintro v h2 ⟨rfl, e2⟩
        subst h2
        rw [ltI_n (by omega), ltI_n (by omega)]
        refine ⟨_, rfl, fun u => one (Or.inr ?_), fun u => ⟨hR.1.2, hR.2.1.2.1, two (bI_n0.1 z) ?_⟩⟩
        · rw [fa]
          cases h3 : isLt w <;> cases h4 : isLt (T i) <;> rw [h3, h4] at u <;> first | rfl | exact absurd u (by decide)
        · rw [fa]
          cases h3 : isLt w <;> cases h4 : isLt (T i) <;> rw [h3, h4] at u <;> first | rfl | exact absurd rfl u
      refine v_X4_keepText_37 r hR.1 hR.2.1 hR.2.2 _ _ _ _ _ ⟨_, c_isLetter h _, ?_⟩
      rintro v h2 ⟨rfl, e2⟩
      subst h2
      rw [ltI_n (by omega)]
      have L2 : inWd w = true → ∃ Q1, XSpec mX4_isLetter 1 0 0 100 100 [.int (nI (T i))] h Q1 xno ∧ ∀ v h4, Q1 v h4 → ∃ r4 : Int32, v = some (.int r4) ∧ ((¬ r4 = 0 → XW (xrm 2 0 0) mX4_keepText (xE 100 Q X 0 0) 100 0 0 h4 74 [some (.ref 11), none, some (.int (nI e)), some (.int (nI w)), some (.int (bI ap)), some (.int (nI i)), some (.int (nI (T i))), some (.int 1)] []) ∧ (r4 = 0 → ∃ Q1, XSpec mX4_isDigit 1 0 0 100 100 [.int (nI (T i))] h4 Q1 xno ∧ ∀ v h5, Q1 v h5 → ∃ r5 : Int32, v = some (.int r5) ∧ ((r5 = 0 → XW (xrm 2 0 0) mX4_keepText (xE 100 Q X 0 0) 100 0 0 h5 74 [some (.ref 11), none, some (.int (nI e)), some (.int (nI w)), some (.int (bI ap)), some (.int (nI i)), some (.int (nI (T i))), some (.int 0)] []) ∧ (¬ r5 = 0 → XW (xrm 2 0 0) mX4_keepText (xE 100 Q X 0 0) 100 0 0 h5 74 [some (.ref 11), none, some (.int (nI e)), some (.int (nI w)), some (.int (bI ap)), some (.int (nI i)), some (.int (nI (T i))), some (.int 1)] [])))) := fun hw1 => by
        refine ⟨_, c_isLetter h _, ?_⟩
        rintro v h2 ⟨rfl, e2⟩
        subst h2
        rw [ltI_n (by omega)]
        refine ⟨_, rfl, fun z => s74 true ?_, fun z => ⟨_, c_isDigit h _, ?_⟩⟩
        · rw [hw1]; unfold inWd; rw [bI_n0.1 z]; rfl
        · rintro v h2 ⟨rfl, e2⟩
          subst h2
          rw [dgI_n (by omega)]
          refine ⟨_, rfl, fun y => s74 false ?_, fun y => s74 true ?_⟩
          · rw [hw1]; unfold inWd; rw [bI_0.1 z, bI_0.1 y]; rfl
          · rw [hw1]; unfold inWd; rw [bI_n0.1 y, Bool.or_true]; rfl
      refine ⟨_, rfl, fun z => L2 ?_, fun z => ⟨_, c_isDigit h _, ?_⟩⟩
      · unfold inWd; rw [bI_n0.1 z]; rfl
      · rintro v h2 ⟨rfl, e2⟩
        subst h2
        rw [dgI_n (by omega)]
        refine ⟨_, rfl, fun y => s74 false ?_, fun y => L2 ?_⟩
        · unfold inWd; rw [bI_0.1 z, bI_0.1 y]; rfl
        · unfold inWd; rw [bI_n0.1 y, Bool.or_true]
    · rw [if_pos (bI_n0.1 q)] at hres
      exact ih (i + 1) w true L h (by omega) hw hK (by omega) hc hres
theorem c_keepText {h : XH} {r n s e : Nat} {T : Nat → Nat} (hR : RD h r) (hT : TX h T n) (hse : s ≤ e) (hen : e ≤ n) (hK : KT h r []) : XSpec mX4_keepText 2 0 0 100 100 [.ref 11, .int (nI s), .int (nI e)] h (fun v h' => v = none ∧ KT h' r (kpT T (e - s) s 59 false []) ∧ Kch r h h') xno := by
  have n5 := hT.2.1
  exact XSpec.of rfl (by decide) (Nat.le_of_ble_eq_true rfl) rfl (v_X4_keepText_0 r hR.1 hR.2.1 hR.2.2 _ _ (l_kpT hR hT hen (fun h' k1 k2 => ⟨rfl, k1, k2⟩) (e - s) s 59 false [] h (by omega) (by omega) hK (by show 0 + 2 * (e - s) ≤ 1000; omega) Kch.rfl rfl))
theorem c_readGoes {h : XH} {r n s t : Nat} {T : Nat → Nat} {b : BD} (hL : LC h r T n s b t) : XSpec mX4_readGoes 80 0 0 100 100 [.ref 11] h (LO r T n h (lGoes T n s b) t) xno := by
  have hr := hL.1.1.r2
  have hsn := hL.1.2.2.1.2.2.2
  refine XSpec.of rfl (by decide) (Nat.le_of_ble_eq_true rfl) rfl (v_X4_readGoes_0 r hL.1.1.1 hL.1.1.2.1 hL.1.1.2.2 ⟨_, s_X0_begin 100 h (r + 1) hL.1.1.2.1.2.2.2.2.2.2 (by have := hL.1.1.2.2; omega), ?_⟩)
  rintro v h1 ⟨rfl, e1⟩
  have n1 : ∀ c, c ≠ r + 1 → xI h1 c = xI h c := fun c q => by rw [e1, xI_ne q]
  have p1 : xP h1 = xP h := by rw [e1]; rfl
  have f1 : xI h1 (r + 1) 0 = 1 ∧ xI h1 (r + 1) 1 = 0 ∧ xI h1 (r + 1) 3 = 0 := by
    rw [e1, xI_at]
    exact ⟨by rw [va_up_of _ _ (by decide), va_up_of _ _ (by decide), va_up_eq], by rw [va_up_of _ _ (by decide), va_up_eq], va_up_eq _ _ _⟩
  clear e1
  have hC1 : CT h1 r T n s := hL.1.o (n1 1 (by omega)) (fun j _ => by rw [n1 11 (by omega)]) p1
  have hA1 : CC h1 r [] := ⟨f1.2.2, fun k hk => absurd hk (Nat.not_lt_zero k)⟩
  have b1 : Bch r h h1 := ⟨fun c q1 q2 => n1 c (by omega), p1⟩
  have hx := c_expr (r := r) (n := n) (T := T) 6 (Nat.le_refl _) h1 s [] hC1 hA1 (Nat.zero_le _)
  refine ⟨rfl, _, hx, ?_⟩
  intro v h2 hq
  cases hz : pE T n 6 s [] with
  | inl e =>
    rw [hz] at hq
    have el : lGoes T n s b = .inl e := by unfold lGoes; rw [hz]
    rw [el]
    exact ⟨0, hq.1, fun q => absurd rfl q, fun _ => ⟨rfl, hq.2.1, hq.2.2.1, hq.2.2.2.1, b1.trans (Bch_e hq.2.2.2.2)⟩⟩
  | inr y =>
    rw [hz] at hq
    obtain ⟨hv, k2, k3, k4⟩ := hq
    obtain ⟨g1, g2, g3, -⟩ := pE_g (T := T) (n := n) 6 s [] y.1 y.2 hsn hz
    have el : lGoes T n s b = .inr (y.1, dGo b y.2 (kpT T (y.1 - s) s 59 false [])) := by unfold lGoes; rw [hz]
    rw [el]
    rw [hC1.2.2.1.1, k2.2.2.1.1]
    have hK2 : KT h2 r [] := ⟨by rw [k4.2.2.1 1 (by decide)]; exact f1.2.1, fun i hi => absurd hi (Nat.not_lt_zero i)⟩
    refine ⟨1, hv, fun _ => ⟨_, c_keepText k2.1 k2.2.1 (by omega) g2 hK2, ?_⟩, fun q => absurd q (by decide)⟩
    rintro v h3 ⟨rfl, m1, m2⟩
    have nn : ∀ c, c ≠ r + 1 → c ≠ r + 2 → c ≠ r + 3 → c ≠ 11 → xI h3 c = xI h c := fun c q1 q2 q3 q4 => (m2.1 c q1 q2).trans ((k4.1 c q4 q1 q3).trans (n1 c q1))
    have i11 : ∀ j, xI h3 11 j = xI h2 11 j := fun j => by rw [m2.1 11 (by omega) (by omega)]
    refine ⟨rfl, rfl, ⟨k2.o (m2.1 1 (by omega) (by omega)) (fun j _ => i11 j) m2.2.2, ⟨?_, ?_, ?_⟩, ?_⟩, (b1.trans (Bch_e k4)).trans ⟨fun c q1 q2 => m2.1 c (by omega) (by omega), m2.2.2⟩⟩
    · rw [nn r (by omega) (by omega) (by omega) (by omega)]
      exact hL.2.1.1
    · exact CRo.of (b := dGo b y.2 (kpT T (y.1 - s) s 59 false [])) (h := h) hL.2.1.2.1 (fun c q1 q2 => nn c (by omega) (by omega) (by omega) (by omega))
    · refine ⟨?_, fun k hk => ?_, ?_, m1.1, m1.2⟩
      · rw [m2.2.1 3 (by decide)]; exact k3.1
      · rw [m2.1 (r + 3) (by omega) (by omega)]; exact k3.2 k hk
      · rw [m2.2.1 0 (by decide), k4.2.2.1 0 (by decide)]; exact f1.1
    · rw [i11, k4.2.1 6 (by decide) (by decide) (by decide) (by decide), n1 11 (by omega)]; exact hL.2.2
