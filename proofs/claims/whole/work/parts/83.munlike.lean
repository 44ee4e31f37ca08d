/-! UNLIKE, WORN: the reference -/
theorem MI.ods {h : XH} {s : SG} (hM : MI h s) : ∀ f, 1 ≤ f → f ≤ 6 → xI h 60 (f - 1) = nI (bOd (sB s) f) := by
  obtain ⟨hM', r1, r4, r5, r6, r7, r8⟩ := hM.2.2.1.1
  exact r7
theorem m_moreOf {h : XH} {s : SG} (hM : MI h s) (hg : GoodS s) {f : Nat} (f1 : 1 ≤ f) (f2 : f ≤ 6) : XSpec mX11_moreOf 2 0 0 100 100 [.ref 56, .int (nI f)] h (xq (some (.long (tmL s f))) h) xno := by
  have ha := hg.die.all
  have ht := hg.th
  have o9 := hg.die.1 f f1 f2
  have ho := oft_le (sG s) f (gTh (sG s))
  refine XSpec.of rfl (by decide) (Nat.le_of_ble_eq_true rfl) rfl (v_X11_moreOf_0 hM.1 (nI f) ⟨_, m_oft hM hg f2, ?_⟩)
  rintro v h1 ⟨rfl, rfl⟩
  refine ⟨_, rfl, _, s_X11_allOdds _ hg.die.1 h1 hM.1 hM.ods, ?_⟩
  rintro v h2 ⟨rfl, rfl⟩
  refine ⟨_, rfl, ?_⟩
  rw [nI_p1 f1, nI_clamp (show f - 1 < 2 ^ 31 by omega), hM.ods f f1 f2, hM.gm.2.1, nI_l (by omega), nI_l (by omega), nI_l (by omega), nI_l (by omega)]
  exact ⟨hM.1 (4, 60) (by decide), vp_in_nI (by omega) (by omega), rfl, rfl⟩
theorem l_munl {h0 h : XH} {s : SG} (hM : MI h s) (hg : GoodS s) {w : Nat} (hw : w ≤ 1) {Q : Option Value → XH → Prop} {X : String → XH → Prop} (hQ : Q (some (.long (unV s w))) h) : ∀ (c i : Nat), i + c = 6 →
    XW (xrm 3 0 0) mX11_unlike (xE 100 Q X 0 0) 100 0 0 h 26 [some (.ref 56), some (.int (nI w)), some (.long (lN (sN (unT s) 1 i))), none, some (.int (nI (i + 1))), none, none, none] [] := by
  have ha := hg.die.all
  have ht := hg.th
  have hL := unL_le hg
  have hU := unU_le hg
  intro c
  induction c with
  | zero =>
    intro i hi
    have : i = 6 := by omega
    subst this
    refine v_X11_unlike_26 hM.1 (nI w) _ (nI 7) ⟨fun _ => ?_, fun c => absurd (by decide) c⟩
    have e : (2520 : Int64) = lN 2520 := rfl
    rw [hM.gm.2.1]
    refine ⟨fun c => ⟨_, s_X11_allOdds _ hg.die.1 h hM.1 hM.ods, ?_⟩, fun c => ?_⟩
    · have z : gTh (sG s) ≠ 0 := fun z => c (by rw [z]; rfl)
      rintro v h3 ⟨rfl, e3⟩
      subst e3
      refine ⟨_, rfl, ?_⟩
      rw [nI_l (by omega), nI_l (by omega), e, lN_mul, lN_mul, show 2520 * gTh (sG s) * od6 (bOd (sB s)) = unL s from rfl, show sN (unT s) 1 6 = unU s from rfl]
      have hc : XSpec mX11_common 1 0 0 100 100 [.long (lN (unL s)), .long (lN (unU s))] h3 (xq (some (.long (lN (unG s)))) h3) xno := by
        unfold unG
        rw [Nat.gcd_comm]
        exact m_gcd h3 (by omega) (by omega)
      refine ⟨_, hc, ?_⟩
      rintro v h4 ⟨rfl, e4⟩
      subst e4
      have hl0 : 0 < unL s := by
        unfold unL
        exact Nat.mul_pos (Nat.mul_pos (by omega) (by omega)) ha.1
      have hg0 : 0 < unG s := Nat.gcd_pos_of_pos_right _ hl0
      have hg1 : unG s ≤ 27216000 := Nat.le_trans (Nat.le_of_dvd (by omega) (Nat.gcd_dvd_right _ _)) hL
      unfold unV at hQ
      rw [if_neg z] at hQ
      refine ⟨_, rfl, fun c => ⟨lN_ne0 hg0 (by omega), ?_⟩, fun c => ⟨lN_ne0 hg0 (by omega), ?_⟩⟩
      · rw [if_neg (fun y => c (by rw [y]; rfl))] at hQ
        rw [pk_lDiv (a := unL s) (b := unG s) (by omega) hg0 (by omega)]
        exact hQ
      · rw [if_pos ((nI_eq (b := 0) (by omega) (by omega)).1 c)] at hQ
        rw [pk_lDiv (a := unU s) (b := unG s) (by omega) hg0 (by omega)]
        exact hQ
    · have z : gTh (sG s) = 0 := (nI_eq (b := 0) (by omega) (by omega)).1 c
      unfold unV at hQ
      rw [if_pos z] at hQ
      rw [show sN (unT s) 1 6 = unU s from rfl, unU_zero z]
      have hc : XSpec mX11_common 1 0 0 100 100 [.long 1, .long (lN 0)] h (xq (some (.long (lN 1))) h) xno := m_gcd h (a := 1) (b := 0) (by omega) (by omega)
      refine ⟨_, hc, ?_⟩
      rintro v h4 ⟨rfl, e4⟩
      subst e4
      refine ⟨_, rfl, fun c => ⟨by decide, ?_⟩, fun c => ⟨by decide, ?_⟩⟩
      · have : w = 1 := by
          have : w ≠ 0 := fun y => c (by rw [y]; rfl)
          omega
        rw [this] at hQ
        exact hQ
      · rw [(nI_eq (b := 0) (by omega) (by omega)).1 c] at hQ
        exact hQ
  | succ c ih =>
    intro i hi
    have o9 := hg.die.1 (i + 1) (by omega) (by omega)
    have hI := ih (i + 1) (by omega)
    rw [sN_last, Nat.add_comm 1 i] at hI
    have eo := hM.ods (i + 1) (by omega) (by omega)
    rw [Nat.add_sub_cancel] at eo
    have e1 : nI (i + 1) - 1 = nI i := nI_p1 (by omega)
    refine v_X11_unlike_26 hM.1 (nI w) _ (nI (i + 1)) ⟨fun c => absurd c (fun c => ?_), fun _ => ?_⟩
    · have := (nI_ltI (a := 6) (by omega) (by omega)).1 c
      omega
    rw [e1, nI_clamp (show i < 2 ^ 31 by omega), eo]
    refine ⟨vp_in_nI (by omega) (by omega), fun c => ⟨_, m_moreOf hM hg (f := i + 1) (by omega) (by omega), ?_⟩, fun c => ?_⟩
    · have z : ¬ bOd (sB s) (i + 1) = 0 := fun z => c (by rw [z]; rfl)
      rintro v h4 ⟨rfl, e4⟩
      subst e4
      refine ⟨_, rfl, _, m_moreOf hM hg (f := i + 1) (by omega) (by omega), ?_⟩
      rintro v h4 ⟨rfl, e4⟩
      subst e4
      rw [eo]
      refine ⟨_, rfl, hM.1 (4, 60) (by decide), vp_in_nI (by omega) (by omega), c, ?_⟩
      have e5 : (2520 : Int32) / nI (bOd (sB s) (i + 1)) = nI (2520 / bOd (sB s) (i + 1)) := pk_div (a := 2520) (by omega) (by omega) (by omega)
      have h6 : 2520 / bOd (sB s) (i + 1) ≤ 2520 := Nat.div_le_self _ _
      rw [tmL_sq, e5, nI_l (by omega), lN_mul, lN_add, nI_1]
      unfold unT at hI
      rw [if_neg z] at hI
      exact hI
    · have z : bOd (sB s) (i + 1) = 0 := (nI_eq (b := 0) (by omega) (by omega)).1 c
      unfold unT at hI
      rw [if_pos z] at hI
      rw [nI_1, Int64.add_zero]; exact hI
theorem s_X11_unlike {h : XH} {s : SG} (hM : MI h s) (hg : GoodS s) (w : Int32) : XSpec mX11_unlike 3 0 0 100 100 [.ref 56, .int w] h (mEndL h s (kd1 (inR w 0 1)) (fun z => z = unV s w.toNatClampNeg)) xno := by
  obtain ⟨hM0, hm0, e0⟩ := m_code hM 0
  have e1 : (1 : Int32).toInt = 1 := by decide
  refine XSpec.of rfl (by decide) (Nat.le_of_ble_eq_true rfl) rfl (v_X11_unlike_0 hM.1 w ⟨fun c => m_failL hM0 hm0 1 (kd1_f (inR_f.2 ?_)) (by decide) 1 rfl, fun c => ⟨fun c2 => ?_, fun c2 => m_failL hM0 hm0 1 (kd1_f (inR_f.2 ?_)) (by decide) 1 rfl⟩⟩)
  · rw [i32_lt0] at c; omega
  · rw [i32_lt0] at c
    rw [i32_le, e1] at c2
    have hw : inR w 0 1 = true := inR_t.2 (by omega)
    have hk := kd1_t hw
    obtain ⟨w, hw', rfl⟩ := inR_nI (n := 1) hw
    rw [nI_clamp (show w < 2 ^ 31 by omega), hk]
    exact l_munl (h0 := h) hM0 hg hw' ⟨_, rfl, fun _ => rfl, e0, hM0, hm0⟩ 6 0 rfl
  · rw [i32_le, e1] at c2; omega
theorem l_mworn {h : XH} {s : SG} (hM : MI h s) (hg : GoodS s) {Q : Option Value → XH → Prop} {X : String → XH → Prop} : ∀ (c x cur : Nat), x + c = 7 → 1 ≤ x → 1 ≤ cur → cur ≤ 6 → Q (some (.int (nI (wrn s c x cur)))) h →
    XW (xrm 3 0 0) mX11_worn (xE 100 Q X 0 0) 100 0 0 h 18 [some (.ref 56), some (.int (nI cur)), some (.int (nI x))] [] := by
  intro c
  induction c with
  | zero =>
    intro x cur hx x1 c1 c2 hQ
    have : x = 7 := by omega
    subst this
    exact v_X11_worn_18 hM.1 (nI cur) (nI 7) ⟨fun _ => hQ, fun c => absurd (by decide) c⟩
  | succ c ih =>
    intro x cur hx x1 c1 c2 hQ
    refine v_X11_worn_18 hM.1 (nI cur) (nI x) ⟨fun c => absurd c (fun c => ?_), fun _ => ⟨_, m_moreOf hM hg (f := x) x1 (by omega), ?_⟩⟩
    · have := (nI_ltI (a := 6) (by omega) (by omega)).1 c
      omega
    rintro v h1 ⟨rfl, rfl⟩
    refine ⟨_, rfl, _, m_moreOf hM hg (f := cur) c1 c2, ?_⟩
    rintro v h2 ⟨rfl, rfl⟩
    unfold wrn at hQ
    rw [nI_1]
    refine ⟨_, rfl, fun c => ?_, fun c => ?_⟩
    · rw [if_pos c] at hQ
      exact ih (x + 1) cur (by omega) (by omega) c1 c2 hQ
    · rw [if_neg c] at hQ
      exact ih (x + 1) x (by omega) (by omega) (by omega) (by omega) hQ
theorem s_X11_worn {h : XH} {s : SG} (hM : MI h s) (hg : GoodS s) : XSpec mX11_worn 3 0 0 100 100 [.ref 56] h (fun v h' => v = some (.int (wrA s)) ∧ xI h' 56 2 = 0 ∧ MI h' s ∧ mch h h') xno := by
  have ht := hg.th
  obtain ⟨hM0, hm0, e0⟩ := m_code hM 0
  refine XSpec.of rfl (by decide) (Nat.le_of_ble_eq_true rfl) rfl (v_X11_worn_0 hM.1 ?_)
  rw [va_up_of _ _ (by decide), hM.gm.2.1]
  unfold wrA
  refine ⟨fun c => l_mworn hM0 hg 5 2 1 rfl (by omega) (by omega) (by omega) ?_, fun c => ?_⟩
  · rw [if_neg (fun y => c (by rw [y]; rfl))]
    exact ⟨rfl, e0, hM0, hm0⟩
  · rw [if_pos ((nI_eq (b := 0) (by omega) (by omega)).1 c)]
    exact ⟨rfl, e0, hM0, hm0⟩
