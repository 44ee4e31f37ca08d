/-! HOPES OF ONE: the class -/
theorem s_X1_at (h : XH) (y z : Nat) (hh : xHop y z (xP h)) (i : Int32) : XSpec mX1_at 1 0 0 100 100 [.ref 49, .int i] h (xq (some (.long (rd (xL h y) 861 0 i))) h) xno := by
  refine XSpec.of rfl (by decide) (Nat.le_of_ble_eq_true rfl) rfl (v_X1_at_0 100 y z hh (by omega) i ?_)
  refine ⟨fun c => ⟨?_, rfl⟩, fun c => ⟨fun c2 => ⟨?_, rfl⟩, fun c2 => ⟨vp_of c c2 rfl, ?_, rfl⟩⟩⟩
  · simp only [rd, if_pos c]
  · simp only [rd, if_neg c, if_pos c2]
  · simp only [rd, if_neg c, if_neg c2]
theorem s_X1_putNext (h : XH) (y z : Nat) (hh : xHop y z (xP h)) (i : Int32) (v : Int64) : XSpec mX1_putNext 1 0 0 100 100 [.ref 49, .int i, .long v] h (xq none (xSL z (wr (xL h z) 861 i v) h)) xno := by
  refine XSpec.of rfl (by decide) (Nat.le_of_ble_eq_true rfl) rfl (v_X1_putNext_0 100 y z hh (by omega) i v ?_)
  refine ⟨fun c => ⟨rfl, ?_⟩, fun c => ⟨fun c2 => ⟨rfl, ?_⟩, fun c2 => ⟨vp_of c c2 rfl, rfl, ?_⟩⟩⟩
  · simp only [wr, if_pos c, xSL_self]
  · simp only [wr, if_neg c, if_pos c2, xSL_self]
  · simp only [wr, if_neg c, if_neg c2]
theorem s_X1_swap (h : XH) (y z : Nat) (hh : xHop y z (xP h)) : XSpec mX1_swap 1 0 0 100 100 [.ref 49] h (fun v h' => v = none ∧ xHop z y (xP h') ∧ (∀ c, xI h' c = xI h c ∧ xL h' c = xL h c) ∧ (∀ c, c ≠ 49 → xP h' c = xP h c)) xno := by
  refine XSpec.of rfl (by decide) (Nat.le_of_ble_eq_true rfl) rfl (v_X1_swap_0 100 y z hh (by omega) ⟨rfl, ⟨hh.1.elim (fun q => Or.inr ⟨q.2, q.1⟩) (fun q => Or.inl ⟨q.2, q.1⟩), ?_, ?_⟩, fun c => ⟨rfl, rfl⟩, fun c hc => ?_⟩)
  · simp [xSP, xP, va_up]
  · simp [xSP, xP, va_up]
  · simp [xSP, xP, va_up, hc]
theorem csc.hop {r : Nat} {h h' : XH} (hI : ∀ c, xI h' c = xI h c) (hP : ∀ c, c ≠ 49 → xP h' c = xP h c) (hh : ∃ y z, xHop y z (xP h')) : csc r h h' := by
  refine ⟨fun c _ _ => hI c, fun j _ => by rw [hI], fun k => ?_, fun c q => hP c (fun z => q (by unfold SC; omega))⟩
  obtain ⟨h1, h2, h3, h4, h5, h6, h7, h8, h9, h10, r2, h11, h12, h13⟩ := k
  have q := h13.1
  refine ⟨?_, ?_, ?_, ?_, ?_, ?_, ?_, hh, ?_, ?_, r2, h11, ?_, h13.pc (hP _ (by omega)) (hP _ (by omega))⟩
  · unfold xBrd at *; rw [hP 0 (by omega)]; exact h1
  · unfold xPth at *; rw [hP 25 (by omega)]; exact h2
  · unfold xSta at *; rw [hP 29 (by omega)]; exact h3
  · unfold xSta at *; rw [hP 34 (by omega)]; exact h4
  · unfold xWay at *; rw [hP 39 (by omega)]; exact h5
  · obtain ⟨y, z, k⟩ := h6; refine ⟨y, z, ?_⟩; unfold xSnd at *; rw [hP 43 (by omega)]; exact k
  · obtain ⟨y, z, k⟩ := h7; refine ⟨y, z, ?_⟩; unfold xSnd at *; rw [hP 46 (by omega)]; exact k
  · obtain ⟨na, nb, k⟩ := h9; refine ⟨na, nb, ?_⟩; unfold xNot at *; rw [hP 52 (by omega)]; exact k
  · exact h10
  · unfold xRdr at *; rw [hP 11 (by omega)]; exact h12
theorem xHop.ne {y z : Nat} {P : Nat → Nat → Option Nat} (hh : xHop y z P) : y ≠ z ∧ 50 ≤ y ∧ y ≤ 51 ∧ 50 ≤ z ∧ z ≤ 51 := by
  rcases hh.1 with ⟨e1, e2⟩ | ⟨e1, e2⟩ <;> omega
theorem xfr.hop {h h' : XH} {y z : Nat} (hh : xHop y z (xP h)) (hf : xfr 50 52 h h') : xHop y z (xP h') := by
  unfold xHop at *
  rw [(hf 49 (by omega)).2.2]; exact hh
theorem hopL {h : XH} {r : Nat} {s : SG} (hC : CI h r s) {y z : Nat} (hh : xHop y z (xP h)) {F : Nat → Int64} (c : Nat) : CI (xSL c F h) r s ∧ cch h (xSL c F h) := by
  have hs : csc r h (xSL c F h) := csc.hop (fun _ => rfl) (fun _ _ => rfl) ⟨y, z, hh⟩
  exact ⟨hC.csc hs, hs.cch hC.r⟩
theorem c_odds {h : XH} {r : Nat} {s : SG} (hC : CI h r s) {f : Nat} (f1 : 1 ≤ f) (f2 : f ≤ 6) : XSpec mX5_oddsOf 1 0 0 100 100 [.ref r, .int (nI f)] h (xq (some (.int (nI (bOd (sB s) f)))) h) xno := by
  have e := s_X5_oddsOf 100 h r hC.rul hC.nr (nI f)
  rw [(geo_od hC.geo f1 f2).1] at e
  exact e
theorem c_to {h : XH} {r : Nat} {s : SG} (hC : CI h r s) {q f : Nat} (hq : q ≤ bLast (sB s)) (f2 : f ≤ 6) : XSpec mX3_to 1 0 0 100 100 [.ref 21, .int (nI q), .int (nI f)] h (xq (some (.int (nI (bT (sB s) q f)))) h) xno := by
  have e := s_X3_to 100 h 21 hC.geo.2.1 (by omega) (nI q) (nI f)
  rw [(geo_to hC.geo hq f2).1] at e
  exact e
theorem c_at {h : XH} {y z q v : Nat} (hh : xHop y z (xP h)) (hq : q < 861) (hv : xL h y q = lN v) : XSpec mX1_at 1 0 0 100 100 [.ref 49, .int (nI q)] h (xq (some (.long (lN v))) h) xno := by
  have e := s_X1_at h y z hh (nI q)
  rw [iz_rd (M := 861) rfl hq, hv] at e
  exact e
theorem l_two2 {r : Nat} {s : SG} (hg : GoodS s) {h : XH} (hC : CI h r s) {y z : Nat} (hh : xHop y z (xP h)) {p : Nat → Nat} {q : Nat} (hq : q ≤ bLast (sB s)) (hv : ∀ j, j ≤ bLast (sB s) → xL h y j = lN (p j)) (hb : ∀ j, p j ≤ 100000000000) {f : Nat} (f1 : 1 ≤ f) (f2 : f ≤ 6) {Q : Option Value → XH → Prop} {X : String → XH → Prop} : ∀ (k x A : Nat), x + k = 7 → 1 ≤ x →
    XW (xrm 2 0 0) mX1_sumOfTwo (xE 100 Q X 0 0) 100 0 0 h 6 [some (.ref 49), some (.ref r), some (.ref 21), some (.int (nI q)), some (.long (lN (A + c2T (bOd (sB s)) (fun g => p (bT (sB s) q g)) f x k))), none, some (.int (nI (f + 1))), none, none, none, none, none, none, none] [] →
    XW (xrm 2 0 0) mX1_sumOfTwo (xE 100 Q X 0 0) 100 0 0 h 64 [some (.ref 49), some (.ref r), some (.ref 21), some (.int (nI q)), some (.long (lN A)), none, some (.int (nI f)), some (.long (lN (bOd (sB s) f))), none, some (.long (lN (p (bT (sB s) q f)))), none, some (.int (nI x)), none, none] [] := by
  have hl := hg.l
  intro k
  induction k with
  | zero =>
    intro x A hx x1 hQ
    refine v_X1_sumOfTwo_64 100 y z hh (by omega) r hC.rul hC.nr 21 hC.geo.2.1 (by omega) _ _ _ _ _ (nI x) ⟨fun _ => ?_, fun c => absurd (nI_lt (a := 6) (by omega) (by omega)) c⟩
    rw [nI_1]
    exact hQ
  | succ k ih =>
    intro x A hx x1 hQ
    have ht := hg.tl q hq x (by omega)
    have o9 := hg.die.1 x x1 (by omega)
    refine v_X1_sumOfTwo_64 100 y z hh (by omega) r hC.rul hC.nr 21 hC.geo.2.1 (by omega) _ _ _ _ _ (nI x) ⟨fun c => absurd c (nI_nlt (a := 6) (by omega) (by omega)), fun _ => ⟨_, c_to hC hq (by omega), ?_⟩⟩
    rintro v h1 ⟨rfl, rfl⟩
    refine ⟨_, rfl, _, c_at hh (by omega) (hv _ ht), ?_⟩
    rintro v h2 ⟨rfl, rfl⟩
    refine ⟨_, rfl, _, c_odds hC x1 (by omega), ?_⟩
    rintro v h3 ⟨rfl, rfl⟩
    refine ⟨_, rfl, ?_⟩
    have b1 := hb (bT (sB s) q x)
    have b2 := hb (bT (sB s) q f)
    have e2 : (2 : Int64) = lN 2 := rfl
    rw [lN_min (by omega) (by omega), nI_l (by omega), e2, lN_mul, lN_mul, lN_mul, lN_add, nI_1]
    refine ih (x + 1) _ (by omega) (by omega) ?_
    unfold c2T at hQ ⊢
    rw [sN, ← Nat.add_assoc] at hQ
    exact hQ
theorem l_two1 {r : Nat} {s : SG} (hg : GoodS s) {h : XH} (hC : CI h r s) {y z : Nat} (hh : xHop y z (xP h)) {p : Nat → Nat} {q : Nat} (hq : q ≤ bLast (sB s)) (hv : ∀ j, j ≤ bLast (sB s) → xL h y j = lN (p j)) (hb : ∀ j, p j ≤ 100000000000) {Q : Option Value → XH → Prop} {X : String → XH → Prop} (hQ : Q (some (.long (lN (S2 (bOd (sB s)) (fun g => p (bT (sB s) q g)))))) h) : ∀ (k f : Nat), f + k = 6 →
    XW (xrm 2 0 0) mX1_sumOfTwo (xE 100 Q X 0 0) 100 0 0 h 6 [some (.ref 49), some (.ref r), some (.ref 21), some (.int (nI q)), some (.long (lN (c2S (bOd (sB s)) (fun g => p (bT (sB s) q g)) f))), none, some (.int (nI (f + 1))), none, none, none, none, none, none, none] [] := by
  have hl := hg.l
  intro k
  induction k with
  | zero =>
    intro f hf
    have : f = 6 := by omega
    subst this
    refine v_X1_sumOfTwo_6 100 y z hh (by omega) r hC.rul hC.nr 21 hC.geo.2.1 (by omega) _ _ (nI 7) ⟨fun _ => ?_, fun c => absurd (by decide) c⟩
    rw [S2_c]; exact hQ
  | succ k ih =>
    intro f hf
    have ht := hg.tl q hq (f + 1) (by omega)
    have o9 := hg.die.1 (f + 1) (by omega) (by omega)
    refine v_X1_sumOfTwo_6 100 y z hh (by omega) r hC.rul hC.nr 21 hC.geo.2.1 (by omega) _ _ (nI (f + 1)) ⟨fun c => absurd c (nI_nlt (a := 6) (by omega) (by omega)), fun _ => ⟨_, c_odds hC (by omega) (by omega), ?_⟩⟩
    rintro v h1 ⟨rfl, rfl⟩
    refine ⟨_, rfl, ?_⟩
    have e0 : (0 : Int64) = lN 0 := rfl
    have es : ∀ t, c2S (bOd (sB s)) t (f + 1) = c2S (bOd (sB s)) t f + (bOd (sB s) (f + 1) * bOd (sB s) (f + 1) * t (f + 1) + c2T (bOd (sB s)) t (f + 1) (f + 1 + 1) (6 - (f + 1))) := fun t => by
      unfold c2S; rw [sN_last, Nat.add_comm 1 f]
    rw [lg_cmp_eq, nI_l (by omega), e0, lN_eq (by omega) (by omega)]
    refine ⟨fun c => ⟨_, c_to hC hq (by omega), ?_⟩, fun c => ?_⟩
    · rintro v h2 ⟨rfl, rfl⟩
      refine ⟨_, rfl, _, c_at hh (by omega) (hv _ ht), ?_⟩
      rintro v h3 ⟨rfl, rfl⟩
      refine ⟨_, rfl, ?_⟩
      rw [lN_mul, lN_mul, lN_add, nI_1]
      refine l_two2 hg hC hh hq hv hb (by omega) (by omega) (6 - (f + 1)) (f + 1 + 1) _ (by omega) (by omega) ?_
      have := ih (f + 1) (by omega)
      rw [es, ← Nat.add_assoc] at this
      exact this
    · have := ih (f + 1) (by omega)
      have z : ∀ t, c2T (bOd (sB s)) t (f + 1) (f + 1 + 1) (6 - (f + 1)) = 0 := fun t => by
        unfold c2T; exact sN_0 _ _ (fun g _ _ => by rw [c]; simp)
      rw [es, z, c] at this
      simp only [Nat.zero_mul, Nat.add_zero] at this
      rw [nI_1]
      exact this
theorem s_sumOfTwo {r : Nat} {s : SG} (hg : GoodS s) {h : XH} (hC : CI h r s) {y z : Nat} (hh : xHop y z (xP h)) {p : Nat → Nat} {q : Nat} (hq : q ≤ bLast (sB s)) (hv : ∀ j, j ≤ bLast (sB s) → xL h y j = lN (p j)) (hb : ∀ j, p j ≤ 100000000000) : XSpec mX1_sumOfTwo 2 0 0 100 100 [.ref 49, .ref r, .ref 21, .int (nI q)] h (xq (some (.long (lN (S2 (bOd (sB s)) (fun g => p (bT (sB s) q g)))))) h) xno :=
  XSpec.of rfl (by decide) (Nat.le_of_ble_eq_true rfl) rfl (v_X1_sumOfTwo_0 100 y z hh (by omega) r hC.rul hC.nr 21 hC.geo.2.1 (by omega) (nI q) (l_two1 hg hC hh hq hv hb ⟨rfl, rfl⟩ 6 0 (by omega)))
theorem l_aheadIn {r : Nat} {s : SG} (hg : GoodS s) {m i : Nat} (hm : m ≤ 100) (hi : i < m) (h0 : XH) {y z : Nat} {Q : Option Value → XH → Prop} {X : String → XH → Prop} : ∀ (k x : Nat) (h : XH), x + k = bLast (sB s) → CI h r s → cch h0 h → xHop y z (xP h) → (∀ j, j ≤ bLast (sB s) → xL h y j = lN (hA (sB s) i j)) → (∀ j, j < x → xL h z j = lN (hA (sB s) (i + 1) j)) →
    (∀ h', CI h' r s → cch h0 h' → xHop z y (xP h') → (∀ j, j ≤ bLast (sB s) → xL h' z j = lN (hA (sB s) (i + 1) j)) → XW (xrm 3 0 0) mX1_lookAhead (xE 100 Q X 0 0) 100 0 0 h' 32 [some (.ref 49), some (.ref r), some (.ref 21), some (.int (nI m)), some (.long (lN (od6 (bOd (sB s)) * od6 (bOd (sB s))))), none, some (.int (nI (i + 1))), none] []) →
    XW (xrm 3 0 0) mX1_lookAhead (xE 100 Q X 0 0) 100 0 0 h 41 [some (.ref 49), some (.ref r), some (.ref 21), some (.int (nI m)), some (.long (lN (od6 (bOd (sB s)) * od6 (bOd (sB s))))), none, some (.int (nI i)), some (.int (nI x))] [] := by
  have hl := hg.l
  have ha := hg.die.all
  have h54 : od6 (bOd (sB s)) * od6 (bOd (sB s)) ≤ 54 * 54 := Nat.mul_le_mul ha.2 ha.2
  have hp : 0 < od6 (bOd (sB s)) * od6 (bOd (sB s)) := Nat.mul_pos ha.1 ha.1
  intro k
  induction k with
  | zero =>
    intro x h hx hC hc hh hv hz hQ
    have hn := hh.ne
    have : x = bLast (sB s) := by omega
    subst this
    refine v_X1_lookAhead_41 100 y z hh (by omega) r hC.rul hC.nr 21 hC.geo.2.1 (by omega) _ _ _ (nI _) ⟨fun _ => ?_, fun c => absurd ?_ c⟩
    · rw [hC.last]
      refine ⟨_, s_X1_putNext h y z hh _ _, ?_⟩
      rintro v h1 ⟨rfl, rfl⟩
      rw [iz_wr (M := 861) rfl (by omega)]
      obtain ⟨hC1, hc1⟩ := hopL hC hh (F := va_up (xL h z) (bLast (sB s)) 0) z
      have hh1 : xHop y z (xP (xSL z (va_up (xL h z) (bLast (sB s)) 0) h)) := hh
      refine ⟨rfl, _, s_X1_swap _ y z hh1, ?_⟩
      rintro v h2 ⟨rfl, hs, q1, q2⟩
      have hs2 : csc r _ h2 := csc.hop (fun c => (q1 c).1) q2 ⟨z, y, hs⟩
      refine ⟨rfl, ?_⟩
      rw [nI_1]
      refine hQ h2 (hC1.csc hs2) ((hc.trans hc1).trans (hs2.cch hC.r)) hs (fun j hj => ?_)
      rw [(q1 z).2, xL_at]
      by_cases e : j = bLast (sB s)
      · rw [e, va_up_eq, hA_last]; rfl
      · rw [va_up_of _ _ e]; exact hz j (by omega)
    · rw [hC.last]; exact nI_le (Nat.le_refl _) (by omega)
  | succ k ih =>
    intro x h hx hC hc hh hv hz hQ
    have hn := hh.ne
    refine v_X1_lookAhead_41 100 y z hh (by omega) r hC.rul hC.nr 21 hC.geo.2.1 (by omega) _ _ _ (nI _) ⟨fun c => absurd c ?_, fun _ => ⟨_, s_sumOfTwo hg hC hh (q := x) (by omega) hv (fun j => by have := hA_le hg i j; omega), ?_⟩⟩
    · rw [hC.last]; exact nI_ge (by omega) (by omega)
    rintro v h1 ⟨rfl, rfl⟩
    have hS := S2_le (od := bOd (sB s)) (p := fun f => hA (sB s) i (bT (sB s) x f)) (M := i * 1000000000) (fun f _ _ => hA_le hg _ _)
    have hS2 : S2 (bOd (sB s)) (fun f => hA (sB s) i (bT (sB s) x f)) < 2 ^ 63 := by
      have := Nat.mul_le_mul h54 (show i * 1000000000 ≤ 100000000000 by omega)
      omega
    have e0 : (0 : Int64) = lN 0 := rfl
    have e9 : (1000000000 : Int64) = lN 1000000000 := rfl
    have ev : (1000000000 : Int64) + lN (S2 (bOd (sB s)) (fun f => hA (sB s) i (bT (sB s) x f))) / lN (od6 (bOd (sB s)) * od6 (bOd (sB s))) = lN (hA (sB s) (i + 1) x) := by
      rw [e9, pk_lDiv hS2 hp (by omega), lN_add]
      show _ = lN (if x = bLast (sB s) then 0 else _)
      rw [if_neg (by omega)]
    refine ⟨_, rfl, ?_, ?_⟩
    · intro q
      rw [e0, lN_eq (by omega) (by omega)] at q
      omega
    rw [ev]
    refine ⟨_, s_X1_putNext h1 y z hh _ _, ?_⟩
    rintro v h2 ⟨rfl, e2⟩
    rw [iz_wr (M := 861) rfl (by omega)] at e2
    subst e2
    obtain ⟨hC1, hc1⟩ := hopL hC hh (F := va_up (xL h1 z) x (lN (hA (sB s) (i + 1) x))) z
    refine ⟨rfl, ?_⟩
    rw [nI_1]
    refine ih (x + 1) _ (by omega) hC1 (hc.trans hc1) hh (fun j hj => ?_) (fun j hj => ?_) hQ
    · rw [xL_ne hn.1]; exact hv j hj
    · rw [xL_at]
      by_cases e : j = x
      · rw [e, va_up_eq]
      · rw [va_up_of _ _ e]; exact hz j (by omega)
def HopA (h : XH) (b : BD) (k : Nat) : Prop := ∃ y z, xHop y z (xP h) ∧ ∀ j, j ≤ bLast b → xL h y j = lN (hA b k j)
theorem l_ahead {r : Nat} {s : SG} (hg : GoodS s) {m : Nat} (hm : m ≤ 100) (h0 : XH) {Q : Option Value → XH → Prop} {X : String → XH → Prop} (hQ : ∀ h', CI h' r s → cch h0 h' → HopA h' (sB s) m → Q none h') : ∀ (k i : Nat) (h : XH), i + k = m → CI h r s → cch h0 h → HopA h (sB s) i →
    XW (xrm 3 0 0) mX1_lookAhead (xE 100 Q X 0 0) 100 0 0 h 32 [some (.ref 49), some (.ref r), some (.ref 21), some (.int (nI m)), some (.long (lN (od6 (bOd (sB s)) * od6 (bOd (sB s))))), none, some (.int (nI i)), none] [] := by
  intro k
  induction k with
  | zero =>
    intro i h hi hC hc hH
    obtain ⟨y, z, hh, hv⟩ := id hH
    have : i = m := by omega
    subst this
    exact v_X1_lookAhead_32 100 y z hh (by omega) r hC.rul hC.nr 21 hC.geo.2.1 (by omega) _ _ (nI i) ⟨fun _ => hQ h hC hc hH, fun c => absurd (nI_le (Nat.le_refl _) (by omega)) c⟩
  | succ k ih =>
    intro i h hi hC hc hH
    obtain ⟨y, z, hh, hv⟩ := hH
    exact v_X1_lookAhead_32 100 y z hh (by omega) r hC.rul hC.nr 21 hC.geo.2.1 (by omega) _ _ (nI i) ⟨fun c => absurd c (nI_ge (by omega) (by omega)), fun _ => l_aheadIn hg hm (by omega) h0 (bLast (sB s)) 0 h (by omega) hC hc hh hv (fun j hj => by omega) (fun h' k1 k2 k3 k4 => ih (i + 1) h' (by omega) k1 k2 ⟨z, y, k3, k4⟩)⟩
theorem CI.all {h : XH} {r : Nat} {s : SG} (hC : CI h r s) : xI h r 1 = nI (od6 (bOd (sB s))) := hC.geo.2.2.2.1
theorem CI.hop {h : XH} {r : Nat} {s : SG} (hC : CI h r s) : ∃ y z, xHop y z (xP h) := hC.1.2.2.2.2.2.2.2.1
theorem s_lookAhead {h : XH} {r : Nat} {s : SG} (hC : CI h r s) (hg : GoodS s) {m : Nat} (hm : m ≤ 100) : XSpec mX1_lookAhead 3 0 0 100 100 [.ref 49, .ref r, .ref 21, .int (nI m)] h (fun v h' => v = none ∧ CI h' r s ∧ cch h h' ∧ HopA h' (sB s) m) xno := by
  have hl := hg.l
  have ha := hg.die.all
  have h54 : od6 (bOd (sB s)) * od6 (bOd (sB s)) ≤ 54 * 54 := Nat.mul_le_mul ha.2 ha.2
  have hp : 0 < od6 (bOd (sB s)) * od6 (bOd (sB s)) := Nat.mul_pos ha.1 ha.1
  obtain ⟨y, z, hh⟩ := hC.hop
  refine XSpec.of rfl (by decide) (Nat.le_of_ble_eq_true rfl) rfl (v_X1_lookAhead_0 100 y z hh (by omega) r hC.rul hC.nr 21 hC.geo.2.1 (by omega) (nI m) ?_)
  have e0 : (0 : Int64) = lN 0 := rfl
  rw [hC.all, nI_l (by omega), lN_mul, lg_cmp_gt]
  obtain ⟨hC1, hc1⟩ := hopL hC hh (F := fl 861 0 (xL h y)) y
  refine ⟨fun _ => l_ahead hg hm h (fun h' k1 k2 k3 => ⟨rfl, k1, k2, k3⟩) m 0 _ (by omega) hC1 hc1 ⟨y, z, hh, fun j hj => ?_⟩, fun c => absurd ?_ c⟩
  · rw [xL_at]; unfold fl; rw [if_pos (by omega)]; rfl
  · rw [e0, lN_lt (by omega) (by omega)]; exact hp
def ahA (b : BD) (q n : Nat) : Int64 := lN (hA b n q)
theorem s_X10_ahead {h : XH} {r : Nat} {s : SG} (hC : CI h r s) (hg : GoodS s) (q n : Int32) : XSpec mX10_ahead 8 2 12 100 100 [.ref 0, .int q, .int n] h (cEndL h r s (kd2 (inR q 0 (bLast (sB s))) (inR n 0 100)) (fun z => z = ahA (sB s) q.toNatClampNeg n.toNatClampNeg)) (cThr h (kd2 (inR q 0 (bLast (sB s))) (inR n 0 100)) eN eA) := by
  have hl := hg.l
  refine XSpec.of rfl (by decide) (Nat.le_of_ble_eq_true rfl) rfl (v_X10_ahead_0 r hC.bp q n ⟨_, _, s_needSquare hC hl.2.1 q, fun E9 h9 z => ⟨z.1, Or.inl ⟨kd2_1 z.2.2, z.2.1⟩⟩, ?_⟩)
  rintro v h1 ⟨rfl, rfl, hq⟩
  refine ⟨rfl, _, _, s_needToCome hC n 0 0 (by decide), fun E9 h9 z => ⟨z.1, Or.inr ⟨kd2_2 hq z.2.2, z.2.1⟩⟩, ?_⟩
  rintro v h2 ⟨rfl, rfl, hn⟩
  have hk := kd2_t hq (show inR n 0 100 = true from hn)
  obtain ⟨q, hq', rfl⟩ := inR_nI hq
  obtain ⟨n, hn', rfl⟩ := inR_nI (n := 100) hn
  rw [nI_clamp (show q < 2 ^ 31 by omega), nI_clamp (show n < 2 ^ 31 by omega)]
  refine ⟨rfl, hC.p13, hC.p3, hC.p5, _, s_lookAhead hC hg hn', ?_⟩
  rintro v h3 ⟨rfl, hC3, hc3, y, z, hh, hv⟩
  refine ⟨rfl, hC3.p13, _, c_at hh (by omega) (hv q hq'), ?_⟩
  rintro v h4 ⟨rfl, rfl⟩
  exact ⟨_, rfl, hk, _, rfl, rfl, hC3, hc3⟩
def chA (b : BD) (q o t n : Nat) : Int32 := if hA b (n - 1) (bT b q t) < hA b (n - 1) (bT b q o) then nI t else nI o
theorem s_X10_choose {h : XH} {r : Nat} {s : SG} (hC : CI h r s) (hg : GoodS s) (q o t n : Int32) : XSpec mX10_choose 8 4 24 100 100 [.ref 0, .int q, .int o, .int t, .int n] h (cEndI h r s (kd2 (inR q 0 (bLast (sB s)) && inR o 1 6 && inR t 1 6) (inR n 1 100)) (fun z => z = chA (sB s) q.toNatClampNeg o.toNatClampNeg t.toNatClampNeg n.toNatClampNeg)) (cThr h (kd2 (inR q 0 (bLast (sB s)) && inR o 1 6 && inR t 1 6) (inR n 1 100)) eN eA) := by
  have hl := hg.l
  refine XSpec.of rfl (by decide) (Nat.le_of_ble_eq_true rfl) rfl (v_X10_choose_0 r hC.bp q o t n ⟨_, _, s_needSquare hC hl.2.1 q, fun E9 h9 z => ⟨z.1, Or.inl ⟨kd2_1 (by rw [z.2.2]; rfl), z.2.1⟩⟩, ?_⟩)
  rintro v h1 ⟨rfl, rfl, hq⟩
  refine ⟨rfl, _, _, s_needFace hC o, fun E9 h9 z => ⟨z.1, Or.inl ⟨kd2_1 (by rw [hq, z.2.2]; rfl), z.2.1⟩⟩, ?_⟩
  rintro v h2 ⟨rfl, rfl, ho⟩
  refine ⟨rfl, _, _, s_needFace hC t, fun E9 h9 z => ⟨z.1, Or.inl ⟨kd2_1 (by rw [hq, ho]; exact z.2.2), z.2.1⟩⟩, ?_⟩
  rintro v h3 ⟨rfl, rfl, ht⟩
  have hqot : (inR q 0 (bLast (sB s)) && inR o 1 6 && inR t 1 6) = true := by rw [hq, ho]; exact ht
  refine ⟨rfl, _, _, s_needToCome hC n 1 1 (by decide), fun E9 h9 z => ⟨z.1, Or.inr ⟨kd2_2 hqot z.2.2, z.2.1⟩⟩, ?_⟩
  rintro v h4 ⟨rfl, rfl, hn⟩
  have hk := kd2_t hqot (show inR n 1 100 = true from hn)
  obtain ⟨q, hq', rfl⟩ := inR_nI hq
  obtain ⟨o, o1, o2, rfl⟩ := inR_1 (n := 6) ho
  obtain ⟨t, t1, t2, rfl⟩ := inR_1 (n := 6) ht
  obtain ⟨n, n1, n2, rfl⟩ := inR_1 (n := 100) hn
  have en : nI n - 1 = nI (n - 1) := pk_sub (b := 1) n1
  rw [nI_clamp (show q < 2 ^ 31 by omega), nI_clamp (show n < 2 ^ 31 by omega), nI_clamp (show o < 2 ^ 31 by omega), nI_clamp (show t < 2 ^ 31 by omega), en]
  refine ⟨rfl, hC.p13, hC.p3, hC.p5, _, s_lookAhead hC hg (show n - 1 ≤ 100 by omega), ?_⟩
  rintro v h5 ⟨rfl, hC5, hc5, y, z, hh, hv⟩
  have tt := hg.tl q hq' t t2
  have to := hg.tl q hq' o o2
  refine ⟨rfl, hC5.p13, hC5.p5, _, c_to hC5 hq' t2, ?_⟩
  rintro v h6 ⟨rfl, rfl⟩
  refine ⟨_, rfl, _, c_at hh (by omega) (hv _ tt), ?_⟩
  rintro v h7 ⟨rfl, rfl⟩
  refine ⟨_, rfl, hC5.p13, hC5.p5, _, c_to hC5 hq' o2, ?_⟩
  rintro v h8 ⟨rfl, rfl⟩
  refine ⟨_, rfl, _, c_at hh (by omega) (hv _ to), ?_⟩
  rintro v h9 ⟨rfl, rfl⟩
  refine ⟨_, rfl, ?_⟩
  have b1 := hA_le hg (n - 1) (bT (sB s) q t)
  have b2 := hA_le hg (n - 1) (bT (sB s) q o)
  rw [lg_cmp_ge, pk_lLE (by omega) (by omega)]
  unfold chA
  refine ⟨fun c => ⟨hk, _, rfl, ?_, hC5, hc5⟩, fun c => ⟨hk, _, rfl, ?_, hC5, hc5⟩⟩
  · rw [if_neg (by omega)]
  · rw [if_pos (by omega)]
