/-! NOTES: how many rows of faces fit: the class -/
def okB (g : GD) (i t : Nat) : Bool := decide (gNr g i = -1 ∨ gNr g i = nI t)
/-- k are still to come -/
def wy (b : BD) (g : GD) : Nat → Nat → Nat
  | 0, _ => 1
  | k + 1, s => min 1000000000000000000 (sN (fun f => if decide (0 < bOd b f) && okB g (gNn g - (k + 1)) (bT b s f) then wy b g k (bT b s f) else 0) 1 6)
def wyi (b : BD) (g : GD) (i s : Nat) : Nat := wy b g (gNn g - i) s
def wyt (b : BD) (g : GD) (i s f : Nat) : Nat := if decide (0 < bOd b f) && okB g i (bT b s f) then wyi b g (i + 1) (bT b s f) else 0
theorem wyi_n (b : BD) (g : GD) (s : Nat) : wyi b g (gNn g) s = 1 := by unfold wyi; rw [Nat.sub_self]; rfl
theorem wyi_s {b : BD} {g : GD} {i s : Nat} (hi : i < gNn g) : wyi b g i s = min 1000000000000000000 (sN (wyt b g i s) 1 6) := by
  have e : gNn g - i = (gNn g - (i + 1)) + 1 := by omega
  unfold wyi
  rw [e]
  show min _ _ = min _ _
  have e2 : gNn g - (gNn g - (i + 1) + 1) = i := by omega
  rw [e2]
  rfl
theorem wy_le (b : BD) (g : GD) : ∀ k s, wy b g k s ≤ 1000000000000000000 := by
  intro k s
  cases k with
  | zero => show 1 ≤ _; decide
  | succ k => exact Nat.min_le_left _ _
theorem wyt_le (b : BD) (g : GD) (i s f : Nat) : wyt b g i s f ≤ 1000000000000000000 := by
  unfold wyt
  split
  · exact wy_le _ _ _ _
  · exact Nat.zero_le _
theorem wyt_sum (b : BD) (g : GD) (i s f : Nat) : sN (wyt b g i s) 1 f ≤ f * 1000000000000000000 := by
  induction f with
  | zero => exact Nat.le_refl _
  | succ f ih =>
    rw [sN_last]
    have := wyt_le b g i s (1 + f)
    omega
def Wys (h : XH) (c : Nat) (b : BD) (g : GD) (lo : Nat) : Prop := ∀ i, lo ≤ i → i ≤ gNn g → ∀ s, s ≤ bLast b → xL h c (101 * i + s) = lN (wyi b g i s)
theorem i101 (i q : Nat) : nI i * 101 + nI q = nI (101 * i + q) := by
  have : (101 : Int32) = nI 101 := rfl
  rw [this, pk_mul, nI_add, Nat.mul_comm]
/-! bits of a row of longs -/
theorem bq_m : ∀ k, k < 64 → ((1 : Int64) <<< (Int32.toInt64 (nI k) &&& 63)).toBitVec = BitVec.twoPow 64 k := by decide +kernel
theorem bq_and {w m : Int64} {j : Nat} (hj : j < 64) (hm : m.toBitVec = BitVec.twoPow 64 j) : (w &&& m) = 0 ↔ w.toBitVec.getLsbD j = false := by
  rw [← Int64.toBitVec_inj, Int64.toBitVec_and, hm]
  show _ &&& _ = 0#64 ↔ _
  constructor
  · intro h
    have t := congrArg (fun x => x.getLsbD j) h
    simp only [BitVec.getLsbD_and, BitVec.getLsbD_twoPow] at t
    simpa [hj] using t
  · intro h
    apply BitVec.eq_of_getLsbD_eq
    intro i hi
    rw [BitVec.getLsbD_and, BitVec.getLsbD_twoPow]
    by_cases e : j = i
    · subst e; rw [h]; simp
    · simp [e]
theorem bq_or {w m : Int64} {j : Nat} (hj : j < 64) (hm : m.toBitVec = BitVec.twoPow 64 j) (k : Nat) : (w ||| m).toBitVec.getLsbD k = (w.toBitVec.getLsbD k || decide (j = k)) := by
  rw [Int64.toBitVec_or, hm, BitVec.getLsbD_or, BitVec.getLsbD_twoPow, decide_eq_true hj, Bool.true_and]
theorem dec_iff {p q : Prop} [h1 : Decidable p] [h2 : Decidable q] (e : p ↔ q) : decide p = decide q := decide_eq_decide.mpr e
/-- is there a way from the i-th note on, the square ahead of it being q -/
def opn (h : XH) (i q : Nat) : Bool := (xL h 100 (i * 2 + q / 64)).toBitVec.getLsbD (q % 64)
theorem opn_ix (i q : Nat) (hq : q ≤ 100) : nI i * 2 + nI q / 64 = nI (i * 2 + q / 64) := by
  have e2 : (2 : Int32) = nI 2 := rfl
  have e64 : (64 : Int32) = nI 64 := rfl
  rw [e2, e64, pk_mul, pk_div (by omega) (by decide) (by decide), nI_add]
theorem opn_sh (q : Nat) (hq : q ≤ 100) : nI q - nI q / 64 * 64 = nI (q % 64) := by
  have e64 : (64 : Int32) = nI 64 := rfl
  rw [e64, pk_rem (by omega) (by decide) (by decide)]
theorem CI.nts {h : XH} {r : Nat} {s : SG} (hC : CI h r s) : ∃ na nb, xNot na nb (xP h) := hC.1.2.2.2.2.2.2.2.2.1
theorem xNot.ne {na nb : Nat} {P : Nat → Nat → Option Nat} (hh : xNot na nb P) : na ≠ nb ∧ 53 ≤ na ∧ na ≤ 54 ∧ 53 ≤ nb ∧ nb ≤ 54 := by
  rcases hh.1 with ⟨e1, e2⟩ | ⟨e1, e2⟩ <;> omega
theorem notL {h : XH} {r : Nat} {s : SG} (hC : CI h r s) {F : Nat → Int64} (c : Nat) : CI (xSL c F h) r s ∧ cch h (xSL c F h) := by
  have hs : csc r h (xSL c F h) := csc.eqP (fun _ _ _ => rfl) (fun _ _ => rfl) rfl
  exact ⟨hC.csc hs, hs.cch hC.r⟩
theorem csc.nts {r : Nat} {h h' : XH} (hI : ∀ c, xI h' c = xI h c) (hP : ∀ c, c ≠ 52 → xP h' c = xP h c) (hh : ∃ na nb, xNot na nb (xP h')) : csc r h h' := by
  refine ⟨fun c _ _ => hI c, fun j _ => by rw [hI], fun k => ?_, fun c q => hP c (fun z => q (by unfold SC; omega))⟩
  obtain ⟨h1, h2, h3, h4, h5, h6, h7, h8, h9, h10, r2, h11, h12, h13⟩ := k
  have q := h13.1
  refine ⟨?_, ?_, ?_, ?_, ?_, ?_, ?_, ?_, hh, ?_, r2, h11, ?_, h13.pc (hP _ (by omega)) (hP _ (by omega))⟩
  · unfold xBrd at *; rw [hP 0 (by omega)]; exact h1
  · unfold xPth at *; rw [hP 25 (by omega)]; exact h2
  · unfold xSta at *; rw [hP 29 (by omega)]; exact h3
  · unfold xSta at *; rw [hP 34 (by omega)]; exact h4
  · unfold xWay at *; rw [hP 39 (by omega)]; exact h5
  · obtain ⟨y, z, k⟩ := h6; refine ⟨y, z, ?_⟩; unfold xSnd at *; rw [hP 43 (by omega)]; exact k
  · obtain ⟨y, z, k⟩ := h7; refine ⟨y, z, ?_⟩; unfold xSnd at *; rw [hP 46 (by omega)]; exact k
  · obtain ⟨y, z, k⟩ := h8; refine ⟨y, z, ?_⟩; unfold xHop at *; rw [hP 49 (by omega)]; exact k
  · exact h10
  · unfold xRdr at *; rw [hP 11 (by omega)]; exact h12
theorem s_nswap {h : XH} {r : Nat} {s : SG} (hC : CI h r s) {na nb : Nat} (hh : xNot na nb (xP h)) : XSpec mX2_swap 1 0 0 100 100 [.ref 52] h (fun v h' => v = none ∧ xNot nb na (xP h') ∧ (∀ c, xL h' c = xL h c) ∧ CI h' r s ∧ cch h h') xno := by
  have e1 : xNot nb na (xP (xSP 52 (va_up (va_up (xP h 52) 0 (some nb)) 1 (some na)) (xSP 52 (va_up (xP h 52) 0 (some nb)) h))) := by
    refine ⟨hh.1.elim (fun q => Or.inr ⟨q.2, q.1⟩) (fun q => Or.inl ⟨q.2, q.1⟩), ?_, ?_, ?_⟩
    · simp [xSP, xP, va_up]
    · simp [xSP, xP, va_up]
    · have e := hh.2.2.2
      simp [xSP, xP, va_up] at e ⊢
      exact e
  have hs : csc r h (xSP 52 (va_up (va_up (xP h 52) 0 (some nb)) 1 (some na)) (xSP 52 (va_up (xP h 52) 0 (some nb)) h)) := csc.nts (fun _ => rfl) (fun c hc => by simp [xSP, xP, va_up, hc]) ⟨nb, na, e1⟩
  exact XSpec.of rfl (by decide) (Nat.le_of_ble_eq_true rfl) rfl (v_X2_swap_0 r na nb hh hC.bp ⟨rfl, e1, fun _ => rfl, hC.csc hs, hs.cch hC.r⟩)
theorem c_isOpen {h : XH} {r : Nat} {s : SG} (hC : CI h r s) {i q : Nat} (hi : i ≤ 40) (hq : q ≤ 100) : XSpec mX2_isOpen 1 0 0 100 100 [.ref 52, .int (nI i), .int (nI q)] h (xq (some (.int (bI (opn h i q)))) h) xno := by
  obtain ⟨na, nb, hh⟩ := hC.nts
  have hm := bq_m (q % 64) (Nat.mod_lt _ (by decide))
  refine XSpec.of rfl (by decide) (Nat.le_of_ble_eq_true rfl) rfl (v_X2_isOpen_0 r na nb hh hC.bp (nI i) (nI q) ?_)
  rw [opn_ix i q hq, opn_sh q hq, nI_clamp (show i * 2 + q / 64 < 2 ^ 31 by omega), lg_cmp_eq, bq_and (Nat.mod_lt _ (by decide)) hm]
  refine ⟨fun c => absurd c (nI_pos (by omega)), fun _ => ⟨fun c => absurd c (nI_pos (by omega)), fun _ => ⟨fun c => absurd c (nI_ge (b := 82) (by omega) (by omega)), fun _ => ⟨vp_in_nI (by omega) (by omega), fun c => ⟨?_, rfl⟩, fun c => ⟨?_, rfl⟩⟩⟩⟩⟩
  · have e : opn h i q = false := c
    rw [e]; rfl
  · have e : opn h i q = true := by
      rcases Bool.eq_false_or_eq_true (opn h i q) with z | z
      · exact z
      · exact absurd z c
    rw [e]; rfl
theorem c_setOpen {h : XH} {r : Nat} {s : SG} (hC : CI h r s) {i q : Nat} (hi : i ≤ 40) (hq : q ≤ 100) : XSpec mX2_setOpen 1 0 0 100 100 [.ref 52, .int (nI i), .int (nI q)] h (fun v h' => v = none ∧ ∃ F, h' = xSL 100 F h ∧ ∀ j p, p ≤ 100 → opn h' j p = (opn h j p || decide (j = i ∧ p = q))) xno := by
  obtain ⟨na, nb, hh⟩ := hC.nts
  have hm := bq_m (q % 64) (Nat.mod_lt _ (by decide))
  refine XSpec.of rfl (by decide) (Nat.le_of_ble_eq_true rfl) rfl (v_X2_setOpen_0 r na nb hh hC.bp (nI i) (nI q) ?_)
  rw [opn_ix i q hq, opn_sh q hq, nI_clamp (show i * 2 + q / 64 < 2 ^ 31 by omega)]
  refine ⟨fun c => absurd c (nI_pos (by omega)), fun _ => ⟨fun c => absurd c (nI_pos (by omega)), fun _ => ⟨fun c => absurd c (nI_ge (b := 82) (by omega) (by omega)), fun _ => ⟨vp_in_nI (by omega) (by omega), vp_in_nI (by omega) (by omega), rfl, _, rfl, fun j p hp => ?_⟩⟩⟩⟩
  unfold opn
  rw [xL_at]
  by_cases c : j * 2 + p / 64 = i * 2 + q / 64
  · rw [c, va_up_eq, bq_or (Nat.mod_lt _ (by decide)) hm]
    congr 1
    exact dec_iff (by omega)
  · rw [va_up_of _ _ c, decide_eq_false (show ¬ (j = i ∧ p = q) from fun z => c (by rw [z.1, z.2])), Bool.or_false]
theorem c_ways {h : XH} {r : Nat} {s : SG} (hC : CI h r s) {na nb : Nat} (hh : xNot na nb (xP h)) {q v : Nat} (hq : q ≤ 100) (hv : xL h na q = lN v) : XSpec mX2_ways 1 0 0 100 100 [.ref 52, .int (nI q)] h (xq (some (.long (lN v))) h) xno := by
  refine XSpec.of rfl (by decide) (Nat.le_of_ble_eq_true rfl) rfl (v_X2_ways_0 r na nb hh hC.bp (nI q) ?_)
  rw [nI_clamp (by omega), hv]
  exact ⟨fun c => absurd c (nI_pos (by omega)), fun _ => ⟨fun c => absurd c (nI_ge (b := 101) (by omega) (by omega)), fun _ => ⟨vp_in_nI (by omega) (by omega), rfl, rfl⟩⟩⟩
theorem c_putEarlier {h : XH} {r : Nat} {s : SG} (hC : CI h r s) {na nb : Nat} (hh : xNot na nb (xP h)) {i q v : Nat} (hi : i ≤ 40) (hq : q ≤ 100) (hv : v < 2 ^ 63) : XSpec mX2_putEarlier 2 0 0 100 100 [.ref 52, .int (nI i), .int (nI q), .long (lN v)] h (fun v' h' => v' = none ∧ CI h' r s ∧ cch h h' ∧ xNot na nb (xP h') ∧ xL h' na = xL h na ∧ xL h' nb = va_up (xL h nb) q (lN v) ∧ ∀ j p, p ≤ 100 → opn h' j p = (opn h j p || decide ((j = i ∧ p = q) ∧ 0 < v))) xno := by
  have hn := hh.ne
  have e0 : (0 : Int64) = lN 0 := rfl
  obtain ⟨hC1, hc1⟩ := notL hC (F := va_up (xL h nb) q (lN v)) nb
  have hh1 : xNot na nb (xP (xSL nb (va_up (xL h nb) q (lN v)) h)) := hh
  have ho : ∀ j p, opn (xSL nb (va_up (xL h nb) q (lN v)) h) j p = opn h j p := fun j p => by
    unfold opn
    rw [xL_ne (by omega)]
  refine XSpec.of rfl (by decide) (Nat.le_of_ble_eq_true rfl) rfl (v_X2_putEarlier_0 r na nb hh hC.bp (nI i) (nI q) (lN v) ?_)
  rw [nI_clamp (by omega), lg_cmp_le, e0, pk_lLE hv (by omega)]
  refine ⟨fun c => absurd c (nI_pos (by omega)), fun _ => ⟨fun c => absurd c (nI_ge (b := 101) (by omega) (by omega)), fun _ => ⟨vp_in_nI (by omega) (by omega), fun c => ?_, fun c => ⟨_, c_setOpen hC1 hi hq, ?_⟩⟩⟩⟩
  · refine ⟨rfl, hC1, hc1, hh, xL_ne hn.1, xL_at, fun j p _ => ?_⟩
    rw [ho, decide_eq_false (show ¬ ((j = i ∧ p = q) ∧ 0 < v) by omega), Bool.or_false]
  · rintro v' h1 ⟨rfl, F, rfl, k⟩
    obtain ⟨hC2, hc2⟩ := notL hC1 (F := F) 100
    refine ⟨rfl, rfl, hC2, hc1.trans hc2, hh, (xL_ne (by omega)).trans (xL_ne hn.1), (xL_ne (by omega)).trans xL_at, fun j p hp => ?_⟩
    rw [k j p hp, ho]
    congr 1
    exact dec_iff (by omega)
theorem okB_n {g : GD} {i t : Nat} (h : ¬ gNr g i = -1) (h2 : ¬ gNr g i = nI t) : okB g i t = false := decide_eq_false (fun z => z.elim h h2)
theorem c_isAsNoted {h : XH} {r : Nat} {s : SG} (hC : CI h r s) (hg : GoodS s) {i t : Nat} (hi : i < gNn (sG s)) : XSpec mX2_isAsNoted 2 0 0 100 100 [.ref 29, .int (nI i), .int (nI t)] h (xq (some (.int (bI (okB (sG s) i t)))) h) xno := by
  refine XSpec.of rfl (by decide) (Nat.le_of_ble_eq_true rfl) rfl (v_X2_isAsNoted_0 r hC.bp (nI i) (nI t) ⟨_, c_note hC hg hi, ?_⟩)
  rintro v h1 ⟨rfl, e1⟩
  subst e1
  refine ⟨_, rfl, fun c => ⟨?_, rfl⟩, fun c => ⟨fun c2 => ⟨?_, rfl⟩, fun c2 => ⟨?_, rfl⟩⟩⟩
  · rw [show okB (sG s) i t = true from decide_eq_true (Or.inl c)]; rfl
  · rw [okB_n c c2]; rfl
  · rw [show okB (sG s) i t = true from decide_eq_true (Or.inr c2)]; rfl
/-- a row that holds in how many ways what is noted from i on could have been thrown -/
def RwN (h : XH) (c : Nat) (b : BD) (g : GD) (i : Nat) : Prop := ∀ q, q ≤ bLast b → xL h c q = lN (wyi b g i q)
theorem l_sumFaces {h : XH} {r : Nat} {s : SG} (hC : CI h r s) (hg : GoodS s) {na nb : Nat} (hh : xNot na nb (xP h)) {i q : Nat} (hi : i < gNn (sG s)) (hq : q ≤ bLast (sB s)) (hv : RwN h na (sB s) (sG s) (i + 1)) {Q : Option Value → XH → Prop} {X : String → XH → Prop} (hQ : Q (some (.long (lN (wyi (sB s) (sG s) i q)))) h) : ∀ (k f : Nat), f + k = 6 →
    XW (xrm 3 0 0) mX2_sumOfFaces (xE 100 Q X 0 0) 100 0 0 h 6 [some (.ref 52), some (.ref 29), some (.ref r), some (.ref 21), some (.int (nI i)), some (.int (nI q)), some (.long (lN (sN (wyt (sB s) (sG s) i q) 1 f))), none, some (.int (nI (f + 1))), none] [] := by
  have hl := hg.l
  intro k
  induction k with
  | zero =>
    intro f hf
    have : f = 6 := by omega
    subst this
    refine v_X2_sumOfFaces_6 r hC.bp _ _ _ (nI 7) ⟨fun _ => ?_, fun c => absurd (by decide) c⟩
    have e9 : (1000000000000000000 : Int64) = lN 1000000000000000000 := rfl
    have b := wyt_sum (sB s) (sG s) i q 6
    rw [e9, lN_min (by omega) (by omega), Nat.min_comm, ← wyi_s hi]
    exact hQ
  | succ k ih =>
    intro f hf
    have o9 := hg.die.1 (f + 1) (by omega) (by omega)
    have tt := hg.tl _ hq (f + 1) (by omega)
    have hI := ih (f + 1) (by omega)
    rw [sN_last, Nat.add_comm 1 f] at hI
    refine v_X2_sumOfFaces_6 r hC.bp _ _ _ (nI (f + 1)) ⟨fun c => absurd c (nI_nlt (a := 6) (by omega) (by omega)), fun _ => ⟨_, c_to hC hq (by omega), ?_⟩⟩
    rintro v h1 ⟨rfl, e1⟩
    subst e1
    refine ⟨_, rfl, _, c_odds hC (by omega) (by omega), ?_⟩
    rintro v h2 ⟨rfl, e2⟩
    subst e2
    refine ⟨_, rfl, fun c => ?_, fun c => ⟨_, c_isAsNoted hC hg hi, ?_⟩⟩
    · have c' : ¬ 0 < bOd (sB s) (f + 1) := fun z => nI_nle z (by omega) c
      have : wyt (sB s) (sG s) i q (f + 1) = 0 := by unfold wyt; rw [decide_eq_false c']; rfl
      rw [this, Nat.add_zero] at hI
      rw [nI_1]; exact hI
    · have c' : 0 < bOd (sB s) (f + 1) := Nat.pos_of_ne_zero (fun z => c (by rw [z]; decide))
      rintro v h3 ⟨rfl, e3⟩
      subst e3
      refine ⟨_, rfl, fun c2 => ?_, fun c2 => ⟨_, c_ways hC hh (by omega) (hv _ tt), ?_⟩⟩
      · have z := bI_0.1 c2
        have : wyt (sB s) (sG s) i q (f + 1) = 0 := by unfold wyt; rw [z, Bool.and_false]; rfl
        rw [this, Nat.add_zero] at hI
        rw [nI_1]; exact hI
      · have z := bI_n0.1 c2
        rintro v h4 ⟨rfl, e4⟩
        subst e4
        refine ⟨_, rfl, ?_⟩
        have : wyt (sB s) (sG s) i q (f + 1) = wyi (sB s) (sG s) (i + 1) (bT (sB s) q (f + 1)) := by
          unfold wyt; rw [decide_eq_true c', z]; rfl
        rw [this] at hI
        rw [nI_1, lN_add]; exact hI
theorem c_sumFaces {h : XH} {r : Nat} {s : SG} (hC : CI h r s) (hg : GoodS s) {na nb : Nat} (hh : xNot na nb (xP h)) {i q : Nat} (hi : i < gNn (sG s)) (hq : q ≤ bLast (sB s)) (hv : RwN h na (sB s) (sG s) (i + 1)) : XSpec mX2_sumOfFaces 3 0 0 100 100 [.ref 52, .ref 29, .ref r, .ref 21, .int (nI i), .int (nI q)] h (xq (some (.long (lN (wyi (sB s) (sG s) i q)))) h) xno :=
  XSpec.of rfl (by decide) (Nat.le_of_ble_eq_true rfl) rfl (v_X2_sumOfFaces_0 r hC.bp (nI i) (nI q) (l_sumFaces hC hg hh hi hq hv ⟨rfl, rfl⟩ 6 0 rfl))
/-- what is open: behind i all, of i the squares ahead of x -/
def OpX (h : XH) (b : BD) (g : GD) (i x : Nat) : Prop := ∀ j p, j ≤ gNn g → p ≤ bLast b → opn h j p = decide ((i < j ∨ (j = i ∧ p < x)) ∧ 0 < wyi b g j p)
theorem OpX.next {h : XH} {b : BD} {g : GD} {i : Nat} (ho : OpX h b g (i + 1) (bLast b + 1)) : OpX h b g i 0 := fun j p hj hp => by
  rw [ho j p hj hp]
  exact dec_iff (by omega)
theorem OpX.put {h h' : XH} {b : BD} {g : GD} {i x : Nat} (hx : x ≤ bLast b) (hb : bLast b ≤ 100) (ho : OpX h b g i x) (hk : ∀ j p, p ≤ 100 → opn h' j p = (opn h j p || decide ((j = i ∧ p = x) ∧ 0 < wyi b g i x))) : OpX h' b g i (x + 1) := fun j p hj hp => by
  rw [hk j p (by omega), ho j p hj hp, ← Bool.decide_or]
  refine dec_iff ?_
  by_cases c : j = i ∧ p = x
  · obtain ⟨c1, c2⟩ := c
    subst c1; subst c2
    omega
  · omega
theorem l_cntIn {r : Nat} {s : SG} (hg : GoodS s) {i : Nat} (hi : i < gNn (sG s)) (h0 : XH) {na nb : Nat} {Q : Option Value → XH → Prop} {X : String → XH → Prop} : ∀ (k x : Nat) (h : XH), x + k = bLast (sB s) + 1 → CI h r s → cch h0 h → xNot na nb (xP h) → RwN h na (sB s) (sG s) (i + 1) → (∀ q, q < x → xL h nb q = lN (wyi (sB s) (sG s) i q)) → OpX h (sB s) (sG s) i x →
    (∀ h', CI h' r s → cch h0 h' → xNot nb na (xP h') → RwN h' nb (sB s) (sG s) i → OpX h' (sB s) (sG s) i (bLast (sB s) + 1) → XW (xrm 4 0 0) mX2_countFits (xE 100 Q X 0 0) 100 0 0 h' 49 [some (.ref 52), some (.ref 29), some (.ref r), some (.ref 21), some (.int (iz ((i : Int) - 1))), none] []) →
    XW (xrm 4 0 0) mX2_countFits (xE 100 Q X 0 0) 100 0 0 h 57 [some (.ref 52), some (.ref 29), some (.ref r), some (.ref 21), some (.int (nI i)), some (.int (nI x))] [] := by
  have hl := hg.l
  have hn := hg.nn
  intro k
  induction k with
  | zero =>
    intro x h hx hC hc hh hv hz ho hQ
    have : x = bLast (sB s) + 1 := by omega
    subst this
    refine v_X2_countFits_57 r na nb hh hC.bp _ (nI _) ⟨fun _ => ⟨_, s_nswap hC hh, ?_⟩, fun c => absurd ?_ c⟩
    · rintro v h1 ⟨rfl, k1, k2, k3, k4⟩
      refine ⟨rfl, ?_⟩
      have e : nI i + (-1) = iz ((i : Int) - 1) := by
        have : (-1 : Int32) = iz (-1) := rfl
        rw [this, iz_nI, iz_add]; rfl
      rw [e]
      refine hQ h1 k3 (hc.trans k4) k1 (fun q hq => by rw [k2]; exact hz q (by omega)) (fun j p hj hp => ?_)
      have e2 : opn h1 j p = opn h j p := by unfold opn; rw [k2]
      rw [e2]; exact ho j p hj hp
    · rw [hC.last]; exact nI_lt (by omega) (by omega)
  | succ k ih =>
    intro x h hx hC hc hh hv hz ho hQ
    refine v_X2_countFits_57 r na nb hh hC.bp _ (nI _) ⟨fun c => absurd c ?_, fun _ => ⟨_, c_sumFaces hC hg hh hi (show x ≤ _ by omega) hv, ?_⟩⟩
    · rw [hC.last]; exact nI_nlt (by omega) (by omega)
    rintro v h1 ⟨rfl, e1⟩
    subst e1
    have bd := wy_le (sB s) (sG s) (gNn (sG s) - i) x
    have bd' : wyi (sB s) (sG s) i x ≤ 1000000000000000000 := bd
    refine ⟨_, rfl, _, c_putEarlier hC hh (show i ≤ 40 by omega) (show x ≤ 100 by omega) (show wyi (sB s) (sG s) i x < 2 ^ 63 by omega), ?_⟩
    rintro v h2 ⟨rfl, hC2, hc2, hh2, e2, e3, e4⟩
    refine ⟨rfl, ?_⟩
    rw [nI_1]
    refine ih (x + 1) _ (by omega) hC2 (hc.trans hc2) hh2 (fun q hq => by rw [e2]; exact hv q hq) (fun q hq => ?_) (ho.put (by omega) (by omega) e4) hQ
    rw [e3]
    by_cases z : q = x
    · rw [z, va_up_eq]
    · rw [va_up_of _ _ z]; exact hz q (by omega)
theorem l_cntOut {r : Nat} {s : SG} (hg : GoodS s) (h0 : XH) {Q : Option Value → XH → Prop} {X : String → XH → Prop} (hQ : ∀ h', CI h' r s → cch h0 h' → OpX h' (sB s) (sG s) 0 (bLast (sB s) + 1) → Q (some (.long (lN (wyi (sB s) (sG s) 0 0)))) h') : ∀ (k : Nat) (h : XH) (na nb : Nat), k ≤ gNn (sG s) → CI h r s → cch h0 h → xNot na nb (xP h) → RwN h na (sB s) (sG s) k → OpX h (sB s) (sG s) k (bLast (sB s) + 1) →
    XW (xrm 4 0 0) mX2_countFits (xE 100 Q X 0 0) 100 0 0 h 49 [some (.ref 52), some (.ref 29), some (.ref r), some (.ref 21), some (.int (iz ((k : Int) - 1))), none] [] := by
  have hl := hg.l
  have hn := hg.nn
  intro k
  induction k with
  | zero =>
    intro h na nb hk hC hc hh hv ho
    have hf := c_ways hC hh (show 0 ≤ 100 by omega) (hv 0 (Nat.zero_le _))
    refine v_X2_countFits_49 r na nb hh hC.bp _ ⟨fun _ => ⟨_, hf, ?_⟩, fun c => absurd (by decide) c⟩
    rintro v h2 ⟨rfl, e2⟩
    subst e2
    exact ⟨_, rfl, hQ h2 hC hc ho⟩
  | succ k ih =>
    intro h na nb hk hC hc hh hv ho
    have e : iz (((k + 1 : Nat) : Int) - 1) = nI k := by rw [iz_nI]; congr 1; omega
    rw [e]
    exact v_X2_countFits_49 r na nb hh hC.bp _ ⟨fun c => absurd c (nI_pos (by omega)), fun _ => l_cntIn hg (by omega) h0 (bLast (sB s) + 1) 0 h (by omega) hC hc hh hv (fun q hq => by omega) ho.next (fun h' k1 k2 k3 k4 k5 => ih h' nb na (by omega) k1 k2 k3 k4 k5)⟩
theorem l_cnt1 {r : Nat} {s : SG} (hg : GoodS s) (h0 : XH) {na nb : Nat} {Q : Option Value → XH → Prop} {X : String → XH → Prop} (hQ : ∀ h', CI h' r s → cch h0 h' → OpX h' (sB s) (sG s) 0 (bLast (sB s) + 1) → Q (some (.long (lN (wyi (sB s) (sG s) 0 0)))) h') : ∀ (k x : Nat) (h : XH), x + k = bLast (sB s) + 1 → CI h r s → cch h0 h → xNot na nb (xP h) → (∀ q, q < x → xL h nb q = lN 1) → OpX h (sB s) (sG s) (gNn (sG s)) x →
    XW (xrm 4 0 0) mX2_countFits (xE 100 Q X 0 0) 100 0 0 h 11 [some (.ref 52), some (.ref 29), some (.ref r), some (.ref 21), some (.int (nI x)), none] [] := by
  have hl := hg.l
  have hn := hg.nn
  intro k
  induction k with
  | zero =>
    intro x h hx hC hc hh hz ho
    have : x = bLast (sB s) + 1 := by omega
    subst this
    refine v_X2_countFits_11 r na nb hh hC.bp (nI _) ⟨fun _ => ⟨_, s_nswap hC hh, ?_⟩, fun c => absurd ?_ c⟩
    · rintro v h1 ⟨rfl, k1, k2, k3, k4⟩
      refine ⟨rfl, ?_⟩
      have e : nI (gNn (sG s)) - 1 = iz ((gNn (sG s) : Int) - 1) := by rw [iz_nI, iz_lit 1, iz_sub]; rfl
      rw [k3.nn, e]
      refine l_cntOut hg h0 hQ (gNn (sG s)) h1 nb na (Nat.le_refl _) k3 (hc.trans k4) k1 (fun q hq => by rw [k2, wyi_n]; exact hz q (by omega)) (fun j p hj hp => ?_)
      have e2 : opn h1 j p = opn h j p := by unfold opn; rw [k2]
      rw [e2]; exact ho j p hj hp
    · rw [hC.last]; exact nI_lt (by omega) (by omega)
  | succ k ih =>
    intro x h hx hC hc hh hz ho
    have e1 : (1 : Int64) = lN (wyi (sB s) (sG s) (gNn (sG s)) x) := by rw [wyi_n]; rfl
    have bd' : wyi (sB s) (sG s) (gNn (sG s)) x < 2 ^ 63 := by rw [wyi_n]; decide
    refine v_X2_countFits_11 r na nb hh hC.bp (nI _) ⟨fun c => absurd c ?_, fun _ => ?_⟩
    · rw [hC.last]; exact nI_nlt (by omega) (by omega)
    rw [hC.nn, e1]
    refine ⟨_, c_putEarlier hC hh (show gNn (sG s) ≤ 40 by omega) (show x ≤ 100 by omega) bd', ?_⟩
    rintro v h2 ⟨rfl, hC2, hc2, hh2, e2, e3, e4⟩
    refine ⟨rfl, ?_⟩
    rw [nI_1]
    refine ih (x + 1) _ (by omega) hC2 (hc.trans hc2) hh2 (fun q hq => ?_) (ho.put (by omega) (by omega) e4)
    rw [e3]
    by_cases z : q = x
    · rw [z, va_up_eq, wyi_n]
    · rw [va_up_of _ _ z]; exact hz q (by omega)
/-- from which squares there is a way -/
def Ops (h : XH) (b : BD) (g : GD) : Prop := ∀ j p, j ≤ gNn g → p ≤ bLast b → opn h j p = decide (0 < wyi b g j p)
theorem OpX.ops {h : XH} {b : BD} {g : GD} (ho : OpX h b g 0 (bLast b + 1)) : Ops h b g := fun j p hj hp => by
  rw [ho j p hj hp]
  exact dec_iff (by omega)
theorem s_countFits {h : XH} {r : Nat} {s : SG} (hC : CI h r s) (hg : GoodS s) : XSpec mX2_countFits 4 0 0 100 100 [.ref 52, .ref 29, .ref r, .ref 21] h (fun v h' => v = some (.long (lN (wyi (sB s) (sG s) 0 0))) ∧ CI h' r s ∧ cch h h' ∧ Ops h' (sB s) (sG s)) xno := by
  obtain ⟨na, nb, hh⟩ := hC.nts
  have hl := hg.l
  have hn := hg.nn
  obtain ⟨hC1, hc1⟩ := notL hC (F := fl 82 0 (xL h 100)) 100
  refine XSpec.of rfl (by decide) (Nat.le_of_ble_eq_true rfl) rfl (v_X2_countFits_0 r na nb hh hC.bp (l_cnt1 hg h (na := na) (nb := nb) (fun h' k1 k2 k3 => ⟨rfl, k1, k2, k3.ops⟩) (bLast (sB s) + 1) 0 _ (by omega) hC1 hc1 hh (fun q hq => by omega) (fun j p hj hp => ?_)))
  have e : opn (xSL 100 (fl 82 0 (xL h 100)) h) j p = false := by
    unfold opn fl
    rw [xL_at, if_pos (by omega)]
    simp
  rw [e]
  exact (decide_eq_false (by omega)).symm
/-- the row that fits leaves -/
def StB (b : BD) (g : GD) (i q f : Nat) : Bool := decide (0 < bOd b f) && okB g i (bT b q f) && decide (0 < wyi b g (i + 1) (bT b q f))
def FitF (b : BD) (g : GD) (i q f : Nat) : Prop := 1 ≤ f ∧ f ≤ 6 ∧ StB b g i q f = true ∧ ∀ e, 1 ≤ e → e < f → StB b g i q e = false
def FitK (b : BD) (g : GD) : Nat → Nat → Nat → (Nat → Int32) → Prop
  | 0, _, _, _ => True
  | c + 1, i, q, R => ∃ f, FitF b g i q f ∧ R i = nI f ∧ FitK b g c (i + 1) (bT b q f) R
theorem fit_ex {b : BD} {g : GD} {i q : Nat} (hi : i < gNn g) (h : 0 < wyi b g i q) : ∃ f, 1 ≤ f ∧ f ≤ 6 ∧ StB b g i q f = true := by
  by_cases z : ∃ f, 1 ≤ f ∧ f ≤ 6 ∧ StB b g i q f = true
  · exact z
  · have e : sN (wyt b g i q) 1 6 = 0 := by
      refine sN_0 _ _ (fun f f1 f2 => ?_)
      have hn : ¬ StB b g i q f = true := fun y => z ⟨f, f1, by omega, y⟩
      unfold wyt
      by_cases c : (decide (0 < bOd b f) && okB g i (bT b q f)) = true
      · rw [if_pos c]
        unfold StB at hn
        rw [c, Bool.true_and] at hn
        have := of_decide_eq_false (Bool.eq_false_iff.mpr hn)
        omega
      · rw [if_neg c]
    rw [wyi_s hi, e] at h
    simp at h
theorem l_pff {r : Nat} {s : SG} (hg : GoodS s) {i q : Nat} (hi : i < gNn (sG s)) (hq : q ≤ bLast (sB s)) {h : XH} (hC : CI h r s) (hv : Ops h (sB s) (sG s)) (hp : 0 < wyi (sB s) (sG s) i q) {Q : Option Value → XH → Prop} {X : String → XH → Prop} (hQ : ∀ f, FitF (sB s) (sG s) i q f → XW (xrm 3 0 0) mX2_putFirstFit (xE 100 Q X 0 0) 100 0 0 (xSI 40 (va_up (xI h 40) i (nI f)) h) 6 [some (.ref 52), some (.ref 29), some (.ref r), some (.ref 21), some (.ref 40), some (.int (nI (bT (sB s) q f))), some (.int (nI (i + 1))), none, none] []) : ∀ (k f : Nat), f + k = 7 → 1 ≤ f → (∀ e, 1 ≤ e → e < f → StB (sB s) (sG s) i q e = false) →
    XW (xrm 3 0 0) mX2_putFirstFit (xE 100 Q X 0 0) 100 0 0 h 26 [some (.ref 52), some (.ref 29), some (.ref r), some (.ref 21), some (.ref 40), some (.int (nI q)), some (.int (nI i)), some (.int (nI f)), none] [] := by
  have hl := hg.l
  have hn := hg.nn
  intro k
  induction k with
  | zero =>
    intro f hf f1 hno
    obtain ⟨e, e1, e2, e3⟩ := fit_ex hi hp
    rw [hno e e1 (by omega)] at e3
    exact absurd e3 (by decide)
  | succ k ih =>
    intro f hf f1 hno
    have o9 := hg.die.1 f f1 (by omega)
    have tt := hg.tl _ hq f (by omega)
    have step : StB (sB s) (sG s) i q f = false → XW (xrm 3 0 0) mX2_putFirstFit (xE 100 Q X 0 0) 100 0 0 h 26 [some (.ref 52), some (.ref 29), some (.ref r), some (.ref 21), some (.ref 40), some (.int (nI q)), some (.int (nI i)), some (.int (nI f + 1)), none] [] := fun z => by
      rw [nI_1]
      refine ih (f + 1) (by omega) (by omega) (fun e e1 e2 => ?_)
      by_cases y : e = f
      · rw [y]; exact z
      · exact hno e e1 (by omega)
    refine v_X2_putFirstFit_26 r hC.bp _ _ (nI f) ⟨fun c => absurd c (nI_nlt (a := 6) (by omega) (by omega)), fun _ => ⟨_, c_to hC hq (by omega), ?_⟩⟩
    rintro v h1 ⟨rfl, e1⟩
    subst e1
    refine ⟨_, rfl, _, c_odds hC f1 (by omega), ?_⟩
    rintro v h2 ⟨rfl, e2⟩
    subst e2
    refine ⟨_, rfl, fun c => step ?_, fun c => ⟨_, c_isAsNoted hC hg hi, ?_⟩⟩
    · have c' : ¬ 0 < bOd (sB s) f := fun z => nI_nle z (by omega) c
      unfold StB; rw [decide_eq_false c']; rfl
    · have c' : 0 < bOd (sB s) f := Nat.pos_of_ne_zero (fun z => c (by rw [z]; decide))
      rintro v h3 ⟨rfl, e3⟩
      subst e3
      refine ⟨_, rfl, fun c2 => step ?_, fun c2 => ?_⟩
      · have z := bI_0.1 c2
        unfold StB; rw [z, Bool.and_false]; rfl
      rw [nI_1 i]
      have z := bI_n0.1 c2
      refine ⟨_, c_isOpen hC (show i + 1 ≤ 40 by omega) (show bT (sB s) q f ≤ 100 by omega), ?_⟩
      rintro v h4 ⟨rfl, e4⟩
      subst e4
      have eo := hv (i + 1) (bT (sB s) q f) (by omega) tt
      have eS : StB (sB s) (sG s) i q f = opn h4 (i + 1) (bT (sB s) q f) := by
        unfold StB
        rw [decide_eq_true c', z, eo]; rfl
      refine ⟨_, rfl, fun c3 => ?_, fun c3 => ⟨vp_in_nI (by omega) (by omega), ?_⟩⟩
      · have y := bI_0.1 c3
        have w := step (by rw [eS]; exact y)
        exact w
      · rw [nI_clamp (show i < 2 ^ 31 by omega)]
        exact hQ f ⟨f1, by omega, by rw [eS]; exact bI_n0.1 c3, hno⟩
theorem CI.row40 {h : XH} {r : Nat} {s : SG} (hC : CI h r s) (w : Int32) (R : Nat → Int32) : CI (xSI 39 (va_up (xI (xSI 40 R h) 39) 0 w) (xSI 40 R h)) r (sRow s w R) := by
  refine hC.row w R _ ?_
  rw [xI_ne (by decide)]
  exact xSI_cm _ _ _ (by decide)
theorem BP.SI {h : XH} {r c : Nat} {f : Nat → Int32} (hb : BP r h) : BP r (xSI c f h) := hb
theorem fit_pos {b : BD} {g : GD} {i q f : Nat} (h : FitF b g i q f) : 0 < wyi b g (i + 1) (bT b q f) := by
  have := h.2.2.1
  unfold StB at this
  simp only [Bool.and_eq_true] at this
  exact of_decide_eq_true this.2
theorem CI.r40 {h : XH} {r : Nat} {s : SG} (hC : CI h r s) (R : Nat → Int32) : CI (xSI 40 R h) r (sRow s (sKl s) R) := by
  have hr := hC.r
  obtain ⟨c1, c2, c3, ⟨c4, c5⟩, c6, c7, c8⟩ := hC
  have e : ∀ c, c ≠ 40 → xI (xSI 40 R h) c = xI h c := fun c q1 => xI_ne q1
  exact ⟨c1, c2.of (h := h) (fun _ _ => Eq.refl _) (fun c hc => e c (by omega)), c3.of (h := h) (fun c q1 q2 => e c (by omega)), ⟨c4, fun z => (c5 z).of (h := h) (fun c q1 q2 => e c (by omega))⟩, ⟨c6.1, fun i _ => by rw [xI_at]; rfl⟩, c7, c8⟩
theorem l_pfo {r : Nat} {s : SG} (hg : GoodS s) {h0 : XH} (hC : CI h0 r s) (hv : Ops h0 (sB s) (sG s)) {Q : Option Value → XH → Prop} {X : String → XH → Prop} : ∀ (c i q : Nat) (R0 : Nat → Int32), i + c = gNn (sG s) → q ≤ bLast (sB s) → (i < gNn (sG s) → 0 < wyi (sB s) (sG s) i q) →
    (∀ R : Nat → Int32, (∀ j, j < i → R j = R0 j) → FitK (sB s) (sG s) c i q R → Q (some (.int (nI (gNn (sG s))))) (xSI 40 R h0)) →
    XW (xrm 3 0 0) mX2_putFirstFit (xE 100 Q X 0 0) 100 0 0 (xSI 40 R0 h0) 6 [some (.ref 52), some (.ref 29), some (.ref r), some (.ref 21), some (.ref 40), some (.int (nI q)), some (.int (nI i)), none, none] [] := by
  have hl := hg.l
  have hn := hg.nn
  intro c
  induction c with
  | zero =>
    intro i q R0 hi hq hp hQ
    have : i = gNn (sG s) := by omega
    subst this
    have e : xI (xSI 40 R0 h0) 29 2 = nI (gNn (sG s)) := by rw [xI_ne (by decide)]; exact hC.nn
    refine v_X2_putFirstFit_6 r (hC.r40 R0).bp _ (nI _) ⟨fun _ => ?_, fun c => absurd ?_ c⟩
    · rw [e]; exact hQ R0 (fun _ _ => rfl) True.intro
    · rw [e]; exact nI_le (Nat.le_refl _) (by omega)
  | succ c ih =>
    intro i q R0 hi hq hp hQ
    have e : xI (xSI 40 R0 h0) 29 2 = nI (gNn (sG s)) := by rw [xI_ne (by decide)]; exact hC.nn
    refine v_X2_putFirstFit_6 r (hC.r40 R0).bp _ (nI _) ⟨fun c => absurd c ?_, fun _ => ⟨fun c => absurd c (nI_ge (b := 101) (by omega) (by omega)), fun _ => ?_⟩⟩
    · rw [e]; exact nI_ge (by omega) (by omega)
    refine l_pff (s := sRow s (sKl s) R0) hg (show i < gNn (sG s) by omega) hq (hC.r40 R0) hv (hp (by omega)) (fun f hF => ?_) 6 1 rfl (Nat.le_refl _) (fun e e1 e2 => by omega)
    rw [xSI_SI, xI_at]
    refine ih (i + 1) _ (va_up R0 i (nI f)) (by omega) (hg.tl q hq f hF.2.1) (fun _ => fit_pos hF) (fun R k1 k2 => hQ R (fun j hj => ?_) ⟨f, hF, ?_, k2⟩)
    · rw [k1 j (by omega), va_up_of _ _ (by omega)]
    · rw [k1 i (by omega), va_up_eq]
def sFit (s : SG) (R : Nat → Int32) : SG := if wyi (sB s) (sG s) 0 0 = 0 then s else sRow s (nI (gNn (sG s))) R
theorem s_X10_fits {h : XH} {r : Nat} {s : SG} (hC : CI h r s) (hg : GoodS s) : XSpec mX10_fits 5 0 0 100 100 [.ref 0] h (fun v h' => v = some (.long (lN (wyi (sB s) (sG s) 0 0))) ∧ ∃ R, (0 < wyi (sB s) (sG s) 0 0 → FitK (sB s) (sG s) (gNn (sG s)) 0 0 R) ∧ CI h' r (sFit s R) ∧ cch h h') xno := by
  refine XSpec.of rfl (by decide) (Nat.le_of_ble_eq_true rfl) rfl (v_X10_fits_0 r hC.bp ⟨_, s_countFits hC hg, ?_⟩)
  rintro v h1 ⟨rfl, hC1, hc1, hv1⟩
  have bd : wyi (sB s) (sG s) 0 0 ≤ 1000000000000000000 := wy_le _ _ _ _
  have e0 : (0 : Int64) = lN 0 := rfl
  refine ⟨_, rfl, ?_⟩
  rw [lg_cmp_le, e0, pk_lLE (by omega) (by omega)]
  refine ⟨fun c => ⟨rfl, fun _ => 0, fun z => by omega, ?_, hc1⟩, fun c => ⟨hC1.p10, hC1.p14, hC1.p7, hC1.p3, hC1.p5, hC1.p10, hC1.way.1, fun v h' => ∃ R, v = some (.int (nI (gNn (sG s)))) ∧ h' = xSI 40 R h1 ∧ FitK (sB s) (sG s) (gNn (sG s)) 0 0 R, XSpec.of rfl (by decide) (Nat.le_of_ble_eq_true rfl) rfl (v_X2_putFirstFit_0 r hC1.bp ?_), ?_⟩⟩
  · unfold sFit; rw [if_pos (by omega)]; exact hC1
  · have := l_pfo hg hC1 hv1 (Q := fun v h' => ∃ R, v = some (.int (nI (gNn (sG s)))) ∧ h' = xSI 40 R h1 ∧ FitK (sB s) (sG s) (gNn (sG s)) 0 0 R) (X := xno) (gNn (sG s)) 0 0 (xI h1 40) (by omega) (Nat.zero_le _) (fun _ => by omega) (fun R _ k2 => ⟨R, rfl, rfl, k2⟩)
    rw [xSI_self] at this
    exact this
  · rintro v h2 ⟨R, rfl, rfl, hF⟩
    refine ⟨_, rfl, rfl, R, fun _ => hF, ?_, hc1.trans ?_⟩
    · unfold sFit; rw [if_neg (by omega)]; exact hC1.row40 _ R
    · exact fun c hc => ⟨(xI_ne (by omega)).trans (xI_ne (by omega)), Eq.refl _⟩
