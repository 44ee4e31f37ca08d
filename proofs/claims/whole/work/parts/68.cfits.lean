/-! NOTES: how many rows of faces fit: the class -/
def okB (g : GD) (i t : Nat) : Bool := decide (gNr g i = -1 ∨ gNr g i = nI t)
/-- k are still to come -/
def wy (b : BD) (g : GD) : Nat → Nat → Nat
  | 0, _ => 1
  | k + 1, s => min 1000000000000000000 (sN (fun f => if decide (0 < bOd b f) && okB g (gNn g - (k + 1)) (bT b s f) then wy b g k (bT b s f) else 0) 1 6)
def wyi (b : BD) (g : GD) (i s : Nat) : Nat := wy b g (gNn g - i) s
def wyt (b : BD) (g : GD) (i s f : Nat) : Nat := if decide (0 < bOd b f) && okB g i (bT b s f) then wyi b g (i + 1) (bT b s f) else 0
theorem wyi_n (b : BD) (g : GD) (s : Nat) : wyi b g (gNn g) s = 1 := by unfold wyi; rw [Nat.sub_self]; rfl
theorem wyi_s {b : BD} {g : GD} {i s : Nat} (hi : i < gNn g) : wyi b g i s = min 1000000000000000000 (sN (wyt b g i s) 1 6) := by
  have e : gNn g - i = (gNn g - (i + 1)) + 1 := by omega
  unfold wyi
  rw [e]
  show min _ _ = min _ _
  have e2 : gNn g - (gNn g - (i + 1) + 1) = i := by omega
  rw [e2]
  rfl
theorem wy_le (b : BD) (g : GD) : ∀ k s, wy b g k s ≤ 1000000000000000000 := by
  intro k s
  cases k with
  | zero => show 1 ≤ _; decide
  | succ k => exact Nat.min_le_left _ _
theorem wyt_le (b : BD) (g : GD) (i s f : Nat) : wyt b g i s f ≤ 1000000000000000000 := by
  unfold wyt
  split
  · exact wy_le _ _ _ _
  · exact Nat.zero_le _
theorem wyt_sum (b : BD) (g : GD) (i s f : Nat) : sN (wyt b g i s) 1 f ≤ f * 1000000000000000000 := by
  induction f with
  | zero => exact Nat.le_refl _
  | succ f ih =>
    rw [sN_last]
    have := wyt_le b g i s (1 + f)
    omega
def Wys (h : XH) (c : Nat) (b : BD) (g : GD) (lo : Nat) : Prop := ∀ i, lo ≤ i → i ≤ gNn g → ∀ s, s ≤ bLast b → xL h c (101 * i + s) = lN (wyi b g i s)
theorem i101 (i q : Nat) : nI i * 101 + nI q = nI (101 * i + q) := by
  have : (101 : Int32) = nI 101 := rfl
  rw [this, pk_mul, nI_add, Nat.mul_comm]
theorem c_fitsFrom {h : XH} {r : Nat} {s : SG} (hC : CI h r s) {i q v : Nat} (hi : i ≤ 40) (hq : q ≤ 100) (hv : xL h 53 (101 * i + q) = lN v) : XSpec mX2_fitsFrom 1 0 0 100 100 [.ref 52, .int (nI i), .int (nI q)] h (xq (some (.long (lN v))) h) xno := by
  refine XSpec.of rfl (by decide) (Nat.le_of_ble_eq_true rfl) rfl (v_X2_fitsFrom_0 r hC.bp (nI i) (nI q) ?_)
  rw [i101, nI_clamp (by omega), hv]
  exact ⟨fun c => absurd c (nI_pos (by omega)), fun _ => ⟨fun c => absurd c (nI_ge (b := 4141) (by omega) (by omega)), fun _ => ⟨vp_in_nI (by omega) (by omega), rfl, rfl⟩⟩⟩
theorem c_putFits {h : XH} {r : Nat} {s : SG} (hC : CI h r s) {i q : Nat} (hi : i ≤ 40) (hq : q ≤ 100) (v : Int64) : XSpec mX2_putFits 1 0 0 100 100 [.ref 52, .int (nI i), .int (nI q), .long v] h (fun v' h' => v' = none ∧ h' = xSL 53 (va_up (xL h 53) (101 * i + q) v) h ∧ CI h' r s ∧ cch h h') xno := by
  have hs : csc r h (xSL 53 (va_up (xL h 53) (101 * i + q) v) h) := csc.eqP (fun _ _ _ => rfl) (fun _ _ => rfl) rfl
  refine XSpec.of rfl (by decide) (Nat.le_of_ble_eq_true rfl) rfl (v_X2_putFits_0 r hC.bp (nI i) (nI q) v ?_)
  rw [i101, nI_clamp (by omega)]
  exact ⟨fun c => absurd c (nI_pos (by omega)), fun _ => ⟨fun c => absurd c (nI_ge (b := 4141) (by omega) (by omega)), fun _ => ⟨vp_in_nI (by omega) (by omega), rfl, rfl, hC.csc hs, hs.cch hC.r⟩⟩⟩
theorem okB_n {g : GD} {i t : Nat} (h : ¬ gNr g i = -1) (h2 : ¬ gNr g i = nI t) : okB g i t = false := decide_eq_false (fun z => z.elim h h2)
theorem c_fitsBy {h : XH} {r : Nat} {s : SG} (hC : CI h r s) (hg : GoodS s) {i t : Nat} (hi : i < gNn (sG s)) (ht : t ≤ bLast (sB s)) (hv : Wys h 53 (sB s) (sG s) (i + 1)) : XSpec mX2_fitsBy 2 0 0 100 100 [.ref 52, .ref 29, .int (nI i), .int (nI t)] h (xq (some (.long (lN (if okB (sG s) i t = true then wyi (sB s) (sG s) (i + 1) t else 0)))) h) xno := by
  have hn := hg.nn
  have hl := hg.l
  refine XSpec.of rfl (by decide) (Nat.le_of_ble_eq_true rfl) rfl (v_X2_fitsBy_0 r hC.bp (nI i) (nI t) ⟨_, c_note hC hg hi, ?_⟩)
  rintro v h1 ⟨rfl, e1⟩
  subst e1
  have hf := c_fitsFrom hC (show i + 1 ≤ 40 by omega) (show t ≤ 100 by omega) (hv (i + 1) (Nat.le_refl _) (by omega) t ht)
  rw [nI_1]
  refine ⟨_, rfl, fun c => ⟨_, hf, ?_⟩, fun c => ⟨fun c2 => ⟨?_, rfl⟩, fun c2 => ⟨_, hf, ?_⟩⟩⟩
  · rintro v h2 ⟨rfl, rfl⟩
    refine ⟨_, rfl, ?_, rfl⟩
    rw [if_pos (show okB (sG s) i t = true from decide_eq_true (Or.inl c))]
  · rw [okB_n c c2]; rfl
  · rintro v h2 ⟨rfl, rfl⟩
    refine ⟨_, rfl, ?_, rfl⟩
    rw [if_pos (show okB (sG s) i t = true from decide_eq_true (Or.inr c2))]
theorem l_sumFaces {h : XH} {r : Nat} {s : SG} (hC : CI h r s) (hg : GoodS s) {i q : Nat} (hi : i < gNn (sG s)) (hq : q ≤ bLast (sB s)) (hv : Wys h 53 (sB s) (sG s) (i + 1)) {Q : Option Value → XH → Prop} {X : String → XH → Prop} (hQ : Q (some (.long (lN (wyi (sB s) (sG s) i q)))) h) : ∀ (k f : Nat), f + k = 6 →
    XW (xrm 3 0 0) mX2_sumOfFaces (xE 100 Q X 0 0) 100 0 0 h 6 [some (.ref 52), some (.ref 29), some (.ref r), some (.ref 21), some (.int (nI i)), some (.int (nI q)), some (.long (lN (sN (wyt (sB s) (sG s) i q) 1 f))), none, some (.int (nI (f + 1)))] [] := by
  have hl := hg.l
  intro k
  induction k with
  | zero =>
    intro f hf
    have : f = 6 := by omega
    subst this
    refine v_X2_sumOfFaces_6 r hC.bp _ _ _ (nI 7) ⟨fun _ => ?_, fun c => absurd (by decide) c⟩
    have e9 : (1000000000000000000 : Int64) = lN 1000000000000000000 := rfl
    have b := wyt_sum (sB s) (sG s) i q 6
    rw [e9, lN_min (by omega) (by omega), Nat.min_comm, ← wyi_s hi]
    exact hQ
  | succ k ih =>
    intro f hf
    have o9 := hg.die.1 (f + 1) (by omega) (by omega)
    have tt := hg.tl _ hq (f + 1) (by omega)
    have hI := ih (f + 1) (by omega)
    rw [sN_last, Nat.add_comm 1 f] at hI
    refine v_X2_sumOfFaces_6 r hC.bp _ _ _ (nI (f + 1)) ⟨fun c => absurd c (nI_nlt (a := 6) (by omega) (by omega)), fun _ => ⟨_, c_odds hC (by omega) (by omega), ?_⟩⟩
    rintro v h1 ⟨rfl, e1⟩
    subst e1
    refine ⟨_, rfl, fun c => ?_, fun c => ⟨_, c_to hC hq (by omega), ?_⟩⟩
    · have c' : ¬ 0 < bOd (sB s) (f + 1) := fun z => nI_nle z (by omega) c
      have : wyt (sB s) (sG s) i q (f + 1) = 0 := by unfold wyt; rw [decide_eq_false c']; rfl
      rw [this, Nat.add_zero] at hI
      rw [nI_1]; exact hI
    · have c' : 0 < bOd (sB s) (f + 1) := Nat.pos_of_ne_zero (fun z => c (by rw [z]; decide))
      rintro v h2 ⟨rfl, e2⟩
      subst e2
      refine ⟨_, rfl, _, c_fitsBy hC hg hi tt hv, ?_⟩
      rintro v h3 ⟨rfl, e3⟩
      subst e3
      refine ⟨_, rfl, ?_⟩
      have : wyt (sB s) (sG s) i q (f + 1) = (if okB (sG s) i (bT (sB s) q (f + 1)) = true then wyi (sB s) (sG s) (i + 1) (bT (sB s) q (f + 1)) else 0) := by
        unfold wyt; rw [decide_eq_true c', Bool.true_and]
      rw [this] at hI
      rw [nI_1, lN_add]; exact hI
theorem c_sumFaces {h : XH} {r : Nat} {s : SG} (hC : CI h r s) (hg : GoodS s) {i q : Nat} (hi : i < gNn (sG s)) (hq : q ≤ bLast (sB s)) (hv : Wys h 53 (sB s) (sG s) (i + 1)) : XSpec mX2_sumOfFaces 3 0 0 100 100 [.ref 52, .ref 29, .ref r, .ref 21, .int (nI i), .int (nI q)] h (xq (some (.long (lN (wyi (sB s) (sG s) i q)))) h) xno :=
  XSpec.of rfl (by decide) (Nat.le_of_ble_eq_true rfl) rfl (v_X2_sumOfFaces_0 r hC.bp (nI i) (nI q) (l_sumFaces hC hg hi hq hv ⟨rfl, rfl⟩ 6 0 rfl))
theorem l_cntIn {r : Nat} {s : SG} (hg : GoodS s) {i : Nat} (hi : i < gNn (sG s)) (h0 : XH) {Q : Option Value → XH → Prop} {X : String → XH → Prop} : ∀ (k x : Nat) (h : XH), x + k = bLast (sB s) + 1 → CI h r s → cch h0 h → Wys h 53 (sB s) (sG s) (i + 1) → (∀ q, q < x → xL h 53 (101 * i + q) = lN (wyi (sB s) (sG s) i q)) →
    (∀ h', CI h' r s → cch h0 h' → Wys h' 53 (sB s) (sG s) i → XW (xrm 4 0 0) mX2_countFits (xE 100 Q X 0 0) 100 0 0 h' 37 [some (.ref 52), some (.ref 29), some (.ref r), some (.ref 21), some (.int (iz ((i : Int) - 1))), none] []) →
    XW (xrm 4 0 0) mX2_countFits (xE 100 Q X 0 0) 100 0 0 h 45 [some (.ref 52), some (.ref 29), some (.ref r), some (.ref 21), some (.int (nI i)), some (.int (nI x))] [] := by
  have hl := hg.l
  have hn := hg.nn
  intro k
  induction k with
  | zero =>
    intro x h hx hC hc hv hz hQ
    have : x = bLast (sB s) + 1 := by omega
    subst this
    refine v_X2_countFits_45 r hC.bp _ (nI _) ⟨fun _ => ?_, fun c => absurd ?_ c⟩
    · have e : nI i + (-1) = iz ((i : Int) - 1) := by
        have : (-1 : Int32) = iz (-1) := rfl
        rw [this, iz_nI, iz_add]; rfl
      rw [e]
      refine hQ h hC hc (fun j h1 h2 q hq => ?_)
      by_cases z : j = i
      · rw [z]; exact hz q (by omega)
      · exact hv j (by omega) h2 q hq
    · rw [hC.last]; exact nI_lt (by omega) (by omega)
  | succ k ih =>
    intro x h hx hC hc hv hz hQ
    refine v_X2_countFits_45 r hC.bp _ (nI _) ⟨fun c => absurd c ?_, fun _ => ⟨_, c_sumFaces hC hg hi (show x ≤ _ by omega) hv, ?_⟩⟩
    · rw [hC.last]; exact nI_nlt (by omega) (by omega)
    rintro v h1 ⟨rfl, e1⟩
    subst e1
    refine ⟨_, rfl, _, c_putFits hC (show i ≤ 40 by omega) (show x ≤ 100 by omega) _, ?_⟩
    rintro v h2 ⟨rfl, rfl, hC2, hc2⟩
    refine ⟨rfl, ?_⟩
    rw [nI_1]
    refine ih (x + 1) _ (by omega) hC2 (hc.trans hc2) (fun j q1 q2 q hq => ?_) (fun q hq => ?_) hQ
    · rw [xL_at, va_up_of _ _ (by omega)]; exact hv j q1 q2 q hq
    · rw [xL_at]
      by_cases z : q = x
      · rw [z, va_up_eq]
      · rw [va_up_of _ _ (by omega)]; exact hz q (by omega)
theorem l_cntOut {r : Nat} {s : SG} (hg : GoodS s) (h0 : XH) {Q : Option Value → XH → Prop} {X : String → XH → Prop} (hQ : ∀ h', CI h' r s → cch h0 h' → Wys h' 53 (sB s) (sG s) 0 → Q (some (.long (lN (wyi (sB s) (sG s) 0 0)))) h') : ∀ (k : Nat) (h : XH), k ≤ gNn (sG s) → CI h r s → cch h0 h → Wys h 53 (sB s) (sG s) k →
    XW (xrm 4 0 0) mX2_countFits (xE 100 Q X 0 0) 100 0 0 h 37 [some (.ref 52), some (.ref 29), some (.ref r), some (.ref 21), some (.int (iz ((k : Int) - 1))), none] [] := by
  have hl := hg.l
  have hn := hg.nn
  intro k
  induction k with
  | zero =>
    intro h hk hC hc hv
    have hf := c_fitsFrom hC (show 0 ≤ 40 by omega) (show 0 ≤ 100 by omega) (hv 0 (Nat.le_refl _) (by omega) 0 (Nat.zero_le _))
    refine v_X2_countFits_37 r hC.bp _ ⟨fun _ => ⟨_, hf, ?_⟩, fun c => absurd (by decide) c⟩
    rintro v h2 ⟨rfl, e2⟩
    subst e2
    exact ⟨_, rfl, hQ h2 hC hc hv⟩
  | succ k ih =>
    intro h hk hC hc hv
    have e : iz (((k + 1 : Nat) : Int) - 1) = nI k := by rw [iz_nI]; congr 1; omega
    rw [e]
    exact v_X2_countFits_37 r hC.bp _ ⟨fun c => absurd c (nI_pos (by omega)), fun _ => l_cntIn hg (by omega) h0 (bLast (sB s) + 1) 0 h (by omega) hC hc hv (fun q hq => by omega) (fun h' k1 k2 k3 => ih h' (by omega) k1 k2 k3)⟩
theorem l_cnt1 {r : Nat} {s : SG} (hg : GoodS s) (h0 : XH) {Q : Option Value → XH → Prop} {X : String → XH → Prop} (hQ : ∀ h', CI h' r s → cch h0 h' → Wys h' 53 (sB s) (sG s) 0 → Q (some (.long (lN (wyi (sB s) (sG s) 0 0)))) h') : ∀ (k x : Nat) (h : XH), x + k = bLast (sB s) + 1 → CI h r s → cch h0 h → (∀ q, q < x → xL h 53 (101 * gNn (sG s) + q) = lN 1) →
    XW (xrm 4 0 0) mX2_countFits (xE 100 Q X 0 0) 100 0 0 h 3 [some (.ref 52), some (.ref 29), some (.ref r), some (.ref 21), some (.int (nI x)), none] [] := by
  have hl := hg.l
  have hn := hg.nn
  intro k
  induction k with
  | zero =>
    intro x h hx hC hc hz
    have : x = bLast (sB s) + 1 := by omega
    subst this
    refine v_X2_countFits_3 r hC.bp (nI _) ⟨fun _ => ?_, fun c => absurd ?_ c⟩
    · have e : nI (gNn (sG s)) - 1 = iz ((gNn (sG s) : Int) - 1) := by rw [iz_nI, iz_lit 1, iz_sub]; rfl
      rw [hC.nn, e]
      refine l_cntOut hg h0 hQ (gNn (sG s)) h (Nat.le_refl _) hC hc (fun i h1 h2 q hq => ?_)
      have : i = gNn (sG s) := by omega
      rw [this, wyi_n]; exact hz q (by omega)
    · rw [hC.last]; exact nI_lt (by omega) (by omega)
  | succ k ih =>
    intro x h hx hC hc hz
    refine v_X2_countFits_3 r hC.bp (nI _) ⟨fun c => absurd c ?_, fun _ => ?_⟩
    · rw [hC.last]; exact nI_nlt (by omega) (by omega)
    rw [hC.nn]
    refine ⟨_, c_putFits hC (show gNn (sG s) ≤ 40 by omega) (show x ≤ 100 by omega) _, ?_⟩
    rintro v h2 ⟨rfl, rfl, hC2, hc2⟩
    refine ⟨rfl, ?_⟩
    rw [nI_1]
    refine ih (x + 1) _ (by omega) hC2 (hc.trans hc2) (fun q hq => ?_)
    rw [xL_at]
    by_cases z : q = x
    · rw [z, va_up_eq]; rfl
    · rw [va_up_of _ _ (by omega)]; exact hz q (by omega)
theorem s_countFits {h : XH} {r : Nat} {s : SG} (hC : CI h r s) (hg : GoodS s) : XSpec mX2_countFits 4 0 0 100 100 [.ref 52, .ref 29, .ref r, .ref 21] h (fun v h' => v = some (.long (lN (wyi (sB s) (sG s) 0 0))) ∧ CI h' r s ∧ cch h h' ∧ Wys h' 53 (sB s) (sG s) 0) xno :=
  XSpec.of rfl (by decide) (Nat.le_of_ble_eq_true rfl) rfl (v_X2_countFits_0 r hC.bp (l_cnt1 hg h (fun h' k1 k2 k3 => ⟨rfl, k1, k2, k3⟩) (bLast (sB s) + 1) 0 h (by omega) hC cch.rfl (fun q hq => by omega)))
/-- the row that fits leaves -/
def StB (b : BD) (g : GD) (i q f : Nat) : Bool := decide (0 < bOd b f) && okB g i (bT b q f) && decide (0 < wyi b g (i + 1) (bT b q f))
def FitF (b : BD) (g : GD) (i q f : Nat) : Prop := 1 ≤ f ∧ f ≤ 6 ∧ StB b g i q f = true ∧ ∀ e, 1 ≤ e → e < f → StB b g i q e = false
def FitK (b : BD) (g : GD) : Nat → Nat → Nat → (Nat → Int32) → Prop
  | 0, _, _, _ => True
  | c + 1, i, q, R => ∃ f, FitF b g i q f ∧ R i = nI f ∧ FitK b g c (i + 1) (bT b q f) R
theorem fit_ex {b : BD} {g : GD} {i q : Nat} (hi : i < gNn g) (h : 0 < wyi b g i q) : ∃ f, 1 ≤ f ∧ f ≤ 6 ∧ StB b g i q f = true := by
  by_cases z : ∃ f, 1 ≤ f ∧ f ≤ 6 ∧ StB b g i q f = true
  · exact z
  · have e : sN (wyt b g i q) 1 6 = 0 := by
      refine sN_0 _ _ (fun f f1 f2 => ?_)
      have hn : ¬ StB b g i q f = true := fun y => z ⟨f, f1, by omega, y⟩
      unfold wyt
      by_cases c : (decide (0 < bOd b f) && okB g i (bT b q f)) = true
      · rw [if_pos c]
        unfold StB at hn
        rw [c, Bool.true_and] at hn
        have := of_decide_eq_false (Bool.eq_false_iff.mpr hn)
        omega
      · rw [if_neg c]
    rw [wyi_s hi, e] at h
    simp at h
theorem l_pff {r : Nat} {s : SG} (hg : GoodS s) {i q : Nat} (hi : i < gNn (sG s)) (hq : q ≤ bLast (sB s)) {h : XH} (hC : CI h r s) (hv : Wys h 53 (sB s) (sG s) 0) (hp : 0 < wyi (sB s) (sG s) i q) {Q : Option Value → XH → Prop} {X : String → XH → Prop} (hQ : ∀ f, FitF (sB s) (sG s) i q f → XW (xrm 3 0 0) mX2_putFirstFit (xE 100 Q X 0 0) 100 0 0 (xSI 40 (va_up (xI h 40) i (nI f)) h) 6 [some (.ref 52), some (.ref 29), some (.ref r), some (.ref 21), some (.ref 40), some (.int (nI (bT (sB s) q f))), some (.int (nI (i + 1))), none, none] []) : ∀ (k f : Nat), f + k = 7 → 1 ≤ f → (∀ e, 1 ≤ e → e < f → StB (sB s) (sG s) i q e = false) →
    XW (xrm 3 0 0) mX2_putFirstFit (xE 100 Q X 0 0) 100 0 0 h 26 [some (.ref 52), some (.ref 29), some (.ref r), some (.ref 21), some (.ref 40), some (.int (nI q)), some (.int (nI i)), some (.int (nI f)), none] [] := by
  have hl := hg.l
  have hn := hg.nn
  intro k
  induction k with
  | zero =>
    intro f hf f1 hno
    obtain ⟨e, e1, e2, e3⟩ := fit_ex hi hp
    rw [hno e e1 (by omega)] at e3
    exact absurd e3 (by decide)
  | succ k ih =>
    intro f hf f1 hno
    have o9 := hg.die.1 f f1 (by omega)
    have tt := hg.tl _ hq f (by omega)
    have step : StB (sB s) (sG s) i q f = false → XW (xrm 3 0 0) mX2_putFirstFit (xE 100 Q X 0 0) 100 0 0 h 26 [some (.ref 52), some (.ref 29), some (.ref r), some (.ref 21), some (.ref 40), some (.int (nI q)), some (.int (nI i)), some (.int (nI f + 1)), none] [] := fun z => by
      rw [nI_1]
      refine ih (f + 1) (by omega) (by omega) (fun e e1 e2 => ?_)
      by_cases y : e = f
      · rw [y]; exact z
      · exact hno e e1 (by omega)
    refine v_X2_putFirstFit_26 r hC.bp _ _ (nI f) ⟨fun c => absurd c (nI_nlt (a := 6) (by omega) (by omega)), fun _ => ⟨_, c_to hC hq (by omega), ?_⟩⟩
    rintro v h1 ⟨rfl, e1⟩
    subst e1
    refine ⟨_, rfl, _, c_odds hC f1 (by omega), ?_⟩
    rintro v h2 ⟨rfl, e2⟩
    subst e2
    refine ⟨_, rfl, fun c => step ?_, fun c => ⟨_, c_fitsBy hC hg hi tt (fun j j1 j2 => hv j (Nat.zero_le _) j2), ?_⟩⟩
    · have c' : ¬ 0 < bOd (sB s) f := fun z => nI_nle z (by omega) c
      unfold StB; rw [decide_eq_false c']; rfl
    · have c' : 0 < bOd (sB s) f := Nat.pos_of_ne_zero (fun z => c (by rw [z]; decide))
      rintro v h3 ⟨rfl, e3⟩
      subst e3
      refine ⟨_, rfl, ?_⟩
      have bd := wy_le (sB s) (sG s) (gNn (sG s) - (i + 1)) (bT (sB s) q f)
      have bd' : wyi (sB s) (sG s) (i + 1) (bT (sB s) q f) ≤ 1000000000000000000 := bd
      have e0 : (0 : Int64) = lN 0 := rfl
      have bd2 : (if okB (sG s) i (bT (sB s) q f) = true then wyi (sB s) (sG s) (i + 1) (bT (sB s) q f) else 0) ≤ 1000000000000000000 := by split <;> omega
      rw [lg_cmp_le, e0, pk_lLE (by omega) (by omega)]
      have eS : StB (sB s) (sG s) i q f = decide (0 < (if okB (sG s) i (bT (sB s) q f) = true then wyi (sB s) (sG s) (i + 1) (bT (sB s) q f) else 0)) := by
        unfold StB
        rw [decide_eq_true c', Bool.true_and]
        by_cases y : okB (sG s) i (bT (sB s) q f) = true
        · rw [if_pos y, y, Bool.true_and]
        · rw [if_neg y, Bool.eq_false_iff.mpr y]; rfl
      refine ⟨fun c2 => step (by rw [eS]; exact decide_eq_false (by omega)), fun c2 => ⟨vp_in_nI (by omega) (by omega), ?_⟩⟩
      rw [nI_clamp (show i < 2 ^ 31 by omega), nI_1]
      exact hQ f ⟨f1, by omega, by rw [eS]; exact decide_eq_true (by omega), hno⟩
theorem CI.row40 {h : XH} {r : Nat} {s : SG} (hC : CI h r s) (w : Int32) (R : Nat → Int32) : CI (xSI 39 (va_up (xI (xSI 40 R h) 39) 0 w) (xSI 40 R h)) r (sRow s w R) := by
  refine hC.row w R _ ?_
  rw [xI_ne (by decide)]
  exact xSI_cm _ _ _ (by decide)
theorem BP.SI {h : XH} {r c : Nat} {f : Nat → Int32} (hb : BP r h) : BP r (xSI c f h) := hb
theorem fit_pos {b : BD} {g : GD} {i q f : Nat} (h : FitF b g i q f) : 0 < wyi b g (i + 1) (bT b q f) := by
  have := h.2.2.1
  unfold StB at this
  simp only [Bool.and_eq_true] at this
  exact of_decide_eq_true this.2
theorem CI.r40 {h : XH} {r : Nat} {s : SG} (hC : CI h r s) (R : Nat → Int32) : CI (xSI 40 R h) r (sRow s (sKl s) R) := by
  have hr := hC.r
  obtain ⟨c1, c2, c3, ⟨c4, c5⟩, c6, c7, c8⟩ := hC
  have e : ∀ c, c ≠ 40 → xI (xSI 40 R h) c = xI h c := fun c q1 => xI_ne q1
  exact ⟨c1, c2.of (h := h) (fun _ _ => Eq.refl _) (fun c hc => e c (by omega)), c3.of (h := h) (fun c q1 q2 => e c (by omega)), ⟨c4, fun z => (c5 z).of (h := h) (fun c q1 q2 => e c (by omega))⟩, ⟨c6.1, fun i _ => by rw [xI_at]; rfl⟩, c7, c8⟩
theorem l_pfo {r : Nat} {s : SG} (hg : GoodS s) {h0 : XH} (hC : CI h0 r s) (hv : Wys h0 53 (sB s) (sG s) 0) {Q : Option Value → XH → Prop} {X : String → XH → Prop} : ∀ (c i q : Nat) (R0 : Nat → Int32), i + c = gNn (sG s) → q ≤ bLast (sB s) → (i < gNn (sG s) → 0 < wyi (sB s) (sG s) i q) →
    (∀ R : Nat → Int32, (∀ j, j < i → R j = R0 j) → FitK (sB s) (sG s) c i q R → Q (some (.int (nI (gNn (sG s))))) (xSI 40 R h0)) →
    XW (xrm 3 0 0) mX2_putFirstFit (xE 100 Q X 0 0) 100 0 0 (xSI 40 R0 h0) 6 [some (.ref 52), some (.ref 29), some (.ref r), some (.ref 21), some (.ref 40), some (.int (nI q)), some (.int (nI i)), none, none] [] := by
  have hl := hg.l
  have hn := hg.nn
  intro c
  induction c with
  | zero =>
    intro i q R0 hi hq hp hQ
    have : i = gNn (sG s) := by omega
    subst this
    have e : xI (xSI 40 R0 h0) 29 2 = nI (gNn (sG s)) := by rw [xI_ne (by decide)]; exact hC.nn
    refine v_X2_putFirstFit_6 r (hC.r40 R0).bp _ (nI _) ⟨fun _ => ?_, fun c => absurd ?_ c⟩
    · rw [e]; exact hQ R0 (fun _ _ => rfl) True.intro
    · rw [e]; exact nI_le (Nat.le_refl _) (by omega)
  | succ c ih =>
    intro i q R0 hi hq hp hQ
    have e : xI (xSI 40 R0 h0) 29 2 = nI (gNn (sG s)) := by rw [xI_ne (by decide)]; exact hC.nn
    refine v_X2_putFirstFit_6 r (hC.r40 R0).bp _ (nI _) ⟨fun c => absurd c ?_, fun _ => ⟨fun c => absurd c (nI_ge (b := 101) (by omega) (by omega)), fun _ => ?_⟩⟩
    · rw [e]; exact nI_ge (by omega) (by omega)
    refine l_pff (s := sRow s (sKl s) R0) hg (show i < gNn (sG s) by omega) hq (hC.r40 R0) hv (hp (by omega)) (fun f hF => ?_) 6 1 rfl (Nat.le_refl _) (fun e e1 e2 => by omega)
    rw [xSI_SI, xI_at]
    refine ih (i + 1) _ (va_up R0 i (nI f)) (by omega) (hg.tl q hq f hF.2.1) (fun _ => fit_pos hF) (fun R k1 k2 => hQ R (fun j hj => ?_) ⟨f, hF, ?_, k2⟩)
    · rw [k1 j (by omega), va_up_of _ _ (by omega)]
    · rw [k1 i (by omega), va_up_eq]
def sFit (s : SG) (R : Nat → Int32) : SG := if wyi (sB s) (sG s) 0 0 = 0 then s else sRow s (nI (gNn (sG s))) R
theorem s_X10_fits {h : XH} {r : Nat} {s : SG} (hC : CI h r s) (hg : GoodS s) : XSpec mX10_fits 5 0 0 100 100 [.ref 0] h (fun v h' => v = some (.long (lN (wyi (sB s) (sG s) 0 0))) ∧ ∃ R, (0 < wyi (sB s) (sG s) 0 0 → FitK (sB s) (sG s) (gNn (sG s)) 0 0 R) ∧ CI h' r (sFit s R) ∧ cch h h') xno := by
  refine XSpec.of rfl (by decide) (Nat.le_of_ble_eq_true rfl) rfl (v_X10_fits_0 r hC.bp ⟨_, s_countFits hC hg, ?_⟩)
  rintro v h1 ⟨rfl, hC1, hc1, hv1⟩
  have bd : wyi (sB s) (sG s) 0 0 ≤ 1000000000000000000 := wy_le _ _ _ _
  have e0 : (0 : Int64) = lN 0 := rfl
  refine ⟨_, rfl, ?_⟩
  rw [lg_cmp_le, e0, pk_lLE (by omega) (by omega)]
  refine ⟨fun c => ⟨rfl, fun _ => 0, fun z => by omega, ?_, hc1⟩, fun c => ⟨hC1.p10, hC1.p14, hC1.p7, hC1.p3, hC1.p5, hC1.p10, hC1.way.1, fun v h' => ∃ R, v = some (.int (nI (gNn (sG s)))) ∧ h' = xSI 40 R h1 ∧ FitK (sB s) (sG s) (gNn (sG s)) 0 0 R, XSpec.of rfl (by decide) (Nat.le_of_ble_eq_true rfl) rfl (v_X2_putFirstFit_0 r hC1.bp ?_), ?_⟩⟩
  · unfold sFit; rw [if_pos (by omega)]; exact hC1
  · have := l_pfo hg hC1 hv1 (Q := fun v h' => ∃ R, v = some (.int (nI (gNn (sG s)))) ∧ h' = xSI 40 R h1 ∧ FitK (sB s) (sG s) (gNn (sG s)) 0 0 R) (X := xno) (gNn (sG s)) 0 0 (xI h1 40) (by omega) (Nat.zero_le _) (fun _ => by omega) (fun R _ k2 => ⟨R, rfl, rfl, k2⟩)
    rw [xSI_self] at this
    exact this
  · rintro v h2 ⟨R, rfl, rfl, hF⟩
    refine ⟨_, rfl, rfl, R, fun _ => hF, ?_, hc1.trans ?_⟩
    · unfold sFit; rw [if_neg (by omega)]; exact hC1.row40 _ R
    · exact fun c hc => ⟨(xI_ne (by omega)).trans (xI_ne (by omega)), Eq.refl _⟩
