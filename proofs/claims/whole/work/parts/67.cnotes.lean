/-! NOTES: the class -/
def askB (g : GD) (i : Nat) : Bool := decide (¬ gNr g i = -1 ∧ (i = 0 ∨ ¬ gNr g (i - 1) = -1))
def frN (g : GD) (i : Nat) : Nat := if i = 0 then 0 else (gNr g (i - 1)).toNatClampNeg
def canU (b : BD) (g : GD) (i l : Nat) : Nat → Bool
  | 0 => false
  | k + 1 => canU b g i l k || (decide (0 < bOd b (k + 1)) && decide (nI (bT b (frN g i) (k + 1 - l)) = gNr g i))
def canB (b : BD) (g : GD) (i l : Nat) : Bool := canU b g i l 6
theorem canU_mono {b : BD} {g : GD} {i l k : Nat} (h : canU b g i l k = true) : ∀ d, canU b g i l (k + d) = true := by
  intro d
  induction d with
  | zero => exact h
  | succ d ih => show (canU b g i l (k + d) || _) = true; rw [ih]; rfl
def badB (b : BD) (g : GD) (i : Nat) : Bool := askB g i && !canB b g i 0
def lesB (b : BD) (g : GD) (i : Nat) : Bool := badB b g i && canB b g i 1
def CnR (b : BD) (g : GD) (w : Int32) : Prop := (∃ i, i < gNn g ∧ w = nI i ∧ badB b g i = true ∧ ∀ j, j < i → badB b g j = false) ∨ (w = -1 ∧ ∀ j, j < gNn g → badB b g j = false)
def lesN (b : BD) (g : GD) : Nat → Nat
  | 0 => 0
  | k + 1 => lesN b g k + (if lesB b g k = true then 1 else 0)
theorem lesN_le (b : BD) (g : GD) (k : Nat) : lesN b g k ≤ k := by
  induction k with
  | zero => exact Nat.le_refl _
  | succ k ih => unfold lesN; split <;> omega
theorem GoodS.gm {s : SG} (g : GoodS s) : GoodGD (sB s) (sG s) := g.2.1
theorem GoodS.nn {s : SG} (g : GoodS s) : gNn (sG s) ≤ 40 := g.2.1.2.2.1
theorem GoodS.nr {s : SG} (g : GoodS s) : ∀ i, i < gNn (sG s) → gNr (sG s) i = -1 ∨ ∃ q, q ≤ bLast (sB s) ∧ gNr (sG s) i = nI q := g.2.1.2.2.2.2.2.1
theorem frN_le {s : SG} (g : GoodS s) {i : Nat} (hi : i < gNn (sG s)) (ha : askB (sG s) i = true) : frN (sG s) i ≤ bLast (sB s) ∧ (i ≠ 0 → gNr (sG s) (i - 1) = nI (frN (sG s) i)) := by
  have hl := g.l
  have ha' := of_decide_eq_true ha
  unfold frN
  by_cases z : i = 0
  · rw [if_pos z]; exact ⟨Nat.zero_le _, fun q => absurd z q⟩
  · rw [if_neg z]
    rcases g.nr (i - 1) (by omega) with e | ⟨q, q1, q2⟩
    · exact absurd e (ha'.2.resolve_left z)
    · rw [q2, nI_clamp (by omega)]; exact ⟨q1, fun _ => rfl⟩
theorem CI.nn {h : XH} {r : Nat} {s : SG} (hC : CI h r s) : xI h 29 2 = nI (gNn (sG s)) := hC.2.2.1.2.2.1
theorem c_note {h : XH} {r : Nat} {s : SG} (hC : CI h r s) (hg : GoodS s) {i : Nat} (hi : i < gNn (sG s)) : XSpec mX7_noteOf 1 0 0 100 100 [.ref 29, .int (nI i)] h (xq (some (.int (gNr (sG s) i))) h) xno := by
  have hn := hg.nn
  have e := s_X7_noteOf 100 h 29 hC.1.2.2.1 (by omega) (nI i)
  rw [iz_rd (M := 40) rfl (by omega), hC.2.2.1.2.2.2.2.2.2.1 i hi] at e
  exact e
theorem c_isAsked {h : XH} {r : Nat} {s : SG} (hC : CI h r s) (hg : GoodS s) {i : Nat} (hi : i < gNn (sG s)) : XSpec mX2_isAsked 2 0 0 100 100 [.ref 29, .int (nI i)] h (xq (some (.int (bI (askB (sG s) i)))) h) xno := by
  have hn := hg.nn
  refine XSpec.of rfl (by decide) (Nat.le_of_ble_eq_true rfl) rfl (v_X2_isAsked_0 r hC.bp (nI i) ⟨_, c_note hC hg hi, ?_⟩)
  rintro v h1 ⟨rfl, rfl⟩
  refine ⟨_, rfl, fun c => ⟨?_, rfl⟩, fun c => ⟨fun c2 => ⟨?_, rfl⟩, fun c2 => ?_⟩⟩
  · have : askB (sG s) i = false := decide_eq_false (fun z => z.1 c)
    rw [this]; rfl
  · have z : i = 0 := (nI_eq (b := 0) (by omega) (by omega)).1 c2
    have : askB (sG s) i = true := decide_eq_true ⟨c, Or.inl z⟩
    rw [this]; rfl
  · have z : ¬ i = 0 := fun y => c2 (by rw [y]; rfl)
    rw [nI_p1 (by omega)]
    refine ⟨_, c_note hC hg (show i - 1 < gNn (sG s) by omega), ?_⟩
    rintro v h2 ⟨rfl, rfl⟩
    refine ⟨_, rfl, fun c3 => ⟨?_, rfl⟩, fun c3 => ⟨?_, rfl⟩⟩
    · have : askB (sG s) i = false := decide_eq_false (fun y => y.2.elim z (fun q => q c3))
      rw [this]; rfl
    · have : askB (sG s) i = true := decide_eq_true ⟨c, Or.inr c3⟩
      rw [this]; rfl
theorem l_canCome {h : XH} {r : Nat} {s : SG} (hC : CI h r s) (hg : GoodS s) {i l : Nat} (hi : i < gNn (sG s)) (ha : askB (sG s) i = true) (hl1 : l ≤ 1) {Q : Option Value → XH → Prop} {X : String → XH → Prop} (hQ : Q (some (.int (bI (canB (sB s) (sG s) i l)))) h) : ∀ (k f : Nat), f + k = 6 → canU (sB s) (sG s) i l f = false →
    XW (xrm 2 0 0) mX2_canCome (xE 100 Q X 0 0) 100 0 0 h 20 [some (.ref 29), some (.ref r), some (.ref 21), some (.int (nI i)), some (.int (nI l)), some (.int (nI (frN (sG s) i))), some (.int (nI (f + 1)))] [] := by
  have hl := hg.l
  intro k
  induction k with
  | zero =>
    intro f hf hn
    have : f = 6 := by omega
    subst this
    refine v_X2_canCome_20 r hC.bp _ _ _ (nI 7) ⟨fun _ => ?_, fun c => absurd (by decide) c⟩
    have : canB (sB s) (sG s) i l = false := hn
    rw [this] at hQ
    exact hQ
  | succ k ih =>
    intro f hf hn
    have hfr := (frN_le hg hi ha).1
    have o9 := hg.die.1 (f + 1) (by omega) (by omega)
    have tt := hg.tl _ hfr (f + 1 - l) (by omega)
    refine v_X2_canCome_20 r hC.bp _ _ _ (nI (f + 1)) ⟨fun c => absurd c (nI_nlt (a := 6) (by omega) (by omega)), fun _ => ⟨_, c_odds hC (by omega) (by omega), ?_⟩⟩
    rintro v h1 ⟨rfl, rfl⟩
    refine ⟨_, rfl, fun c => ?_, fun c => ?_⟩
    · have c' : ¬ 0 < bOd (sB s) (f + 1) := fun z => nI_nle z (by omega) c
      rw [nI_1]
      exact ih (f + 1) (by omega) (by show (_ || (_ && _)) = false; rw [hn, decide_eq_false c']; rfl)
    · have c' : 0 < bOd (sB s) (f + 1) := Nat.pos_of_ne_zero (fun z => c (by rw [z]; decide))
      have e : nI (f + 1) - nI l = nI (f + 1 - l) := pk_sub (by omega)
      rw [e]
      refine ⟨_, c_to hC hfr (by omega), ?_⟩
      rintro v h2 ⟨rfl, rfl⟩
      refine ⟨_, rfl, _, c_note hC hg hi, ?_⟩
      rintro v h3 ⟨rfl, rfl⟩
      refine ⟨_, rfl, fun c2 => ?_, fun c2 => ?_⟩
      · rw [nI_1]
        exact ih (f + 1) (by omega) (by show (_ || (_ && _)) = false; rw [hn, decide_eq_false c2, Bool.and_false]; rfl)
      · have e1 : canU (sB s) (sG s) i l (f + 1) = true := by show (_ || (_ && _)) = true; rw [decide_eq_true c', decide_eq_true c2]; simp
        have : canB (sB s) (sG s) i l = true := by
          have := canU_mono e1 (6 - (f + 1))
          rw [show f + 1 + (6 - (f + 1)) = 6 by omega] at this
          exact this
        rw [this] at hQ
        exact hQ
theorem c_canCome {h : XH} {r : Nat} {s : SG} (hC : CI h r s) (hg : GoodS s) {i l : Nat} (hi : i < gNn (sG s)) (ha : askB (sG s) i = true) (hl1 : l ≤ 1) : XSpec mX2_canCome 2 0 0 100 100 [.ref 29, .ref r, .ref 21, .int (nI i), .int (nI l)] h (xq (some (.int (bI (canB (sB s) (sG s) i l)))) h) xno := by
  have hn := hg.nn
  have hfr := frN_le hg hi ha
  refine XSpec.of rfl (by decide) (Nat.le_of_ble_eq_true rfl) rfl (v_X2_canCome_0 r hC.bp (nI i) (nI l) ⟨fun c => ?_, fun c => ?_⟩)
  · have z : i ≠ 0 := fun y => c (by rw [y]; rfl)
    rw [nI_p1 (by omega)]
    refine ⟨_, c_note hC hg (show i - 1 < gNn (sG s) by omega), ?_⟩
    rintro v h2 ⟨rfl, rfl⟩
    refine ⟨_, rfl, ?_⟩
    rw [hfr.2 z]
    exact l_canCome hC hg hi ha hl1 ⟨rfl, rfl⟩ 6 0 rfl rfl
  · have z : i = 0 := (nI_eq (b := 0) (by omega) (by omega)).1 c
    have := l_canCome hC hg hi ha hl1 (Q := xq (some (.int (bI (canB (sB s) (sG s) i l)))) h) (X := xno) ⟨rfl, rfl⟩ 6 0 rfl rfl
    have e : frN (sG s) i = 0 := by unfold frN; rw [if_pos z]
    rw [e] at this
    exact this
theorem l_cannot {h : XH} {r : Nat} {s : SG} (hC : CI h r s) (hg : GoodS s) {Q : Option Value → XH → Prop} {X : String → XH → Prop} (hQ : ∀ w, CnR (sB s) (sG s) w → Q (some (.int w)) h) : ∀ (k i : Nat), i + k = gNn (sG s) → (∀ j, j < i → badB (sB s) (sG s) j = false) →
    XW (xrm 3 0 0) mX2_firstThatCannotBe (xE 100 Q X 0 0) 100 0 0 h 3 [none, some (.ref 29), some (.ref r), some (.ref 21), some (.int (nI i))] [] := by
  have hn := hg.nn
  intro k
  induction k with
  | zero =>
    intro i hi hb
    have : i = gNn (sG s) := by omega
    subst this
    refine v_X2_firstThatCannotBe_3 r hC.bp (nI _) ⟨fun _ => hQ _ (Or.inr ⟨rfl, hb⟩), fun c => absurd ?_ c⟩
    rw [hC.nn]; exact nI_le (Nat.le_refl _) (by omega)
  | succ k ih =>
    intro i hi hb
    have step : badB (sB s) (sG s) i = false → XW (xrm 3 0 0) mX2_firstThatCannotBe (xE 100 Q X 0 0) 100 0 0 h 3 [none, some (.ref 29), some (.ref r), some (.ref 21), some (.int (nI i + 1))] [] := fun z => by
      rw [nI_1]
      refine ih (i + 1) (by omega) (fun j hj => ?_)
      by_cases e : j = i
      · rw [e]; exact z
      · exact hb j (by omega)
    refine v_X2_firstThatCannotBe_3 r hC.bp (nI _) ⟨fun c => absurd c ?_, fun _ => ⟨_, c_isAsked hC hg (show i < gNn (sG s) by omega), ?_⟩⟩
    · rw [hC.nn]; exact nI_ge (by omega) (by omega)
    rintro v h1 ⟨rfl, e1⟩
    subst e1
    refine ⟨_, rfl, fun c => step (by unfold badB; rw [bI_0.1 c]; rfl), fun c => ?_⟩
    have ha := bI_n0.1 c
    refine ⟨_, c_canCome hC hg (show i < gNn (sG s) by omega) ha (Nat.zero_le 1), ?_⟩
    rintro v h2 ⟨rfl, e2⟩
    subst e2
    refine ⟨_, rfl, fun c2 => step (by unfold badB; rw [bI_n0.1 c2]; simp), fun c2 => hQ _ (Or.inl ⟨i, by omega, rfl, ?_, hb⟩)⟩
    unfold badB
    rw [ha, bI_0.1 c2]; rfl
theorem s_X10_cannot {h : XH} {r : Nat} {s : SG} (hC : CI h r s) (hg : GoodS s) : XSpec mX10_cannot 4 0 0 100 100 [.ref 0] h (fun v h' => ∃ w, v = some (.int w) ∧ CnR (sB s) (sG s) w ∧ CI h' r s ∧ cch h h') xno := by
  refine XSpec.of rfl (by decide) (Nat.le_of_ble_eq_true rfl) rfl (v_X10_cannot_0 r hC.bp ⟨fun v h' => h' = h ∧ ∃ w, v = some (.int w) ∧ CnR (sB s) (sG s) w, XSpec.of rfl (by decide) (Nat.le_of_ble_eq_true rfl) rfl (v_X2_firstThatCannotBe_0 r hC.bp (l_cannot hC hg (fun w hw => ⟨rfl, w, rfl, hw⟩) (gNn (sG s)) 0 (by omega) (fun j hj => by omega))), ?_⟩)
  rintro v h1 ⟨rfl, w, rfl, hw⟩
  exact ⟨_, rfl, _, rfl, hw, hC, cch.rfl⟩
theorem l_less {h : XH} {r : Nat} {s : SG} (hC : CI h r s) (hg : GoodS s) {Q : Option Value → XH → Prop} {X : String → XH → Prop} (hQ : Q (some (.int (nI (lesN (sB s) (sG s) (gNn (sG s)))))) h) : ∀ (k i : Nat), i + k = gNn (sG s) →
    XW (xrm 3 0 0) mX2_countOneLess (xE 100 Q X 0 0) 100 0 0 h 6 [none, some (.ref 29), some (.ref r), some (.ref 21), some (.int (nI (lesN (sB s) (sG s) i))), some (.int (nI i))] [] := by
  have hn := hg.nn
  intro k
  induction k with
  | zero =>
    intro i hi
    have : i = gNn (sG s) := by omega
    subst this
    refine v_X2_countOneLess_6 r hC.bp _ (nI _) ⟨fun _ => hQ, fun c => absurd ?_ c⟩
    rw [hC.nn]; exact nI_le (Nat.le_refl _) (by omega)
  | succ k ih =>
    intro i hi
    have step0 : lesB (sB s) (sG s) i = false → XW (xrm 3 0 0) mX2_countOneLess (xE 100 Q X 0 0) 100 0 0 h 6 [none, some (.ref 29), some (.ref r), some (.ref 21), some (.int (nI (lesN (sB s) (sG s) i))), some (.int (nI i + 1))] [] := fun z => by
      rw [nI_1]
      have := ih (i + 1) (by omega)
      unfold lesN at this
      rw [z] at this
      exact this
    have hi' : i < gNn (sG s) := by omega
    refine v_X2_countOneLess_6 r hC.bp _ (nI _) ⟨fun c => absurd c ?_, fun _ => ⟨_, c_isAsked hC hg hi', ?_⟩⟩
    · rw [hC.nn]; exact nI_ge (by omega) (by omega)
    rintro v h1 ⟨rfl, e1⟩
    subst e1
    refine ⟨_, rfl, fun c => step0 (by unfold lesB badB; rw [bI_0.1 c]; rfl), fun c => ?_⟩
    have ha := bI_n0.1 c
    refine ⟨_, c_canCome hC hg hi' ha (Nat.zero_le 1), ?_⟩
    rintro v h2 ⟨rfl, e2⟩
    subst e2
    refine ⟨_, rfl, fun c2 => step0 (by unfold lesB badB; rw [bI_n0.1 c2]; simp), fun c2 => ⟨_, c_canCome hC hg hi' ha (Nat.le_refl 1), ?_⟩⟩
    rintro v h3 ⟨rfl, e3⟩
    subst e3
    refine ⟨_, rfl, fun c3 => step0 (by unfold lesB; rw [bI_0.1 c3]; simp), fun c3 => ?_⟩
    rw [nI_1, nI_1]
    have := ih (i + 1) (by omega)
    unfold lesN lesB badB at this
    rw [ha, bI_0.1 c2, bI_n0.1 c3] at this
    exact this
theorem s_X10_less {h : XH} {r : Nat} {s : SG} (hC : CI h r s) (hg : GoodS s) : XSpec mX10_less 4 0 0 100 100 [.ref 0] h (fun v h' => v = some (.int (nI (lesN (sB s) (sG s) (gNn (sG s))))) ∧ CI h' r s ∧ cch h h') xno := by
  refine XSpec.of rfl (by decide) (Nat.le_of_ble_eq_true rfl) rfl (v_X10_less_0 r hC.bp ⟨fun v h' => h' = h ∧ v = some (.int (nI (lesN (sB s) (sG s) (gNn (sG s))))), XSpec.of rfl (by decide) (Nat.le_of_ble_eq_true rfl) rfl (v_X2_countOneLess_0 r hC.bp (l_less hC hg ⟨rfl, rfl⟩ (gNn (sG s)) 0 (by omega))), ?_⟩)
  rintro v h1 ⟨rfl, rfl⟩
  exact ⟨_, rfl, rfl, hC, cch.rfl⟩
