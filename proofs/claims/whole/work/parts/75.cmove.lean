/-! MOVES: the class -/
def canMv (s : SG) : Bool := !ovB s && decide (gTh (sG s) < 200)
theorem c_canMove {h : XH} {r : Nat} {s : SG} (hC : CI h r s) (hg : GoodS s) : XSpec mX7_canMove 1 0 0 100 100 [.ref 29] h (xq (some (.int (bI (canMv s)))) h) xno := by
  have ht := hg.th
  have hp := hg.pc
  have e := s_X7_canMove 100 h 29 hC.1.2.2.1 (by omega)
  have e1 : (if xI h 29 0 = (-1) then (0 : Int32) else if 200 ≤ xI h 29 1 then 0 else 1) = bI (canMv s) := by
    rw [hC.gm.1, hC.th]
    unfold canMv
    cases c : isOv (bLast (sB s)) (bPc (sB s)) (gPl (sG s)) with
    | true =>
      have : ovB s = true := c
      rw [this, if_pos rfl, if_pos rfl]; rfl
    | false =>
      have : ovB s = false := c
      have h1 := hg.2.1.1
      rw [this, if_neg (show ¬ (if false = true then (-1 : Int32) else nI (gT (sG s))) = -1 by rw [if_neg (by decide)]; exact nI_nm1 (by omega))]
      by_cases z : gTh (sG s) < 200
      · rw [if_neg (show ¬ (200 : Int32) ≤ nI (gTh (sG s)) from nI_ge (b := 200) (by omega) (by omega)), decide_eq_true z]; rfl
      · rw [if_pos (show (200 : Int32) ≤ nI (gTh (sG s)) from nI_le (a := 200) (by omega) (by omega)), decide_eq_false z]; rfl
  rw [e1] at e
  exact e
theorem l_send {r : Nat} {b : BD} {g : GD} {f : Nat} (hpc : 1 ≤ bPc b ∧ bPc b ≤ 4) (ht : gT g < bPc b) (hl : bLast b ≤ 100) (hpl : ∀ p, p < 4 → tPl1 b g f p ≤ bLast b) (hto : tTo b g f ≤ bLast b) (hmt : bMt b = 1 ∧ tTo b g f ≠ 0 ∧ tTo b g f ≠ bLast b) {Q : Option Value → XH → Prop} {X : String → XH → Prop} : ∀ (k p : Nat) (h : XH), p + k = bPc b → BP r h → xI h 29 3 = nI (bPc b) → xI h 29 0 = nI (gT g) → (∀ q, q < 4 → xI h 30 q = nI (tPl b g f p q)) →
    (∀ F : Nat → Int32, (∀ q, q < 4 → F q = nI (tPl b g f (bPc b) q)) → Q (some (.int (nI (tMsk b g f (bPc b))))) (xSI 30 F h)) →
    XW (xrm 2 0 0) mX7_sendBack (xE 100 Q X 0 0) 100 0 0 h 4 [some (.ref 29), some (.int (nI (tTo b g f))), some (.int (nI (tMsk b g f p))), some (.int (nI p))] [] := by
  intro k
  induction k with
  | zero =>
    intro p h hp hb h3 h0 hv hQ
    have : p = bPc b := by omega
    subst this
    refine v_X7_sendBack_4 r hb _ _ (nI _) ⟨fun _ => ?_, fun c => absurd ?_ c⟩
    · have := hQ (xI h 30) hv
      rw [xSI_self] at this
      exact this
    · rw [h3]; exact nI_le (Nat.le_refl _) (by omega)
  | succ k ih =>
    intro p h hp hb h3 h0 hv hQ
    have hm := tMsk_lt (b := b) (g := g) (f := f) p
    have hm4 : tMsk b g f p < 16 := by
      have : 2 ^ p ≤ 2 ^ 4 := Nat.pow_le_pow_right (by omega) (by omega)
      omega
    have hun : tPl b g f p p = tPl1 b g f p := by unfold tPl; rw [if_neg (fun z => absurd z.1 (by omega))]
    have hpp := hpl p (by omega)
    have nomet : tMet b g f p = false → XW (xrm 2 0 0) mX7_sendBack (xE 100 Q X 0 0) 100 0 0 h 4 [some (.ref 29), some (.int (nI (tTo b g f))), some (.int (nI (tMsk b g f p))), some (.int (nI p + 1))] [] := fun z => by
      have e : tMsk b g f (p + 1) = tMsk b g f p := by
        show (if tMet b g f p = true then _ else _) = _
        rw [z]; rfl
      have := ih (p + 1) h (by omega) hb h3 h0 (fun q hq => by
        rw [hv q hq]
        congr 1
        unfold tPl
        by_cases y : q = p
        · rw [if_neg (fun w => by omega), if_neg (fun w => by rw [y, z] at w; exact absurd w.2 (by decide))]
        · by_cases w : q < p
          · simp only [w, show q < p + 1 by omega]
          · rw [if_neg (fun v => w v.1), if_neg (fun v => by omega)]) hQ
      rw [e] at this
      rw [nI_1]; exact this
    refine v_X7_sendBack_4 r hb _ _ (nI _) ⟨fun c => absurd c ?_, fun _ => ?_⟩
    · rw [h3]; exact nI_ge (by omega) (by omega)
    rw [h0]
    refine ⟨fun c => nomet ?_, fun c => ⟨_, s_X7_placeOf 100 h 29 hb.2.2.2.2.2.1 (by omega) (nI p), ?_⟩⟩
    · have : p = gT g := (nI_eq (by omega) (by omega)).1 c
      rw [this]; exact tMet_t
    · rintro v h1 ⟨rfl, e1⟩
      subst e1
      rw [iz_rd (M := 4) rfl (by omega), hv p (by omega), hun]
      have hpt : p ≠ gT g := fun z => c (by rw [z])
      refine ⟨_, rfl, fun c2 => nomet ?_, fun c2 => ⟨_, s_X7_place 100 h1 29 hb.2.2.2.2.2.1 (by omega) (nI p) 0, ?_⟩⟩
      · unfold tMet
        rw [decide_eq_false (p := p ≠ gT g ∧ _) (fun z => c2 (by rw [z.2])), Bool.and_false]
      · have c2' : tPl1 b g f p = tTo b g f := (nI_eq (by omega) (by omega)).1 c2
        have hme : tMet b g f p = true := by unfold tMet; rw [decide_eq_true hmt, decide_eq_true ⟨hpt, c2'⟩]; rfl
        rintro v h2 ⟨rfl, e2⟩
        rw [iz_wr (M := 4) rfl (by omega)] at e2
        subst e2
        have em : tMsk b g f (p + 1) = tMsk b g f p ||| (1 <<< p) := by
          show (if tMet b g f p = true then _ else _) = _
          rw [hme]; rfl
        refine ⟨rfl, ?_⟩
        rw [or4 _ hm4 p (by omega), ← em, nI_1]
        refine ih (p + 1) (xSI 30 (va_up (xI h1 30) p 0) h1) (by omega) hb (by rw [xI_ne (by decide)]; exact h3) (by rw [xI_ne (by decide)]; exact h0) (fun q hq => ?_) (fun F hF => by have := hQ F hF; rw [xSI_SI]; exact this)
        rw [xI_at]
        by_cases y : q = p
        · rw [y, va_up_eq]
          unfold tPl
          rw [if_pos ⟨by omega, hme⟩]; rfl
        · rw [va_up_of _ _ y, hv q hq]
          congr 1
          unfold tPl
          by_cases w : q < p
          · simp only [w, show q < p + 1 by omega]
          · rw [if_neg (fun v => w v.1), if_neg (fun v => by omega)]
def nxI (o : Option Nat) : Int32 := match o with
  | some p => nI p
  | none => -1
theorem l_next {r : Nat} {last pc t : Nat} {pl : Nat → Nat} (hpc : 1 ≤ pc ∧ pc ≤ 4) (ht : t < pc) (hl : last ≤ 100) (hpl : ∀ p, p < 4 → pl p ≤ last) {h : XH} (hb : BP r h) (h3 : xI h 29 3 = nI pc) (hr0 : xI h r 0 = nI last) (hv : ∀ q, q < 4 → xI h 30 q = nI (pl q)) {Q : Option Value → XH → Prop} {X : String → XH → Prop} : ∀ (c i : Nat), i + c = pc → Q (some (.int (nxI (nxt last pc t pl c)))) h →
    XW (xrm 2 0 0) mX7_nextTurn (xE 100 Q X 0 0) 100 0 0 h 36 [some (.ref 29), some (.ref r), none, some (.int (nI ((t + i) % pc))), some (.int (nI i))] [] := by
  intro c
  induction c with
  | zero =>
    intro i hi hQ
    have : i = pc := by omega
    subst this
    refine v_X7_nextTurn_36 r hb _ (nI _) ⟨fun _ => hQ, fun c => absurd ?_ c⟩
    rw [h3]; exact nI_le (Nat.le_refl _) (by omega)
  | succ c ih =>
    intro i hi hQ
    have hm : (t + i) % pc < pc := Nat.mod_lt _ (by omega)
    have hm2 : (t + (i + 1)) % pc < pc := Nat.mod_lt _ (by omega)
    have e0 : pc - c = i + 1 := by omega
    unfold nxt at hQ
    rw [e0] at hQ
    have e1 := mod_add ht (show i ≤ pc by omega)
    have e2 := mod_add ht (show i + 1 ≤ pc by omega)
    have hpq := hpl ((t + (i + 1)) % pc) (by omega)
    have rest : ∀ x : Int32, x = nI ((t + (i + 1)) % pc) → ∃ Q1, XSpec mX7_placeOf 1 0 0 100 100 [.ref 29, .int x] h Q1 xno ∧ ∀ v h2, Q1 v h2 → ∃ r2 : Int32, v = some (.int r2) ∧ ((r2 = (xI h2 r 0) → XW (xrm 2 0 0) mX7_nextTurn (xE 100 Q X 0 0) 100 0 0 h2 36 [some (.ref 29), some (.ref r), none, some (.int x), some (.int (nI i + 1))] []) ∧ (¬ r2 = (xI h2 r 0) → Q (some (.int x)) h2)) := by
      intro x ex
      subst ex
      refine ⟨_, s_X7_placeOf 100 h 29 hb.2.2.2.2.2.1 (by omega) _, ?_⟩
      rintro v h2 ⟨rfl, e3⟩
      subst e3
      rw [iz_rd (M := 4) rfl (by omega), hv _ (by omega), hr0]
      refine ⟨_, rfl, fun c2 => ?_, fun c2 => ?_⟩
      · have c2' := (nI_eq (by omega) (by omega)).1 c2
        rw [if_pos c2'] at hQ
        rw [nI_1]
        exact ih (i + 1) (by omega) hQ
      · rw [if_neg (fun z => c2 (by rw [z]))] at hQ
        exact hQ
    refine v_X7_nextTurn_36 r hb _ (nI _) ⟨fun c => absurd c ?_, fun _ => ?_⟩
    · rw [h3]; exact nI_ge (by omega) (by omega)
    rw [h3, nI_1, nI_ltI (by omega) (by omega)]
    refine ⟨fun c2 => rest _ ?_, fun c2 => rest 0 ?_⟩
    · congr 1
      by_cases z : t + i < pc
      · rw [if_pos z] at e1
        rw [e1] at c2
        rw [if_pos (show t + (i + 1) < pc by omega)] at e2
        omega
      · rw [if_neg z] at e1
        rw [if_neg (show ¬ t + (i + 1) < pc by omega)] at e2
        omega
    · have : (t + (i + 1)) % pc = 0 := by
        by_cases z : t + i < pc
        · rw [if_pos z] at e1
          rw [e1] at c2
          rw [if_neg (show ¬ t + (i + 1) < pc by omega)] at e2
          omega
        · rw [if_neg z] at e1
          omega
      rw [this]; rfl
theorem c_next {r : Nat} {b : BD} {t f : Nat} {pl : Nat → Nat} (hpc : 1 ≤ bPc b ∧ bPc b ≤ 4) (ht : t < bPc b) (hl : bLast b ≤ 100) (hag : bAg b ≤ 6) (hf : f ≤ 6) (hpl : ∀ p, p < 4 → pl p ≤ bLast b) {h : XH} (hb : BP r h) (h3 : xI h 29 3 = nI (bPc b)) (h0 : xI h 29 0 = nI t) (hr0 : xI h r 0 = nI (bLast b)) (hr4 : xI h r 4 = nI (bAg b)) (hv : ∀ q, q < 4 → xI h 30 q = nI (pl q)) : XSpec mX7_nextTurn 2 0 0 100 100 [.ref 29, .ref r, .int (nI f)] h (xq (some (.int (nxI (tNx b t f pl)))) h) xno := by
  have hpt := hpl t (by omega)
  have loop : ∀ (Q : Option Value → XH → Prop), Q (some (.int (nxI (nxt (bLast b) (bPc b) t pl (bPc b))))) h → XW (xrm 2 0 0) mX7_nextTurn (xE 100 Q xno 0 0) 100 0 0 h 36 [some (.ref 29), some (.ref r), none, some (.int (nI t)), some (.int 0)] [] := fun Q hQ => by
    have := l_next hpc ht hl hpl hb h3 hr0 hv (Q := Q) (X := xno) (bPc b) 0 (by omega) hQ
    rw [Nat.add_zero, Nat.mod_eq_of_lt ht] at this
    exact this
  refine XSpec.of rfl (by decide) (Nat.le_of_ble_eq_true rfl) rfl (v_X7_nextTurn_0 r hb (nI f) ?_)
  rw [hr4, h0, nI_eq (by omega) (by omega)]
  refine ⟨fun c => loop _ ⟨?_, rfl⟩, fun c => ⟨_, s_X7_placeOf 100 h 29 hb.2.2.2.2.2.1 (by omega) (nI t), ?_⟩⟩
  · unfold tNx
    rw [if_neg (fun z => c z.1.symm)]
  · rintro v h1 ⟨rfl, e1⟩
    subst e1
    rw [iz_rd (M := 4) rfl (by omega), hv t (by omega), hr0, h0]
    refine ⟨_, rfl, fun c2 => loop _ ⟨?_, rfl⟩, fun c2 => ⟨?_, rfl⟩⟩
    · have c2' := (nI_eq (by omega) (by omega)).1 c2
      unfold tNx
      rw [if_neg (fun z => z.2 c2')]
    · unfold tNx
      rw [if_pos ⟨c.symm, fun z => c2 (by rw [z])⟩]; rfl
theorem c_putLog {r : Nat} {h : XH} (hb : BP r h) {th k : Nat} (ht : th < 200) (hk : k < 5) (h1 : xI h 29 1 = nI th) (kk v : Int32) (e : kk = nI k) : XSpec mX7_putLog 1 0 0 100 100 [.ref 29, .int kk, .int v] h (xq none (xSI 31 (va_up (xI h 31) (5 * th + k) v) h)) xno := by
  subst e
  have e := s_X7_putLog 100 h 29 hb.2.2.2.2.2.1 (by omega) (nI k) v
  have e5 : nI th * 5 + nI k = nI (5 * th + k) := by
    have : (5 : Int32) = nI 5 := rfl
    rw [this, pk_mul, nI_add, Nat.mul_comm]
  rw [h1, e5, iz_wr (M := 1000) rfl (by omega)] at e
  exact e
def sThr (s : SG) (f : Nat) : SG := sGm s (gThr (sB s) (sG s) f)
theorem c_move {h : XH} {r : Nat} {s : SG} (hC : CI h r s) (hg : GoodS s) {f : Nat} (f1 : 1 ≤ f) (f2 : f ≤ 6) : XSpec mX7_move 3 0 0 100 100 [.ref 29, .ref r, .ref 21, .int (nI f)] h (fun v h' => (canMv s = true → v = some (.int (nI (tTo (sB s) (sG s) f))) ∧ CI h' r (sThr s f) ∧ cch h h') ∧ (canMv s = false → v = some (.int (-1)) ∧ h' = h)) xno := by
  have hl := hg.l
  have hp := hg.pc
  obtain ⟨q1, q2, q3, q4, q5, q6, q7⟩ := hg.2.1
  obtain ⟨g1, g2, g3, g4, g5, g6, g7, g8⟩ := hC.gm
  refine XSpec.of rfl (by decide) (Nat.le_of_ble_eq_true rfl) rfl (v_X7_move_0 r hC.bp (nI f) ⟨_, c_canMove hC hg, ?_⟩)
  rintro v h1 ⟨rfl, e1⟩
  subst e1
  refine ⟨_, rfl, fun c => ?_, fun c => ⟨fun z => ?_, fun _ => ⟨rfl, rfl⟩⟩⟩
  · have hcan := bI_n0.1 c
    have hov : isOv (bLast (sB s)) (bPc (sB s)) (gPl (sG s)) = false := by
      have := hcan
      unfold canMv at this
      simp only [Bool.and_eq_true, Bool.not_eq_true'] at this
      exact this.1
    have hth : gTh (sG s) < 200 := by
      have := hcan
      unfold canMv at this
      simp only [Bool.and_eq_true] at this
      exact of_decide_eq_true this.2
    have t0 : xI h1 29 0 = nI (gT (sG s)) := by rw [g1, hov]; rfl
    have hfr := q4 (gT (sG s)) (by omega)
    have hto : tTo (sB s) (sG s) f ≤ bLast (sB s) := hg.tl _ hfr f f2
    rw [t0]
    refine ⟨_, s_X7_placeOf 100 h1 29 hC.1.2.2.1 (by omega) (nI (gT (sG s))), ?_⟩
    rintro v h2 ⟨rfl, e2⟩
    subst e2
    rw [iz_rd (M := 4) rfl (by omega), g5 _ (by omega)]
    refine ⟨_, rfl, _, c_to hC hfr f2, ?_⟩
    rintro v h3 ⟨rfl, e3⟩
    subst e3
    rw [t0]
    refine ⟨_, rfl, _, s_X7_place 100 h3 29 hC.1.2.2.1 (by omega) (nI (gT (sG s))) _, ?_⟩
    rintro v h4 ⟨rfl, e4⟩
    rw [iz_wr (M := 4) rfl (by omega)] at e4
    have hpl1 : ∀ p, p < 4 → tPl1 (sB s) (sG s) f p ≤ bLast (sB s) := fun p hp4 => by
      unfold tPl1 va_up
      split
      · exact hto
      · exact q4 p hp4
    have n4 : ∀ c, c ≠ 30 → xI h4 c = xI h3 c := fun c hc => by rw [e4]; exact xI_ne hc
    have p4 : ∀ p, p < 4 → xI h4 30 p = nI (tPl1 (sB s) (sG s) f p) := fun p hp4 => by
      rw [e4, xI_at]
      unfold tPl1 va_up
      by_cases z : p = gT (sG s)
      · rw [if_pos z, if_pos z]; rfl
      · rw [if_neg z, if_neg z]; exact g5 p hp4
    have b4 : xP h4 = xP h3 := by rw [e4]; rfl
    have bp : ∀ hx : XH, xP hx = xP h3 → BP r hx := fun hx e => by
      have := hC.bp
      unfold BP at *
      rw [e]; exact this
    have e291 : xI h4 29 1 = nI (gTh (sG s)) := by rw [n4 29 (by decide)]; exact g2
    have e290 : xI h4 29 0 = nI (gT (sG s)) := by rw [n4 29 (by decide)]; exact t0
    refine ⟨rfl, _, c_putLog (bp h4 b4) hth (k := 0) (by decide) e291 0 _ rfl, ?_⟩
    rintro v h5 ⟨rfl, e5⟩
    have n5 : ∀ c, c ≠ 31 → xI h5 c = xI h4 c := fun c hc => by rw [e5]; exact xI_ne hc
    have b5 : xP h5 = xP h3 := by rw [e5]; exact b4
    refine ⟨rfl, _, c_putLog (bp h5 b5) hth (k := 1) (by decide) (by rw [n5 29 (by decide)]; exact e291) 1 _ rfl, ?_⟩
    rintro v h6 ⟨rfl, e6⟩
    have n6 : ∀ c, c ≠ 31 → xI h6 c = xI h4 c := fun c hc => by rw [e6, xI_ne hc]; exact n5 c hc
    have b6 : xP h6 = xP h3 := by rw [e6]; exact b5
    refine ⟨rfl, _, c_putLog (bp h6 b6) hth (k := 2) (by decide) (by rw [n6 29 (by decide)]; exact e291) 2 _ rfl, ?_⟩
    rintro v h7 ⟨rfl, e7⟩
    have n7 : ∀ c, c ≠ 31 → xI h7 c = xI h4 c := fun c hc => by rw [e7, xI_ne hc]; exact n6 c hc
    have b7 : xP h7 = xP h3 := by rw [e7]; exact b6
    refine ⟨rfl, _, c_putLog (bp h7 b7) hth (k := 3) (by decide) (by rw [n7 29 (by decide)]; exact e291) 3 _ rfl, ?_⟩
    rintro v h8 ⟨rfl, e8⟩
    have n8 : ∀ c, c ≠ 31 → xI h8 c = xI h4 c := fun c hc => by rw [e8, xI_ne hc]; exact n7 c hc
    have b8 : xP h8 = xP h3 := by rw [e8]; exact b7
    -- the log so far
    have lg8 : ∀ i, i ≤ gTh (sG s) → ∀ k, k < 5 → (i = gTh (sG s) → k ≠ 4) → xI h8 31 (5 * i + k) = nI (gLg (gThr (sB s) (sG s) f) i k) := by
      intro i hi k hk h4'
      have eg : gLg (gThr (sB s) (sG s) f) i k = if i = gTh (sG s) then (if k = 0 then gT (sG s) else if k = 1 then f else if k = 2 then gPl (sG s) (gT (sG s)) else if k = 3 then tTo (sB s) (sG s) f else tMsk (sB s) (sG s) f (bPc (sB s))) else gLg (sG s) i k := by
        show va_up (gLg (sG s)) (gTh (sG s)) _ i k = _
        unfold va_up
        by_cases z : i = gTh (sG s)
        · rw [if_pos z, if_pos z]
        · rw [if_neg z, if_neg z]
      rw [eg, e8, xI_at, e7, xI_at, e6, xI_at, e5, xI_at]
      rw [n4 31 (by decide)]
      by_cases z : i = gTh (sG s)
      · rw [if_pos z, z]
        have k4 := h4' z
        rcases (show k = 0 ∨ k = 1 ∨ k = 2 ∨ k = 3 by omega) with rfl | rfl | rfl | rfl
        · rw [va_up_of _ _ (by omega), va_up_of _ _ (by omega), va_up_of _ _ (by omega), va_up_eq, e290]; rfl
        · rw [va_up_of _ _ (by omega), va_up_of _ _ (by omega), va_up_eq]; rfl
        · rw [va_up_of _ _ (by omega), va_up_eq]; rfl
        · rw [va_up_eq]; rfl
      · rw [if_neg z, va_up_of _ _ (by omega), va_up_of _ _ (by omega), va_up_of _ _ (by omega), va_up_of _ _ (by omega)]
        exact g6 i (by omega) k hk
    have tail : ∀ (hx : XH) (m : Int32), m = nI (tMsk (sB s) (sG s) f (bPc (sB s))) → xP hx = xP h3 → (∀ c, c ≠ 30 → xI hx c = xI h8 c) → (∀ p, p < 4 → xI hx 30 p = nI (tPl (sB s) (sG s) f (bPc (sB s)) p)) → ∃ Q1, XSpec mX7_putLog 1 0 0 100 100 [.ref 29, .int 4, .int m] hx Q1 xno ∧ ∀ v h9, Q1 v h9 → v = none ∧ (∃ Q1, XSpec mX7_nextTurn 2 0 0 100 100 [.ref 29, .ref r, .int (nI f)] (xSI 29 (va_up (xI h9 29) 1 ((xI h9 29 1) + 1)) h9) Q1 xno ∧ ∀ v h10, Q1 v h10 → ∃ r10 : Int32, v = some (.int r10) ∧ ((canMv s = true → some (.int (nI (tTo (sB s) (sG s) f))) = some (Value.int (nI (tTo (sB s) (sG s) f))) ∧ CI (xSI 29 (va_up (xI h10 29) 0 r10) h10) r (sThr s f) ∧ cch h3 (xSI 29 (va_up (xI h10 29) 0 r10) h10)) ∧ (canMv s = false → some (.int (nI (tTo (sB s) (sG s) f))) = some (Value.int (-1)) ∧ (xSI 29 (va_up (xI h10 29) 0 r10) h10) = h3))) := by
      intro hx m em bx nx px
      refine ⟨_, c_putLog (bp hx bx) hth (k := 4) (by decide) (by rw [nx 29 (by decide), n8 29 (by decide)]; exact e291) 4 m rfl, ?_⟩
      rintro v h9 ⟨rfl, e9⟩
      have n9 : ∀ c, c ≠ 31 → xI h9 c = xI hx c := fun c hc => by rw [e9]; exact xI_ne hc
      have b9 : xP h9 = xP h3 := by rw [e9]; exact bx
      have q29 : xI h9 29 = xI h3 29 := by rw [n9 29 (by decide), nx 29 (by decide), n8 29 (by decide), n4 29 (by decide)]
      have hr := hC.r
      have qr : xI h9 r = xI h3 r := by rw [n9 r (by omega), nx r (by omega), n8 r (by omega), n4 r (by omega)]
      have hth1 : xI h9 29 1 + 1 = nI (gTh (sG s) + 1) := by rw [q29, g2, nI_1]
      refine ⟨rfl, _, c_next (b := sB s) (t := gT (sG s)) (pl := tPl (sB s) (sG s) f (bPc (sB s))) hp q1 hl.2.1 hg.1.2.1 f2 (fun p hp4 => by
        unfold tPl
        split
        · exact Nat.zero_le _
        · exact hpl1 p hp4) (h := xSI 29 (va_up (xI h9 29) 1 ((xI h9 29 1) + 1)) h9) (bp _ b9) ?_ ?_ ?_ ?_ ?_, ?_⟩
      · rw [xI_at, va_up_of _ _ (by decide), q29]; exact g4
      · rw [xI_at, va_up_of _ _ (by decide), q29]; exact t0
      · rw [xI_ne (by omega), qr]; exact hC.last
      · rw [xI_ne (by omega), qr]; exact hC.2.1.2.2.1
      · intro q hq; rw [xI_ne (by decide), n9 30 (by decide)]; exact px q hq
      rintro v h10 ⟨rfl, e10⟩
      refine ⟨_, rfl, fun _ => ⟨rfl, ?_⟩, fun z => by rw [hcan] at z; cases z⟩
      have nf : ∀ c, c ≠ 29 → c ≠ 30 → c ≠ 31 → xI (xSI 29 (va_up (xI h10 29) 0 (nxI (tNx (sB s) (gT (sG s)) f (tPl (sB s) (sG s) f (bPc (sB s)))))) h10) c = xI h3 c := fun c c1 c2 c3 => by
        rw [xI_ne c1, e10, xI_ne c1, n9 c c3, nx c c2, n8 c c3, n4 c c2]
      have bf : xP (xSI 29 (va_up (xI h10 29) 0 (nxI (tNx (sB s) (gT (sG s)) f (tPl (sB s) (sG s) f (bPc (sB s)))))) h10) = xP h3 := by rw [e10]; exact b9
      have f29 : ∀ j, j ≠ 0 → j ≠ 1 → xI (xSI 29 (va_up (xI h10 29) 0 (nxI (tNx (sB s) (gT (sG s)) f (tPl (sB s) (sG s) f (bPc (sB s)))))) h10) 29 j = xI h3 29 j := fun j j0 j1 => by
        rw [xI_at, va_up_of _ _ j0, e10, xI_at, va_up_of _ _ j1, q29]
      refine ⟨hC.game _ (fun c hc => nf c (by omega) (by omega) (by omega)) bf ⟨?_, ?_, ?_, ?_, ?_, ?_, ?_, ?_⟩, fun c hc => ⟨nf c (by omega) (by omega) (by omega), by rw [bf]⟩⟩
      · rw [xI_at, va_up_eq]
        show _ = if isOv (bLast (sB s)) (bPc (sB s)) (tPl (sB s) (sG s) f (bPc (sB s))) = true then (-1 : Int32) else nI ((tNx (sB s) (gT (sG s)) f (tPl (sB s) (sG s) f (bPc (sB s)))).getD (gT (sG s)))
        cases eo : tNx (sB s) (gT (sG s)) f (tPl (sB s) (sG s) f (bPc (sB s))) with
        | none => rw [if_pos (tNx_none q1 eo)]; rfl
        | some p =>
          have hs := tNx_some q1 eo
          rw [if_neg (fun z => hs.2 (isOv_t.1 z p hs.1))]; rfl
      · rw [xI_at, va_up_of _ _ (by decide), e10, xI_at, va_up_eq]; exact hth1
      · rw [f29 2 (by decide) (by decide)]; exact g3
      · rw [f29 3 (by decide) (by decide)]; exact g4
      · intro p hp4
        rw [xI_ne (by decide), e10, xI_ne (by decide), n9 _ (by decide)]; exact px p hp4
      · intro i hi k hk
        have hi' : i < gTh (sG s) + 1 := hi
        rw [xI_ne (by decide), e10, xI_ne (by decide), e9, xI_at, nx 31 (by decide)]
        by_cases z : i = gTh (sG s) ∧ k = 4
        · rw [z.1, z.2, va_up_eq, em]
          show _ = nI (va_up (gLg (sG s)) (gTh (sG s)) _ (gTh (sG s)) 4)
          rw [va_up_eq]; rfl
        · rw [va_up_of _ _ (by omega)]
          exact lg8 i (by omega) k hk (fun y w => z ⟨y, w⟩)
      · intro i hi
        rw [nf 32 (by decide) (by decide) (by decide)]; exact g7 i hi
      · intro i hi
        rw [nf 33 (by decide) (by decide) (by decide)]; exact g8 i hi
    have hr := hC.r
    have r5 : xI h8 r 5 = nI (bMt (sB s)) := by rw [n8 r (by omega), n4 r (by omega)]; exact hC.2.1.2.2.2.1
    have r0 : xI h8 r 0 = nI (bLast (sB s)) := by rw [n8 r (by omega), n4 r (by omega)]; exact hC.last
    have hmt : bMt (sB s) ≤ 1 := hg.1.2.2.2.1
    have p8 : ∀ p, p < 4 → xI h8 30 p = nI (tPl1 (sB s) (sG s) f p) := fun p hp4 => by rw [n8 30 (by decide)]; exact p4 p hp4
    -- nobody is met
    have calm : ¬ (bMt (sB s) = 1 ∧ tTo (sB s) (sG s) f ≠ 0 ∧ tTo (sB s) (sG s) f ≠ bLast (sB s)) → (∀ k, tMsk (sB s) (sG s) f k = 0) ∧ ∀ k p, tPl (sB s) (sG s) f k p = tPl1 (sB s) (sG s) f p := by
      intro z
      have hm : ∀ p, tMet (sB s) (sG s) f p = false := fun p => by unfold tMet; rw [decide_eq_false z, Bool.false_and]
      refine ⟨fun k => ?_, fun k p => ?_⟩
      · induction k with
        | zero => rfl
        | succ k ih => show (if tMet _ _ _ k = true then _ else _) = 0; rw [hm k]; exact ih
      · unfold tPl; rw [hm p, if_neg (fun y => absurd y.2 (by decide))]
    have calmT := fun (z : ¬ (bMt (sB s) = 1 ∧ tTo (sB s) (sG s) f ≠ 0 ∧ tTo (sB s) (sG s) f ≠ bLast (sB s))) => tail h8 0 (by rw [(calm z).1]; rfl) b8 (fun _ _ => rfl) (fun p hp4 => by rw [(calm z).2]; exact p8 p hp4)
    refine ⟨rfl, fun c5 => calmT ?_, fun c5 => ⟨fun c6 => calmT ?_, fun c6 => ⟨fun c7 => calmT ?_, fun c7 => ?_⟩⟩⟩
    · rw [r5] at c5
      have := (nI_eq (b := 0) (by omega) (by omega)).1 c5
      omega
    · intro z
      have : nI (tTo (sB s) (sG s) f) = nI 0 := c6
      exact z.2.1 ((nI_eq (by omega) (by omega)).1 this)
    · intro z
      rw [r0] at c7
      have : nI (tTo (sB s) (sG s) f) = nI (bLast (sB s)) := c7
      exact z.2.2 ((nI_eq (by omega) (by omega)).1 this)
    · have hyes : bMt (sB s) = 1 ∧ tTo (sB s) (sG s) f ≠ 0 ∧ tTo (sB s) (sG s) f ≠ bLast (sB s) := by
        refine ⟨?_, fun z => c6 ?_, fun z => c7 ?_⟩
        · rw [r5] at c5
          have : bMt (sB s) ≠ 0 := fun z => c5 (by rw [z]; rfl)
          omega
        · show nI (tTo (sB s) (sG s) f) = 0
          rw [z]; rfl
        · show nI (tTo (sB s) (sG s) f) = _
          rw [r0, z]
      refine ⟨fun v h' => v = some (.int (nI (tMsk (sB s) (sG s) f (bPc (sB s))))) ∧ ∃ F : Nat → Int32, (∀ q, q < 4 → F q = nI (tPl (sB s) (sG s) f (bPc (sB s)) q)) ∧ h' = xSI 30 F h8, XSpec.of rfl (by decide) (Nat.le_of_ble_eq_true rfl) rfl (v_X7_sendBack_0 r (bp h8 b8) _ (l_send hp q1 hl.2.1 hpl1 hto hyes (bPc (sB s)) 0 h8 (by omega) (bp h8 b8) (by rw [n8 29 (by decide), n4 29 (by decide)]; exact g4) (by rw [n8 29 (by decide)]; exact e290) (fun q hq => by rw [p8 q hq]; unfold tPl; rw [if_neg (fun z => by omega)]) (fun F hF => ⟨rfl, F, hF, rfl⟩))), ?_⟩
      rintro v h15 ⟨rfl, F, hF, e15⟩
      exact ⟨_, rfl, tail h15 _ rfl (by rw [e15]; exact b8) (fun c hc => by rw [e15]; exact xI_ne hc) (fun p hp4 => by rw [e15, xI_at]; exact hF p hp4)⟩
  · rw [bI_0.1 c] at z; cases z
