/-! MOVES: the reference -/
theorem l_mnext {last pc t : Nat} {pl : Nat → Nat} (hpc : 1 ≤ pc ∧ pc ≤ 4) (ht : t < pc) (hl : last ≤ 100) (hpl : ∀ p, p < 4 → pl p ≤ last) {h : XH} (hM : xMod (xP h)) (h2 : xI h 59 2 = nI pc) (h0 : xI h 59 0 = nI last) (h33 : xI h 56 33 = nI t) (hv : ∀ q, q < 4 → xI h 71 q = nI (pl q)) {Q : Option Value → XH → Prop} {X : String → XH → Prop} : ∀ (c j : Nat), j + c = pc + 1 → 1 ≤ j → Q none (xSI 56 (va_up (xI h 56) 33 (nI ((nxt last pc t pl c).getD t))) h) →
    XW (xrm 1 0 0) mX11_pass (xE 100 Q X 0 0) 100 0 0 h 31 [some (.ref 56), none, some (.int (nI j)), none] [] := by
  intro c
  induction c with
  | zero =>
    intro j hj j1 hQ
    have : j = pc + 1 := by omega
    subst this
    refine v_X11_pass_31 hM (nI _) ⟨fun _ => ?_, fun c => absurd ?_ c⟩
    · have e : va_up (xI h 56) 33 (nI ((nxt last pc t pl 0).getD t)) = xI h 56 := by
        show va_up (xI h 56) 33 (nI t) = _
        rw [← h33, va_up_id]
      rw [e, xSI_self] at hQ
      exact hQ
    · rw [h2]; exact nI_lt (by omega) (by omega)
  | succ c ih =>
    intro j hj j1 hQ
    have hm : (t + j) % pc < pc := Nat.mod_lt _ (by omega)
    have e0 : pc - c = j := by omega
    unfold nxt at hQ
    rw [e0] at hQ
    refine v_X11_pass_31 hM (nI _) ⟨fun c => absurd c ?_, fun _ => ?_⟩
    · rw [h2]; exact nI_nlt (by omega) (by omega)
    have hpq := hpl ((t + j) % pc) (by omega)
    rw [h2, h33, nI_add, pk_rem (by omega) (by omega) (by omega), nI_clamp (by omega), hv _ (by omega), h0, nI_eq (by omega) (by omega)]
    refine ⟨nI_ne0 (by omega) (by omega), vp_in_nI (by omega) (by omega), fun c2 => ?_, fun c2 => ?_⟩
    · rw [if_neg c2] at hQ
      exact hQ
    · rw [if_pos c2] at hQ
      rw [nI_1]
      exact ih (j + 1) (by omega) (by omega) hQ
theorem m_pass {b : BD} {t f : Nat} {pl : Nat → Nat} (hpc : 1 ≤ bPc b ∧ bPc b ≤ 4) (ht : t < bPc b) (hl : bLast b ≤ 100) (hag : bAg b ≤ 6) (hf : f ≤ 6) (hpl : ∀ p, p < 4 → pl p ≤ bLast b) {h : XH} (hM : xMod (xP h)) (h2 : xI h 59 2 = nI (bPc b)) (h0 : xI h 59 0 = nI (bLast b)) (h4 : xI h 59 4 = nI (bAg b)) (h33 : xI h 56 33 = nI t) (hv : ∀ q, q < 4 → xI h 71 q = nI (pl q)) : XSpec mX11_pass 1 0 0 100 100 [.ref 56, .int (nI f)] h (xq none (xSI 56 (va_up (xI h 56) 33 (nI ((tNx b t f pl).getD t))) h)) xno := by
  have hpt := hpl t (by omega)
  have loop : ∀ (Q : Option Value → XH → Prop), Q none (xSI 56 (va_up (xI h 56) 33 (nI ((nxt (bLast b) (bPc b) t pl (bPc b)).getD t))) h) → XW (xrm 1 0 0) mX11_pass (xE 100 Q xno 0 0) 100 0 0 h 31 [some (.ref 56), none, some (.int 1), none] [] := fun Q hQ =>
    l_mnext hpc ht hl hpl hM h2 h0 h33 hv (Q := Q) (X := xno) (bPc b) 1 (by omega) (Nat.le_refl _) hQ
  refine XSpec.of rfl (by decide) (Nat.le_of_ble_eq_true rfl) rfl (v_X11_pass_0 hM (nI f) ?_)
  rw [h4, h33, nI_eq (by omega) (by omega), nI_clamp (by omega), hv t (by omega), h0, nI_eq (by omega) (by omega)]
  unfold tNx
  refine ⟨fun c => loop _ ⟨rfl, ?_⟩, fun c => ⟨vp_in_nI (by omega) (by omega), fun c2 => loop _ ⟨rfl, ?_⟩, fun c2 => ⟨rfl, ?_⟩⟩⟩
  · rw [if_neg (fun z => c z.1)]
  · rw [if_neg (fun z => z.2 c2)]
  · rw [if_pos ⟨c, c2⟩]
    show h = xSI 56 (va_up (xI h 56) 33 (nI t)) h
    rw [← h33, va_up_id, xSI_self]
/-- a throw goes on, at a piece -/
def Thr (b : BD) (g : GD) (f p : Nat) (h0 h : XH) : Prop := xP h = xP h0 ∧ (∀ c, c ≠ 71 → c ≠ 76 → xI h c = xI h0 c) ∧ (∀ j, j ≠ gTh g → xI h 76 j = xI h0 76 j) ∧ xI h 76 (gTh g) = nI (tMsk b g f p) ∧ ∀ q, q < 4 → xI h 71 q = nI (tPl b g f p q)
theorem l_mthr {b : BD} {g : GD} {f : Nat} (hpc : 1 ≤ bPc b ∧ bPc b ≤ 4) (ht : gT g < bPc b) (hl : bLast b ≤ 100) (hag : bAg b ≤ 6) (hf : f ≤ 6) (hth : gTh g < 200) (hpl : ∀ p, p < 4 → tPl1 b g f p ≤ bLast b) (hto : tTo b g f ≤ bLast b) (mt : Int32) (hmt : (mt = 1 ∧ bMt b = 1 ∧ tTo b g f ≠ 0 ∧ tTo b g f ≠ bLast b) ∨ (mt = 0 ∧ ¬ (bMt b = 1 ∧ tTo b g f ≠ 0 ∧ tTo b g f ≠ bLast b))) {h0 : XH} (hM : xMod (xP h0)) (a2 : xI h0 59 2 = nI (bPc b)) (a0 : xI h0 59 0 = nI (bLast b)) (a4 : xI h0 59 4 = nI (bAg b)) (a33 : xI h0 56 33 = nI (gT g)) (a34 : xI h0 56 34 = nI (gTh g)) (a75 : xI h0 75 (gTh g) = nI (tTo b g f)) {Q : Option Value → XH → Prop} {X : String → XH → Prop} (hQ : ∀ h, Thr b g f (bPc b) h0 h → Q (some (.int (nI (tTo b g f)))) (xSI 56 (va_up (va_up (xI h0 56) 34 (nI (gTh g + 1))) 33 (nI ((tNx b (gT g) f (tPl b g f (bPc b))).getD (gT g)))) h)) : ∀ (k p : Nat) (h : XH), p + k = bPc b → Thr b g f p h0 h →
    XW (xrm 2 0 0) mX11_throwOnce (xE 100 Q X 0 0) 100 0 0 h 143 [some (.ref 56), some (.int (nI f)), some (.int (nI (gTh g))), some (.int mt), some (.int (nI p))] [] := by
  have hplT : ∀ k p, p < 4 → tPl b g f k p ≤ bLast b := fun k p hp4 => by
    unfold tPl
    split
    · exact Nat.zero_le _
    · exact hpl p hp4
  have fin : ∀ h, Thr b g f (bPc b) h0 h → ∃ Q1, XSpec mX11_pass 1 0 0 100 100 [.ref 56, .int (nI f)] (xSI 56 (va_up (xI h 56) 34 ((xI h 56 34) + 1)) h) Q1 xno ∧ ∀ v h1, Q1 v h1 → v = none ∧ ((xP h1 56 29 = some 75) ∧ ((vp_in (nI (gTh g)) 200) ∧ (Q (some (.int (xI h1 75 (nI (gTh g)).toNatClampNeg))) h1))) := by
    intro h hT
    have hT0 := hT
    obtain ⟨t1, t2, t3, t4, t5⟩ := hT
    have e56 : xI h 56 = xI h0 56 := t2 56 (by decide) (by decide)
    have e59 : xI h 59 = xI h0 59 := t2 59 (by decide) (by decide)
    rw [e56, a34, nI_1]
    refine ⟨_, m_pass hpc ht hl hag hf (hplT (bPc b)) (h := xSI 56 (va_up (xI h0 56) 34 (nI (gTh g + 1))) h) (by show xMod (xP h); rw [t1]; exact hM) (by rw [xI_ne (by decide), e59]; exact a2) (by rw [xI_ne (by decide), e59]; exact a0) (by rw [xI_ne (by decide), e59]; exact a4) (by rw [xI_at, va_up_of _ _ (by decide)]; exact a33) (fun q hq => by rw [xI_ne (by decide)]; exact t5 q hq), ?_⟩
    rintro v h1 ⟨rfl, e1⟩
    rw [xI_at, xSI_SI] at e1
    subst e1
    refine ⟨rfl, mp_rolledTo (by show xMod (xP h); rw [t1]; exact hM), vp_in_nI (by omega) (by omega), ?_⟩
    rw [nI_clamp (by omega), xI_ne (by decide), t2 75 (by decide) (by decide), a75]
    exact hQ h hT0
  intro k
  induction k with
  | zero =>
    intro p h hp hT
    have : p = bPc b := by omega
    subst this
    have e59 : xI h 59 = xI h0 59 := hT.2.1 59 (by decide) (by decide)
    refine v_X11_throwOnce_143 (by rw [hT.1]; exact hM) _ _ _ (nI _) ⟨fun _ => fin h hT, fun c => absurd ?_ c⟩
    rw [e59, a2]; exact nI_le (Nat.le_refl _) (by omega)
  | succ k ih =>
    intro p h hp hT
    have hT0 := hT
    obtain ⟨t1, t2, t3, t4, t5⟩ := hT
    have e59 : xI h 59 = xI h0 59 := t2 59 (by decide) (by decide)
    have e56 : xI h 56 = xI h0 56 := t2 56 (by decide) (by decide)
    refine v_X11_throwOnce_143 (by rw [t1]; exact hM) _ _ _ (nI _) ⟨fun c => absurd c ?_, fun _ => ⟨fun c => ?_, fun c => ?_⟩⟩
    · rw [e59, a2]; exact nI_ge (by omega) (by omega)
    · -- nobody is met
      have z : ¬ (bMt b = 1 ∧ tTo b g f ≠ 0 ∧ tTo b g f ≠ bLast b) := by
        rcases hmt with ⟨m1, -⟩ | ⟨-, m2⟩
        · rw [m1] at c; exact absurd c (by decide)
        · exact m2
      have hm : ∀ p, tMet b g f p = false := fun p => by unfold tMet; rw [decide_eq_false z, Bool.false_and]
      have c1 : ∀ k, tMsk b g f k = 0 := fun k => by
        induction k with
        | zero => rfl
        | succ k ih => show (if tMet _ _ _ k = true then _ else _) = 0; rw [hm k]; exact ih
      have c2 : ∀ k p, tPl b g f k p = tPl1 b g f p := fun k p => by unfold tPl; rw [hm p, if_neg (fun y => absurd y.2 (by decide))]
      exact fin h ⟨t1, t2, t3, by rw [t4, c1, c1], fun q hq => by rw [t5 q hq, c2, c2]⟩
    · have hmt' : bMt b = 1 ∧ tTo b g f ≠ 0 ∧ tTo b g f ≠ bLast b := by
        rcases hmt with ⟨-, m2⟩ | ⟨m1, -⟩
        · exact m2
        · exact absurd m1 c
      have hm := tMsk_lt (b := b) (g := g) (f := f) p
      have hm4 : tMsk b g f p < 16 := by
        have : 2 ^ p ≤ 2 ^ 4 := Nat.pow_le_pow_right (by omega) (by omega)
        omega
      have hun : tPl b g f p p = tPl1 b g f p := by unfold tPl; rw [if_neg (fun z => absurd z.1 (by omega))]
      have hpp := hpl p (by omega)
      have e75 : xI h 75 (gTh g) = nI (tTo b g f) := by rw [t2 75 (by decide) (by decide)]; exact a75
      have nomet : tMet b g f p = false → XW (xrm 2 0 0) mX11_throwOnce (xE 100 Q X 0 0) 100 0 0 h 143 [some (.ref 56), some (.int (nI f)), some (.int (nI (gTh g))), some (.int mt), some (.int (nI p + 1))] [] := fun z => by
        have e : tMsk b g f (p + 1) = tMsk b g f p := by
          show (if tMet b g f p = true then _ else _) = _
          rw [z]; rfl
        rw [nI_1]
        refine ih (p + 1) h (by omega) ⟨t1, t2, t3, by rw [e]; exact t4, fun q hq => ?_⟩
        rw [t5 q hq]
        congr 1
        unfold tPl
        by_cases y : q = p
        · rw [if_neg (fun w => by omega), if_neg (fun w => by rw [y, z] at w; exact absurd w.2 (by decide))]
        · by_cases w : q < p
          · simp only [w, show q < p + 1 by omega]
          · rw [if_neg (fun v => w v.1), if_neg (fun v => by omega)]
      rw [e56, a33, nI_eq (by omega) (by omega), nI_clamp (show p < 2 ^ 31 by omega), nI_clamp (show gTh g < 2 ^ 31 by omega), t5 p (by omega), hun, e75, nI_eq (by omega) (by omega), t4]
      refine ⟨fun c2 => nomet (by rw [c2]; exact tMet_t), fun c2 => ⟨vp_in_nI (by omega) (by omega), vp_in_nI (by omega) (by omega), fun c3 => ⟨vp_in_nI (by omega) (by omega), vp_in_nI (by omega) (by omega), vp_in_nI (by omega) (by omega), ?_⟩, fun c3 => nomet ?_⟩⟩
      · have hme : tMet b g f p = true := by unfold tMet; rw [decide_eq_true hmt', decide_eq_true ⟨c2, c3⟩]; rfl
        have em : tMsk b g f (p + 1) = tMsk b g f p ||| (1 <<< p) := by
          show (if tMet b g f p = true then _ else _) = _
          rw [hme]; rfl
        rw [or4 _ hm4 p (by omega), ← em, nI_1]
        refine ih (p + 1) _ (by omega) ⟨t1, fun c q1 q2 => by rw [xI_ne q1, xI_ne q2]; exact t2 c q1 q2, fun j hj => by rw [xI_ne (by decide), xI_at, va_up_of _ _ hj]; exact t3 j hj, by rw [xI_ne (by decide), xI_at, va_up_eq], fun q hq => ?_⟩
        rw [xI_at]
        by_cases y : q = p
        · rw [y, va_up_eq]
          unfold tPl
          rw [if_pos ⟨by omega, hme⟩]; rfl
        · rw [va_up_of _ _ y, t5 q hq]
          congr 1
          unfold tPl
          by_cases w : q < p
          · simp only [w, show q < p + 1 by omega]
          · rw [if_neg (fun v => w v.1), if_neg (fun v => by omega)]
      · unfold tMet
        rw [decide_eq_false (p := p ≠ gT g ∧ _) (fun z => c3 z.2), Bool.and_false]
theorem m_throw {h0 h : XH} {s : SG} (hR : mT h0 h s (bT (sB s))) (hg : GoodS s) (hcan : canMv s = true) {f : Nat} (f1 : 1 ≤ f) (f2 : f ≤ 6) : XSpec mX11_throwOnce 2 0 0 100 100 [.ref 56, .int (nI f)] h (fun v h' => v = some (.int (nI (tTo (sB s) (sG s) f))) ∧ mT h0 h' (sThr s f) (bT (sB s)) ∧ ∀ j, j ≠ 33 → j ≠ 34 → xI h' 56 j = xI h 56 j) xno := by
  have hl := hg.l
  have hp := hg.pc
  obtain ⟨hov, hth⟩ := canMv_t hcan
  obtain ⟨q1, q2, q3, q4, q5, q6, q7⟩ := hg.2.1
  obtain ⟨hM, r1, r4, r5, r6, r7, r8⟩ := id hR.1
  obtain ⟨g1, g2, g3, g4, g5, g6, g7⟩ := hR.2.1.gm
  have hbd := hR.2.1.bd
  have hfr := q4 (gT (sG s)) (by omega)
  have hto : tTo (sB s) (sG s) f ≤ bLast (sB s) := hg.tl _ hfr f f2
  have hmt : bMt (sB s) ≤ 1 := hg.1.2.2.2.1
  have hpl1 : ∀ p, p < 4 → tPl1 (sB s) (sG s) f p ≤ bLast (sB s) := fun p hp4 => by
    unfold tPl1 va_up
    split
    · exact hto
    · exact q4 p hp4
  have t67 : xI h 67 (101 * f + gPl (sG s) (gT (sG s))) = nI (tTo (sB s) (sG s) f) := (r8 _ hfr f f2).1
  generalize hH : xSI 71 (va_up (xI h 71) (gT (sG s)) (nI (tTo (sB s) (sG s) f))) (xSI 78 (va_up (xI h 78) (gTh (sG s)) (nI (gT (sG s)))) (xSI 76 (va_up (xI h 76) (gTh (sG s)) 0) (xSI 75 (va_up (xI h 75) (gTh (sG s)) (nI (tTo (sB s) (sG s) f))) (xSI 74 (va_up (xI h 74) (gTh (sG s)) (nI (gPl (sG s) (gT (sG s))))) (xSI 73 (va_up (xI h 73) (gTh (sG s)) (nI f)) (xSI 72 (va_up (xI h 72) (gTh (sG s)) (nI (gT (sG s)))) h)))))) = H
  have hHP : xP H = xP h := by rw [← hH]; rfl
  have nH : ∀ c, ¬ (71 ≤ c ∧ c ≤ 76) → c ≠ 78 → xI H c = xI h c := fun c c1 c2 => by
    rw [← hH, xI_ne (by omega), xI_ne c2, xI_ne (by omega), xI_ne (by omega), xI_ne (by omega), xI_ne (by omega), xI_ne (by omega)]
  have i71 : xI H 71 = va_up (xI h 71) (gT (sG s)) (nI (tTo (sB s) (sG s) f)) := by rw [← hH, xI_at]
  have i78 : xI H 78 = va_up (xI h 78) (gTh (sG s)) (nI (gT (sG s))) := by rw [← hH, xI_ne (by decide), xI_at]
  have i76 : xI H 76 = va_up (xI h 76) (gTh (sG s)) 0 := by rw [← hH, xI_ne (by decide), xI_ne (by decide), xI_at]
  have i75 : xI H 75 = va_up (xI h 75) (gTh (sG s)) (nI (tTo (sB s) (sG s) f)) := by rw [← hH, xI_ne (by decide), xI_ne (by decide), xI_ne (by decide), xI_at]
  have i74 : xI H 74 = va_up (xI h 74) (gTh (sG s)) (nI (gPl (sG s) (gT (sG s)))) := by rw [← hH, xI_ne (by decide), xI_ne (by decide), xI_ne (by decide), xI_ne (by decide), xI_at]
  have i73 : xI H 73 = va_up (xI h 73) (gTh (sG s)) (nI f) := by rw [← hH, xI_ne (by decide), xI_ne (by decide), xI_ne (by decide), xI_ne (by decide), xI_ne (by decide), xI_at]
  have i72 : xI H 72 = va_up (xI h 72) (gTh (sG s)) (nI (gT (sG s))) := by rw [← hH, xI_ne (by decide), xI_ne (by decide), xI_ne (by decide), xI_ne (by decide), xI_ne (by decide), xI_ne (by decide), xI_at]
  have hT : Thr (sB s) (sG s) f 0 H H := ⟨rfl, fun _ _ _ => rfl, fun _ _ => rfl, by rw [i76, va_up_eq]; rfl, fun q hq => by
    rw [i71]
    unfold tPl
    rw [if_neg (fun z => by omega)]
    unfold tPl1 va_up
    by_cases y : q = gT (sG s)
    · rw [if_pos y, if_pos y]
    · rw [if_neg y, if_neg y]; exact g4 q hq⟩
  have go : ∀ mt : Int32, ((mt = 1 ∧ bMt (sB s) = 1 ∧ tTo (sB s) (sG s) f ≠ 0 ∧ tTo (sB s) (sG s) f ≠ bLast (sB s)) ∨ (mt = 0 ∧ ¬ (bMt (sB s) = 1 ∧ tTo (sB s) (sG s) f ≠ 0 ∧ tTo (sB s) (sG s) f ≠ bLast (sB s)))) → XW (xrm 2 0 0) mX11_throwOnce (xE 100 (fun v h' => v = some (.int (nI (tTo (sB s) (sG s) f))) ∧ mT h0 h' (sThr s f) (bT (sB s)) ∧ ∀ j, j ≠ 33 → j ≠ 34 → xI h' 56 j = xI h 56 j) xno 0 0) 100 0 0 H 143 [some (.ref 56), some (.int (nI f)), some (.int (nI (gTh (sG s)))), some (.int mt), some (.int 0)] [] := by
    intro mt hm
    refine l_mthr (b := sB s) (g := sG s) (f := f) hp q1 hl.2.1 hg.1.2.1 f2 hth hpl1 hto mt hm (by rw [hHP]; exact hM) (by rw [nH 59 (by decide) (by decide)]; exact hR.2.1.pc) (by rw [nH 59 (by decide) (by decide)]; exact r1) (by rw [nH 59 (by decide) (by decide)]; exact hbd.2.2.1) (by rw [nH 56 (by decide) (by decide)]; exact g1) (by rw [nH 56 (by decide) (by decide)]; exact g2) (by rw [i75, va_up_eq]) (fun hx hTx => ?_) (bPc (sB s)) 0 H (by omega) hT
    obtain ⟨x1, x2, x3, x4, x5⟩ := hTx
    have nf : ∀ c, c ≠ 56 → ¬ (71 ≤ c ∧ c ≤ 76) → c ≠ 78 → xI (xSI 56 (va_up (va_up (xI H 56) 34 (nI (gTh (sG s) + 1))) 33 (nI ((tNx (sB s) (gT (sG s)) f (tPl (sB s) (sG s) f (bPc (sB s)))).getD (gT (sG s))))) hx) c = xI h c := fun c c1 c2 c3 => by
      rw [xI_ne c1, x2 c (by omega) (by omega)]; exact nH c c2 c3
    have f56 : ∀ j, j ≠ 33 → j ≠ 34 → xI (xSI 56 (va_up (va_up (xI H 56) 34 (nI (gTh (sG s) + 1))) 33 (nI ((tNx (sB s) (gT (sG s)) f (tPl (sB s) (sG s) f (bPc (sB s)))).getD (gT (sG s))))) hx) 56 j = xI h 56 j := fun j j1 j2 => by
      rw [xI_at, va_up_of _ _ j1, va_up_of _ _ j2, nH 56 (by decide) (by decide)]
    have bf : xP (xSI 56 (va_up (va_up (xI H 56) 34 (nI (gTh (sG s) + 1))) 33 (nI ((tNx (sB s) (gT (sG s)) f (tPl (sB s) (sG s) f (bPc (sB s)))).getD (gT (sG s))))) hx) = xP h := by show xP hx = _; rw [x1, hHP]
    refine ⟨rfl, ⟨⟨by rw [bf]; exact hM, by rw [nf 59 (by decide) (by decide) (by decide)]; exact r1, r4, r5, r6, fun e e1 e2 => by rw [nf 60 (by decide) (by decide) (by decide)]; exact r7 e e1 e2, fun q hq e he => by rw [nf 67 (by decide) (by decide) (by decide)]; exact r8 q hq e he⟩, hR.2.1.game _ (fun c c1 c2 c3 c4 _ => nf c c1 (by omega) (by omega)) (fun j j1 j2 j3 _ => f56 j j2 j3) (fun c _ => by rw [bf]) ⟨?_, ?_, ?_, ?_, ?_, ?_, ?_⟩, hR.2.2.1.trans (fun c hc => ⟨nf c (by omega) (by omega) (by omega), by rw [bf]⟩), by rw [f56 2 (by decide) (by decide)]; exact hR.2.2.2⟩, f56⟩
    · rw [xI_at, va_up_eq]; rfl
    · rw [xI_at, va_up_of _ _ (by decide), va_up_eq]; rfl
    · rw [f56 46 (by decide) (by decide)]; exact g3
    · intro q hq
      rw [xI_ne (by decide)]; exact x5 q hq
    · intro i hi
      have hi' : i < gTh (sG s) + 1 := hi
      have cx : ∀ c, c ≠ 56 → c ≠ 71 → c ≠ 76 → xI (xSI 56 (va_up (va_up (xI H 56) 34 (nI (gTh (sG s) + 1))) 33 (nI ((tNx (sB s) (gT (sG s)) f (tPl (sB s) (sG s) f (bPc (sB s)))).getD (gT (sG s))))) hx) c = xI H c := fun c c1 c2 c3 => by rw [xI_ne c1, x2 c c2 c3]
      by_cases y : i = gTh (sG s)
      · subst y
        refine ⟨fun k hk => ?_, ?_⟩
        · show _ = nI (va_up (gLg (sG s)) (gTh (sG s)) _ (gTh (sG s)) k)
          rw [va_up_eq]
          rcases (show k = 0 ∨ k = 1 ∨ k = 2 ∨ k = 3 ∨ k = 4 by omega) with rfl | rfl | rfl | rfl | rfl
          · rw [cx 72 (by decide) (by decide) (by decide), i72, va_up_eq]; rfl
          · rw [cx 73 (by decide) (by decide) (by decide), i73, va_up_eq]; rfl
          · rw [cx 74 (by decide) (by decide) (by decide), i74, va_up_eq]; rfl
          · rw [cx 75 (by decide) (by decide) (by decide), i75, va_up_eq]; rfl
          · rw [xI_ne (by decide), x4]; rfl
        · show _ = nI (va_up (gLg (sG s)) (gTh (sG s)) _ (gTh (sG s)) 0)
          rw [va_up_eq, cx 78 (by decide) (by decide) (by decide), i78, va_up_eq]; rfl
      · have hi2 : i < gTh (sG s) := by omega
        have eg : ∀ k, gLg (gThr (sB s) (sG s) f) i k = gLg (sG s) i k := fun k => by
          show va_up (gLg (sG s)) (gTh (sG s)) _ i k = _
          rw [va_up_of _ _ y]
        refine ⟨fun k hk => ?_, ?_⟩
        · rw [eg, ← (g5 i hi2).1 k hk]
          rcases (show k = 0 ∨ k = 1 ∨ k = 2 ∨ k = 3 ∨ k = 4 by omega) with rfl | rfl | rfl | rfl | rfl
          · rw [cx 72 (by decide) (by decide) (by decide), i72, va_up_of _ _ y]
          · rw [cx 73 (by decide) (by decide) (by decide), i73, va_up_of _ _ y]
          · rw [cx 74 (by decide) (by decide) (by decide), i74, va_up_of _ _ y]
          · rw [cx 75 (by decide) (by decide) (by decide), i75, va_up_of _ _ y]
          · rw [xI_ne (by decide), x3 i y, i76, va_up_of _ _ y]
        · rw [eg, ← (g5 i hi2).2, cx 78 (by decide) (by decide) (by decide), i78, va_up_of _ _ y]
    · intro i hi
      rw [nf 87 (by decide) (by decide) (by decide)]; exact g6 i hi
    · intro i hi
      rw [nf 65 (by decide) (by decide) (by decide)]; exact g7 i hi
  refine XSpec.of rfl (by decide) (Nat.le_of_ble_eq_true rfl) rfl (v_X11_throwOnce_0 hM (nI f) ?_)
  rw [g1, g2, nI_clamp (show gT (sG s) < 2 ^ 31 by omega), nI_clamp (show gTh (sG s) < 2 ^ 31 by omega), g4 _ (by omega), m67, nI_clamp (show 101 * f + gPl (sG s) (gT (sG s)) < 2 ^ 31 by omega), t67, va_up_eq, va_up_eq, hH, hbd.2.2.2.1, r1]
  have v4 : vp_in (nI (gT (sG s))) 4 := vp_in_nI (by omega) (by omega)
  have v200 : vp_in (nI (gTh (sG s))) 200 := vp_in_nI (by omega) (by omega)
  have e0 : (0 : Int32) = nI 0 := rfl
  refine ⟨v200, v200, v4, v200, v4, vp_in_nI (by omega) (by omega), v200, v200, v200, v200, v4, fun c => go 0 (Or.inr ⟨rfl, fun z => c (by rw [z.1]; rfl)⟩), fun c => ⟨v4, fun c2 => go 0 (Or.inr ⟨rfl, fun z => z.2.1 ?_⟩), fun c2 => ⟨v4, fun c3 => go 0 (Or.inr ⟨rfl, fun z => z.2.2 ((nI_eq (by omega) (by omega)).1 c3)⟩), fun c3 => go 1 (Or.inl ⟨rfl, (nI_eq (b := 1) (by omega) (by omega)).1 c, fun z => c2 (by rw [z]; rfl), fun z => c3 (by rw [z])⟩)⟩⟩⟩
  rw [e0] at c2
  exact (nI_eq (by omega) (by omega)).1 c2
