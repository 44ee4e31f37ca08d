/-! MOVES: roll, rolls, undo: the class -/
theorem sGm_good {s : SG} (hg : GoodS s) {g : GD} (h : GoodGD (sB s) g) : GoodS (sGm s g) := ⟨hg.1, h, hg.2.2.1, hg.2.2.2.1, hg.2.2.2.2.1, hg.2.2.2.2.2⟩
theorem canMv_t {s : SG} (h : canMv s = true) : isOv (bLast (sB s)) (bPc (sB s)) (gPl (sG s)) = false ∧ gTh (sG s) < 200 := by
  unfold canMv at h
  simp only [Bool.and_eq_true, Bool.not_eq_true'] at h
  exact ⟨h.1, of_decide_eq_true h.2⟩
theorem sThr_good {s : SG} (hg : GoodS s) {f : Nat} (f1 : 1 ≤ f) (f2 : f ≤ 6) (hc : canMv s = true) : GoodS (sThr s f) := sGm_good hg (gThr_good hg f1 f2 (canMv_t hc).2 (canMv_t hc).1)
def sRoll (s : SG) (f : Nat) : SG := if canMv s = true then sThr s f else sGm s (gRef (sG s) 1)
def rlA (s : SG) (f : Nat) : Int32 := if canMv s = true then nI (tTo (sB s) (sG s) f) else -1
theorem s_X10_roll {h : XH} {r : Nat} {s : SG} (hC : CI h r s) (hg : GoodS s) (f : Int32) : XSpec mX10_roll 8 1 6 100 100 [.ref 0, .int f] h (fun v h' => kd1 (inR f 1 6) = 0 ∧ v = some (.int (rlA s f.toNatClampNeg)) ∧ CI h' r (sRoll s f.toNatClampNeg) ∧ cch h h') (cThr h (kd1 (inR f 1 6)) eN eA) := by
  have hl := hg.l
  refine XSpec.of rfl (by decide) (Nat.le_of_ble_eq_true rfl) rfl (v_X10_roll_0 r hC.bp f ⟨_, _, s_needFace hC f, fun E9 h9 z => ⟨z.1, Or.inl ⟨kd1_f z.2.2, z.2.1⟩⟩, ?_⟩)
  rintro v h1 ⟨rfl, rfl, hf⟩
  have hk := kd1_t hf
  obtain ⟨f, f1, f2, rfl⟩ := inR_1 (n := 6) hf
  rw [nI_clamp (show f < 2 ^ 31 by omega)]
  refine ⟨rfl, hC.p7, hC.p3, hC.p5, _, c_move hC hg f1 f2, ?_⟩
  unfold sRoll rlA
  rintro v h2 ⟨hy, hn⟩
  cases c : canMv s with
  | true =>
    obtain ⟨rfl, hC2, hc2⟩ := hy c
    have hto : tTo (sB s) (sG s) f ≤ bLast (sB s) := hg.tl _ (hg.2.1.2.2.2.1 _ (by have := hg.2.1.1; have := hg.pc; omega)) f f2
    exact ⟨_, rfl, fun _ => ⟨hk, rfl, hC2, hc2⟩, fun z => absurd z (nI_nm1 (by omega))⟩
  | false =>
    obtain ⟨rfl, e2⟩ := hn c
    subst e2
    refine ⟨_, rfl, fun z => absurd rfl z, fun _ => ⟨hC.p7, _, c_refuse hC (k := 1) (by omega) 1 rfl, ?_⟩⟩
    rintro v h3 ⟨rfl, hC3, hc3⟩
    exact ⟨rfl, hk, rfl, hC3, hc3⟩
theorem c_lgd {r : Nat} {h : XH} (hb : BP r h) {i k : Nat} (hi : i < 200) (hk : k < 5) (ii kk v : Int32) (e : ii = nI i) (e' : kk = nI k) (hv : xI h 31 (5 * i + k) = v) : XSpec mX7_logged 1 0 0 100 100 [.ref 29, .int ii, .int kk] h (xq (some (.int v)) h) xno := by
  subst e
  subst e'
  have e := s_X7_logged 100 h 29 hb.2.2.2.2.2.1 (by omega) (nI i) (nI k)
  have e5 : nI i * 5 + nI k = nI (5 * i + k) := by
    have : (5 : Int32) = nI 5 := rfl
    rw [this, pk_mul, nI_add, Nat.mul_comm]
  rw [e5, iz_rd (M := 1000) rfl (by omega), hv] at e
  exact e
theorem uPl_step {g : GD} {p q : Nat} (h : q = p → (gLg g (gTh g - 1) 4).testBit p = false) : uPl g (p + 1) q = uPl g p q := by
  unfold uPl
  by_cases y0 : q = gLg g (gTh g - 1) 0
  · rw [if_pos y0, if_pos y0]
  · rw [if_neg y0, if_neg y0]
    by_cases y : q = p
    · rw [if_neg (show ¬ (q < p + 1 ∧ _) from fun w => by rw [y, h y] at w; exact absurd w.2 (by decide)), if_neg (show ¬ (q < p ∧ _) from fun w => by omega)]
    · by_cases w : q < p
      · simp only [w, show q < p + 1 by omega]
      · rw [if_neg (show ¬ (q < p + 1 ∧ _) from fun v => by omega), if_neg (show ¬ (q < p ∧ _) from fun v => w v.1)]
theorem l_back {r : Nat} {b : BD} {g : GD} (hpc : 1 ≤ bPc b ∧ bPc b ≤ 4) (ht0 : 0 < gTh g) (ht : gTh g ≤ 200) (hm : gLg g (gTh g - 1) 4 < 16) (hbit : (gLg g (gTh g - 1) 4).testBit (gLg g (gTh g - 1) 0) = false) {Q : Option Value → XH → Prop} {X : String → XH → Prop} : ∀ (k p : Nat) (h : XH), p + k = bPc b → BP r h → xI h 29 3 = nI (bPc b) → xI h 29 1 = nI (gTh g - 1) → xI h 31 (5 * (gTh g - 1) + 3) = nI (gLg g (gTh g - 1) 3) → (∀ q, q < 4 → xI h 30 q = nI (uPl g p q)) →
    (∀ F : Nat → Int32, (∀ q, q < 4 → F q = nI (uPl g (bPc b) q)) → Q (some (.int (nI (gTh g - 1)))) (xSI 30 F h)) →
    XW (xrm 2 0 0) mX7_takeBack (xE 100 Q X 0 0) 100 0 0 h 61 [some (.ref 29), some (.int (nI (gLg g (gTh g - 1) 4))), some (.int (nI p))] [] := by
  intro k
  induction k with
  | zero =>
    intro p h hp hb h3 h1 hl3 hv hQ
    have : p = bPc b := by omega
    subst this
    refine v_X7_takeBack_61 r hb _ (nI _) ⟨fun _ => ?_, fun c => absurd ?_ c⟩
    · have := hQ (xI h 30) hv
      rw [xSI_self] at this
      rw [h1]
      exact this
    · rw [h3]; exact nI_le (Nat.le_refl _) (by omega)
  | succ k ih =>
    intro p h hp hb h3 h1 hl3 hv hQ
    refine v_X7_takeBack_61 r hb _ (nI _) ⟨fun c => absurd c ?_, fun _ => ?_⟩
    · rw [h3]; exact nI_ge (by omega) (by omega)
    rw [and4 _ hm p (by omega)]
    refine ⟨fun c => ?_, fun c => ?_⟩
    · rw [nI_1]
      refine ih (p + 1) h (by omega) hb h3 h1 hl3 (fun q hq => ?_) hQ
      rw [hv q hq, uPl_step (fun _ => c)]
    · have c' : (gLg g (gTh g - 1) 4).testBit p = true := by simpa using c
      rw [h1]
      refine ⟨_, c_lgd hb (i := gTh g - 1) (k := 3) (by omega) (by decide) _ 3 _ rfl rfl hl3, ?_⟩
      rintro v h5 ⟨rfl, e5⟩
      subst e5
      refine ⟨_, rfl, _, s_X7_place 100 h5 29 hb.2.2.2.2.2.1 (by omega) (nI p) _, ?_⟩
      rintro v h6 ⟨rfl, e6⟩
      rw [iz_wr (M := 4) rfl (by omega)] at e6
      subst e6
      refine ⟨rfl, ?_⟩
      rw [nI_1]
      refine ih (p + 1) (xSI 30 (va_up (xI h5 30) p (nI (gLg g (gTh g - 1) 3))) h5) (by omega) hb (by rw [xI_ne (by decide)]; exact h3) (by rw [xI_ne (by decide)]; exact h1) (by rw [xI_ne (by decide)]; exact hl3) (fun q hq => ?_) (fun F hF => by have := hQ F hF; rw [xSI_SI]; exact this)
      rw [xI_at]
      have hpt : ¬ p = gLg g (gTh g - 1) 0 := fun z => by rw [← z] at hbit; rw [hbit] at c'; cases c'
      by_cases y : q = p
      · rw [y, va_up_eq]
        unfold uPl
        rw [if_neg hpt, if_pos ⟨by omega, c'⟩]
      · rw [va_up_of _ _ y, hv q hq, uPl_step (fun z => absurd z y)]
def sUnd (s : SG) : SG := if gTh (sG s) = 0 then s else sGm s (gUnd (sB s) (sG s))
def unA (s : SG) : Int32 := if gTh (sG s) = 0 then -1 else nI (gTh (sG s) - 1)
theorem c_back {h : XH} {r : Nat} {s : SG} (hC : CI h r s) (hg : GoodS s) : XSpec mX7_takeBack 2 0 0 100 100 [.ref 29] h (fun v h' => v = some (.int (unA s)) ∧ CI h' r (sUnd s) ∧ cch h h') xno := by
  have hl := hg.l
  have hp := hg.pc
  have ht := hg.th
  obtain ⟨g1, g2, g3, g4, g5, g6, g7, g8⟩ := hC.gm
  unfold unA sUnd
  refine XSpec.of rfl (by decide) (Nat.le_of_ble_eq_true rfl) rfl (v_X7_takeBack_0 r hC.bp ?_)
  rw [hC.th]
  refine ⟨fun c => ?_, fun c => ?_⟩
  · have t0 : 0 < gTh (sG s) := Nat.pos_of_ne_zero (fun y => by rw [y] at c; exact absurd c (by decide))
    rw [if_neg (by omega), if_neg (by omega), nI_p1 t0, va_up_eq]
    have lk := hg.2.1.2.2.2.2.1 (gTh (sG s) - 1) (by omega)
    have l6 := g6 (gTh (sG s) - 1) (by omega)
    have bp : ∀ hx : XH, xP hx = xP h → BP r hx := fun hx e => by
      have := hC.bp
      unfold BP at *
      rw [e]; exact this
    refine ⟨_, c_lgd (h := xSI 29 (va_up (xI h 29) 1 (nI (gTh (sG s) - 1))) h) (bp _ rfl) (i := gTh (sG s) - 1) (k := 0) (by omega) (by decide) _ 0 (nI (gLg (sG s) (gTh (sG s) - 1) 0)) rfl rfl (by rw [xI_ne (by decide)]; exact l6 0 (by decide)), ?_⟩
    rintro v h1 ⟨rfl, e1⟩
    refine ⟨_, rfl, ?_⟩
    have x1 : va_up (xI h1 29) 0 (nI (gLg (sG s) (gTh (sG s) - 1) 0)) 1 = nI (gTh (sG s) - 1) := by rw [va_up_of _ _ (by decide), e1, xI_at, va_up_eq]
    have x0 : va_up (xI h1 29) 0 (nI (gLg (sG s) (gTh (sG s) - 1) 0)) 0 = nI (gLg (sG s) (gTh (sG s) - 1) 0) := va_up_eq _ _ _
    have n1 : ∀ c, c ≠ 29 → xI h1 c = xI h c := fun c hc => by rw [e1]; exact xI_ne hc
    have b1 : xP h1 = xP h := by rw [e1]; rfl
    rw [x1, x0]
    refine ⟨_, c_lgd (h := xSI 29 (va_up (xI h1 29) 0 (nI (gLg (sG s) (gTh (sG s) - 1) 0))) h1) (bp _ b1) (i := gTh (sG s) - 1) (k := 2) (by omega) (by decide) _ 2 (nI (gLg (sG s) (gTh (sG s) - 1) 2)) rfl rfl (by rw [xI_ne (by decide), n1 31 (by decide)]; exact l6 2 (by decide)), ?_⟩
    rintro v h2 ⟨rfl, e2⟩
    have n2 : ∀ c, c ≠ 29 → xI h2 c = xI h c := fun c hc => by rw [e2, xI_ne hc]; exact n1 c hc
    have b2 : xP h2 = xP h := by rw [e2]; exact b1
    have y2 : xI h2 29 = va_up (va_up (xI h 29) 1 (nI (gTh (sG s) - 1))) 0 (nI (gLg (sG s) (gTh (sG s) - 1) 0)) := by rw [e2, xI_at, e1, xI_at]
    refine ⟨_, rfl, _, s_X7_place 100 h2 29 (bp h2 b2).2.2.2.2.2.1 (by omega) (nI (gLg (sG s) (gTh (sG s) - 1) 0)) _, ?_⟩
    rintro v h3 ⟨rfl, e3⟩
    rw [iz_wr (M := 4) rfl (by omega)] at e3
    have n3 : ∀ c, c ≠ 29 → c ≠ 30 → xI h3 c = xI h c := fun c c1 c2 => by rw [e3, xI_ne c2]; exact n2 c c1
    have b3 : xP h3 = xP h := by rw [e3]; exact b2
    have y3 : xI h3 29 = xI h2 29 := by rw [e3, xI_ne (by decide)]
    have z1 : xI h3 29 1 = nI (gTh (sG s) - 1) := by rw [y3, y2, va_up_of _ _ (by decide), va_up_eq]
    refine ⟨rfl, ?_⟩
    rw [z1]
    refine ⟨_, c_lgd (bp h3 b3) (i := gTh (sG s) - 1) (k := 4) (by omega) (by decide) _ 4 (nI (gLg (sG s) (gTh (sG s) - 1) 4)) rfl rfl (by rw [n3 31 (by decide) (by decide)]; exact l6 4 (by decide)), ?_⟩
    rintro v h4 ⟨rfl, e4⟩
    subst e4
    refine ⟨_, rfl, l_back (b := sB s) (g := sG s) hp t0 ht lk.2.2.2.2.2.1 lk.2.2.2.2.2.2 (bPc (sB s)) 0 h4 (by omega) (bp h4 b3) ?_ z1 (by rw [n3 31 (by decide) (by decide)]; exact l6 3 (by decide)) (fun q hq => ?_) (fun F hF => ⟨rfl, ?_, ?_⟩)⟩
    · rw [y3, y2, va_up_of _ _ (by decide), va_up_of _ _ (by decide)]; exact g4
    · rw [e3, xI_at]
      unfold uPl
      by_cases y : q = gLg (sG s) (gTh (sG s) - 1) 0
      · rw [y, va_up_eq, if_pos rfl]
      · rw [va_up_of _ _ y, if_neg y, if_neg (fun w => by omega), n2 30 (by decide)]; exact g5 q hq
    · have nf : ∀ c, c ≠ 29 → c ≠ 30 → xI (xSI 30 F h4) c = xI h c := fun c c1 c2 => by rw [xI_ne c2]; exact n3 c c1 c2
      have f29 : xI (xSI 30 F h4) 29 = va_up (va_up (xI h 29) 1 (nI (gTh (sG s) - 1))) 0 (nI (gLg (sG s) (gTh (sG s) - 1) 0)) := by rw [xI_ne (by decide), y3, y2]
      refine hC.game _ (fun c hc => nf c (by omega) (by omega)) b3 ⟨?_, ?_, ?_, ?_, ?_, ?_, ?_, ?_⟩
      · rw [f29, va_up_eq]
        show _ = if isOv (bLast (sB s)) (bPc (sB s)) (uPl (sG s) (bPc (sB s))) = true then (-1 : Int32) else nI (gLg (sG s) (gTh (sG s) - 1) 0)
        rw [gUnd_turn hg t0]; rfl
      · rw [f29, va_up_of _ _ (by decide), va_up_eq]; rfl
      · rw [f29, va_up_of _ _ (by decide), va_up_of _ _ (by decide)]; exact g3
      · rw [f29, va_up_of _ _ (by decide), va_up_of _ _ (by decide)]; exact g4
      · intro p hp4
        rw [xI_at]; exact hF p hp4
      · intro i hi k hk
        have hi' : i < gTh (sG s) - 1 := hi
        rw [nf 31 (by decide) (by decide)]; exact g6 i (by omega) k hk
      · intro i hi
        rw [nf 32 (by decide) (by decide)]; exact g7 i hi
      · intro i hi
        rw [nf 33 (by decide) (by decide)]; exact g8 i hi
    · exact fun c hc => ⟨by rw [xI_ne (by omega)]; exact n3 c (by omega) (by omega), by show xP h4 c = _; rw [b3]⟩
  · have z : gTh (sG s) = 0 := Nat.eq_zero_of_not_pos (fun y => c (nI_lt (a := 0) y (by omega)))
    rw [if_pos z, if_pos z]
    exact ⟨rfl, hC, cch.rfl⟩
theorem s_X10_undo {h : XH} {r : Nat} {s : SG} (hC : CI h r s) (hg : GoodS s) : XSpec mX10_undo 3 0 0 100 100 [.ref 0] h (fun v h' => v = some (.int (unA s)) ∧ CI h' r (sUnd s) ∧ cch h h') xno := by
  refine XSpec.of rfl (by decide) (Nat.le_of_ble_eq_true rfl) rfl (v_X10_undo_0 r hC.bp ⟨_, c_back hC hg, ?_⟩)
  rintro v h1 ⟨rfl, k1, k2⟩
  exact ⟨_, rfl, rfl, k1, k2⟩
/-! the seed -/
def nSd (q : Int32) : Int32 := q * 1103515245 + 12345
def drw (q : Int32) (m : Nat) : Nat := (q.toBitVec.toNat / 65536 % 32768) % m
def fcA (od : Nat → Nat) (d : Nat) : Nat → Nat → Nat
  | 0, x => x
  | c + 1, x => if d < sN od 1 x then x else fcA od d c (x + 1)
theorem fcA_le {od : Nat → Nat} {d : Nat} : ∀ c x, 1 ≤ x → 1 ≤ fcA od d c x ∧ fcA od d c x ≤ x + c := by
  intro c
  induction c with
  | zero => intro x h; exact ⟨h, Nat.le_refl _⟩
  | succ c ih =>
    intro x h
    unfold fcA
    split
    · omega
    · have := ih (x + 1) (by omega)
      omega
def fcD (b : BD) (q : Int32) : Nat := fcA (bOd b) (drw q (od6 (bOd b))) 5 1
def rlS : Nat → Int32 → SG → SG × Nat
  | 0, _, s => (s, 0)
  | c + 1, q, s => if canMv s = true then ((rlS c (nSd q) (sThr s (fcD (sB s) (nSd q)))).1, (rlS c (nSd q) (sThr s (fcD (sB s) (nSd q)))).2 + 1) else (s, 0)
theorem s_nextSeed (n : Nat) (h : XH) (q : Int32) : XSpec mX10_nextSeed 1 0 0 n n [.int q] h (xq (some (.int (nSd q))) h) xno :=
  XSpec.of rfl (by decide) (Nat.le_of_ble_eq_true rfl) rfl (v_X10_nextSeed_0 n q ⟨rfl, rfl⟩)
theorem ushr16 (q : Int32) : (q.toUInt32 >>> ((16 : Int32).toUInt32 &&& Int32.toUInt32 31)).toInt32 &&& 32767 = nI (q.toBitVec.toNat / 65536 % 32768) := by
  have e := pk_and ((q.toUInt32 >>> ((16 : Int32).toUInt32 &&& Int32.toUInt32 31)).toInt32) (m := 32767) 15 (by decide)
  rw [e, pk_ushr q 16 16 (by decide)]
theorem s_drawn (n : Nat) (h : XH) (q : Int32) (m : Nat) (hm : 0 < m) (hm2 : m < 2 ^ 31) : XSpec mX10_drawn 1 0 0 n n [.int q, .int (nI m)] h (xq (some (.int (nI (drw q m)))) h) xno := by
  refine XSpec.of rfl (by decide) (Nat.le_of_ble_eq_true rfl) rfl (v_X10_drawn_0 n q (nI m) ⟨fun _ => ⟨nI_ne0 hm hm2, ?_, rfl⟩, fun c => absurd (nI_lt (a := 0) hm hm2) c⟩)
  have hlt : q.toBitVec.toNat / 65536 % 32768 < 2 ^ 31 := by omega
  rw [ushr16, pk_rem hlt hm hm2]
  rfl
theorem l_faceOf {h : XH} {r : Nat} {s : SG} (hC : CI h r s) (hg : GoodS s) {d : Nat} (hd : d < 2 ^ 30) {Q : Option Value → XH → Prop} {X : String → XH → Prop} : ∀ (c x : Nat), x + c = 6 → 1 ≤ x → Q (some (.int (nI (fcA (bOd (sB s)) d c x)))) h →
    XW (xrm 2 0 0) mX5_faceOf (xE 100 Q X 0 0) 100 0 0 h 4 [some (.ref r), some (.int (nI d)), some (.int (nI (sN (bOd (sB s)) 1 (x - 1)))), some (.int (nI x))] [] := by
  intro c
  induction c with
  | zero =>
    intro x hx h1 hQ
    have : x = 6 := by omega
    subst this
    exact v_X5_faceOf_4 r hC.bp _ _ (nI 6) ⟨fun _ => hQ, fun c => absurd (by decide) c⟩
  | succ c ih =>
    intro x hx h1 hQ
    have o9 := hg.die.1 x h1 (by omega)
    have hs : sN (bOd (sB s)) 1 x ≤ od6 (bOd (sB s)) := by
      rw [← sN_od6]
      have : ∀ d, sN (bOd (sB s)) 1 x ≤ sN (bOd (sB s)) 1 (x + d) := fun d => by
        induction d with
        | zero => exact Nat.le_refl _
        | succ d ih => rw [← Nat.add_assoc, sN_last]; omega
      have := this (6 - x)
      rw [show x + (6 - x) = 6 by omega] at this
      exact this
    have ha := hg.die.all
    have es : sN (bOd (sB s)) 1 (x - 1) + bOd (sB s) x = sN (bOd (sB s)) 1 x := by
      have := sN_last (f := bOd (sB s)) (x - 1) 1
      rw [show 1 + (x - 1) = x by omega, show x - 1 + 1 = x by omega] at this
      exact this.symm
    refine v_X5_faceOf_4 r hC.bp _ _ (nI x) ⟨fun c => absurd c (nI_ge (b := 6) (by omega) (by omega)), fun _ => ⟨_, c_odds hC h1 (by omega), ?_⟩⟩
    rintro v h2 ⟨rfl, e2⟩
    subst e2
    refine ⟨_, rfl, ?_⟩
    rw [nI_add, es, nI_leI (by omega) (by omega)]
    unfold fcA at hQ
    refine ⟨fun c => ?_, fun c => ?_⟩
    · rw [if_neg (by omega)] at hQ
      rw [nI_1]
      exact ih (x + 1) (by omega) (by omega) hQ
    · rw [if_pos (by omega)] at hQ
      exact hQ
theorem c_faceOf {h : XH} {r : Nat} {s : SG} (hC : CI h r s) (hg : GoodS s) {d : Nat} (hd : d < 2 ^ 30) : XSpec mX5_faceOf 2 0 0 100 100 [.ref r, .int (nI d)] h (xq (some (.int (nI (fcA (bOd (sB s)) d 5 1)))) h) xno :=
  XSpec.of rfl (by decide) (Nat.le_of_ble_eq_true rfl) rfl (v_X5_faceOf_0 r hC.bp (nI d) (l_faceOf hC hg hd 5 1 rfl (Nat.le_refl _) ⟨rfl, rfl⟩))
theorem rlS_le : ∀ c q s, (rlS c q s).2 ≤ c := by
  intro c
  induction c with
  | zero => intro q s; exact Nat.le_refl _
  | succ c ih =>
    intro q s
    unfold rlS
    split
    · have := ih (nSd q) (sThr s (fcD (sB s) (nSd q)))
      show _ + 1 ≤ c + 1
      omega
    · exact Nat.zero_le _
theorem fcD_in (b : BD) (q : Int32) : 1 ≤ fcD b q ∧ fcD b q ≤ 6 := fcA_le 5 1 (Nat.le_refl _)
theorem rlS_good : ∀ c q s, GoodS s → GoodS (rlS c q s).1 := by
  intro c
  induction c with
  | zero => intro q s h; exact h
  | succ c ih =>
    intro q s h
    unfold rlS
    by_cases z : canMv s = true
    · rw [if_pos z]
      exact ih _ _ (sThr_good h (fcD_in _ _).1 (fcD_in _ _).2 z)
    · rw [if_neg z]; exact h
theorem l_rolls {r : Nat} {m : Nat} (hm : m ≤ 200) (h0 : XH) {Q : Option Value → XH → Prop} {X : String → XH → Prop} : ∀ (c i : Nat) (q : Int32) (s : SG) (h : XH), i + c = m → CI h r s → GoodS s → cch h0 h → (∀ h', CI h' r (rlS c q s).1 → cch h0 h' → Q (some (.int (nI (i + (rlS c q s).2)))) h') →
    XW (xrm 7 1 6) mX10_rolls (xE 100 Q X 1 6) 100 1 6 h 27 [some (.ref 0), none, some (.int (nI m)), some (.int q), some (.int (nI i)), some (.int (nI i))] [] := by
  intro c
  induction c with
  | zero =>
    intro i q s h hi hC hg hc hQ
    have : i = m := by omega
    subst this
    exact v_X10_rolls_27 r hC.bp _ _ _ (nI i) ⟨fun _ => hQ h hC hc, fun c => absurd (nI_le (Nat.le_refl _) (by omega)) c⟩
  | succ c ih =>
    intro i q s h hi hC hg hc hQ
    have ha := hg.die.all
    refine v_X10_rolls_27 r hC.bp _ _ _ (nI i) ⟨fun c => absurd c (nI_ge (by omega) (by omega)), fun _ => ⟨_, c_canMove hC hg, ?_⟩⟩
    rintro v h1 ⟨rfl, e1⟩
    subst e1
    unfold rlS at hQ
    refine ⟨_, rfl, fun z => ?_, fun z => ⟨_, s_nextSeed 100 h1 q, ?_⟩⟩
    · rw [bI_0.1 z] at hQ
      exact hQ h1 hC hc
    · have hcan := bI_n0.1 z
      rw [if_pos hcan] at hQ
      rintro v h2 ⟨rfl, e2⟩
      subst e2
      refine ⟨_, rfl, hC.p7, hC.p3, hC.p5, hC.p3, hC.p3, ?_⟩
      rw [hC.all]
      refine ⟨_, s_drawn 100 h2 (nSd q) _ ha.1 (by omega), ?_⟩
      rintro v h3 ⟨rfl, e3⟩
      subst e3
      have hd : drw (nSd q) (od6 (bOd (sB s))) < 2 ^ 30 := by
        have := Nat.mod_lt ((nSd q).toBitVec.toNat / 65536 % 32768) ha.1
        unfold drw
        omega
      refine ⟨_, rfl, _, c_faceOf hC hg hd, ?_⟩
      rintro v h4 ⟨rfl, e4⟩
      subst e4
      have hf := fcD_in (sB s) (nSd q)
      refine ⟨_, rfl, _, c_move hC hg (f := fcD (sB s) (nSd q)) hf.1 hf.2, ?_⟩
      rintro v h5 ⟨hy, -⟩
      obtain ⟨rfl, hC5, hc5⟩ := hy hcan
      refine ⟨_, rfl, ?_⟩
      rw [nI_1]
      refine ih (i + 1) (nSd q) _ h5 (by omega) hC5 (sThr_good hg hf.1 hf.2 hcan) (hc.trans hc5) (fun h' k1 k2 => ?_)
      have := hQ h' k1 k2
      rw [show i + 1 + (rlS c (nSd q) (sThr s (fcD (sB s) (nSd q)))).2 = i + ((rlS c (nSd q) (sThr s (fcD (sB s) (nSd q)))).2 + 1) by omega]
      exact this
theorem s_X10_rolls {h : XH} {r : Nat} {s : SG} (hC : CI h r s) (hg : GoodS s) (q m : Int32) : XSpec mX10_rolls 7 1 6 100 100 [.ref 0, .int q, .int m] h (fun v h' => kd1 (inR m 0 200) = 0 ∧ v = some (.int (nI (rlS m.toNatClampNeg q s).2)) ∧ CI h' r (rlS m.toNatClampNeg q s).1 ∧ cch h h') (cThr h (kd1 (inR m 0 200)) eA eA) := by
  have e2 : (200 : Int32).toInt = 200 := by decide
  refine XSpec.of rfl (by decide) (Nat.le_of_ble_eq_true rfl) rfl (v_X10_rolls_0 r hC.bp q m ?_)
  rw [i32_lt0, i32_le, e2]
  refine ⟨fun c => ⟨rfl, Or.inl ⟨kd1_f (inR_f.2 (by omega)), rfl⟩⟩, fun c => ⟨fun c2 => ?_, fun c2 => ⟨rfl, Or.inl ⟨kd1_f (inR_f.2 (by omega)), rfl⟩⟩⟩⟩
  have hin : inR m 0 200 = true := inR_t.2 (by omega)
  have hk := kd1_t hin
  obtain ⟨m, hm, rfl⟩ := inR_nI (n := 200) hin
  rw [nI_clamp (show m < 2 ^ 31 by omega)]
  refine l_rolls hm h m 0 q s h (by omega) hC hg cch.rfl (fun h' k1 k2 => ⟨hk, ?_, k1, k2⟩)
  rw [Nat.zero_add]
