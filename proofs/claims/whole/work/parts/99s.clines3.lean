/-! READ: the class' lines, one after another -/
theorem and8 : ∀ t, t < 256 → ∀ k, k < 8 → ((nI t &&& (1 <<< (nI k &&& 31)) = 0) ↔ t.testBit k = false) := by decide +kernel
theorem or8 : ∀ t, t < 256 → ∀ k, k < 8 → nI t ||| (1 <<< (nI k &&& 31)) = nI (t ||| 2 ^ k) := by decide +kernel
theorem c_lineHere {h : XH} {r n s : Nat} {T : Nat → Nat} (hC : CT h r T n s) : XSpec mX4_lineHere 13 0 0 100 100 [.ref 11] h (xq (some (.int (nI (lnO T n s)))) h) xno := by
  obtain ⟨j2, j3, j4, j5, j6, j7, j8, -, -, -⟩ := jsT_e
  refine XSpec.of rfl (by decide) (Nat.le_of_ble_eq_true rfl) rfl (v_X4_lineHere_0 r hC.1.1 hC.1.2.1 hC.1.2.2 ⟨_, c_isWord (i := 2) hC (by decide), ?_⟩)
  unfold lnO
  rintro v h1 ⟨rfl, e1⟩
  subst h1
  rw [j2]
  refine ⟨_, rfl, fun c1 => ⟨_, c_isWord (i := 3) hC (by decide), ?_⟩, fun c1 => ⟨by rw [if_pos (bI_n0.1 c1)]; rfl, rfl⟩⟩
  rw [if_neg (show ¬ (isW T n _ s = true) by rw [bI_0.1 c1]; decide)]
  rintro v h1 ⟨rfl, e1⟩
  subst h1
  rw [j3]
  refine ⟨_, rfl, fun c1 => ⟨_, c_isWord (i := 4) hC (by decide), ?_⟩, fun c1 => ⟨by rw [if_pos (bI_n0.1 c1)]; rfl, rfl⟩⟩
  rw [if_neg (show ¬ (isW T n _ s = true) by rw [bI_0.1 c1]; decide)]
  rintro v h1 ⟨rfl, e1⟩
  subst h1
  rw [j4]
  refine ⟨_, rfl, fun c1 => ⟨_, c_isWord (i := 5) hC (by decide), ?_⟩, fun c1 => ⟨by rw [if_pos (bI_n0.1 c1)]; rfl, rfl⟩⟩
  rw [if_neg (show ¬ (isW T n _ s = true) by rw [bI_0.1 c1]; decide)]
  rintro v h1 ⟨rfl, e1⟩
  subst h1
  rw [j5]
  refine ⟨_, rfl, fun c1 => ⟨_, c_isWord (i := 6) hC (by decide), ?_⟩, fun c1 => ⟨by rw [if_pos (bI_n0.1 c1)]; rfl, rfl⟩⟩
  rw [if_neg (show ¬ (isW T n _ s = true) by rw [bI_0.1 c1]; decide)]
  rintro v h1 ⟨rfl, e1⟩
  subst h1
  rw [j6]
  refine ⟨_, rfl, fun c1 => ⟨_, c_isWord (i := 7) hC (by decide), ?_⟩, fun c1 => ⟨by rw [if_pos (bI_n0.1 c1)]; rfl, rfl⟩⟩
  rw [if_neg (show ¬ (isW T n _ s = true) by rw [bI_0.1 c1]; decide)]
  rintro v h1 ⟨rfl, e1⟩
  subst h1
  rw [j7]
  refine ⟨_, rfl, fun c1 => ⟨_, c_isWord (i := 8) hC (by decide), ?_⟩, fun c1 => ⟨by rw [if_pos (bI_n0.1 c1)]; rfl, rfl⟩⟩
  rw [if_neg (show ¬ (isW T n _ s = true) by rw [bI_0.1 c1]; decide)]
  rintro v h1 ⟨rfl, e1⟩
  subst h1
  rw [j8]
  exact ⟨_, rfl, fun c1 => ⟨by rw [if_neg (show ¬ (isW T n _ s = true) by rw [bI_0.1 c1]; decide)]; rfl, rfl⟩, fun c1 => ⟨by rw [if_pos (bI_n0.1 c1)]; rfl, rfl⟩⟩
theorem LO.tr {r n t : Nat} {T : Nat → Nat} {h0 h h' : XH} {x : QR} {v : Option Value} (he : Bch r h0 h) (hc : LO r T n h x t v h') : LO r T n h0 x t v h' := by
  rcases x with e | y
  · exact ⟨hc.1, hc.2.1, hc.2.2.1, hc.2.2.2.1, he.trans hc.2.2.2.2⟩
  · exact ⟨hc.1, hc.2.1, he.trans hc.2.2⟩
theorem LO.v {r n t : Nat} {T : Nat → Nat} {h h' : XH} {x : QR} {v : Option Value} (hc : LO r T n h x t v h') : ∃ z : Int32, v = some (.int z) ∧ (z = 0 ∨ z = 1) := by
  rcases x with e | y
  · exact ⟨0, hc.1, Or.inl rfl⟩
  · exact ⟨1, hc.1, Or.inr rfl⟩
theorem b01_nar {z : Int32} (h : z = 0 ∨ z = 1) : narrow .boolean (.int z) = .int z := by rcases h with rfl | rfl <;> rfl
theorem c_sem {h0 h : XH} {r n s t : Nat} {T : Nat → Nat} {b : BD} (hL : LC h r T n s b t) (he : Bch r h0 h) : XSpec mX4_takeSign 15 0 0 100 100 [.ref 11, .int 59] h (LO r T n h0 (lSem T n s b) t) xno := by
  refine (c_takeSign hL.1 (c := 59) (by omega)).mono ?_ (fun _ _ q => q)
  rintro v h' (⟨e1, rfl, k1, k2⟩ | ⟨e1, rfl, k1⟩)
  · unfold lSem
    rw [if_pos e1]
    exact ⟨rfl, hL.rch k1 k2, he.trans (Bch_r k2)⟩
  · unfold lSem
    rw [if_neg (by rw [e1]; decide)]
    exact LO.fl he k1 (by omega)
theorem c_readLast {h : XH} {r n s t : Nat} {T : Nat → Nat} {b : BD} (hL : LC h r T n s b t) : XSpec mX4_readLast 16 0 0 100 100 [.ref 11] h (LO r T n h (lLast T n (nx T n s) b) t) xno := by
  refine XSpec.of rfl (by decide) (Nat.le_of_ble_eq_true rfl) rfl (v_X4_readLast_0 r hL.1.1.1 hL.1.1.2.1 hL.1.1.2.2 ⟨_, c_readOn hL.1, ?_⟩)
  rintro v h1 ⟨rfl, k1, k2⟩
  have hL1 := hL.rch k1 k2
  refine ⟨rfl, _, c_number (lo := 10) (hi := 100) hL1.1 (by omega) (by omega), ?_⟩
  rintro v h2 (⟨w, e, rfl, e1⟩ | ⟨f, e, rfl, e1⟩)
  · subst h2
    have hw := num_r e
    have el : lLast T n (nx T n s) b = lSem T n (nx T n (nx T n s)) (dLa b w) := by unfold lLast; rw [e]
    rw [el]
    obtain ⟨r0, r1, r2, r3, r4, r5, r6, r7⟩ := hL1.2.1.1
    have hL2 : LC (xSI r (va_up (xI h1 r) 0 (nI w)) h1) r T n (nx T n s) (dLa b w) t := hL1.row (b' := dLa b w) ⟨va_up_eq _ _ _, (va_up_of _ _ (by decide)).trans r1, (va_up_of _ _ (by decide)).trans r2, (va_up_of _ _ (by decide)).trans r3, (va_up_of _ _ (by decide)).trans r4, (va_up_of _ _ (by decide)).trans r5, (va_up_of _ _ (by decide)).trans r6, (va_up_of _ _ (by decide)).trans r7⟩ (fun z => z) (fun z => z)
    refine ⟨_, rfl, fun _ => ⟨hL1.1.1.1.2, _, c_readOn hL2.1, ?_⟩, fun q => absurd q (nI_nm1 (by omega))⟩
    rintro v h3 ⟨rfl, k3, k4⟩
    refine ⟨rfl, _, c_sem (h0 := h) (hL2.rch k3 k4) (((Bch_r k2).trans (Bch_put Bch.rfl (Or.inr ⟨by omega, by omega⟩))).trans (Bch_r k4)), ?_⟩
    intro v h4 hq
    obtain ⟨z, e1, e2⟩ := LO.v hq
    exact ⟨z, e1, b01_nar e2, by rw [← e1]; exact hq⟩
  · have el : lLast T n (nx T n s) b = .inl (f, nx T n s) := by unfold lLast; rw [e]
    rw [el]
    exact ⟨_, rfl, fun q => absurd rfl q, fun _ => LO.fl (Bch_r k2) e1 (num_f e)⟩
/-- a whole line is read, or not -/
def LR (r : Nat) (T : Nat → Nat) (n : Nat) (h0 : XH) (x : RR) (v : Option Value) (h : XH) : Prop := match x with
  | .inl e => v = some (.int 0) ∧ xI h 11 0 = nI e.2 ∧ xI h 11 5 = nI e.1 ∧ (1 ≤ e.1 ∧ e.1 ≤ 5) ∧ Bch r h0 h
  | .inr y => v = some (.int 1) ∧ LC h r T n y.1 y.2.1 y.2.2 ∧ Bch r h0 h
theorem c_readLine {h : XH} {r n s t : Nat} {T : Nat → Nat} {b : BD} (hL : LC h r T n s b t) (hb : GoodBD b) (h8 : t < 256) : XSpec mX4_readLine 81 0 0 100 100 [.ref 11] h (LR r T n h (lLine T n s b t)) xno := by
  have hR := hL.1.1
  have hr := hR.r2
  have lt7 : lnO T n s ≤ 7 := by
    by_cases z : lnO T n s = 0
    · omega
    · exact (lnO_lt z).2
  have bad : ∀ f, lBad T n s b t = some f → (1 ≤ f ∧ f ≤ 5) → ∃ Q1, XSpec mX4_fail 1 0 0 100 100 [.ref 11, .int (nI f)] h Q1 xno ∧ ∀ v h5, Q1 v h5 → ∃ r5 : Int32, v = some (.int r5) ∧ ((narrow .boolean (.int r5) = .int r5) ∧ (LR r T n h (lLine T n s b t) (some (.int r5)) h5)) := fun f hf h15 => by
    refine ⟨_, c_fail hR (nI f), ?_⟩
    rintro v h5 ⟨rfl, e5⟩
    subst h5
    have el : lLine T n s b t = .inl (f, s) := by unfold lLine; rw [hf]
    rw [el]
    exact ⟨0, rfl, rfl, rfl, (hL.1.fl f).1, (hL.1.fl f).2.1, h15, Bch_f (hL.1.fl f).2.2⟩
  have s60 : lBad T n s b t = none → XW (xrm 81 0 0) mX4_readLine (xE 100 (LR r T n h (lLine T n s b t)) xno 0 0) 100 0 0 h 60 [some (.ref 11), some (.int (nI (lnO T n s))), none] [] := fun hz => by
    obtain ⟨l0, l1, l2⟩ := lBad_n hz
    have l3 := (lnO_lt l0).1
    have eline : lLine T n s b t = qbd (qbd (lBody T n (lnO T n s) (nx T n s) b) (lSem T n)) (fun s' b' => .inr (s', (b', t ||| 2 ^ lnO T n s))) := by unfold lLine; rw [hz]
    refine v_X4_readLine_60 r hR.1 hR.2.1 hR.2.2 _ ?_
    rw [hL.2.2, or8 t h8 _ (by omega)]
    rw [eline]
    generalize lnO T n s = k at *
    generalize t ||| 2 ^ k = t' at *
    have hL2 : LC (xSI 11 (va_up (xI h 11) 6 (nI t')) h) r T n s b t' := ⟨hL.1.o (xI_ne (by omega)) (fun j q => by rw [xI_at, va_up_of _ _ q]) rfl, hL.2.1.of (fun c q1 q2 => xI_ne (by omega)), by rw [xI_at, va_up_eq]⟩
    refine ⟨_, c_readOn hL2.1, ?_⟩
    rintro v h2 ⟨rfl, k1, k2⟩
    have hL3 := hL2.rch k1 k2
    have b3 : Bch r h h2 := (Bch_put Bch.rfl (Or.inl rfl)).trans (Bch_r k2)
    have s176 : ∀ (h7 : XH) (r7 : Int32), LO r T n h (lBody T n k (nx T n s) b) t' (some (.int r7)) h7 → XW (xrm 81 0 0) mX4_readLine (xE 100 (LR r T n h (qbd (qbd (lBody T n k (nx T n s) b) (lSem T n)) (fun s' b' => .inr (s', (b', t'))))) xno 0 0) 100 0 0 h7 176 [some (.ref 11), none, some (.int r7)] [] := fun h7 r7 hq => by
      cases hx : lBody T n k (nx T n s) b with
      | inl e =>
        rw [hx] at hq
        obtain ⟨e1, e2, e3, e4, e5⟩ := hq
        have z0 : r7 = 0 := by cases e1; rfl
        have hR7 : RD h7 r := hR.p e5.2
        exact v_X4_readLine_176 r hR7.1 hR7.2.1 hR7.2.2 _ ⟨fun _ => ⟨rfl, e2, e3, e4, e5⟩, fun q => absurd z0 q⟩
      | inr y =>
        rw [hx] at hq
        obtain ⟨e1, hL7, e5⟩ := hq
        have z1 : r7 = 1 := by cases e1; rfl
        refine v_X4_readLine_176 r hL7.1.1.1 hL7.1.1.2.1 hL7.1.1.2.2 _ ⟨fun q => absurd (z1.symm.trans q) (by decide), fun _ => ⟨_, c_sem hL7 e5, ?_⟩⟩
        intro v h8 hq8
        show ∃ r13 : Int32, v = some (.int r13) ∧ ((r13 = 0 → LR r T n h (qbd (lSem T n y.1 y.2) (fun s' b' => .inr (s', (b', t')))) (some (.int 0)) h8) ∧ (¬ r13 = 0 → LR r T n h (qbd (lSem T n y.1 y.2) (fun s' b' => .inr (s', (b', t')))) (some (.int 1)) h8))
        cases hy : lSem T n y.1 y.2 with
        | inl e =>
          rw [hy] at hq8
          obtain ⟨f1, f2, f3, f4, f5⟩ := hq8
          exact ⟨0, f1, fun _ => ⟨rfl, f2, f3, f4, f5⟩, fun q => absurd rfl q⟩
        | inr w =>
          rw [hy] at hq8
          obtain ⟨f1, f2, f3⟩ := hq8
          exact ⟨1, f1, fun q => absurd q (by decide), fun _ => ⟨rfl, f2, f3⟩⟩
    have wrap : ∀ (x : QR) (v : Option Value) (h7 : XH), lBody T n k (nx T n s) b = x → LO r T n h2 x t' v h7 → ∃ r7 : Int32, v = some (.int r7) ∧ (XW (xrm 81 0 0) mX4_readLine (xE 100 (LR r T n h (qbd (qbd (lBody T n k (nx T n s) b) (lSem T n)) (fun s' b' => .inr (s', (b', t'))))) xno 0 0) 100 0 0 h7 176 [some (.ref 11), none, some (.int r7)] []) := fun x v h7 hx hq => by
      obtain ⟨z, e1, e2⟩ := LO.v hq
      refine ⟨z, e1, s176 h7 z ?_⟩
      rw [hx, ← e1]
      exact hq.tr b3
    have nk : ∀ j : Nat, j < 8 → nI k = nI j → k = j := fun j hj q => (nI_eq (by omega) (by omega)).1 q
    refine ⟨rfl, fun q => ⟨_, c_readExit hL3 hb (l1 (nk 1 (by omega) q)), fun v h7 hq => wrap _ v h7 ?_ hq⟩, fun q => ⟨_, c_readDie hL3 hb.x.1, fun v h7 hq => wrap _ v h7 ?_ hq⟩, fun q => ⟨_, c_readEnd hL3, fun v h7 hq => wrap _ v h7 ?_ hq⟩, fun q => ⟨_, c_readAgain hL3, fun v h7 hq => wrap _ v h7 ?_ hq⟩, fun q => ⟨hL3.1.1.1.2, ?_⟩, fun q => ⟨_, c_readPieces hL3, fun v h7 hq => wrap _ v h7 ?_ hq⟩, fun q => ⟨_, c_readGoes hL3, fun v h7 hq => wrap _ v h7 ?_ hq⟩, fun q => absurd q ?_⟩
    · have := nk 1 (by omega) q
      subst this; rfl
    · have := nk 2 (by omega) q
      subst this; rfl
    · have := nk 3 (by omega) q
      subst this; rfl
    · have := nk 4 (by omega) q
      subst this; rfl
    · have e5 := nk 5 (by omega) q
      subst e5
      refine s176 _ 1 ?_
      obtain ⟨r0, r1, r2, r3, r4, r5, r6, r7⟩ := hL3.2.1.1
      exact ⟨rfl, hL3.row (b' := dMt b) ⟨(va_up_of _ _ (by decide)).trans r0, (va_up_of _ _ (by decide)).trans r1, (va_up_of _ _ (by decide)).trans r2, (va_up_of _ _ (by decide)).trans r3, (va_up_of _ _ (by decide)).trans r4, va_up_eq _ _ _, (va_up_of _ _ (by decide)).trans r6, (va_up_of _ _ (by decide)).trans r7⟩ (fun z => z) (fun z => z), Bch_put b3 (Or.inr ⟨by omega, by omega⟩)⟩
    · have := nk 6 (by omega) q
      subst this; rfl
    · have := nk 7 (by omega) q
      subst this; rfl
    · rw [nI_toInt (by omega)]; omega
  refine XSpec.of rfl (by decide) (Nat.le_of_ble_eq_true rfl) rfl (v_X4_readLine_0 r hR.1 hR.2.1 hR.2.2 ⟨_, c_lineHere hL.1, ?_⟩)
  rintro v h1 ⟨rfl, e1⟩
  subst h1
  refine ⟨_, rfl, ?_⟩
  rw [hL.2.2, show (xI h r 7) = nI (bKx b) from hL.2.1.1.2.2.2.2.2.2.2]
  have k0 : nI (lnO T n s) = 0 ↔ lnO T n s = 0 := nI_eq (b := 0) (by omega) (by omega)
  have k1 : nI (lnO T n s) = 1 ↔ lnO T n s = 1 := nI_eq (b := 1) (by omega) (by omega)
  have kx : nI (bKx b) < 24 ↔ bKx b < 24 := nI_ltI (b := 24) (by have := hb.1.2.2.1; omega) (by omega)
  rw [k0, k1, kx, and8 t h8 _ (by omega)]
  have five : ¬ lnO T n s = 0 → ¬ lnO T n s = 1 → ¬ t.testBit (lnO T n s) = false → lBad T n s b t = some 5 := fun q0 q1 q2 => by
    unfold lBad
    rw [if_neg q0, if_neg (fun z => q1 z.1), if_pos ⟨q1, by simpa using q2⟩]
  have noneE : ¬ lnO T n s = 0 → (lnO T n s = 1 → bKx b < 24) → (¬ lnO T n s = 1 → t.testBit (lnO T n s) = false) → lBad T n s b t = none := fun q0 q1 q2 => by
    unfold lBad
    rw [if_neg q0, if_neg (fun z => by have := q1 z.1; omega), if_neg (fun z => by rw [q2 z.1] at z; exact absurd z.2 (by decide))]
  refine ⟨fun q0 => ⟨fun q1 => ⟨fun q2 => absurd q2 q1, fun _ => ⟨fun q3 => s60 (noneE q0 (fun z => absurd z q1) (fun _ => q3)), fun q3 => bad 5 (five q0 q1 q3) (by omega)⟩⟩, fun q1 => ⟨hL.1.1.1.2, fun q2 => ⟨fun _ => s60 (noneE q0 (fun _ => q2) (fun z => absurd q1 z)), fun q3 => absurd q1 q3⟩, fun q2 => bad 2 ?_ (by omega)⟩⟩, fun q0 => bad 1 ?_ (by omega)⟩
  · unfold lBad
    rw [if_neg q0, if_pos ⟨q1, by omega⟩]
  · unfold lBad
    rw [if_pos q0]
