/-! READ: the class' lines -/
def CRr (F : Nat → Int32) (b : BD) : Prop := F 0 = nI (bLast b) ∧ F 1 = nI (od6 (bOd b)) ∧ F 2 = nI (bLst b) ∧ F 3 = nI (bE b) ∧ F 4 = nI (bAg b) ∧ F 5 = nI (bMt b) ∧ F 6 = nI (bPc b) ∧ F 7 = nI (bKx b)
def CRo (h : XH) (r : Nat) (b : BD) : Prop := (∀ f, 1 ≤ f → f ≤ 6 → xI h (r + 5) f = nI (bOd b f)) ∧ (∀ i, i < bKx b → xI h (r + 6) i = nI (bFt b i) ∧ xI h (r + 7) i = nI (bHd b i)) ∧ (∀ q, q < 101 → xI h (r + 8) q = if jmps (bFt b) (bHd b) (bKx b) q = 0 then 0 else 1)
def CRf (h : XH) (r : Nat) (b : BD) : Prop := xI h (r + 1) 3 = nI (bLen b) ∧ (∀ k, k < bLen b → xI h (r + 3) k = bC b k) ∧ xI h (r + 1) 0 = nI (bTd b) ∧ xI h (r + 1) 1 = nI (bTl b) ∧ (∀ i, i < bTl b → xI h (r + 2) i = nI (bTx b i))
def CRw (h : XH) (r : Nat) (b : BD) : Prop := CRr (xI h r) b ∧ CRo h r b ∧ CRf h r b
theorem CRo.of {h h' : XH} {r : Nat} {b : BD} (hC : CRo h r b) (he : ∀ c, r + 5 ≤ c → c ≤ r + 8 → xI h' c = xI h c) : CRo h' r b := by
  unfold CRo at *
  rw [he (r + 5) (by omega) (by omega), he (r + 6) (by omega) (by omega), he (r + 7) (by omega) (by omega), he (r + 8) (by omega) (by omega)]
  exact hC
theorem CRf.of {h h' : XH} {r : Nat} {b : BD} (hC : CRf h r b) (he : ∀ c, r + 1 ≤ c → c ≤ r + 3 → xI h' c = xI h c) : CRf h' r b := by
  unfold CRf at *
  rw [he (r + 1) (by omega) (by omega), he (r + 2) (by omega) (by omega), he (r + 3) (by omega) (by omega)]
  exact hC
theorem CRw.of {h h' : XH} {r : Nat} {b : BD} (hC : CRw h r b) (he : ∀ c, r ≤ c → c ≤ r + 8 → xI h' c = xI h c) : CRw h' r b := ⟨by rw [he r (by omega) (by omega)]; exact hC.1, hC.2.1.of (fun c q1 q2 => he c (by omega) q2), hC.2.2.of (fun c q1 q2 => he c (by omega) (by omega))⟩
/-- with the code as it lies in the row -/
def wC (b : BD) (C : Nat → Int32) : BD := (b.1, b.2.1, C)
theorem CRw.rl {h : XH} {r : Nat} {b : BD} (hC : CRw h r b) : CRl h r (wC b (xI h (r + 3))) := by
  obtain ⟨⟨r0, r1, r2, r3, r4, r5, r6, r7⟩, ⟨o1, o2, o3⟩, ⟨f1, f2, f3, f4, f5⟩⟩ := hC
  exact ⟨⟨r0, r1, r2, o1⟩, r3, r4, r5, r6, r7, o2, o3, f1, rfl, f3, f4, f5⟩
theorem wC_good {b : BD} {C : Nat → Int32} (hb : GoodBD b) (hC : ∀ k, k < bLen b → C k = bC b k) : GoodBD (wC b C) := by
  obtain ⟨⟨h1, h2, h3, h4, h5, h6, h7, h8⟩, c1, c2, c3, c4, c5, c6, c7⟩ := hb
  refine ⟨⟨h1, h2, h3, h4, h5, ⟨h6.1, ?_, fun k hk => ?_⟩, h7, h8⟩, c1, c2, c3, c4, c5, fun z => ⟨(c6 z).1, ?_, (c6 z).2.2⟩, c7⟩
  · show dep C (bLen b) = 1
    rw [dep_congr _ hC]; exact h6.2.1
  · have hk' : k < bLen b := hk
    show -13 ≤ C k ∧ (-5 < C k → dep C k < 64) ∧ (C k = -5 → 1 ≤ dep C k) ∧ (¬ -5 < C k → ¬ C k = -5 → 2 ≤ dep C k)
    rw [dep_congr (C := bC b) (C' := C) k (fun i hi => hC i (by omega)), hC k hk']
    exact h6.2.2 k hk'
  · show C 0 = -1
    rw [hC 0 (by have := (c6 z).1; omega)]; exact (c6 z).2.1
def LC (h : XH) (r : Nat) (T : Nat → Nat) (n s : Nat) (b : BD) (t : Nat) : Prop := CT h r T n s ∧ CRw h r b ∧ xI h 11 6 = nI t
def Bch (r : Nat) (h h' : XH) : Prop := (∀ c, c ≠ 11 → (c < r ∨ r + 8 < c) → xI h' c = xI h c) ∧ xP h' = xP h
theorem Bch.rfl {r : Nat} {h : XH} : Bch r h h := ⟨fun _ _ _ => Eq.refl _, Eq.refl _⟩
theorem Bch.trans {r : Nat} {h h1 h2 : XH} (a : Bch r h h1) (b : Bch r h1 h2) : Bch r h h2 := ⟨fun c q1 q2 => (b.1 c q1 q2).trans (a.1 c q1 q2), b.2.trans a.2⟩
theorem Bch_r {r : Nat} {h h' : XH} (a : Rch h h') : Bch r h h' := ⟨fun c q _ => a.1 c q, a.2.2⟩
theorem Bch_f {r : Nat} {h h' : XH} (a : Fch h h') : Bch r h h' := ⟨fun c q _ => a.1 c q, a.2.2⟩
theorem Bch_e {r : Nat} {h h' : XH} (a : Ech r h h') : Bch r h h' := ⟨fun c q q2 => a.1 c q (by omega) (by omega), a.2.2.2⟩
theorem Bch_put {r a : Nat} {h0 h : XH} {F : Nat → Int32} (hc : Bch r h0 h) (ha : a = 11 ∨ (r ≤ a ∧ a ≤ r + 8)) : Bch r h0 (xSI a F h) := ⟨fun c q1 q2 => (xI_ne (by omega)).trans (hc.1 c q1 q2), hc.2⟩
theorem CT.o {h h' : XH} {r n s : Nat} {T : Nat → Nat} (hC : CT h r T n s) (h1 : xI h' 1 = xI h 1) (h11 : ∀ j, j ≠ 6 → xI h' 11 j = xI h 11 j) (hp : xP h' = xP h) : CT h' r T n s := by
  obtain ⟨hR, ⟨t1, t2, t3⟩, ⟨k1, k2, k3, k4⟩, hf⟩ := hC
  exact ⟨hR.p hp, ⟨by rw [h11 2 (by decide)]; exact t1, t2, by rw [h1]; exact t3⟩, ⟨by rw [h11 0 (by decide)]; exact k1, by rw [h11 3 (by decide)]; exact k2, by rw [h11 4 (by decide)]; exact k3, k4⟩, by rw [h11 5 (by decide)]; exact hf⟩
theorem LC.rch {h h' : XH} {r n s s' t : Nat} {T : Nat → Nat} {b : BD} (hL : LC h r T n s b t) (hC : CT h' r T n s') (hc : Rch h h') : LC h' r T n s' b t := by
  have hr := hL.1.1.r2
  exact ⟨hC, hL.2.1.of (fun c q1 q2 => hc.1 c (by omega)), by rw [hc.2.1 6 (by decide) (by decide) (by decide)]; exact hL.2.2⟩
theorem LC.row {h : XH} {r n s t : Nat} {T : Nat → Nat} {b b' : BD} {F : Nat → Int32} (hL : LC h r T n s b t) (hF : CRr F b') (ho : CRo h r b → CRo h r b') (hf : CRf h r b → CRf h r b') : LC (xSI r F h) r T n s b' t := by
  have hr := hL.1.1.r2
  refine ⟨hL.1.o (xI_ne (by omega)) (fun j _ => by rw [xI_ne (by omega)]) rfl, ⟨by rw [xI_at]; exact hF, (ho hL.2.1.2.1).of (fun c q1 q2 => xI_ne (by omega)), (hf hL.2.1.2.2).of (fun c q1 q2 => xI_ne (by omega))⟩, by rw [xI_ne (by omega)]; exact hL.2.2⟩
def LO (r : Nat) (T : Nat → Nat) (n : Nat) (h0 : XH) (x : QR) (t : Nat) (v : Option Value) (h : XH) : Prop := match x with
  | .inl e => v = some (.int 0) ∧ xI h 11 0 = nI e.2 ∧ xI h 11 5 = nI e.1 ∧ (1 ≤ e.1 ∧ e.1 ≤ 5) ∧ Bch r h0 h
  | .inr y => v = some (.int 1) ∧ LC h r T n y.1 y.2 t ∧ Bch r h0 h
theorem LO.fl {r f p t : Nat} {T : Nat → Nat} {n : Nat} {h0 h h' : XH} (he : Bch r h0 h) (hf : FL h h' f p) (h1 : 1 ≤ f ∧ f ≤ 5) : LO r T n h0 (.inl (f, p)) t (some (.int 0)) h' := ⟨Eq.refl _, hf.1, hf.2.1, h1, he.trans (Bch_f hf.2.2)⟩
theorem num_f {T : Nat → Nat} {n lo hi s f : Nat} (h : num T n lo hi s = .inl f) : 1 ≤ f ∧ f ≤ 5 := by rcases num_l h with z | z <;> omega
theorem c_readAgain {h : XH} {r n s t : Nat} {T : Nat → Nat} {b : BD} (hL : LC h r T n s b t) : XSpec mX4_readAgain 15 0 0 100 100 [.ref 11] h (LO r T n h (lNum T n 6 dAg s b) t) xno := by
  have hr := hL.1.1.r2
  refine XSpec.of rfl (by decide) (Nat.le_of_ble_eq_true rfl) rfl (v_X4_readAgain_0 r hL.1.1.1 hL.1.1.2.1 hL.1.1.2.2 ⟨_, c_number (lo := 1) (hi := 6) hL.1 (by omega) (by omega), ?_⟩)
  rintro v h1 (⟨w, e, rfl, e1⟩ | ⟨f, e, rfl, e1⟩)
  · subst h1
    have hw := num_r e
    have el : lNum T n 6 dAg s b = .inr (nx T n s, dAg b w) := by unfold lNum; rw [e]
    rw [el]
    obtain ⟨r0, r1, r2, r3, r4, r5, r6, r7⟩ := hL.2.1.1
    have hL2 : LC (xSI r (va_up (xI h r) 4 (nI w)) h) r T n s (dAg b w) t := hL.row (b' := dAg b w) ⟨(va_up_of _ _ (by decide)).trans r0, (va_up_of _ _ (by decide)).trans r1, (va_up_of _ _ (by decide)).trans r2, (va_up_of _ _ (by decide)).trans r3, va_up_eq _ _ _, (va_up_of _ _ (by decide)).trans r5, (va_up_of _ _ (by decide)).trans r6, (va_up_of _ _ (by decide)).trans r7⟩ (fun z => z) (fun z => z)
    refine ⟨_, rfl, fun _ => ⟨hL.1.1.1.2, _, c_readOn hL2.1, ?_⟩, fun q => absurd q (nI_nm1 (by omega))⟩
    rintro v h2 ⟨rfl, k1, k2⟩
    exact ⟨rfl, rfl, hL2.rch k1 k2, (Bch_put Bch.rfl (Or.inr ⟨by omega, by omega⟩)).trans (Bch_r k2)⟩
  · have el : lNum T n 6 dAg s b = .inl (f, s) := by unfold lNum; rw [e]
    rw [el]
    exact ⟨_, rfl, fun q => absurd rfl q, fun _ => LO.fl Bch.rfl e1 (num_f e)⟩
theorem c_readPieces {h : XH} {r n s t : Nat} {T : Nat → Nat} {b : BD} (hL : LC h r T n s b t) : XSpec mX4_readPieces 15 0 0 100 100 [.ref 11] h (LO r T n h (lNum T n 4 dPc s b) t) xno := by
  have hr := hL.1.1.r2
  refine XSpec.of rfl (by decide) (Nat.le_of_ble_eq_true rfl) rfl (v_X4_readPieces_0 r hL.1.1.1 hL.1.1.2.1 hL.1.1.2.2 ⟨_, c_number (lo := 1) (hi := 4) hL.1 (by omega) (by omega), ?_⟩)
  rintro v h1 (⟨w, e, rfl, e1⟩ | ⟨f, e, rfl, e1⟩)
  · subst h1
    have hw := num_r e
    have el : lNum T n 4 dPc s b = .inr (nx T n s, dPc b w) := by unfold lNum; rw [e]
    rw [el]
    obtain ⟨r0, r1, r2, r3, r4, r5, r6, r7⟩ := hL.2.1.1
    have hL2 : LC (xSI r (va_up (xI h r) 6 (nI w)) h) r T n s (dPc b w) t := hL.row (b' := dPc b w) ⟨(va_up_of _ _ (by decide)).trans r0, (va_up_of _ _ (by decide)).trans r1, (va_up_of _ _ (by decide)).trans r2, (va_up_of _ _ (by decide)).trans r3, (va_up_of _ _ (by decide)).trans r4, (va_up_of _ _ (by decide)).trans r5, va_up_eq _ _ _, (va_up_of _ _ (by decide)).trans r7⟩ (fun z => z) (fun z => z)
    refine ⟨_, rfl, fun _ => ⟨hL.1.1.1.2, _, c_readOn hL2.1, ?_⟩, fun q => absurd q (nI_nm1 (by omega))⟩
    rintro v h2 ⟨rfl, k1, k2⟩
    exact ⟨rfl, rfl, hL2.rch k1 k2, (Bch_put Bch.rfl (Or.inr ⟨by omega, by omega⟩)).trans (Bch_r k2)⟩
  · have el : lNum T n 4 dPc s b = .inl (f, s) := by unfold lNum; rw [e]
    rw [el]
    exact ⟨_, rfl, fun q => absurd rfl q, fun _ => LO.fl Bch.rfl e1 (num_f e)⟩
theorem jsT_e : jsT 2 = wExit ∧ jsT 3 = wDie ∧ jsT 4 = wEnd ∧ jsT 5 = wAgain ∧ jsT 6 = wMeet ∧ jsT 7 = wPieces ∧ jsT 8 = wGoes ∧ jsT 9 = wStay ∧ jsT 10 = wBack ∧ jsT 11 = wInn := by decide
theorem c_readEnd {h : XH} {r n s t : Nat} {T : Nat → Nat} {b : BD} (hL : LC h r T n s b t) : XSpec mX4_readEnd 15 0 0 100 100 [.ref 11] h (LO r T n h (lEnd T n s b) t) xno := by
  have hr := hL.1.1.r2
  obtain ⟨r0, r1, r2, r3, r4, r5, r6, r7⟩ := hL.2.1.1
  have fin : ∀ (v : Nat) (w : Int32), w = nI v → lEnd T n s b = .inr (nx T n s, dE b v) → ∃ Q1, XSpec mX4_readOn 14 0 0 100 100 [.ref 11] (xSI r (va_up (xI h r) 3 w) h) Q1 xno ∧ ∀ v h5, Q1 v h5 → v = none ∧ (LO r T n h (lEnd T n s b) t (some (.int 1)) h5) := fun v w hw el => by
    have hL2 : LC (xSI r (va_up (xI h r) 3 w) h) r T n s (dE b v) t := hL.row (b' := dE b v) ⟨(va_up_of _ _ (by decide)).trans r0, (va_up_of _ _ (by decide)).trans r1, (va_up_of _ _ (by decide)).trans r2, (va_up_eq _ _ _).trans hw, (va_up_of _ _ (by decide)).trans r4, (va_up_of _ _ (by decide)).trans r5, (va_up_of _ _ (by decide)).trans r6, (va_up_of _ _ (by decide)).trans r7⟩ (fun z => z) (fun z => z)
    refine ⟨_, c_readOn hL2.1, ?_⟩
    rintro v h2 ⟨rfl, k1, k2⟩
    rw [el]
    exact ⟨rfl, rfl, hL2.rch k1 k2, (Bch_put Bch.rfl (Or.inr ⟨by omega, by omega⟩)).trans (Bch_r k2)⟩
  obtain ⟨-, -, -, -, -, -, -, j9, j10, j11⟩ := jsT_e
  refine XSpec.of rfl (by decide) (Nat.le_of_ble_eq_true rfl) rfl (v_X4_readEnd_0 r hL.1.1.1 hL.1.1.2.1 hL.1.1.2.2 ⟨_, c_isWord (i := 9) hL.1 (by decide), ?_⟩)
  rintro v h1 ⟨rfl, e1⟩
  subst h1
  rw [j9]
  refine ⟨_, rfl, fun c1 => ⟨_, c_isWord (i := 10) hL.1 (by decide), ?_⟩, fun c1 => ⟨hL.1.1.1.2, fin 0 _ rfl (by unfold lEnd; rw [if_pos (bI_n0.1 c1)])⟩⟩
  have f1 := bI_0.1 c1
  rintro v h1 ⟨rfl, e1⟩
  subst h1
  rw [j10]
  refine ⟨_, rfl, fun c2 => ⟨_, c_isWord (i := 11) hL.1 (by decide), ?_⟩, fun c2 => ⟨hL.1.1.1.2, fin 1 _ rfl (by unfold lEnd; rw [if_neg (by rw [f1]; decide), if_pos (bI_n0.1 c2)])⟩⟩
  have f2 := bI_0.1 c2
  rintro v h1 ⟨rfl, e1⟩
  subst h1
  rw [j11]
  refine ⟨_, rfl, fun c3 => ⟨_, c_fail hL.1.1 1, ?_⟩, fun c3 => ⟨hL.1.1.1.2, fin 2 _ rfl (by unfold lEnd; rw [if_neg (by rw [f1]; decide), if_neg (by rw [f2]; decide), if_pos (bI_n0.1 c3)])⟩⟩
  have f3 := bI_0.1 c3
  rintro v h1 ⟨rfl, e1⟩
  subst h1
  have el : lEnd T n s b = .inl (1, s) := by unfold lEnd; rw [if_neg (by rw [f1]; decide), if_neg (by rw [f2]; decide), if_neg (by rw [f3]; decide)]
  rw [el]
  exact ⟨_, rfl, rfl, LO.fl Bch.rfl (hL.1.fl 1) (by omega)⟩
/-! the die -/
def rnO (od : Nat → Nat) : Nat → Nat × Nat → Nat × Nat
  | 0, p => p
  | f + 1, p => rnO od f (p.1 + od (f + 1), if 0 < od (f + 1) then f + 1 else p.2)
theorem l_sumO {h0 : XH} {r : Nat} {od : Nat → Nat} (hr : xRul r (xP h0)) (h5 : ∀ f, 1 ≤ f → f ≤ 6 → xI h0 (r + 5) f = nI (od f)) (h9 : ∀ f, 1 ≤ f → f ≤ 6 → od f ≤ 9) {Q : Option Value → XH → Prop} {X : String → XH → Prop} (e : Nat × Nat)
    (hQ : ∀ h', xP h' = xP h0 → (∀ c, c ≠ r → xI h' c = xI h0 c) → (∀ j, j ≠ 1 → j ≠ 2 → xI h' r j = xI h0 r j) → xI h' r 1 = nI e.1 → xI h' r 2 = nI e.2 → Q none h') : ∀ (f a l : Nat) (h : XH), f ≤ 6 → a + 9 * f ≤ 100 → xP h = xP h0 → (∀ c, c ≠ r → xI h c = xI h0 c) → (∀ j, j ≠ 1 → j ≠ 2 → xI h r j = xI h0 r j) → xI h r 1 = nI a → xI h r 2 = nI l → rnO od f (a, l) = e →
    XW (xrm 2 0 0) mX5_sumOdds (xE 100 Q X 0 0) 100 0 0 h 13 [some (.ref r), some (.int (nI f))] [] := by
  have hr2 := hr.1
  intro f
  induction f with
  | zero =>
    intro a l h hf ha hp hc hj h1 h2 he
    subst he
    exact v_X5_sumOdds_13 r (by rw [hp]; exact hr) (by omega) _ ⟨fun _ => hQ h hp hc hj h1 h2, fun q => absurd (by decide) q⟩
  | succ f ih =>
    intro a l h hf ha hp hc hj h1 h2 he
    have e5 : xI h (r + 5) = xI h0 (r + 5) := hc _ (by omega)
    have o9 := h9 (f + 1) (by omega) (by omega)
    refine v_X5_sumOdds_13 r (by rw [hp]; exact hr) (by omega) _ ⟨fun q => ?_, fun _ => ⟨_, s_X5_oddsOf 100 h r (by rw [hp]; exact hr) (by omega) (nI (f + 1)), ?_⟩⟩
    · have := (nI_ltI (b := 1) (by omega) (by omega)).1 q
      omega
    rintro v h3 ⟨rfl, e3⟩
    subst h3
    have er : ∀ g : Nat → Int32, g = xI h (r + 5) → rd g 7 0 (nI (f + 1)) = nI (od (f + 1)) := fun g hg => by
      rw [iz_rd (M := 7) rfl (by omega), hg, e5]; exact h5 (f + 1) (by omega) (by omega)
    rw [er _ rfl, h1]
    refine ⟨_, rfl, _, s_X5_oddsOf 100 _ r (by show xRul r (xP h); rw [hp]; exact hr) (by omega) (nI (f + 1)), ?_⟩
    rintro v h3 ⟨rfl, e3⟩
    subst h3
    rw [er _ (xI_ne (by omega)), pk_m1, nI_add]
    have hI : ∀ j, j ≠ 1 → j ≠ 2 → (va_up (xI h r) 1 (nI (a + od (f + 1)))) j = xI h0 r j := fun j q1 q2 => (va_up_of _ _ q1).trans (hj j q1 q2)
    refine ⟨_, rfl, fun q => ?_, fun q => ?_⟩
    · have o0 : od (f + 1) = 0 := by
        have := (nI_leI (b := 0) (by omega) (by omega)).1 q
        omega
      refine ih (a + od (f + 1)) l _ (by omega) (by omega) hp (fun c q1 => (xI_ne q1).trans (hc c q1)) (fun j q1 q2 => by rw [xI_at]; exact hI j q1 q2) (by rw [xI_at, va_up_eq]) (by rw [xI_at, va_up_of _ _ (by decide)]; exact h2) ?_
      rw [← he]
      show _ = rnO od f (a + od (f + 1), if 0 < od (f + 1) then f + 1 else l)
      rw [if_neg (by omega)]
    · have o0 : 0 < od (f + 1) := by
        have h3 : ¬ od (f + 1) ≤ 0 := fun z => q ((nI_leI (b := 0) (by omega) (by omega)).2 z)
        omega
      refine ih (a + od (f + 1)) (f + 1) _ (by omega) (by omega) hp (fun c q1 => (xI_ne q1).trans ((xI_ne q1).trans (hc c q1))) (fun j q1 q2 => by rw [xI_at, va_up_of _ _ q2, xI_at]; exact hI j q1 q2) (by rw [xI_at, va_up_of _ _ (by decide), xI_at, va_up_eq]) (by rw [xI_at, va_up_eq]) ?_
      rw [← he]
      show _ = rnO od f (a + od (f + 1), if 0 < od (f + 1) then f + 1 else l)
      rw [if_pos o0]
theorem rnO_6 (od : Nat → Nat) : rnO od 6 (0, 0) = (od6 od, lfc od) := by
  refine Prod.ext ?_ ?_
  · show 0 + od 6 + od 5 + od 4 + od 3 + od 2 + od 1 = od 1 + od 2 + od 3 + od 4 + od 5 + od 6
    omega
  · rfl
theorem c_sumOdds {h : XH} {r : Nat} {od : Nat → Nat} (hr : xRul r (xP h)) (h5 : ∀ f, 1 ≤ f → f ≤ 6 → xI h (r + 5) f = nI (od f)) (h9 : ∀ f, 1 ≤ f → f ≤ 6 → od f ≤ 9) : XSpec mX5_sumOdds 2 0 0 100 100 [.ref r] h (fun v h' => v = none ∧ xP h' = xP h ∧ (∀ c, c ≠ r → xI h' c = xI h c) ∧ (∀ j, j ≠ 1 → j ≠ 2 → xI h' r j = xI h r j) ∧ xI h' r 1 = nI (od6 od) ∧ xI h' r 2 = nI (lfc od)) xno := by
  have hr2 := hr.1
  refine XSpec.of rfl (by decide) (Nat.le_of_ble_eq_true rfl) rfl (v_X5_sumOdds_0 r hr (by omega) ?_)
  rw [xSI_SI]
  refine l_sumO (h0 := h) hr h5 h9 _ (fun h' k1 k2 k3 k4 k5 => ⟨rfl, k1, k2, k3, k4, k5⟩) 6 0 0 _ (by omega) (by omega) rfl (fun c q => xI_ne q) (fun j q1 q2 => by rw [xI_at, va_up_of _ _ q2, va_up_of _ _ q1]) (by rw [xI_at, va_up_of _ _ (by decide), va_up_eq]; rfl) (by rw [xI_at, va_up_eq]; rfl) (rnO_6 od)
theorem l_cdie {h0 : XH} {r n t : Nat} {T : Nat → Nat} {res : QR} {Q : Option Value → XH → Prop} {X : String → XH → Prop} (hQ : ∀ v h', LO r T n h0 res t v h' → Q v h') : ∀ (k s : Nat) (b : BD) (h : XH), k ≤ 6 → LC h r T n s b t → Good9 b → Bch r h0 h → lDie T n k s b = res →
    XW (xrm 15 0 0) mX4_readDie (xE 100 Q X 0 0) 100 0 0 h 2 [some (.ref 11), some (.int (nI (7 - k))), none] [] := by
  intro k
  induction k with
  | zero =>
    intro s b h hk hL h9 he hres
    refine v_X4_readDie_2 r hL.1.1.1 hL.1.1.2.1 hL.1.1.2.2 _ ⟨fun _ => hQ _ _ ?_, fun q => absurd (by decide) q⟩
    rw [← hres]
    exact ⟨rfl, hL, he⟩
  | succ k ih =>
    intro s b h hk hL h9 he hres
    have hr := hL.1.1.r2
    have e7 : 7 - (k + 1) = 6 - k := by omega
    rw [e7]
    refine v_X4_readDie_2 r hL.1.1.1 hL.1.1.2.1 hL.1.1.2.2 _ ⟨fun q => ?_, fun _ => ⟨_, c_number (lo := 0) (hi := 9) hL.1 (by omega) (by omega), ?_⟩⟩
    · have := (nI_ltI (a := 6) (by omega) (by omega)).1 q
      omega
    unfold lDie at hres
    rintro v h1 (⟨w, e, rfl, e1⟩ | ⟨f, e, rfl, e1⟩)
    · subst h1
      have hw := num_r e
      rw [e] at hres
      have hres' : (if k = 0 ∧ od6 (bOd (dOd b (6 - k) w)) = 0 then (.inl (2, s) : QR) else lDie T n k (nx T n s) (dOd b (6 - k) w)) = res := hres
      refine ⟨_, rfl, fun _ => ⟨hL.1.1.1.2, _, s_X5_putOdds 100 h r hL.1.1.2.1 hL.1.1.2.2 (nI (6 - k)) (nI w), ?_⟩, fun q => absurd q (nI_nm1 (by omega))⟩
      rintro v h2 ⟨rfl, e2⟩
      rw [iz_wr (M := 7) rfl (by omega)] at e2
      have h9' : Good9 (dOd b (6 - k) w) := fun g g1 g2 => by
        show va_up (bOd b) (6 - k) w g ≤ 9
        by_cases z : g = 6 - k
        · rw [z, va_up_eq]; omega
        · rw [va_up_of _ _ z]; exact h9 g g1 g2
      have n2 : ∀ c, c ≠ r + 5 → xI h2 c = xI h c := fun c q => by rw [e2, xI_ne q]
      have p2 : xP h2 = xP h := by rw [e2]; rfl
      have o2 : ∀ f, 1 ≤ f → f ≤ 6 → xI h2 (r + 5) f = nI (bOd (dOd b (6 - k) w) f) := fun f f1 f2 => by
        rw [e2, xI_at]
        show _ = nI (va_up (bOd b) (6 - k) w f)
        by_cases z : f = 6 - k
        · rw [z, va_up_eq, va_up_eq]
        · rw [va_up_of _ _ z, va_up_of _ _ z]; exact hL.2.1.2.1.1 f f1 f2
      clear e2
      have hr2 : xRul r (xP h2) := by rw [p2]; exact hL.1.1.2.1
      refine ⟨rfl, by rw [p2]; exact hL.1.1.1.2, _, c_sumOdds hr2 o2 h9', ?_⟩
      rintro v h3 ⟨rfl, p3, n3, j3, s1, s2⟩
      obtain ⟨r0, r1, r2, r3, r4, r5, r6, r7⟩ := hL.2.1.1
      have n32 : ∀ c, c ≠ r → c ≠ r + 5 → xI h3 c = xI h c := fun c q1 q2 => (n3 c q1).trans (n2 c q2)
      have jr : ∀ j, j ≠ 1 → j ≠ 2 → xI h3 r j = xI h r j := fun j q1 q2 => (j3 j q1 q2).trans (by rw [n2 r (by omega)])
      have hL3 : LC h3 r T n s (dOd b (6 - k) w) t := by
        refine ⟨hL.1.o (n32 1 (by omega) (by omega)) (fun j _ => by rw [n32 11 (by omega) (by omega)]) (p3.trans p2), ⟨⟨(jr 0 (by decide) (by decide)).trans r0, s1, s2, (jr 3 (by decide) (by decide)).trans r3, (jr 4 (by decide) (by decide)).trans r4, (jr 5 (by decide) (by decide)).trans r5, (jr 6 (by decide) (by decide)).trans r6, (jr 7 (by decide) (by decide)).trans r7⟩, ⟨fun f f1 f2 => by rw [n3 (r + 5) (by omega)]; exact o2 f f1 f2, ?_, ?_⟩, hL.2.1.2.2.of (fun c q1 q2 => n32 c (by omega) (by omega))⟩, by rw [n32 11 (by omega) (by omega)]; exact hL.2.2⟩
        · rw [n32 (r + 6) (by omega) (by omega), n32 (r + 7) (by omega) (by omega)]; exact hL.2.1.2.1.2.1
        · rw [n32 (r + 8) (by omega) (by omega)]; exact hL.2.1.2.1.2.2
      have he3 : Bch r h0 h3 := he.trans ⟨fun c q1 q2 => n32 c (by omega) (by omega), p3.trans p2⟩
      have on : ¬ (k = 0 ∧ od6 (bOd (dOd b (6 - k) w)) = 0) → ∃ Q1, XSpec mX4_readOn 14 0 0 100 100 [.ref 11] h3 Q1 xno ∧ ∀ v h4, Q1 v h4 → v = none ∧ (XW (xrm 15 0 0) mX4_readDie (xE 100 Q X 0 0) 100 0 0 h4 2 [some (.ref 11), some (.int (nI (6 - k) + 1)), none] []) := fun hn => by
        rw [if_neg hn] at hres'
        refine ⟨_, c_readOn hL3.1, ?_⟩
        rintro v h4 ⟨rfl, k1, k2⟩
        rw [nI_1, show 6 - k + 1 = 7 - k by omega]
        exact ⟨rfl, ih (nx T n s) _ h4 (by omega) (hL3.rch k1 k2) h9' (he3.trans (Bch_r k2)) hres'⟩
      have k6 : nI (6 - k) = 6 ↔ k = 0 := by
        have := nI_eq (a := 6 - k) (b := 6) (by omega) (by omega)
        constructor
        · intro z; have := this.1 z; omega
        · intro z; rw [z]; rfl
      refine ⟨rfl, fun q => on (fun z => q (k6.2 z.1)), fun q => ⟨by rw [p3, p2]; exact hL.1.1.1.2, fun q2 => on (fun z => q2 (by rw [s1, z.2]; rfl)), fun q2 => ⟨_, c_fail hL3.1.1 2, ?_⟩⟩⟩
      rintro v h4 ⟨rfl, e4⟩
      subst h4
      have od0 : od6 (bOd (dOd b (6 - k) w)) = 0 := by
        rw [s1] at q2
        have b1 := h9' 1 (by omega) (by omega)
        have b2 := h9' 2 (by omega) (by omega)
        have b3 := h9' 3 (by omega) (by omega)
        have b4 := h9' 4 (by omega) (by omega)
        have b5 := h9' 5 (by omega) (by omega)
        have b6 := h9' 6 (by omega) (by omega)
        refine (nI_eq (b := 0) ?_ (by omega)).1 q2
        unfold od6
        omega
      rw [if_pos ⟨k6.1 q, od0⟩] at hres'
      rw [← hres'] at hQ
      exact ⟨_, rfl, rfl, hQ _ _ (LO.fl he3 (hL3.1.fl 2) (by omega))⟩
    · rw [e] at hres
      rw [← hres] at hQ
      exact ⟨_, rfl, fun q => absurd rfl q, fun _ => hQ _ _ (LO.fl he e1 (num_f e))⟩
theorem c_readDie {h : XH} {r n s t : Nat} {T : Nat → Nat} {b : BD} (hL : LC h r T n s b t) (h9 : Good9 b) : XSpec mX4_readDie 15 0 0 100 100 [.ref 11] h (LO r T n h (lDie T n 6 s b) t) xno :=
  XSpec.of rfl (by decide) (Nat.le_of_ble_eq_true rfl) rfl (v_X4_readDie_0 r hL.1.1.1 hL.1.1.2.1 hL.1.1.2.2 (l_cdie (fun _ _ z => z) 6 s b h (by omega) hL h9 Bch.rfl rfl))
