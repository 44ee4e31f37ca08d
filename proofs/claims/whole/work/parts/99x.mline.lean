/-! READ: the reference's lines, one after another -/
theorem isW_len {T : Nat → Nat} {n s : Nat} {W W' : List Nat} (h : isW T n W s = true) (h' : isW T n W' s = true) : W.length = W'.length := by
  have a := (isW_t h).2.1
  have b := (isW_t h').2.1
  omega
theorem isW_fst {T : Nat → Nat} {n s : Nat} {W W' : List Nat} (h : isW T n W s = true) (h' : isW T n W' s = true) (hl : 0 < W.length) (hl' : 0 < W'.length) : W.getD 0 0 = W'.getD 0 0 := ((isW_t h).2.2 0 hl).symm.trans ((isW_t h').2.2 0 hl')
theorem exit_no {T : Nat → Nat} {n s : Nat} (h : isW T n wExit s = true) : isW T n wDie s = false ∧ isW T n wEnd s = false ∧ isW T n wAgain s = false ∧ isW T n wMeet s = false ∧ isW T n wPieces s = false ∧ isW T n wGoes s = false := by
  refine ⟨?_, ?_, ?_, ?_, ?_, ?_⟩
  · cases q : isW T n wDie s; rfl; exact absurd (isW_len h q) (by decide)
  · cases q : isW T n wEnd s; rfl; exact absurd (isW_len h q) (by decide)
  · cases q : isW T n wAgain s; rfl; exact absurd (isW_len h q) (by decide)
  · cases q : isW T n wMeet s; rfl; exact absurd (isW_fst h q (by decide) (by decide)) (by decide)
  · cases q : isW T n wPieces s; rfl; exact absurd (isW_len h q) (by decide)
  · cases q : isW T n wGoes s; rfl; exact absurd (isW_fst h q (by decide) (by decide)) (by decide)
def lmV (l : Nat) : Nat := if l ≤ 1 then 0 else 2 ^ (l - 2)
theorem lm_and : ∀ t, t < 256 → ∀ l, l < 8 → ((nI (t / 4) &&& nI (lmV l) = 0) ↔ (l ≤ 1 ∨ t.testBit l = false)) := by decide +kernel
theorem lm_or : ∀ t, t < 256 → ∀ l, l < 8 → 1 ≤ l → nI (t / 4) ||| nI (lmV l) = nI ((t ||| 2 ^ l) / 4) := by decide +kernel
theorem lm_is : ∀ l, l < 8 → ((nI (lmV l) = 0 ↔ l ≤ 1) ∧ (nI (lmV l) = 1 ↔ l = 2) ∧ (nI (lmV l) = 2 ↔ l = 3) ∧ (nI (lmV l) = 4 ↔ l = 4) ∧ (nI (lmV l) = 8 ↔ l = 5) ∧ (nI (lmV l) = 16 ↔ l = 6) ∧ (nI (lmV l) = 32 ↔ l = 7)) := by decide +kernel
theorem lm_td : ∀ t, t < 256 → ∀ l, l < 8 → l ≠ 7 → ((t ||| 2 ^ l).testBit 7 = t.testBit 7) := by decide +kernel
theorem lm_t7 : ∀ t, t < 256 → (t ||| 2 ^ 7).testBit 7 = true := by decide +kernel
theorem m_readNumberB {h : XH} {n f p : Nat} {T : Nat → Nat} (hB : MB h T n f p) (a b : Int32) : XSpec mX11_readNumber 3 0 0 100 100 [.ref 56, .int a, .int b] h (xq (some (.int 0)) h) xno := by
  refine XSpec.of rfl (by decide) (Nat.le_of_ble_eq_true rfl) rfl (v_X11_readNumber_0 hB.1 a b ⟨_, m_numberB hB _ _, ?_⟩)
  rintro v h1 ⟨rfl, e1⟩
  subst h1
  exact ⟨_, rfl, fun _ => ⟨rfl, rfl⟩, fun q => absurd q hB.n0⟩
theorem jsT_v : jsT 29 = wStay ∧ jsT 30 = wBack ∧ jsT 31 = wInn ∧ jsT 36 = wDie ∧ jsT 37 = wEnd ∧ jsT 38 = wAgain ∧ jsT 39 = wMeet ∧ jsT 40 = wPieces ∧ jsT 41 = wGoes ∧ jsT 42 = wExit := by decide
theorem m_ends {h : XH} {n s : Nat} {T : Nat → Nat} (hS : MStr (xP h)) (hK : MK h T n s) : XSpec mX11_which 13 0 0 100 100 [.ref 56, .ref 57] h (fun v h' => h' = h ∧ ((∃ k, k ≤ 2 ∧ v = some (.int (nI k)) ∧ lEnd T n s = fun b => .inr (nx T n s, dE b k)) ∨ (v = some (.int (-1)) ∧ lEnd T n s = fun _ => .inl (1, s)))) xno := by
  obtain ⟨j0, j1, j2, -⟩ := jsT_v
  refine XSpec.of rfl (by decide) (Nat.le_of_ble_eq_true rfl) rfl (v_X11_which_0 hK.1 57 3 rfl (by decide) (l_mwhich (i0 := 29) hK rfl (by decide) (by decide) (fun k hk => hS.1 k hk) (fun k hk hw hj => ⟨rfl, Or.inl ⟨k, by omega, rfl, ?_⟩⟩) (fun hj => ⟨rfl, Or.inr ⟨rfl, ?_⟩⟩) 3 0 rfl (fun j hj => absurd hj (Nat.not_lt_zero j))))
  · funext b
    unfold lEnd
    rcases (show k = 0 ∨ k = 1 ∨ k = 2 by omega) with rfl | rfl | rfl
    · rw [← j0, if_pos hw]
    · have h0 := hj 0 (by omega)
      rw [← j0, ← j1, if_neg (by rw [h0]; decide), if_pos hw]
    · have h0 := hj 0 (by omega)
      have h1 := hj 1 (by omega)
      rw [← j0, ← j1, ← j2, if_neg (by rw [h0]; decide), if_neg (by rw [h1]; decide), if_pos hw]
  · funext b
    unfold lEnd
    have h0 := hj 0 (by omega)
    have h1 := hj 1 (by omega)
    have h2 := hj 2 (by omega)
    rw [← j0, ← j1, ← j2, if_neg (by rw [h0]; decide), if_neg (by rw [h1]; decide), if_neg (by rw [h2]; decide)]
theorem m_endsB {h : XH} {n f p : Nat} {T : Nat → Nat} (hS : MStr (xP h)) (hB : MB h T n f p) : XSpec mX11_which 13 0 0 100 100 [.ref 56, .ref 57] h (xq (some (.int (-1))) h) xno :=
  XSpec.of rfl (by decide) (Nat.le_of_ble_eq_true rfl) rfl (v_X11_which_0 hB.1 57 3 rfl (by decide) (l_mwhichB (i0 := 29) hB rfl (by decide) (by decide) (fun k hk => hS.1 k hk) ⟨rfl, rfl⟩ 3 0 rfl))
theorem MRl.la {h : XH} {b : BD} {v : Nat} (hR : MRl h b) : MRl (xSI 59 (va_up (xI h 59) 8 (nI v)) h) (dLa b v) := by
  obtain ⟨⟨r1, r2, r3, r4, r5, r6⟩, ⟨r7, r8⟩, r9, r10, r11, r12⟩ := hR
  exact ⟨⟨by rw [xI_at, va_up_eq]; rfl, by rw [xI_at, va_up_of _ _ (by decide)]; exact r2, by rw [xI_at, va_up_of _ _ (by decide)]; exact r3, by rw [xI_at, va_up_of _ _ (by decide)]; exact r4, by rw [xI_at, va_up_of _ _ (by decide)]; exact r5, by rw [xI_at, va_up_of _ _ (by decide)]; exact r6⟩, ⟨fun z => by rw [xI_at, va_up_of _ _ (by decide)]; exact r7 z, fun z => by rw [xI_at, va_up_of _ _ (by decide), xI_ne (by decide)]; exact r8 z⟩, by rw [xI_at, va_up_of _ _ (by decide)]; exact r9, fun f f1 f2 => by rw [xI_ne (by decide)]; exact r10 f f1 f2, fun i hi => by rw [xI_ne (by decide), xI_ne (by decide)]; exact r11 i hi, fun i hi => by rw [xI_ne (by decide)]; exact r12 i hi⟩
theorem MRl.pc {h : XH} {b : BD} {v : Nat} (hR : MRl h b) : MRl (xSI 59 (va_up (xI h 59) 10 (nI v)) h) (dPc b v) := by
  obtain ⟨⟨r1, r2, r3, r4, r5, r6⟩, ⟨r7, r8⟩, r9, r10, r11, r12⟩ := hR
  exact ⟨⟨by rw [xI_at, va_up_of _ _ (by decide)]; exact r1, by rw [xI_at, va_up_of _ _ (by decide)]; exact r2, by rw [xI_at, va_up_eq]; rfl, by rw [xI_at, va_up_of _ _ (by decide)]; exact r4, by rw [xI_at, va_up_of _ _ (by decide)]; exact r5, by rw [xI_at, va_up_of _ _ (by decide)]; exact r6⟩, ⟨fun z => by rw [xI_at, va_up_of _ _ (by decide)]; exact r7 z, fun z => by rw [xI_at, va_up_of _ _ (by decide), xI_ne (by decide)]; exact r8 z⟩, by rw [xI_at, va_up_of _ _ (by decide)]; exact r9, fun f f1 f2 => by rw [xI_ne (by decide)]; exact r10 f f1 f2, fun i hi => by rw [xI_ne (by decide), xI_ne (by decide)]; exact r11 i hi, fun i hi => by rw [xI_ne (by decide)]; exact r12 i hi⟩
theorem MRl.en {h : XH} {b : BD} {v : Nat} (hR : MRl h b) : MRl (xSI 59 (va_up (xI h 59) 11 (nI v)) h) (dE b v) := by
  obtain ⟨⟨r1, r2, r3, r4, r5, r6⟩, ⟨r7, r8⟩, r9, r10, r11, r12⟩ := hR
  exact ⟨⟨by rw [xI_at, va_up_of _ _ (by decide)]; exact r1, by rw [xI_at, va_up_of _ _ (by decide)]; exact r2, by rw [xI_at, va_up_of _ _ (by decide)]; exact r3, by rw [xI_at, va_up_eq]; rfl, by rw [xI_at, va_up_of _ _ (by decide)]; exact r5, by rw [xI_at, va_up_of _ _ (by decide)]; exact r6⟩, ⟨fun z => by rw [xI_at, va_up_of _ _ (by decide)]; exact r7 z, fun z => by rw [xI_at, va_up_of _ _ (by decide), xI_ne (by decide)]; exact r8 z⟩, by rw [xI_at, va_up_of _ _ (by decide)]; exact r9, fun f f1 f2 => by rw [xI_ne (by decide)]; exact r10 f f1 f2, fun i hi => by rw [xI_ne (by decide), xI_ne (by decide)]; exact r11 i hi, fun i hi => by rw [xI_ne (by decide)]; exact r12 i hi⟩
theorem MRl.ag {h : XH} {b : BD} {v : Nat} (hR : MRl h b) : MRl (xSI 59 (va_up (xI h 59) 12 (nI v)) h) (dAg b v) := by
  obtain ⟨⟨r1, r2, r3, r4, r5, r6⟩, ⟨r7, r8⟩, r9, r10, r11, r12⟩ := hR
  exact ⟨⟨by rw [xI_at, va_up_of _ _ (by decide)]; exact r1, by rw [xI_at, va_up_of _ _ (by decide)]; exact r2, by rw [xI_at, va_up_of _ _ (by decide)]; exact r3, by rw [xI_at, va_up_of _ _ (by decide)]; exact r4, by rw [xI_at, va_up_eq]; rfl, by rw [xI_at, va_up_of _ _ (by decide)]; exact r6⟩, ⟨fun z => by rw [xI_at, va_up_of _ _ (by decide)]; exact r7 z, fun z => by rw [xI_at, va_up_of _ _ (by decide), xI_ne (by decide)]; exact r8 z⟩, by rw [xI_at, va_up_of _ _ (by decide)]; exact r9, fun f f1 f2 => by rw [xI_ne (by decide)]; exact r10 f f1 f2, fun i hi => by rw [xI_ne (by decide), xI_ne (by decide)]; exact r11 i hi, fun i hi => by rw [xI_ne (by decide)]; exact r12 i hi⟩
theorem MRl.mt {h : XH} {b : BD} {v : Unit} (hR : MRl h b) : MRl (xSI 59 (va_up (xI h 59) 13 1) h) (dMt b) := by
  obtain ⟨⟨r1, r2, r3, r4, r5, r6⟩, ⟨r7, r8⟩, r9, r10, r11, r12⟩ := hR
  exact ⟨⟨by rw [xI_at, va_up_of _ _ (by decide)]; exact r1, by rw [xI_at, va_up_of _ _ (by decide)]; exact r2, by rw [xI_at, va_up_of _ _ (by decide)]; exact r3, by rw [xI_at, va_up_of _ _ (by decide)]; exact r4, by rw [xI_at, va_up_of _ _ (by decide)]; exact r5, by rw [xI_at, va_up_eq]; rfl⟩, ⟨fun z => by rw [xI_at, va_up_of _ _ (by decide)]; exact r7 z, fun z => by rw [xI_at, va_up_of _ _ (by decide), xI_ne (by decide)]; exact r8 z⟩, by rw [xI_at, va_up_of _ _ (by decide)]; exact r9, fun f f1 f2 => by rw [xI_ne (by decide)]; exact r10 f f1 f2, fun i hi => by rw [xI_ne (by decide), xI_ne (by decide)]; exact r11 i hi, fun i hi => by rw [xI_ne (by decide)]; exact r12 i hi⟩
/-- what is left to hold behind a line -/
def ML (T : Nat → Nat) (n : Nat) (h0 : XH) (x : RR) (v : Option Value) (h : XH) : Prop := ∃ w, v = some (.int w) ∧ Lch h0 h ∧ (match x with
  | .inl e => MB h T n e.1 e.2
  | .inr y => w = nI (y.2.2 / 4) ∧ MK h T n y.1 ∧ MRl h y.2.1)
theorem sk249 {h : XH} {Q : Option Value → XH → Prop} {X : String → XH → Prop} {x1 x2 : Int32} (hM : xMod (xP h)) (h32 : ¬ x2 = 32) (K : XW (xrm 62 0 0) mX11_readLine (xE 100 Q X 0 0) 100 0 0 h 259 [some (.ref 56), some (.int x1), some (.int x2)] []) : XW (xrm 62 0 0) mX11_readLine (xE 100 Q X 0 0) 100 0 0 h 249 [some (.ref 56), some (.int x1), some (.int x2)] [] :=
  v_X11_readLine_249 hM x1 x2 ⟨fun _ => K, fun q => absurd q h32⟩
theorem sk230 {h : XH} {Q : Option Value → XH → Prop} {X : String → XH → Prop} {x1 x2 : Int32} (hM : xMod (xP h)) (h16 : ¬ x2 = 16) (h32 : ¬ x2 = 32) (K : XW (xrm 62 0 0) mX11_readLine (xE 100 Q X 0 0) 100 0 0 h 259 [some (.ref 56), some (.int x1), some (.int x2)] []) : XW (xrm 62 0 0) mX11_readLine (xE 100 Q X 0 0) 100 0 0 h 230 [some (.ref 56), some (.int x1), some (.int x2)] [] :=
  v_X11_readLine_230 hM x1 x2 ⟨fun _ => sk249 hM h32 K, fun q => absurd q h16⟩
theorem sk216 {h : XH} {Q : Option Value → XH → Prop} {X : String → XH → Prop} {x1 x2 : Int32} (hM : xMod (xP h)) (h8 : ¬ x2 = 8) (h16 : ¬ x2 = 16) (h32 : ¬ x2 = 32) (K : XW (xrm 62 0 0) mX11_readLine (xE 100 Q X 0 0) 100 0 0 h 259 [some (.ref 56), some (.int x1), some (.int x2)] []) : XW (xrm 62 0 0) mX11_readLine (xE 100 Q X 0 0) 100 0 0 h 216 [some (.ref 56), some (.int x1), some (.int x2)] [] :=
  v_X11_readLine_216 hM x1 x2 ⟨fun _ => sk230 hM h16 h32 K, fun q => absurd q h8⟩
theorem sk197 {h : XH} {Q : Option Value → XH → Prop} {X : String → XH → Prop} {x1 x2 : Int32} (hM : xMod (xP h)) (h4 : ¬ x2 = 4) (h8 : ¬ x2 = 8) (h16 : ¬ x2 = 16) (h32 : ¬ x2 = 32) (K : XW (xrm 62 0 0) mX11_readLine (xE 100 Q X 0 0) 100 0 0 h 259 [some (.ref 56), some (.int x1), some (.int x2)] []) : XW (xrm 62 0 0) mX11_readLine (xE 100 Q X 0 0) 100 0 0 h 197 [some (.ref 56), some (.int x1), some (.int x2)] [] :=
  v_X11_readLine_197 hM x1 x2 ⟨fun _ => sk216 hM h8 h16 h32 K, fun q => absurd q h4⟩
theorem sk150 {h : XH} {Q : Option Value → XH → Prop} {X : String → XH → Prop} {x1 x2 : Int32} (hM : xMod (xP h)) (h2 : ¬ x2 = 2) (h4 : ¬ x2 = 4) (h8 : ¬ x2 = 8) (h16 : ¬ x2 = 16) (h32 : ¬ x2 = 32) (K : XW (xrm 62 0 0) mX11_readLine (xE 100 Q X 0 0) 100 0 0 h 259 [some (.ref 56), some (.int x1), some (.int x2)] []) : XW (xrm 62 0 0) mX11_readLine (xE 100 Q X 0 0) 100 0 0 h 150 [some (.ref 56), some (.int x1), some (.int x2)] [] :=
  v_X11_readLine_150 hM x1 x2 ⟨fun _ => sk197 hM h4 h8 h16 h32 K, fun q => absurd q h2⟩
theorem sk141 {h : XH} {Q : Option Value → XH → Prop} {X : String → XH → Prop} {x1 x2 : Int32} (hM : xMod (xP h)) (h1 : ¬ x2 = 1) (h2 : ¬ x2 = 2) (h4 : ¬ x2 = 4) (h8 : ¬ x2 = 8) (h16 : ¬ x2 = 16) (h32 : ¬ x2 = 32) (K : XW (xrm 62 0 0) mX11_readLine (xE 100 Q X 0 0) 100 0 0 h 259 [some (.ref 56), some (.int x1), some (.int x2)] []) : XW (xrm 62 0 0) mX11_readLine (xE 100 Q X 0 0) 100 0 0 h 141 [some (.ref 56), some (.int x1), some (.int x2)] [] :=
  v_X11_readLine_141 hM x1 x2 ⟨fun _ => sk150 hM h2 h4 h8 h16 h32 K, fun q => absurd q h1⟩
section BADLINE
variable {T : Nat → Nat} {n f p : Nat} {h0 : XH} {x1 x2 : Int32} {Q : Option Value → XH → Prop} {X : String → XH → Prop}
theorem bl259 (hQ : ∀ w h', MB h' T n f p → Lch h0 h' → Q (some (.int w)) h') {h : XH} (hB : MB h T n f p) (hc : Lch h0 h) : XW (xrm 62 0 0) mX11_readLine (xE 100 Q X 0 0) 100 0 0 h 259 [some (.ref 56), some (.int x1), some (.int x2)] [] := by
  refine v_X11_readLine_259 hB.1 x1 x2 ⟨_, m_markB hB _, ?_⟩
  rintro v h1 ⟨rfl, e⟩
  subst h1
  exact ⟨rfl, hQ _ _ hB hc⟩
theorem bl249 (hS : MStr (xP h0)) (hn : n ≤ 500) (hQ : ∀ w h', MB h' T n f p → Lch h0 h' → Q (some (.int w)) h') {h : XH} (hB : MB h T n f p) (hc : Lch h0 h) : XW (xrm 62 0 0) mX11_readLine (xE 100 Q X 0 0) 100 0 0 h 249 [some (.ref 56), some (.int x1), some (.int x2)] [] := by
  refine v_X11_readLine_249 hB.1 x1 x2 ⟨fun _ => bl259 hQ hB hc, fun _ => ⟨_, m_readGoesB (by rw [hc.2.2.2]; exact hS) hB hn, ?_⟩⟩
  rintro v h1 ⟨rfl, k1, k2⟩
  exact ⟨rfl, bl259 hQ k1 (hc.trans k2)⟩
theorem bl230 (hS : MStr (xP h0)) (hn : n ≤ 500) (hQ : ∀ w h', MB h' T n f p → Lch h0 h' → Q (some (.int w)) h') {h : XH} (hB : MB h T n f p) (hc : Lch h0 h) : XW (xrm 62 0 0) mX11_readLine (xE 100 Q X 0 0) 100 0 0 h 230 [some (.ref 56), some (.int x1), some (.int x2)] [] := by
  refine v_X11_readLine_230 hB.1 x1 x2 ⟨fun _ => bl249 hS hn hQ hB hc, fun _ => ⟨_, m_readNumberB hB _ _, ?_⟩⟩
  rintro v h1 ⟨rfl, e⟩
  subst h1
  exact ⟨_, rfl, bl249 hS hn hQ (hB.o (xI_ne (by decide)) (xI_ne (by decide)) rfl) (hc.put (by omega))⟩
theorem bl216 (hS : MStr (xP h0)) (hn : n ≤ 500) (hQ : ∀ w h', MB h' T n f p → Lch h0 h' → Q (some (.int w)) h') {h : XH} (hB : MB h T n f p) (hc : Lch h0 h) : XW (xrm 62 0 0) mX11_readLine (xE 100 Q X 0 0) 100 0 0 h 216 [some (.ref 56), some (.int x1), some (.int x2)] [] :=
  v_X11_readLine_216 hB.1 x1 x2 ⟨fun _ => bl230 hS hn hQ hB hc, fun _ => bl230 hS hn hQ (hB.o (xI_ne (by decide)) (xI_ne (by decide)) rfl) (hc.put (by omega))⟩
theorem bl197 (hS : MStr (xP h0)) (hn : n ≤ 500) (hQ : ∀ w h', MB h' T n f p → Lch h0 h' → Q (some (.int w)) h') {h : XH} (hB : MB h T n f p) (hc : Lch h0 h) : XW (xrm 62 0 0) mX11_readLine (xE 100 Q X 0 0) 100 0 0 h 197 [some (.ref 56), some (.int x1), some (.int x2)] [] := by
  refine v_X11_readLine_197 hB.1 x1 x2 ⟨fun _ => bl216 hS hn hQ hB hc, fun _ => ⟨_, m_readNumberB hB _ _, ?_⟩⟩
  rintro v h1 ⟨rfl, e⟩
  subst h1
  exact ⟨_, rfl, bl216 hS hn hQ (hB.o (xI_ne (by decide)) (xI_ne (by decide)) rfl) (hc.put (by omega))⟩
theorem bl186 (hS : MStr (xP h0)) (hn : n ≤ 500) (hQ : ∀ w h', MB h' T n f p → Lch h0 h' → Q (some (.int w)) h') {h : XH} (hB : MB h T n f p) (hc : Lch h0 h) : XW (xrm 62 0 0) mX11_readLine (xE 100 Q X 0 0) 100 0 0 h 186 [some (.ref 56), some (.int x1), some (.int x2)] [] :=
  v_X11_readLine_186 hB.1 x1 x2 ⟨fun _ => bl197 hS hn hQ hB hc, fun q => absurd q hB.n0⟩
theorem bl150 (hS : MStr (xP h0)) (hn : n ≤ 500) (hQ : ∀ w h', MB h' T n f p → Lch h0 h' → Q (some (.int w)) h') {h : XH} (hB : MB h T n f p) (hc : Lch h0 h) : XW (xrm 62 0 0) mX11_readLine (xE 100 Q X 0 0) 100 0 0 h 150 [some (.ref 56), some (.int x1), some (.int x2)] [] := by
  refine v_X11_readLine_150 hB.1 x1 x2 ⟨fun _ => bl197 hS hn hQ hB hc, fun _ => ⟨_, m_endsB (by rw [hc.2.2.2]; exact hS) hB, ?_⟩⟩
  rintro v h1 ⟨rfl, e⟩
  subst h1
  have hB1 : MB (xSI 59 (va_up (xI h 59) 11 (-1)) h) T n f p := hB.o (xI_ne (by decide)) (xI_ne (by decide)) rfl
  refine ⟨_, rfl, hB.1 (3, 59) (by decide), fun q => absurd (va_up_eq _ _ _) q, fun _ => ⟨_, m_wrongB hB1 _, ?_⟩⟩
  rintro v h2 ⟨rfl, e⟩
  subst h2
  exact ⟨rfl, bl186 hS hn hQ hB1 (hc.put (by omega))⟩
theorem bl141 (hS : MStr (xP h0)) (hn : n ≤ 500) (hQ : ∀ w h', MB h' T n f p → Lch h0 h' → Q (some (.int w)) h') {h : XH} (hB : MB h T n f p) (hc : Lch h0 h) : XW (xrm 62 0 0) mX11_readLine (xE 100 Q X 0 0) 100 0 0 h 141 [some (.ref 56), some (.int x1), some (.int x2)] [] := by
  refine v_X11_readLine_141 hB.1 x1 x2 ⟨fun _ => bl150 hS hn hQ hB hc, fun _ => ⟨_, m_readDieB hB, ?_⟩⟩
  rintro v h1 ⟨rfl, e⟩
  subst h1
  exact ⟨rfl, bl150 hS hn hQ hB hc⟩
theorem bl119 (hS : MStr (xP h0)) (hn : n ≤ 500) (hQ : ∀ w h', MB h' T n f p → Lch h0 h' → Q (some (.int w)) h') {h : XH} (hB : MB h T n f p) (hc : Lch h0 h) : XW (xrm 62 0 0) mX11_readLine (xE 100 Q X 0 0) 100 0 0 h 119 [some (.ref 56), some (.int x1), some (.int x2)] [] := by
  refine v_X11_readLine_119 hB.1 x1 x2 ⟨fun _ => ⟨fun _ => bl141 hS hn hQ hB hc, fun q => absurd q hB.n0⟩, fun _ => ⟨_, m_readExitB hB, ?_⟩⟩
  rintro v h1 ⟨rfl, e⟩
  subst h1
  exact ⟨rfl, bl141 hS hn hQ hB hc⟩
end BADLINE
theorem m_readLine {h : XH} {T : Nat → Nat} {n s t : Nat} {b : BD} (hS : MStr (xP h)) (hK : MK h T n s) (hR : MRl h b) (hb : GoodBD b) (h8 : t < 256) (htd : t.testBit 7 = false → bTd b = 0) : XSpec mX11_readLine 62 0 0 100 100 [.ref 56, .int (nI (t / 4))] h (ML T n h (lLine T n s b t)) xno := by
  have hn := hK.2.1.2.1
  have lt7 : lnO T n s ≤ 7 := by
    by_cases z : lnO T n s = 0
    · omega
    · exact (lnO_lt z).2
  have hQb : ∀ f p, lLine T n s b t = .inl (f, p) → ∀ w h', MB h' T n f p → Lch h h' → ML T n h (lLine T n s b t) (some (.int w)) h' := fun f p he w h' k1 k2 => by
    rw [he]; exact ⟨w, rfl, k2, k1⟩
  obtain ⟨i0, i1, i2, i3, i4, i5, i6⟩ := lm_is (lnO T n s) (by omega)
  have aND := lm_and t h8 (lnO T n s) (by omega)
  have oR := lm_or t h8 (lnO T n s) (by omega)
  obtain ⟨m, hm⟩ : ∃ m, m = nI (lmV (lnO T n s)) := ⟨_, rfl⟩
  rw [← hm] at i0 i1 i2 i3 i4 i5 i6 aND oR
  -- behind the line's body
  have go : ∀ (x : QR) (h7 : XH), lLine T n s b t = qbd (qbd x (lSem T n)) (fun s' b' => .inr (s', (b', t ||| 2 ^ lnO T n s))) → 1 ≤ lnO T n s → LM T n h x h7 → XW (xrm 62 0 0) mX11_readLine (xE 100 (ML T n h (lLine T n s b t)) xno 0 0) 100 0 0 h7 259 [some (.ref 56), some (.int (nI (t / 4))), some (.int m)] [] := fun x h7 el l1 hL => by
    rcases x with e | ⟨s1, b1⟩
    · exact bl259 (hQb e.1 e.2 el) hL.2 hL.1
    · refine v_X11_readLine_259 hL.hM _ _ ⟨_, m_mark hL.2.1 (c := 59) (by omega), ?_⟩
      rintro v h8' ⟨rfl, k, kf⟩
      refine ⟨rfl, ?_⟩
      have el2 : lLine T n s b t = qbd (lSem T n s1 b1) (fun s' b' => .inr (s', (b', t ||| 2 ^ lnO T n s))) := el
      rw [el2, oR l1]
      unfold lSem
      rcases k with ⟨q, k1⟩ | ⟨q, k1⟩
      · rw [if_pos q]
        exact ⟨_, rfl, hL.1.trans kf.l, rfl, k1, hL.2.2.fc kf⟩
      · rw [if_neg (by rw [q]; decide)]
        exact ⟨_, rfl, hL.1.trans kf.l, k1⟩
  have body : ∀ (h2 : XH), lBad T n s b t = none → 2 ≤ lnO T n s → MK h2 T n (nx T n s) → MRl h2 b → Lch h h2 → XW (xrm 62 0 0) mX11_readLine (xE 100 (ML T n h (lLine T n s b t)) xno 0 0) 100 0 0 h2 141 [some (.ref 56), some (.int (nI (t / 4))), some (.int m)] [] := fun h2 hz l2 hK2 hR2 hc2 => by
    obtain ⟨-, -, l3⟩ := lBad_n hz
    have eline : lLine T n s b t = qbd (qbd (lBody T n (lnO T n s) (nx T n s) b) (lSem T n)) (fun s' b' => .inr (s', (b', t ||| 2 ^ lnO T n s))) := by unfold lLine; rw [hz]
    have hS2 : MStr (xP h2) := by rw [hc2.2.2.2]; exact hS
    have c2 : lnO T n s = 2 ∨ lnO T n s = 3 ∨ lnO T n s = 4 ∨ lnO T n s = 5 ∨ lnO T n s = 6 ∨ lnO T n s = 7 := by omega
    rcases c2 with c | c | c | c | c | c
    · have eb : lBody T n (lnO T n s) (nx T n s) b = lDie T n 6 (nx T n s) b := by rw [c]; rfl
      rw [eb] at eline
      refine v_X11_readLine_141 hK2.1 _ _ ⟨fun q => absurd (i1.2 c) q, fun _ => ⟨_, m_readDie hK2 hR2 hb.x.1, ?_⟩⟩
      rintro v h3 ⟨rfl, hL⟩
      exact ⟨rfl, sk150 hL.hM (fun z => absurd (i2.1 z) (by omega)) (fun z => absurd (i3.1 z) (by omega)) (fun z => absurd (i4.1 z) (by omega)) (fun z => absurd (i5.1 z) (by omega)) (fun z => absurd (i6.1 z) (by omega)) (go _ h3 eline (by omega) (hL.tr hc2))⟩
    · have eb : lBody T n (lnO T n s) (nx T n s) b = lEnd T n (nx T n s) b := by rw [c]; rfl
      rw [eb] at eline
      refine v_X11_readLine_141 hK2.1 _ _ ⟨fun _ => v_X11_readLine_150 hK2.1 _ _ ⟨fun q => absurd (i2.2 c) q, fun _ => ⟨_, m_ends hS2 hK2, ?_⟩⟩, fun z => absurd (i1.1 z) (by omega)⟩
      rintro v h3 ⟨e3, hv⟩
      subst h3
      rcases hv with ⟨k, hk, rfl, ek⟩ | ⟨rfl, ek⟩
      · have ek2 : lEnd T n (nx T n s) b = .inr (nx T n (nx T n s), dE b k) := congrFun ek b
        rw [ek2] at eline
        have hR3 := hR2.en (v := k)
        have hK3 : MK (xSI 59 (va_up (xI h2 59) 11 (nI k)) h2) T n (nx T n s) := hK2.o (xI_ne (by decide)) (xI_ne (by decide)) rfl
        refine ⟨_, rfl, hK2.1 (3, 59) (by decide), fun _ => v_X11_readLine_186 hK3.1 _ _ ⟨fun q => absurd hK3.2.2.2 q, fun _ => ⟨_, m_stepOn hK3, ?_⟩⟩, fun q => absurd q (by rw [va_up_eq]; exact nI_nm1 (by omega))⟩
        rintro v h4 ⟨rfl, k1, k2⟩
        refine ⟨rfl, sk197 k1.1 (fun z => absurd (i3.1 z) (by omega)) (fun z => absurd (i4.1 z) (by omega)) (fun z => absurd (i5.1 z) (by omega)) (fun z => absurd (i6.1 z) (by omega)) (go _ h4 eline (by omega) ⟨(hc2.put (by omega)).trans k2.l, k1, hR3.fc k2.fc⟩)⟩
      · have ek2 : lEnd T n (nx T n s) b = .inl (1, nx T n s) := congrFun ek b
        rw [ek2] at eline
        have hK3 : MK (xSI 59 (va_up (xI h2 59) 11 (-1)) h2) T n (nx T n s) := hK2.o (xI_ne (by decide)) (xI_ne (by decide)) rfl
        refine ⟨_, rfl, hK2.1 (3, 59) (by decide), fun q => absurd (va_up_eq _ _ _) q, fun _ => ⟨_, m_wrong hK3 (f := 1) (by omega), ?_⟩⟩
        rintro v h4 ⟨rfl, k1, k2⟩
        exact ⟨rfl, bl186 hS hn (hQb 1 (nx T n s) eline) k1 ((hc2.put (by omega)).trans k2.l)⟩
    · have eb : lBody T n (lnO T n s) (nx T n s) b = lNum T n 6 dAg (nx T n s) b := by rw [c]; rfl
      rw [eb] at eline
      have h12 : ∀ {P : Prop}, m = 1 → P := fun z => absurd (i1.1 z) (by omega)
      refine v_X11_readLine_141 hK2.1 _ _ ⟨fun _ => v_X11_readLine_150 hK2.1 _ _ ⟨fun _ => v_X11_readLine_197 hK2.1 _ _ ⟨fun q => absurd (i3.2 c) q, fun _ => ⟨_, m_readNumber (lo := 1) (hi := 6) hK2 (by omega) (by omega), ?_⟩⟩, fun z => absurd (i2.1 z) (by omega)⟩, fun z => absurd (i1.1 z) (by omega)⟩
      rintro v h3 ⟨hv, kf⟩
      have pM : ∀ w, xMod (xP (xSI 59 w h3)) := fun w => by rw [show xP (xSI 59 w h3) = xP h3 from rfl, kf.2.2]; exact hK2.1
      rcases hv with ⟨w, e, rfl, k1⟩ | ⟨f, e, rfl, k1⟩
      · have en : lNum T n 6 dAg (nx T n s) b = .inr (nx T n (nx T n s), dAg b w) := by unfold lNum; rw [e]
        rw [en] at eline
        exact ⟨_, rfl, sk216 (pM _) (fun z => absurd (i4.1 z) (by omega)) (fun z => absurd (i5.1 z) (by omega)) (fun z => absurd (i6.1 z) (by omega)) (go _ _ eline (by omega) ⟨(hc2.trans kf.l).put (by omega), k1.o (xI_ne (by decide)) (xI_ne (by decide)) rfl, (hR2.fc kf).ag⟩)⟩
      · have en : lNum T n 6 dAg (nx T n s) b = .inl (f, nx T n s) := by unfold lNum; rw [e]
        rw [en] at eline
        exact ⟨_, rfl, bl216 hS hn (hQb f _ eline) (k1.o (xI_ne (by decide)) (xI_ne (by decide)) rfl) ((hc2.trans kf.l).put (by omega))⟩
    · have eb : lBody T n (lnO T n s) (nx T n s) b = .inr (nx T n s, dMt b) := by rw [c]; rfl
      rw [eb] at eline
      refine v_X11_readLine_141 hK2.1 _ _ ⟨fun _ => v_X11_readLine_150 hK2.1 _ _ ⟨fun _ => v_X11_readLine_197 hK2.1 _ _ ⟨fun _ => v_X11_readLine_216 hK2.1 _ _ ⟨fun q => absurd (i4.2 c) q, fun _ => ?_⟩, fun z => absurd (i3.1 z) (by omega)⟩, fun z => absurd (i2.1 z) (by omega)⟩, fun z => absurd (i1.1 z) (by omega)⟩
      exact sk230 (by rw [show xP (xSI 59 (va_up (xI h2 59) 13 1) h2) = xP h2 from rfl]; exact hK2.1) (fun z => absurd (i5.1 z) (by omega)) (fun z => absurd (i6.1 z) (by omega)) (go _ _ eline (by omega) ⟨hc2.put (by omega), hK2.o (xI_ne (by decide)) (xI_ne (by decide)) rfl, hR2.mt (v := ())⟩)
    · have eb : lBody T n (lnO T n s) (nx T n s) b = lNum T n 4 dPc (nx T n s) b := by rw [c]; rfl
      rw [eb] at eline
      refine v_X11_readLine_141 hK2.1 _ _ ⟨fun _ => v_X11_readLine_150 hK2.1 _ _ ⟨fun _ => v_X11_readLine_197 hK2.1 _ _ ⟨fun _ => v_X11_readLine_216 hK2.1 _ _ ⟨fun _ => v_X11_readLine_230 hK2.1 _ _ ⟨fun q => absurd (i5.2 c) q, fun _ => ⟨_, m_readNumber (lo := 1) (hi := 4) hK2 (by omega) (by omega), ?_⟩⟩, fun z => absurd (i4.1 z) (by omega)⟩, fun z => absurd (i3.1 z) (by omega)⟩, fun z => absurd (i2.1 z) (by omega)⟩, fun z => absurd (i1.1 z) (by omega)⟩
      rintro v h3 ⟨hv, kf⟩
      have pM : ∀ w, xMod (xP (xSI 59 w h3)) := fun w => by rw [show xP (xSI 59 w h3) = xP h3 from rfl, kf.2.2]; exact hK2.1
      rcases hv with ⟨w, e, rfl, k1⟩ | ⟨f, e, rfl, k1⟩
      · have en : lNum T n 4 dPc (nx T n s) b = .inr (nx T n (nx T n s), dPc b w) := by unfold lNum; rw [e]
        rw [en] at eline
        exact ⟨_, rfl, sk249 (pM _) (fun z => absurd (i6.1 z) (by omega)) (go _ _ eline (by omega) ⟨(hc2.trans kf.l).put (by omega), k1.o (xI_ne (by decide)) (xI_ne (by decide)) rfl, (hR2.fc kf).pc⟩)⟩
      · have en : lNum T n 4 dPc (nx T n s) b = .inl (f, nx T n s) := by unfold lNum; rw [e]
        rw [en] at eline
        exact ⟨_, rfl, bl249 hS hn (hQb f _ eline) (k1.o (xI_ne (by decide)) (xI_ne (by decide)) rfl) ((hc2.trans kf.l).put (by omega))⟩
    · have eb : lBody T n (lnO T n s) (nx T n s) b = lGoes T n (nx T n s) b := by rw [c]; rfl
      rw [eb] at eline
      have td := htd (by have := l3 (by omega); rw [c] at this; exact this)
      refine v_X11_readLine_141 hK2.1 _ _ ⟨fun _ => v_X11_readLine_150 hK2.1 _ _ ⟨fun _ => v_X11_readLine_197 hK2.1 _ _ ⟨fun _ => v_X11_readLine_216 hK2.1 _ _ ⟨fun _ => v_X11_readLine_230 hK2.1 _ _ ⟨fun _ => v_X11_readLine_249 hK2.1 _ _ ⟨fun q => absurd (i6.2 c) q, fun _ => ⟨_, m_readGoes hS2 hK2 hR2 hb td, ?_⟩⟩, fun z => absurd (i5.1 z) (by omega)⟩, fun z => absurd (i4.1 z) (by omega)⟩, fun z => absurd (i3.1 z) (by omega)⟩, fun z => absurd (i2.1 z) (by omega)⟩, fun z => absurd (i1.1 z) (by omega)⟩
      rintro v h3 ⟨rfl, hL⟩
      exact ⟨rfl, go _ h3 eline (by omega) (hL.tr hc2)⟩
  have bad : ∀ f, lBad T n s b t = some f → lLine T n s b t = .inl (f, s) := fun f hf => by unfold lLine; rw [hf]
  -- behind the words
  have tail : XW (xrm 62 0 0) mX11_readLine (xE 100 (ML T n h (lLine T n s b t)) xno 0 0) 100 0 0 h 89 [some (.ref 56), some (.int (nI (t / 4))), some (.int m)] [] := by
    refine v_X11_readLine_89 hK.1 _ _ ⟨fun q => ?_, fun q => ⟨_, m_wrong hK (f := 5) (by omega), ?_⟩⟩
    · refine v_X11_readLine_100 hK.1 _ _ ⟨fun q2 => ?_, fun q2 => ⟨_, m_is hK (i := 42) (by decide), ?_⟩⟩
      · have l2 : 2 ≤ lnO T n s := by
          have : ¬ lnO T n s ≤ 1 := fun z => q2 (i0.2 z)
          omega
        have tb : t.testBit (lnO T n s) = false := by
          rcases aND.1 q with z | z
          · omega
          · exact z
        have hz : lBad T n s b t = none := by
          unfold lBad
          rw [if_neg (by omega), if_neg (by omega), if_neg (fun z => by rw [tb] at z; exact absurd z.2 (by decide))]
        refine v_X11_readLine_119 hK.1 _ _ ⟨fun _ => ⟨fun z => absurd hK.2.2.2 z, fun _ => ⟨_, m_stepOn hK, ?_⟩⟩, fun z => absurd z q2⟩
        rintro v h2 ⟨rfl, k1, k2⟩
        exact ⟨rfl, body h2 hz l2 k1 (hR.fc k2.fc) k2.l⟩
      · have l1 := i0.1 q2
        rintro v h2 ⟨rfl, e2⟩
        subst h2
        rw [jsT_v.2.2.2.2.2.2.2.2.2]
        refine ⟨_, rfl, fun q3 => ?_, fun q3 => ⟨_, m_wrong hK (f := 1) (by omega), ?_⟩⟩
        · have hx := bI_n0.1 q3
          have c : lnO T n s = 1 := by unfold lnO; rw [if_pos hx]
          refine v_X11_readLine_119 hK.1 _ _ ⟨fun z => absurd q2 z, fun _ => ⟨_, m_readExit hK hR hb, ?_⟩⟩
          rintro v h3 ⟨rfl, hL⟩
          refine ⟨rfl, ?_⟩
          by_cases k24 : 24 ≤ bKx b
          · rw [if_pos k24] at hL
            have hz : lBad T n s b t = some 2 := by
              unfold lBad
              rw [if_neg (by omega), if_pos ⟨c, k24⟩]
            exact bl141 hS hn (hQb 2 s (bad 2 hz)) hL.2 hL.1
          · rw [if_neg k24] at hL
            have hz : lBad T n s b t = none := by
              unfold lBad
              rw [if_neg (by omega), if_neg (by omega), if_neg (fun z => z.1 c)]
            have eline : lLine T n s b t = qbd (qbd (lExit T n (nx T n s) b) (lSem T n)) (fun s' b' => .inr (s', (b', t ||| 2 ^ lnO T n s))) := by
              unfold lLine
              rw [hz]
              have eb : lBody T n (lnO T n s) (nx T n s) b = lExit T n (nx T n s) b := by rw [c]; rfl
              show qbd (qbd (lBody T n (lnO T n s) (nx T n s) b) (lSem T n)) _ = _
              rw [eb]
            exact sk141 hL.hM (fun z => absurd (i1.1 z) (by omega)) (fun z => absurd (i2.1 z) (by omega)) (fun z => absurd (i3.1 z) (by omega)) (fun z => absurd (i4.1 z) (by omega)) (fun z => absurd (i5.1 z) (by omega)) (fun z => absurd (i6.1 z) (by omega)) (go _ h3 eline (by omega) hL)
        · have hx : ¬ isW T n wExit s = true := by rw [bI_0.1 q3]; decide
          have c : lnO T n s = 0 := by
            have : lnO T n s ≠ 1 := fun z => by
              unfold lnO at z
              rw [if_neg hx] at z
              repeat' split at z
              all_goals omega
            omega
          have hz : lBad T n s b t = some 1 := by
            unfold lBad
            rw [if_pos c]
          rintro v h3 ⟨rfl, k1, k2⟩
          exact ⟨rfl, bl119 hS hn (hQb 1 s (bad 1 hz)) k1 k2.l⟩
    · have hz : lBad T n s b t = some 5 := by
        have q' : ¬ (lnO T n s ≤ 1 ∨ t.testBit (lnO T n s) = false) := fun z => q (aND.2 z)
        have a1 : ¬ lnO T n s ≤ 1 := fun z => q' (Or.inl z)
        have a2 : t.testBit (lnO T n s) = true := by
          cases z : t.testBit (lnO T n s)
          · exact absurd (Or.inr z) q'
          · rfl
        unfold lBad
        rw [if_neg (by omega), if_neg (by omega), if_pos ⟨by omega, a2⟩]
      have m0 : ¬ m = 0 := fun z => q (by rw [z]; exact Int32.and_zero)
      rintro v h2 ⟨rfl, k1, k2⟩
      exact ⟨rfl, v_X11_readLine_100 k1.1 _ _ ⟨fun _ => bl119 hS hn (hQb 5 s (bad 5 hz)) k1 k2.l, fun z => absurd z m0⟩⟩
  obtain ⟨-, -, -, j36, j37, j38, j39, j40, j41, j42⟩ := jsT_v
  clear i0 i1 i2 i3 i4 i5 i6 aND oR go body
  refine XSpec.of rfl (by decide) (Nat.le_of_ble_eq_true rfl) rfl (v_X11_readLine_0 hK.1 _ ⟨_, m_is hK (i := 36) (by decide), ?_⟩)
  have nx_ : ∀ W, isW T n W s = true → (W = wDie ∨ W = wEnd ∨ W = wAgain ∨ W = wMeet ∨ W = wPieces ∨ W = wGoes) → ¬ isW T n wExit s = true := fun W hw hW z => by
    obtain ⟨a1, a2, a3, a4, a5, a6⟩ := exit_no z
    rcases hW with rfl | rfl | rfl | rfl | rfl | rfl
    · rw [a1] at hw; exact absurd hw (by decide)
    · rw [a2] at hw; exact absurd hw (by decide)
    · rw [a3] at hw; exact absurd hw (by decide)
    · rw [a4] at hw; exact absurd hw (by decide)
    · rw [a5] at hw; exact absurd hw (by decide)
    · rw [a6] at hw; exact absurd hw (by decide)
  have K : ∀ (l : Nat) (v : Int32), v = nI (lmV l) → lnO T n s = l → XW (xrm 62 0 0) mX11_readLine (xE 100 (ML T n h (lLine T n s b t)) xno 0 0) 100 0 0 h 89 [some (.ref 56), some (.int (nI (t / 4))), some (.int v)] [] := fun l v hv hl => by
    rw [hv, ← hl, ← hm]; exact tail
  clear tail
  rintro v h1 ⟨rfl, e1⟩
  subst h1
  rw [j36]
  refine ⟨_, rfl, fun q => ⟨_, m_is hK (i := 37) (by decide), ?_⟩, fun q => K 2 _ (by decide) (by unfold lnO; rw [if_neg (nx_ wDie (bI_n0.1 q) (by simp)), if_pos (bI_n0.1 q)])⟩
  have n0 : ¬ isW T n wDie s = true := by rw [bI_0.1 q]; decide
  rintro v h1 ⟨rfl, e1⟩
  subst h1
  rw [j37]
  refine ⟨_, rfl, fun q => ⟨_, m_is hK (i := 38) (by decide), ?_⟩, fun q => K 3 _ (by decide) (by unfold lnO; rw [if_neg (nx_ wEnd (bI_n0.1 q) (by simp)), if_neg n0, if_pos (bI_n0.1 q)])⟩
  have n1 : ¬ isW T n wEnd s = true := by rw [bI_0.1 q]; decide
  rintro v h1 ⟨rfl, e1⟩
  subst h1
  rw [j38]
  refine ⟨_, rfl, fun q => ⟨_, m_is hK (i := 39) (by decide), ?_⟩, fun q => K 4 _ (by decide) (by unfold lnO; rw [if_neg (nx_ wAgain (bI_n0.1 q) (by simp)), if_neg n0, if_neg n1, if_pos (bI_n0.1 q)])⟩
  have n2 : ¬ isW T n wAgain s = true := by rw [bI_0.1 q]; decide
  rintro v h1 ⟨rfl, e1⟩
  subst h1
  rw [j39]
  refine ⟨_, rfl, fun q => ⟨_, m_is hK (i := 40) (by decide), ?_⟩, fun q => K 5 _ (by decide) (by unfold lnO; rw [if_neg (nx_ wMeet (bI_n0.1 q) (by simp)), if_neg n0, if_neg n1, if_neg n2, if_pos (bI_n0.1 q)])⟩
  have n3 : ¬ isW T n wMeet s = true := by rw [bI_0.1 q]; decide
  rintro v h1 ⟨rfl, e1⟩
  subst h1
  rw [j40]
  refine ⟨_, rfl, fun q => ⟨_, m_is hK (i := 41) (by decide), ?_⟩, fun q => K 6 _ (by decide) (by unfold lnO; rw [if_neg (nx_ wPieces (bI_n0.1 q) (by simp)), if_neg n0, if_neg n1, if_neg n2, if_neg n3, if_pos (bI_n0.1 q)])⟩
  have n4 : ¬ isW T n wPieces s = true := by rw [bI_0.1 q]; decide
  rintro v h1 ⟨rfl, e1⟩
  subst h1
  rw [j41]
  refine ⟨_, rfl, fun q => ?_, fun q => K 7 _ (by decide) (by unfold lnO; rw [if_neg (nx_ wGoes (bI_n0.1 q) (by simp)), if_neg n0, if_neg n1, if_neg n2, if_neg n3, if_neg n4, if_pos (bI_n0.1 q)])⟩
  have n5 : ¬ isW T n wGoes s = true := by rw [bI_0.1 q]; decide
  by_cases z : isW T n wExit s = true
  · exact K 1 _ (by decide) (by unfold lnO; rw [if_pos z])
  · exact K 0 _ (by decide) (by unfold lnO; rw [if_neg z, if_neg n0, if_neg n1, if_neg n2, if_neg n3, if_neg n4, if_neg n5])
