/-! READ: the class' EXPR -/
theorem jsT_c : jsT 1 = wLast ∧ jsT 12 = wNot ∧ jsT 13 = wThrow ∧ jsT 14 = wAt ∧ jsT 15 = wExits ∧ jsT 16 = wAnd ∧ jsT 17 = wOr := by decide
def CC (h : XH) (r : Nat) (c : List Int32) : Prop := xI h (r + 1) 3 = nI c.length ∧ ∀ k, k < c.length → xI h (r + 3) k = c.getD k 0
def Ech (r : Nat) (h h' : XH) : Prop := (∀ c, c ≠ 11 → c ≠ r + 1 → c ≠ r + 3 → xI h' c = xI h c) ∧ (∀ j, j ≠ 0 → j ≠ 3 → j ≠ 4 → j ≠ 5 → xI h' 11 j = xI h 11 j) ∧ (∀ j, j ≠ 3 → xI h' (r + 1) j = xI h (r + 1) j) ∧ xP h' = xP h
theorem Ech.rfl {r : Nat} {h : XH} : Ech r h h := ⟨fun _ _ _ _ => Eq.refl _, fun _ _ _ _ _ => Eq.refl _, fun _ _ => Eq.refl _, Eq.refl _⟩
theorem Ech.trans {r : Nat} {h h1 h2 : XH} (a : Ech r h h1) (b : Ech r h1 h2) : Ech r h h2 := ⟨fun c q1 q2 q3 => (b.1 c q1 q2 q3).trans (a.1 c q1 q2 q3), fun j q1 q2 q3 q4 => (b.2.1 j q1 q2 q3 q4).trans (a.2.1 j q1 q2 q3 q4), fun j q => (b.2.2.1 j q).trans (a.2.2.1 j q), b.2.2.2.trans a.2.2.2⟩
theorem RD.r2 {h : XH} {r : Nat} (hR : RD h r) : r = 2 ∨ r = 12 := hR.2.1.1
theorem Fch.e {r : Nat} {h h' : XH} (hr : r = 2 ∨ r = 12) (hc : Fch h h') : Ech r h h' := ⟨fun c q1 _ _ => hc.1 c q1, hc.2.1, fun j _ => by rw [hc.1 (r + 1) (by omega)], hc.2.2⟩
theorem Rch.e {r : Nat} {h h' : XH} (hr : r = 2 ∨ r = 12) (hc : Rch h h') : Ech r h h' := hc.f.e hr
theorem CC.c {h h' : XH} {r : Nat} {c : List Int32} (hr : r = 2 ∨ r = 12) (hC : CC h r c) (hc : Rch h h') : CC h' r c := by
  unfold CC at *
  rw [hc.1 (r + 1) (by omega), hc.1 (r + 3) (by omega)]; exact hC
/-- the outcome of a part of the reading -/
def CO (r : Nat) (T : Nat → Nat) (n : Nat) (h0 : XH) (x : PR) (v : Option Value) (h : XH) : Prop := match x with
  | .inl e => v = some (.int 0) ∧ xI h 11 0 = nI e.2 ∧ xI h 11 5 = nI e.1 ∧ (1 ≤ e.1 ∧ e.1 ≤ 5) ∧ Ech r h0 h
  | .inr y => v = some (.int 1) ∧ CT h r T n y.1 ∧ CC h r y.2 ∧ Ech r h0 h
theorem CO.fl {r f p : Nat} {T : Nat → Nat} {n : Nat} {h0 h h' : XH} (hr : r = 2 ∨ r = 12) (he : Ech r h0 h) (hf : FL h h' f p) (h1 : 1 ≤ f ∧ f ≤ 5) : CO r T n h0 (.inl (f, p)) (some (.int 0)) h' := ⟨rfl, hf.1, hf.2.1, h1, he.trans (hf.2.2.e hr)⟩
theorem CO.tr {r : Nat} {T : Nat → Nat} {n : Nat} {h0 h h' : XH} {x : PR} {v : Option Value} (he : Ech r h0 h) (hc : CO r T n h x v h') : CO r T n h0 x v h' := by
  rcases x with e | y
  · exact ⟨hc.1, hc.2.1, hc.2.2.1, hc.2.2.2.1, he.trans hc.2.2.2.2⟩
  · exact ⟨hc.1, hc.2.1, hc.2.2.1, he.trans hc.2.2.2⟩
def CSpec (M : XM) (D r : Nat) (T : Nat → Nat) (n : Nat) (a : Int32) (p : Nat → List Int32 → PR) : Prop := ∀ (h : XH) (s : Nat) (c : List Int32), CT h r T n s → CC h r c → c.length ≤ s → XSpec M D 0 0 100 100 [.ref 11, .int a] h (CO r T n h (p s c)) xno
theorem c_add {h : XH} {r n s : Nat} {T : Nat → Nat} {c : List Int32} (hC : CT h r T n s) (hA : CC h r c) (hl : c.length < 500) (z : Int32) : XSpec mX0_add 1 0 0 100 100 [.ref (r + 1), .int z] h (fun v h' => v = none ∧ CT h' r T n s ∧ CC h' r (c ++ [z]) ∧ Ech r h h') xno := by
  have hr := hC.1.r2
  refine (s_X0_add 100 h (r + 1) hC.1.2.1.2.2.2.2.2.2 (by have := hC.1.2.2; omega) z).mono ?_ (fun _ _ q => q)
  rintro v h' ⟨rfl, e⟩
  rw [hA.1, if_neg (nI_pos (by omega)), if_neg (show ¬ (500 : Int32) ≤ nI c.length from nI_ge (b := 500) hl (by omega)), nI_clamp (by omega), nI_1, show r + 1 + 2 = r + 3 from rfl] at e
  subst h'
  have n1 : ∀ q, q ≠ r + 1 → q ≠ r + 3 → xI (xSI (r + 1) (va_up (xI h (r + 1)) 3 (nI (c.length + 1))) (xSI (r + 3) (va_up (xI h (r + 3)) c.length z) h)) q = xI h q := fun q q1 q2 => (xI_ne q1).trans (xI_ne q2)
  obtain ⟨hR, ⟨t1, t2, t3⟩, ⟨k1, k2, k3, k4⟩, hf⟩ := hC
  refine ⟨rfl, ⟨hR.p rfl, ⟨?_, t2, ?_⟩, ⟨?_, ?_, ?_, k4⟩, ?_⟩, ⟨?_, fun k hk => ?_⟩, fun q _ q2 q3 => n1 q q2 q3, fun j _ _ _ _ => by rw [n1 11 (by omega) (by omega)], fun j q => by rw [xI_at, va_up_of _ _ q], rfl⟩
  · rw [n1 11 (by omega) (by omega)]; exact t1
  · rw [n1 1 (by omega) (by omega)]; exact t3
  · rw [n1 11 (by omega) (by omega)]; exact k1
  · rw [n1 11 (by omega) (by omega)]; exact k2
  · rw [n1 11 (by omega) (by omega)]; exact k3
  · rw [n1 11 (by omega) (by omega)]; exact hf
  · rw [xI_at, va_up_eq, List.length_append]; rfl
  · rw [List.length_append] at hk
    have hk' : k < c.length + 1 := hk
    rw [xI_ne (by omega), xI_at]
    by_cases y : k = c.length
    · rw [y, va_up_eq, sn_at]
    · rw [va_up_of _ _ y, sn_in (by omega)]; exact hA.2 k (by omega)
theorem c_ptr {h h' : XH} {r : Nat} (hR : RD h r) : xP h 11 7 = some r ∧ xP h r 8 = some (r + 1) := ⟨hR.1.2, hR.2.1.2.1⟩
/-- a value: its word, its code -/
theorem c_readValue {h : XH} {r n s : Nat} {T : Nat → Nat} {c : List Int32} (hC : CT h r T n s) (hA : CC h r c) (hl : c.length < 500) : XSpec mX4_readValue 15 0 0 100 100 [.ref 11] h (CO r T n h (match pVal T n s with | none => .inl (3, s) | some z => .inr (nx T n s, c ++ [z]))) xno := by
  obtain ⟨j1, j12, j13, j14, j15, j16, j17⟩ := jsT_c
  have hr := hC.1.r2
  have fin : ∀ z, pVal T n s = some z → ∃ Q1, XSpec mX0_add 1 0 0 100 100 [.ref (r + 1), .int z] h Q1 xno ∧ ∀ v h6, Q1 v h6 → v = none ∧ (XW (xrm 15 0 0) mX4_readValue (xE 100 (CO r T n h (match pVal T n s with | none => .inl (3, s) | some z => .inr (nx T n s, c ++ [z]))) xno 0 0) 100 0 0 h6 101 [some (.ref 11)] []) := fun z hz => by
    refine ⟨_, c_add hC hA hl z, ?_⟩
    rintro v h6 ⟨rfl, k1, k2, k3⟩
    refine ⟨rfl, v_X4_readValue_101 r k1.1.1 k1.1.2.1 k1.1.2.2 ⟨_, c_readOn k1, ?_⟩⟩
    rintro v h7 ⟨rfl, k4, k5⟩
    rw [hz]
    exact ⟨rfl, rfl, k4, k2.c hr k5, k3.trans (k5.e hr)⟩
  refine XSpec.of rfl (by decide) (Nat.le_of_ble_eq_true rfl) rfl (v_X4_readValue_0 r hC.1.1 hC.1.2.1 hC.1.2.2 ⟨_, c_isWord (i := 13) hC (by decide), ?_⟩)
  rintro v h1 ⟨rfl, e1⟩
  subst h1
  rw [j13]
  refine ⟨_, rfl, fun c1 => ⟨_, c_isWord (i := 14) hC (by decide), ?_⟩, fun c1 => ⟨hC.1.1.2, hC.1.2.1.2.1, fin _ (by unfold pVal; rw [if_pos (bI_n0.1 c1)])⟩⟩
  rintro v h1 ⟨rfl, e1⟩
  subst h1
  rw [j14]
  have f1 := bI_0.1 c1
  refine ⟨_, rfl, fun c2 => ⟨_, c_isWord (i := 1) hC (by decide), ?_⟩, fun c2 => ⟨hC.1.1.2, hC.1.2.1.2.1, fin _ (by unfold pVal; rw [if_neg (by rw [f1]; decide), if_pos (bI_n0.1 c2)])⟩⟩
  rintro v h1 ⟨rfl, e1⟩
  subst h1
  rw [j1]
  have f2 := bI_0.1 c2
  refine ⟨_, rfl, fun c3 => ⟨_, c_isWord (i := 15) hC (by decide), ?_⟩, fun c3 => ⟨hC.1.1.2, hC.1.2.1.2.1, fin _ (by unfold pVal; rw [if_neg (by rw [f1]; decide), if_neg (by rw [f2]; decide), if_pos (bI_n0.1 c3)])⟩⟩
  rintro v h1 ⟨rfl, e1⟩
  subst h1
  rw [j15]
  have f3 := bI_0.1 c3
  refine ⟨_, rfl, fun c4 => ⟨_, c_fail hC.1 3, ?_⟩, fun c4 => ⟨hC.1.1.2, hC.1.2.1.2.1, fin _ (by unfold pVal; rw [if_neg (by rw [f1]; decide), if_neg (by rw [f2]; decide), if_neg (by rw [f3]; decide), if_pos (bI_n0.1 c4)])⟩⟩
  rintro v h1 ⟨rfl, e1⟩
  subst h1
  have f4 := bI_0.1 c4
  have ev : pVal T n s = none := by unfold pVal; rw [if_neg (by rw [f1]; decide), if_neg (by rw [f2]; decide), if_neg (by rw [f3]; decide), if_neg (by rw [f4]; decide)]
  rw [ev]
  exact ⟨_, rfl, rfl, CO.fl hr Ech.rfl (hC.fl 3) (by omega)⟩
theorem c_readPart {r n D : Nat} {T : Nat → Nat} {a : Int32} {ex : Nat → List Int32 → PR} {b : Nat} (hD : 30 ≤ D) (hx : CSpec mX4_readExpr D r T n (a + 1) ex) (hg : PG n b ex) : CSpec mX4_readPart (D + 1) r T n a (pPart T n ex) := by
  intro h s c hC hA hl
  have hr := hC.1.r2
  have hsn := hC.2.2.1.2.2.2
  have n5 := hC.2.1.2.1
  refine XSpec.of rfl (by decide) (Nat.le_of_ble_eq_true rfl) rfl (v_X4_readPart_0 D hD r hC.1.1 hC.1.2.1 hC.1.2.2 a ⟨_, c_isSign (c := 40) hC (by decide), ?_⟩)
  rintro v h1 ⟨rfl, e1⟩
  subst h1
  refine ⟨_, rfl, fun c1 => ?_, fun c1 => ?_⟩
  · have f1 := bI_0.1 c1
    rw [hC.2.2.1.2.2.1]
    have kl := kd_le (T := T) (n := n) (s := s)
    refine ⟨fun q => ?_, fun q => ?_⟩
    · have q1 : ¬ kd T n s = 1 := fun z => q (by rw [z]; rfl)
      have ep : pPart T n ex s c = (match num T n 0 9999 s with | .inl f => .inl (f, s) | .inr v => .inr (nx T n s, c ++ [nI v])) := by
        unfold pPart
        rw [if_neg (by rw [f1]; decide), if_neg q1]
        cases num T n 0 9999 s <;> rfl
      rw [ep]
      refine ⟨_, c_number (lo := 0) (hi := 9999) hC (by omega) (by omega), ?_⟩
      rintro v h2 (⟨w, e2, rfl, e3⟩ | ⟨f, e2, rfl, e3⟩)
      · subst h2
        have hw := (num_r e2).2.2
        have hk := (num_r e2).1
        have hlt : s < n := kd_lt (T := T) (by rw [hk]; decide)
        refine ⟨_, rfl, fun _ => ⟨hC.1.1.2, hC.1.2.1.2.1, _, c_add hC hA (by omega) (nI w), ?_⟩, fun q2 => absurd q2 (nI_nm1 (by omega))⟩
        rintro v h3 ⟨rfl, k1, k2, k3⟩
        refine ⟨rfl, _, c_readOn k1, ?_⟩
        rintro v h4 ⟨rfl, k4, k5⟩
        rw [e2]
        exact ⟨rfl, rfl, k4, k2.c hr k5, k3.trans (k5.e hr)⟩
      · refine ⟨_, rfl, fun q2 => absurd rfl q2, fun _ => ?_⟩
        rw [e2]
        exact CO.fl hr Ech.rfl e3 (by rcases num_l e2 with z | z <;> omega)
    · have q1 : kd T n s = 1 := (nI_eq (b := 1) (by omega) (by omega)).1 q
      have hlt : s < n := kd_lt (T := T) (by rw [q1]; decide)
      have ep : pPart T n ex s c = (match pVal T n s with | none => .inl (3, s) | some z => .inr (nx T n s, c ++ [z])) := by
        unfold pPart
        rw [if_neg (by rw [f1]; decide), if_pos q1]
        cases pVal T n s <;> rfl
      rw [ep]
      refine ⟨_, c_readValue hC hA (by omega), ?_⟩
      intro v h5 hq
      cases hz : pVal T n s with
      | none =>
        rw [hz] at hq
        have hv := hq.1
        exact ⟨0, hv, rfl, by rw [← hv]; exact hq⟩
      | some z =>
        rw [hz] at hq
        have hv := hq.1
        exact ⟨1, hv, rfl, by rw [← hv]; exact hq⟩
  · have f1 := bI_n0.1 c1
    have hlt := isS_lt f1
    have ep : pPart T n ex s c = pbd (ex (nx T n s) c) (fun s c => if isS T n 41 s = true then .inr (nx T n s, c) else .inl (1, s)) := by
      unfold pPart
      rw [if_pos f1]
    rw [ep]
    refine ⟨_, c_readOn hC, ?_⟩
    rintro v h6 ⟨rfl, k1, k2⟩
    have hlx := nx_lt (T := T) hlt
    refine ⟨rfl, _, hx h6 _ c k1 (hA.c hr k2) (by omega), ?_⟩
    intro v h7 hq
    cases hz : ex (nx T n s) c with
    | inl e =>
      rw [hz] at hq
      refine ⟨0, hq.1, fun _ => ?_, fun q => absurd rfl q⟩
      exact ⟨rfl, hq.2.1, hq.2.2.1, hq.2.2.2.1, (k2.e hr).trans hq.2.2.2.2⟩
    | inr y =>
      rw [hz] at hq
      obtain ⟨hv, k3, k4, k5⟩ := hq
      refine ⟨1, hv, fun q => absurd q (by decide), fun _ => ⟨_, c_takeSign (c := 41) k3 (by decide), ?_⟩⟩
      rintro v h8 (⟨e8, rfl, k6, k7⟩ | ⟨e8, rfl, k6⟩)
      · refine ⟨1, rfl, fun q => absurd q (by decide), fun _ => ?_⟩
        show CO r T n h (if isS T n 41 y.1 = true then .inr (nx T n y.1, y.2) else .inl (1, y.1)) _ _
        rw [if_pos e8]
        exact ⟨rfl, k6, k4.c hr k7, ((k2.e hr).trans k5).trans (k7.e hr)⟩
      · refine ⟨0, rfl, fun _ => ?_, fun q => absurd rfl q⟩
        show CO r T n h (if isS T n 41 y.1 = true then .inr (nx T n y.1, y.2) else .inl (1, y.1)) _ _
        rw [if_neg (by rw [e8]; decide)]
        exact CO.fl hr ((k2.e hr).trans k5) k6 (by omega)
/-! the loops over operators -/
theorem l_creadProduct {r n D b : Nat} {T : Nat → Nat} {a : Int32} {p : Nat → List Int32 → PR} {h0 : XH} {res : PR} (hD : 30 ≤ D) (hx : CSpec mX4_readPart (D + 1) r T n a p) (hg : PG n b p) {Q : Option Value → XH → Prop} {X : String → XH → Prop} (hQ : ∀ v h', CO r T n h0 res v h' → Q v h') : ∀ (f k s : Nat) (c : List Int32) (h : XH), f + k = 500 → k ≤ s → CT h r T n s → CC h r c → c.length ≤ s → Ech r h0 h → pLoop (opM T n) (nx T n) p f s c = res →
    XW (xrm (D + 2) 0 0) mX4_readProduct (xE 100 Q X 0 0) 100 0 0 h 12 [some (.ref 11), some (.int a), some (.int (nI k)), none] [] := by
  intro f
  induction f with
  | zero =>
    intro k s c h hk hks hC hA hl he hres
    refine v_X4_readProduct_12 D hD r hC.1.1 hC.1.2.1 hC.1.2.2 _ _ ⟨fun _ => hQ _ _ ?_, fun q => absurd (nI_le (a := 500) (by omega) (by omega)) q⟩
    rw [← hres]
    exact ⟨rfl, hC, hA, he⟩
  | succ f ih =>
    intro k s c h hk hks hC hA hl he hres
    have hr := hC.1.r2
    have hsn := hC.2.2.1.2.2.2
    have n5 := hC.2.1.2.1
    unfold pLoop at hres
    have no : opM T n s = none → Q (some (.int 1)) h := fun hz => hQ _ _ (by rw [hz] at hres; rw [← hres]; exact ⟨rfl, hC, hA, he⟩)
    have step : ∀ z, opM T n s = some z → s < n → ∃ Q1, XSpec mX4_readOn 14 0 0 100 100 [.ref 11] h Q1 xno ∧ ∀ v h8, Q1 v h8 → v = none ∧ (∃ Q1, XSpec mX4_readPart (D + 1) 0 0 100 100 [.ref 11, .int a] h8 Q1 xno ∧ ∀ v h9, Q1 v h9 → ∃ r9 : Int32, v = some (.int r9) ∧ ((¬ r9 = 0 → (xP h9 11 7 = some r) ∧ ((xP h9 r 8 = some (r + 1)) ∧ (∃ Q1, XSpec mX0_add 1 0 0 100 100 [.ref (r + 1), .int z] h9 Q1 xno ∧ ∀ v h10, Q1 v h10 → v = none ∧ (XW (xrm (D + 2) 0 0) mX4_readProduct (xE 100 Q X 0 0) 100 0 0 h10 12 [some (.ref 11), some (.int a), some (.int (nI k + 1)), none] [])))) ∧ (r9 = 0 → Q (some (.int 0)) h9))) := fun z hz hlt => by
      rw [hz] at hres
      have hlx := nx_lt (T := T) hlt
      refine ⟨_, c_readOn hC, ?_⟩
      rintro v h8 ⟨rfl, k1, k2⟩
      refine ⟨rfl, _, hx h8 _ c k1 (hA.c hr k2) (by omega), ?_⟩
      intro v h9 hq
      cases hp : p (nx T n s) c with
      | inl e =>
        rw [hp] at hq
        refine ⟨0, hq.1, fun q => absurd rfl q, fun _ => hQ _ _ ?_⟩
        have hres' : pbd (p (nx T n s) c) (fun s c => pLoop (opM T n) (nx T n) p f s (c ++ [z])) = res := hres
        rw [hp] at hres'
        rw [← hres']
        exact ⟨rfl, hq.2.1, hq.2.2.1, hq.2.2.2.1, (he.trans (k2.e hr)).trans hq.2.2.2.2⟩
      | inr y =>
        rw [hp] at hq
        obtain ⟨hv, k3, k4, k5⟩ := hq
        obtain ⟨g1, g2, g3, -⟩ := hg _ _ y.1 y.2 (nx_b hsn).2 hp
        refine ⟨1, hv, fun _ => ⟨k3.1.1.2, k3.1.2.1.2.1, _, c_add k3 k4 (by omega) z, ?_⟩, fun q => absurd q (by decide)⟩
        rintro v h10 ⟨rfl, k6, k7, k8⟩
        have hres' : pbd (p (nx T n s) c) (fun s c => pLoop (opM T n) (nx T n) p f s (c ++ [z])) = res := hres
        rw [hp] at hres'
        have hl' : (y.2 ++ [z]).length = y.2.length + 1 := by rw [List.length_append]; rfl
        rw [nI_1]
        exact ⟨rfl, ih (k + 1) y.1 (y.2 ++ [z]) h10 (by omega) (by omega) k6 k7 (by omega) (((he.trans (k2.e hr)).trans k5).trans k8) hres'⟩
    have s54 : ∀ z, opM T n s = some z → s < n → XW (xrm (D + 2) 0 0) mX4_readProduct (xE 100 Q X 0 0) 100 0 0 h 54 [some (.ref 11), some (.int a), some (.int (nI k)), some (.int z)] [] := fun z hz hlt => v_X4_readProduct_54 D hD r hC.1.1 hC.1.2.1 hC.1.2.2 _ _ _ (step z hz hlt)
    have s37 : s < n → (isS T n 42 s = true ∨ isS T n 47 s = true) → XW (xrm (D + 2) 0 0) mX4_readProduct (xE 100 Q X 0 0) 100 0 0 h 37 [some (.ref 11), some (.int a), some (.int (nI k)), none] [] := fun hlt hor => by
      refine v_X4_readProduct_37 D hD r hC.1.1 hC.1.2.1 hC.1.2.2 _ _ ⟨_, c_isSign (c := 42) hC (by decide), ?_⟩
      rintro v h4 ⟨rfl, e4⟩
      subst h4
      refine ⟨_, rfl, fun q => s54 _ ?_ hlt, fun q => s54 _ ?_ hlt⟩
      · have f1 := bI_0.1 q
        unfold opM
        rw [if_neg (by rw [f1]; decide), if_pos (by rcases hor with z | z; rw [f1] at z; exact absurd z (by decide); exact z)]
      · unfold opM
        rw [if_pos (bI_n0.1 q)]
    refine v_X4_readProduct_12 D hD r hC.1.1 hC.1.2.1 hC.1.2.2 _ _ ⟨fun q => absurd q (nI_ge (b := 500) (by omega) (by omega)), fun _ => ⟨_, c_isSign (c := 42) hC (by decide), ?_⟩⟩
    rintro v h2 ⟨rfl, e2⟩
    subst h2
    refine ⟨_, rfl, fun q => s37 (isS_lt (bI_n0.1 q)) (Or.inl (bI_n0.1 q)), fun q => ⟨_, c_isSign (c := 47) hC (by decide), ?_⟩⟩
    have f1 := bI_0.1 q
    rintro v h2 ⟨rfl, e2⟩
    subst h2
    refine ⟨_, rfl, fun q2 => no ?_, fun q2 => s37 (isS_lt (bI_n0.1 q2)) (Or.inr (bI_n0.1 q2))⟩
    have f2 := bI_0.1 q2
    unfold opM
    rw [if_neg (by rw [f1]; decide), if_neg (by rw [f2]; decide)]
theorem c_readProduct {r n D b : Nat} {T : Nat → Nat} {a : Int32} {p : Nat → List Int32 → PR} (hD : 30 ≤ D) (hx : CSpec mX4_readPart (D + 1) r T n a p) (hg : PG n b p) : CSpec mX4_readProduct (D + 2) r T n a (pBin (opM T n) (nx T n) p) := by
  intro h s c hC hA hl
  have hr := hC.1.r2
  have hsn := hC.2.2.1.2.2.2
  refine XSpec.of rfl (by decide) (Nat.le_of_ble_eq_true rfl) rfl (v_X4_readProduct_0 D hD r hC.1.1 hC.1.2.1 hC.1.2.2 a ⟨_, hx h s c hC hA hl, ?_⟩)
  intro v h1 hq
  cases hp : p s c with
  | inl e =>
    rw [hp] at hq
    refine ⟨0, hq.1, fun q => absurd rfl q, fun _ => ?_⟩
    unfold pBin
    rw [hp]
    exact ⟨rfl, hq.2⟩
  | inr y =>
    rw [hp] at hq
    obtain ⟨hv, k3, k4, k5⟩ := hq
    obtain ⟨g1, g2, g3, -⟩ := hg _ _ y.1 y.2 hsn hp
    refine ⟨1, hv, fun _ => l_creadProduct (h0 := h) hD hx hg (fun _ _ z => z) 500 0 y.1 y.2 h1 (by omega) (by omega) k3 k4 (by omega) k5 ?_, fun q => absurd q (by decide)⟩
    unfold pBin
    rw [hp]
    rfl
theorem l_creadSum {r n D b : Nat} {T : Nat → Nat} {a : Int32} {p : Nat → List Int32 → PR} {h0 : XH} {res : PR} (hD : 30 ≤ D) (hx : CSpec mX4_readProduct (D + 2) r T n a p) (hg : PG n b p) {Q : Option Value → XH → Prop} {X : String → XH → Prop} (hQ : ∀ v h', CO r T n h0 res v h' → Q v h') : ∀ (f k s : Nat) (c : List Int32) (h : XH), f + k = 500 → k ≤ s → CT h r T n s → CC h r c → c.length ≤ s → Ech r h0 h → pLoop (opP T n) (nx T n) p f s c = res →
    XW (xrm (D + 3) 0 0) mX4_readSum (xE 100 Q X 0 0) 100 0 0 h 12 [some (.ref 11), some (.int a), some (.int (nI k)), none] [] := by
  intro f
  induction f with
  | zero =>
    intro k s c h hk hks hC hA hl he hres
    refine v_X4_readSum_12 D hD r hC.1.1 hC.1.2.1 hC.1.2.2 _ _ ⟨fun _ => hQ _ _ ?_, fun q => absurd (nI_le (a := 500) (by omega) (by omega)) q⟩
    rw [← hres]
    exact ⟨rfl, hC, hA, he⟩
  | succ f ih =>
    intro k s c h hk hks hC hA hl he hres
    have hr := hC.1.r2
    have hsn := hC.2.2.1.2.2.2
    have n5 := hC.2.1.2.1
    unfold pLoop at hres
    have no : opP T n s = none → Q (some (.int 1)) h := fun hz => hQ _ _ (by rw [hz] at hres; rw [← hres]; exact ⟨rfl, hC, hA, he⟩)
    have step : ∀ z, opP T n s = some z → s < n → ∃ Q1, XSpec mX4_readOn 14 0 0 100 100 [.ref 11] h Q1 xno ∧ ∀ v h8, Q1 v h8 → v = none ∧ (∃ Q1, XSpec mX4_readProduct (D + 2) 0 0 100 100 [.ref 11, .int a] h8 Q1 xno ∧ ∀ v h9, Q1 v h9 → ∃ r9 : Int32, v = some (.int r9) ∧ ((¬ r9 = 0 → (xP h9 11 7 = some r) ∧ ((xP h9 r 8 = some (r + 1)) ∧ (∃ Q1, XSpec mX0_add 1 0 0 100 100 [.ref (r + 1), .int z] h9 Q1 xno ∧ ∀ v h10, Q1 v h10 → v = none ∧ (XW (xrm (D + 3) 0 0) mX4_readSum (xE 100 Q X 0 0) 100 0 0 h10 12 [some (.ref 11), some (.int a), some (.int (nI k + 1)), none] [])))) ∧ (r9 = 0 → Q (some (.int 0)) h9))) := fun z hz hlt => by
      rw [hz] at hres
      have hlx := nx_lt (T := T) hlt
      refine ⟨_, c_readOn hC, ?_⟩
      rintro v h8 ⟨rfl, k1, k2⟩
      refine ⟨rfl, _, hx h8 _ c k1 (hA.c hr k2) (by omega), ?_⟩
      intro v h9 hq
      cases hp : p (nx T n s) c with
      | inl e =>
        rw [hp] at hq
        refine ⟨0, hq.1, fun q => absurd rfl q, fun _ => hQ _ _ ?_⟩
        have hres' : pbd (p (nx T n s) c) (fun s c => pLoop (opP T n) (nx T n) p f s (c ++ [z])) = res := hres
        rw [hp] at hres'
        rw [← hres']
        exact ⟨rfl, hq.2.1, hq.2.2.1, hq.2.2.2.1, (he.trans (k2.e hr)).trans hq.2.2.2.2⟩
      | inr y =>
        rw [hp] at hq
        obtain ⟨hv, k3, k4, k5⟩ := hq
        obtain ⟨g1, g2, g3, -⟩ := hg _ _ y.1 y.2 (nx_b hsn).2 hp
        refine ⟨1, hv, fun _ => ⟨k3.1.1.2, k3.1.2.1.2.1, _, c_add k3 k4 (by omega) z, ?_⟩, fun q => absurd q (by decide)⟩
        rintro v h10 ⟨rfl, k6, k7, k8⟩
        have hres' : pbd (p (nx T n s) c) (fun s c => pLoop (opP T n) (nx T n) p f s (c ++ [z])) = res := hres
        rw [hp] at hres'
        have hl' : (y.2 ++ [z]).length = y.2.length + 1 := by rw [List.length_append]; rfl
        rw [nI_1]
        exact ⟨rfl, ih (k + 1) y.1 (y.2 ++ [z]) h10 (by omega) (by omega) k6 k7 (by omega) (((he.trans (k2.e hr)).trans k5).trans k8) hres'⟩
    have s54 : ∀ z, opP T n s = some z → s < n → XW (xrm (D + 3) 0 0) mX4_readSum (xE 100 Q X 0 0) 100 0 0 h 54 [some (.ref 11), some (.int a), some (.int (nI k)), some (.int z)] [] := fun z hz hlt => v_X4_readSum_54 D hD r hC.1.1 hC.1.2.1 hC.1.2.2 _ _ _ (step z hz hlt)
    have s37 : s < n → (isS T n 43 s = true ∨ isS T n 45 s = true) → XW (xrm (D + 3) 0 0) mX4_readSum (xE 100 Q X 0 0) 100 0 0 h 37 [some (.ref 11), some (.int a), some (.int (nI k)), none] [] := fun hlt hor => by
      refine v_X4_readSum_37 D hD r hC.1.1 hC.1.2.1 hC.1.2.2 _ _ ⟨_, c_isSign (c := 43) hC (by decide), ?_⟩
      rintro v h4 ⟨rfl, e4⟩
      subst h4
      refine ⟨_, rfl, fun q => s54 _ ?_ hlt, fun q => s54 _ ?_ hlt⟩
      · have f1 := bI_0.1 q
        unfold opP
        rw [if_neg (by rw [f1]; decide), if_pos (by rcases hor with z | z; rw [f1] at z; exact absurd z (by decide); exact z)]
      · unfold opP
        rw [if_pos (bI_n0.1 q)]
    refine v_X4_readSum_12 D hD r hC.1.1 hC.1.2.1 hC.1.2.2 _ _ ⟨fun q => absurd q (nI_ge (b := 500) (by omega) (by omega)), fun _ => ⟨_, c_isSign (c := 43) hC (by decide), ?_⟩⟩
    rintro v h2 ⟨rfl, e2⟩
    subst h2
    refine ⟨_, rfl, fun q => s37 (isS_lt (bI_n0.1 q)) (Or.inl (bI_n0.1 q)), fun q => ⟨_, c_isSign (c := 45) hC (by decide), ?_⟩⟩
    have f1 := bI_0.1 q
    rintro v h2 ⟨rfl, e2⟩
    subst h2
    refine ⟨_, rfl, fun q2 => no ?_, fun q2 => s37 (isS_lt (bI_n0.1 q2)) (Or.inr (bI_n0.1 q2))⟩
    have f2 := bI_0.1 q2
    unfold opP
    rw [if_neg (by rw [f1]; decide), if_neg (by rw [f2]; decide)]
theorem c_readSum {r n D b : Nat} {T : Nat → Nat} {a : Int32} {p : Nat → List Int32 → PR} (hD : 30 ≤ D) (hx : CSpec mX4_readProduct (D + 2) r T n a p) (hg : PG n b p) : CSpec mX4_readSum (D + 3) r T n a (pBin (opP T n) (nx T n) p) := by
  intro h s c hC hA hl
  have hr := hC.1.r2
  have hsn := hC.2.2.1.2.2.2
  refine XSpec.of rfl (by decide) (Nat.le_of_ble_eq_true rfl) rfl (v_X4_readSum_0 D hD r hC.1.1 hC.1.2.1 hC.1.2.2 a ⟨_, hx h s c hC hA hl, ?_⟩)
  intro v h1 hq
  cases hp : p s c with
  | inl e =>
    rw [hp] at hq
    refine ⟨0, hq.1, fun q => absurd rfl q, fun _ => ?_⟩
    unfold pBin
    rw [hp]
    exact ⟨rfl, hq.2⟩
  | inr y =>
    rw [hp] at hq
    obtain ⟨hv, k3, k4, k5⟩ := hq
    obtain ⟨g1, g2, g3, -⟩ := hg _ _ y.1 y.2 hsn hp
    refine ⟨1, hv, fun _ => l_creadSum (h0 := h) hD hx hg (fun _ _ z => z) 500 0 y.1 y.2 h1 (by omega) (by omega) k3 k4 (by omega) k5 ?_, fun q => absurd q (by decide)⟩
    unfold pBin
    rw [hp]
    rfl
theorem l_creadAnd {r n D b : Nat} {T : Nat → Nat} {a : Int32} {p : Nat → List Int32 → PR} {h0 : XH} {res : PR} (hD : 30 ≤ D) (hx : CSpec mX4_readNot (D + 5) r T n a p) (hg : PG n b p) {Q : Option Value → XH → Prop} {X : String → XH → Prop} (hQ : ∀ v h', CO r T n h0 res v h' → Q v h') : ∀ (f k s : Nat) (c : List Int32) (h : XH), f + k = 500 → k ≤ s → CT h r T n s → CC h r c → c.length ≤ s → Ech r h0 h → pLoop (opA T n) (nx T n) p f s c = res →
    XW (xrm (D + 6) 0 0) mX4_readAnd (xE 100 Q X 0 0) 100 0 0 h 12 [some (.ref 11), some (.int a), some (.int (nI k))] [] := by
  intro f
  induction f with
  | zero =>
    intro k s c h hk hks hC hA hl he hres
    refine v_X4_readAnd_12 D hD r hC.1.1 hC.1.2.1 hC.1.2.2 _ _ ⟨fun _ => hQ _ _ ?_, fun q => absurd (nI_le (a := 500) (by omega) (by omega)) q⟩
    rw [← hres]
    exact ⟨rfl, hC, hA, he⟩
  | succ f ih =>
    intro k s c h hk hks hC hA hl he hres
    have hr := hC.1.r2
    have hsn := hC.2.2.1.2.2.2
    have n5 := hC.2.1.2.1
    unfold pLoop at hres
    have no : opA T n s = none → Q (some (.int 1)) h := fun hz => hQ _ _ (by rw [hz] at hres; rw [← hres]; exact ⟨rfl, hC, hA, he⟩)
    have step : ∀ z, opA T n s = some z → s < n → ∃ Q1, XSpec mX4_readOn 14 0 0 100 100 [.ref 11] h Q1 xno ∧ ∀ v h8, Q1 v h8 → v = none ∧ (∃ Q1, XSpec mX4_readNot (D + 5) 0 0 100 100 [.ref 11, .int a] h8 Q1 xno ∧ ∀ v h9, Q1 v h9 → ∃ r9 : Int32, v = some (.int r9) ∧ ((¬ r9 = 0 → (xP h9 11 7 = some r) ∧ ((xP h9 r 8 = some (r + 1)) ∧ (∃ Q1, XSpec mX0_add 1 0 0 100 100 [.ref (r + 1), .int z] h9 Q1 xno ∧ ∀ v h10, Q1 v h10 → v = none ∧ (XW (xrm (D + 6) 0 0) mX4_readAnd (xE 100 Q X 0 0) 100 0 0 h10 12 [some (.ref 11), some (.int a), some (.int (nI k + 1))] [])))) ∧ (r9 = 0 → Q (some (.int 0)) h9))) := fun z hz hlt => by
      rw [hz] at hres
      have hlx := nx_lt (T := T) hlt
      refine ⟨_, c_readOn hC, ?_⟩
      rintro v h8 ⟨rfl, k1, k2⟩
      refine ⟨rfl, _, hx h8 _ c k1 (hA.c hr k2) (by omega), ?_⟩
      intro v h9 hq
      cases hp : p (nx T n s) c with
      | inl e =>
        rw [hp] at hq
        refine ⟨0, hq.1, fun q => absurd rfl q, fun _ => hQ _ _ ?_⟩
        have hres' : pbd (p (nx T n s) c) (fun s c => pLoop (opA T n) (nx T n) p f s (c ++ [z])) = res := hres
        rw [hp] at hres'
        rw [← hres']
        exact ⟨rfl, hq.2.1, hq.2.2.1, hq.2.2.2.1, (he.trans (k2.e hr)).trans hq.2.2.2.2⟩
      | inr y =>
        rw [hp] at hq
        obtain ⟨hv, k3, k4, k5⟩ := hq
        obtain ⟨g1, g2, g3, -⟩ := hg _ _ y.1 y.2 (nx_b hsn).2 hp
        refine ⟨1, hv, fun _ => ⟨k3.1.1.2, k3.1.2.1.2.1, _, c_add k3 k4 (by omega) z, ?_⟩, fun q => absurd q (by decide)⟩
        rintro v h10 ⟨rfl, k6, k7, k8⟩
        have hres' : pbd (p (nx T n s) c) (fun s c => pLoop (opA T n) (nx T n) p f s (c ++ [z])) = res := hres
        rw [hp] at hres'
        have hl' : (y.2 ++ [z]).length = y.2.length + 1 := by rw [List.length_append]; rfl
        rw [nI_1]
        exact ⟨rfl, ih (k + 1) y.1 (y.2 ++ [z]) h10 (by omega) (by omega) k6 k7 (by omega) (((he.trans (k2.e hr)).trans k5).trans k8) hres'⟩
    refine v_X4_readAnd_12 D hD r hC.1.1 hC.1.2.1 hC.1.2.2 _ _ ⟨fun q => absurd q (nI_ge (b := 500) (by omega) (by omega)), fun _ => ⟨_, c_isWord (i := 16) hC (by decide), ?_⟩⟩
    rintro v h7 ⟨rfl, e7⟩
    subst h7
    rw [jsT_c.2.2.2.2.2.1]
    refine ⟨_, rfl, fun q => no ?_, fun q => step _ ?_ (isW_lt (bI_n0.1 q))⟩
    · have f1 := bI_0.1 q
      unfold opA
      rw [if_neg (by rw [f1]; decide)]
    · unfold opA
      rw [if_pos (bI_n0.1 q)]
theorem c_readAnd {r n D b : Nat} {T : Nat → Nat} {a : Int32} {p : Nat → List Int32 → PR} (hD : 30 ≤ D) (hx : CSpec mX4_readNot (D + 5) r T n a p) (hg : PG n b p) : CSpec mX4_readAnd (D + 6) r T n a (pBin (opA T n) (nx T n) p) := by
  intro h s c hC hA hl
  have hr := hC.1.r2
  have hsn := hC.2.2.1.2.2.2
  refine XSpec.of rfl (by decide) (Nat.le_of_ble_eq_true rfl) rfl (v_X4_readAnd_0 D hD r hC.1.1 hC.1.2.1 hC.1.2.2 a ⟨_, hx h s c hC hA hl, ?_⟩)
  intro v h1 hq
  cases hp : p s c with
  | inl e =>
    rw [hp] at hq
    refine ⟨0, hq.1, fun q => absurd rfl q, fun _ => ?_⟩
    unfold pBin
    rw [hp]
    exact ⟨rfl, hq.2⟩
  | inr y =>
    rw [hp] at hq
    obtain ⟨hv, k3, k4, k5⟩ := hq
    obtain ⟨g1, g2, g3, -⟩ := hg _ _ y.1 y.2 hsn hp
    refine ⟨1, hv, fun _ => l_creadAnd (h0 := h) hD hx hg (fun _ _ z => z) 500 0 y.1 y.2 h1 (by omega) (by omega) k3 k4 (by omega) k5 ?_, fun q => absurd q (by decide)⟩
    unfold pBin
    rw [hp]
    rfl
theorem l_creadExpr {r n D b : Nat} {T : Nat → Nat} {a : Int32} {p : Nat → List Int32 → PR} {h0 : XH} {res : PR} (hD : 30 ≤ D) (hx : CSpec mX4_readAnd (D + 6) r T n a p) (hg : PG n b p) {Q : Option Value → XH → Prop} {X : String → XH → Prop} (hQ : ∀ v h', CO r T n h0 res v h' → Q v h') : ∀ (f k s : Nat) (c : List Int32) (h : XH), f + k = 500 → k ≤ s → CT h r T n s → CC h r c → c.length ≤ s → Ech r h0 h → pLoop (opO T n) (nx T n) p f s c = res →
    XW (xrm (D + 7) 0 0) mX4_readExpr (xE 100 Q X 0 0) 100 0 0 h 52 [some (.ref 11), some (.int a), some (.int (nI k))] [] := by
  intro f
  induction f with
  | zero =>
    intro k s c h hk hks hC hA hl he hres
    refine v_X4_readExpr_52 D hD r hC.1.1 hC.1.2.1 hC.1.2.2 _ _ ⟨fun _ => hQ _ _ ?_, fun q => absurd (nI_le (a := 500) (by omega) (by omega)) q⟩
    rw [← hres]
    exact ⟨rfl, hC, hA, he⟩
  | succ f ih =>
    intro k s c h hk hks hC hA hl he hres
    have hr := hC.1.r2
    have hsn := hC.2.2.1.2.2.2
    have n5 := hC.2.1.2.1
    unfold pLoop at hres
    have no : opO T n s = none → Q (some (.int 1)) h := fun hz => hQ _ _ (by rw [hz] at hres; rw [← hres]; exact ⟨rfl, hC, hA, he⟩)
    have step : ∀ z, opO T n s = some z → s < n → ∃ Q1, XSpec mX4_readOn 14 0 0 100 100 [.ref 11] h Q1 xno ∧ ∀ v h8, Q1 v h8 → v = none ∧ (∃ Q1, XSpec mX4_readAnd (D + 6) 0 0 100 100 [.ref 11, .int a] h8 Q1 xno ∧ ∀ v h9, Q1 v h9 → ∃ r9 : Int32, v = some (.int r9) ∧ ((¬ r9 = 0 → (xP h9 11 7 = some r) ∧ ((xP h9 r 8 = some (r + 1)) ∧ (∃ Q1, XSpec mX0_add 1 0 0 100 100 [.ref (r + 1), .int z] h9 Q1 xno ∧ ∀ v h10, Q1 v h10 → v = none ∧ (XW (xrm (D + 7) 0 0) mX4_readExpr (xE 100 Q X 0 0) 100 0 0 h10 52 [some (.ref 11), some (.int a), some (.int (nI k + 1))] [])))) ∧ (r9 = 0 → Q (some (.int 0)) h9))) := fun z hz hlt => by
      rw [hz] at hres
      have hlx := nx_lt (T := T) hlt
      refine ⟨_, c_readOn hC, ?_⟩
      rintro v h8 ⟨rfl, k1, k2⟩
      refine ⟨rfl, _, hx h8 _ c k1 (hA.c hr k2) (by omega), ?_⟩
      intro v h9 hq
      cases hp : p (nx T n s) c with
      | inl e =>
        rw [hp] at hq
        refine ⟨0, hq.1, fun q => absurd rfl q, fun _ => hQ _ _ ?_⟩
        have hres' : pbd (p (nx T n s) c) (fun s c => pLoop (opO T n) (nx T n) p f s (c ++ [z])) = res := hres
        rw [hp] at hres'
        rw [← hres']
        exact ⟨rfl, hq.2.1, hq.2.2.1, hq.2.2.2.1, (he.trans (k2.e hr)).trans hq.2.2.2.2⟩
      | inr y =>
        rw [hp] at hq
        obtain ⟨hv, k3, k4, k5⟩ := hq
        obtain ⟨g1, g2, g3, -⟩ := hg _ _ y.1 y.2 (nx_b hsn).2 hp
        refine ⟨1, hv, fun _ => ⟨k3.1.1.2, k3.1.2.1.2.1, _, c_add k3 k4 (by omega) z, ?_⟩, fun q => absurd q (by decide)⟩
        rintro v h10 ⟨rfl, k6, k7, k8⟩
        have hres' : pbd (p (nx T n s) c) (fun s c => pLoop (opO T n) (nx T n) p f s (c ++ [z])) = res := hres
        rw [hp] at hres'
        have hl' : (y.2 ++ [z]).length = y.2.length + 1 := by rw [List.length_append]; rfl
        rw [nI_1]
        exact ⟨rfl, ih (k + 1) y.1 (y.2 ++ [z]) h10 (by omega) (by omega) k6 k7 (by omega) (((he.trans (k2.e hr)).trans k5).trans k8) hres'⟩
    refine v_X4_readExpr_52 D hD r hC.1.1 hC.1.2.1 hC.1.2.2 _ _ ⟨fun q => absurd q (nI_ge (b := 500) (by omega) (by omega)), fun _ => ⟨_, c_isWord (i := 17) hC (by decide), ?_⟩⟩
    rintro v h7 ⟨rfl, e7⟩
    subst h7
    rw [jsT_c.2.2.2.2.2.2]
    refine ⟨_, rfl, fun q => no ?_, fun q => step _ ?_ (isW_lt (bI_n0.1 q))⟩
    · have f1 := bI_0.1 q
      unfold opO
      rw [if_neg (by rw [f1]; decide)]
    · unfold opO
      rw [if_pos (bI_n0.1 q)]
theorem c_readExpr {r n D b : Nat} {T : Nat → Nat} {a : Int32} {p : Nat → List Int32 → PR} (hD : 30 ≤ D) (hx : CSpec mX4_readAnd (D + 6) r T n a p) (hg : PG n b p) (ha : a ≤ 5) : CSpec mX4_readExpr (D + 7) r T n a (pBin (opO T n) (nx T n) p) := by
  intro h s c hC hA hl
  have hr := hC.1.r2
  have hsn := hC.2.2.1.2.2.2
  refine XSpec.of rfl (by decide) (Nat.le_of_ble_eq_true rfl) rfl (v_X4_readExpr_0 D hD r hC.1.1 hC.1.2.1 hC.1.2.2 a ⟨fun _ => ⟨_, hx h s c hC hA hl, ?_⟩, fun q => absurd ha q⟩)
  intro v h1 hq
  cases hp : p s c with
  | inl e =>
    rw [hp] at hq
    refine ⟨0, hq.1, fun q => absurd rfl q, fun _ => ?_⟩
    unfold pBin
    rw [hp]
    exact ⟨rfl, hq.2⟩
  | inr y =>
    rw [hp] at hq
    obtain ⟨hv, k3, k4, k5⟩ := hq
    obtain ⟨g1, g2, g3, -⟩ := hg _ _ y.1 y.2 hsn hp
    refine ⟨1, hv, fun _ => l_creadExpr (h0 := h) hD hx hg (fun _ _ z => z) 500 0 y.1 y.2 h1 (by omega) (by omega) k3 k4 (by omega) k5 ?_, fun q => absurd q (by decide)⟩
    unfold pBin
    rw [hp]
    rfl
