/-! READ: the reference's EXPR -/
theorem jsT_d : jsT 32 = wThrow ∧ jsT 33 = wAt ∧ jsT 34 = wLast ∧ jsT 35 = wExits ∧ jsT 43 = wNot ∧ jsT 44 = wAnd ∧ jsT 45 = wOr := by decide
def MC (h : XH) (c : List Int32) : Prop := xI h 59 14 = nI c.length ∧ ∀ k, k < c.length → xI h 63 (500 + k) = trc (c.getD k 0)
def MEch (h h' : XH) : Prop := (∀ c, c ≠ 56 → c ≠ 59 → c ≠ 63 → xI h' c = xI h c) ∧ (∀ j, ¬ SB j → xI h' 56 j = xI h 56 j) ∧ (∀ j, j ≠ 14 → xI h' 59 j = xI h 59 j) ∧ (∀ k, k < 500 → xI h' 63 k = xI h 63 k) ∧ xP h' = xP h
theorem MEch.rfl {h : XH} : MEch h h := ⟨fun _ _ _ _ => Eq.refl _, fun _ _ => Eq.refl _, fun _ _ => Eq.refl _, fun _ _ => Eq.refl _, Eq.refl _⟩
theorem MEch.trans {h h1 h2 : XH} (a : MEch h h1) (b : MEch h1 h2) : MEch h h2 := ⟨fun c q1 q2 q3 => (b.1 c q1 q2 q3).trans (a.1 c q1 q2 q3), fun j q => (b.2.1 j q).trans (a.2.1 j q), fun j q => (b.2.2.1 j q).trans (a.2.2.1 j q), fun k q => (b.2.2.2.1 k q).trans (a.2.2.2.1 k q), b.2.2.2.2.trans a.2.2.2.2⟩
theorem Mfc.e {h h' : XH} (a : Mfc h h') : MEch h h' := ⟨fun c q _ _ => a.1 c q, a.2.1, fun j _ => by rw [a.1 59 (by decide)], fun k _ => by rw [a.1 63 (by decide)], a.2.2⟩
theorem Mch.e {h h' : XH} (a : Mch h h') : MEch h h' := a.fc.e
theorem MC.f {h h' : XH} {c : List Int32} (hC : MC h c) (a : Mfc h h') : MC h' c := by
  unfold MC at *
  rw [a.1 59 (by decide), a.1 63 (by decide)]; exact hC
def MS (h : XH) (T : Nat → Nat) (n : Nat) (x : PR) : Prop := MStr (xP h) ∧ (match x with
  | .inl e => MB h T n e.1 e.2
  | .inr y => MK h T n y.1 ∧ MC h y.2)
theorem MS.hM {h : XH} {T : Nat → Nat} {n : Nat} {x : PR} (hS : MS h T n x) : xMod (xP h) := by
  rcases x with e | y
  · exact hS.2.1
  · exact hS.2.1.1
def mkS (T : Nat → Nat) (n c : Nat) (x : PR) : Bool := match x with
  | .inl _ => false
  | .inr y => isS T n c y.1
def mkW (T : Nat → Nat) (n : Nat) (W : List Nat) (x : PR) : Bool := match x with
  | .inl _ => false
  | .inr y => isW T n W y.1
theorem m_markedS {h : XH} {T : Nat → Nat} {n c : Nat} {x : PR} (hS : MS h T n x) (hc : c < 256) : XSpec mX11_isMarked 1 0 0 100 100 [.ref 56, .int (nI c)] h (xq (some (.int (bI (mkS T n c x)))) h) xno := by
  rcases x with e | y
  · exact m_isMarkedB hS.2 _
  · exact m_isMarked hS.2.1 hc
theorem m_isS {h : XH} {T : Nat → Nat} {n i : Nat} {x : PR} (hS : MS h T n x) (hi : i < jsN) : XSpec mX11_is 12 0 0 100 100 [.ref 56, .ref (1000 + i)] h (xq (some (.int (bI (mkW T n (jsT i) x)))) h) xno := by
  rcases x with e | y
  · exact m_isB hS.2 hi
  · exact m_is hS.2.1 hi
theorem m_lay {h : XH} {n s : Nat} {T : Nat → Nat} {c : List Int32} (hK : MK h T n s) (hA : MC h c) (hl : c.length < 500) {z z' : Int32} (hz : trc z = z') : XSpec mX11_lay 1 0 0 100 100 [.ref 56, .int z'] h (fun v h' => v = none ∧ MK h' T n s ∧ MC h' (c ++ [z]) ∧ MEch h h') xno := by
  have hK' := hK
  obtain ⟨hM, hT, hk, hb⟩ := hK
  have e500 : (500 : Int32) = nI 500 := rfl
  refine XSpec.of rfl (by decide) (Nat.le_of_ble_eq_true rfl) rfl (v_X11_lay_0 hM z' ⟨fun _ => ?_, fun q => absurd hb q⟩)
  rw [hA.1, e500, nI_add, nI_clamp (by omega), nI_1]
  refine ⟨vp_in_nI (by omega) (by omega), ?_⟩
  have n1 : ∀ q, q ≠ 59 → q ≠ 63 → xI (xSI 59 (va_up (xI h 59) 14 (nI (c.length + 1))) (xSI 63 (va_up (xI h 63) (500 + c.length) z') h)) q = xI h q := fun q q1 q2 => (xI_ne q1).trans (xI_ne q2)
  refine ⟨rfl, ⟨hM, ?_, ?_, ?_⟩, ⟨?_, fun k hk2 => ?_⟩, fun q q1 q2 q3 => n1 q q2 q3, fun j _ => by rw [n1 56 (by decide) (by decide)], fun j q => by rw [xI_at, va_up_of _ _ q], fun k q => ?_, rfl⟩
  · unfold TM at *
    rw [n1 56 (by decide) (by decide), n1 66 (by decide) (by decide)]; exact hT
  · unfold KM at *
    rw [n1 56 (by decide) (by decide)]; exact hk
  · rw [n1 56 (by decide) (by decide)]; exact hb
  · rw [xI_at, va_up_eq, List.length_append]; rfl
  · rw [List.length_append] at hk2
    have hk3 : k < c.length + 1 := hk2
    rw [xI_ne (by decide), xI_at]
    by_cases y : k = c.length
    · rw [y, va_up_eq, sn_at, hz]
    · rw [va_up_of _ _ (by omega), sn_in (by omega)]; exact hA.2 k (by omega)
  · rw [xI_ne (by decide), xI_at, va_up_of _ _ (by omega)]
theorem m_layS {h : XH} {T : Nat → Nat} {n : Nat} {x : PR} (hS : MS h T n x) (hl : ∀ y, x = .inr y → y.2.length < 500) {z z' : Int32} (hz : trc z = z') : XSpec mX11_lay 1 0 0 100 100 [.ref 56, .int z'] h (fun v h' => v = none ∧ MS h' T n (pbd x (fun s c => .inr (s, c ++ [z]))) ∧ MEch h h') xno := by
  rcases x with e | y
  · refine XSpec.of rfl (by decide) (Nat.le_of_ble_eq_true rfl) rfl (v_X11_lay_0 hS.hM z' ⟨fun q => absurd q hS.2.n0, fun _ => ⟨rfl, hS, MEch.rfl⟩⟩)
  · refine (m_lay hS.2.1 hS.2.2 (hl y rfl) hz).mono ?_ (fun _ _ q => q)
    rintro v h' ⟨rfl, k1, k2, k3⟩
    exact ⟨rfl, ⟨by rw [k3.2.2.2.2]; exact hS.1, k1, k2⟩, k3⟩
theorem m_markS {h : XH} {T : Nat → Nat} {n c : Nat} {x : PR} (hS : MS h T n x) (hc : c < 256) : XSpec mX11_mark 3 0 0 100 100 [.ref 56, .int (nI c)] h (fun v h' => v = none ∧ MS h' T n (pbd x (fun s c' => if isS T n c s = true then .inr (nx T n s, c') else .inl (1, s))) ∧ MEch h h') xno := by
  rcases x with e | y
  · refine (m_markB hS.2 _).mono ?_ (fun _ _ q => q)
    rintro v h' ⟨rfl, e⟩
    subst h'
    exact ⟨rfl, hS, MEch.rfl⟩
  · refine (m_mark hS.2.1 hc).mono ?_ (fun _ _ q => q)
    rintro v h' ⟨rfl, k, k3⟩
    refine ⟨rfl, ⟨by rw [k3.2.2]; exact hS.1, ?_⟩, k3.e⟩
    show (match (if isS T n c y.1 = true then Sum.inr (nx T n y.1, y.2) else Sum.inl (1, y.1) : PR) with | .inl e => MB h' T n e.1 e.2 | .inr y => MK h' T n y.1 ∧ MC h' y.2)
    rcases k with ⟨k1, k2⟩ | ⟨k1, k2⟩
    · rw [if_pos k1]
      exact ⟨k2, hS.2.2.f k3⟩
    · rw [if_neg (by rw [k1]; decide)]
      exact k2
def RSpec (g : Bool) (M : XM) (D : Nat) (T : Nat → Nat) (n : Nat) (a : Int32) (p : Nat → List Int32 → PR) : Prop := ∀ (h : XH) (x : PR), (g = false → ∃ e, x = .inl e) → (∀ y, x = .inr y → y.2.length ≤ y.1) → MS h T n x → XSpec M D 0 0 100 100 [.ref 56, .int a] h (fun v h' => v = none ∧ MS h' T n (pbd x p) ∧ MEch h h') xno
theorem trc_n {v : Nat} (h : v ≤ 9999) : trc (nI v) = nI v := (trc_op (nI_gt5 h).2).1
theorem MS.st {h : XH} {T : Nat → Nat} {n : Nat} {y : Nat × List Int32} (hS : MS h T n (.inr y)) : XSpec mX11_stepOn 2 0 0 100 100 [.ref 56] h (fun v h' => v = none ∧ MS h' T n (.inr (nx T n y.1, y.2)) ∧ MEch h h') xno := by
  refine (m_stepOn hS.2.1).mono ?_ (fun _ _ q => q)
  rintro v h' ⟨rfl, k1, k2⟩
  exact ⟨rfl, ⟨by rw [k2.2.2]; exact hS.1, k1, hS.2.2.f k2.fc⟩, k2.e⟩
theorem m_readPart {n D b : Nat} {T : Nat → Nat} {a : Int32} {g : Bool} {ex : Nat → List Int32 → PR} (hD : 18 ≤ D) (hx : g = true → RSpec true mX11_readExpression D T n (a + 1) ex) (hg : PG n b ex) : RSpec g mX11_readPart (D + 1) T n a (pPart T n ex) := by
  intro h x hgx hcap hS
  rcases x with e | ⟨s, c⟩
  · refine XSpec.of rfl (by decide) (Nat.le_of_ble_eq_true rfl) rfl (v_X11_readPart_0 D hD hS.hM a ⟨fun q => absurd q hS.2.n0, fun _ => ⟨rfl, hS, MEch.rfl⟩⟩)
  · have gt : g = true := by
      cases g
      · obtain ⟨e, he⟩ := hgx rfl
        cases he
      · rfl
    have hx' := hx gt
    have hl : c.length ≤ s := hcap _ rfl
    obtain ⟨hM, hT, hk, hb⟩ := hS.2.1
    have n5 := hT.2.1
    have hsn := hk.2.2.2.2.1
    have kl := kd_le (T := T) (n := n) (s := s)
    refine XSpec.of rfl (by decide) (Nat.le_of_ble_eq_true rfl) rfl (v_X11_readPart_0 D hD hM a ⟨fun _ => ?_, fun q => absurd hb q⟩)
    have hk1 : xI h 56 14 = nI (kd T n s) := hk.2.2.2.1
    rw [hk1]
    have ep : kd T n s ≠ 3 → pPart T n ex s c = (if kd T n s = 1 then (match pVal T n s with | none => .inl (3, s) | some z => .inr (nx T n s, c ++ [z])) else match num T n 0 9999 s with | .inl f => .inl (f, s) | .inr v => .inr (nx T n s, c ++ [nI v])) := fun h3 => by
      unfold pPart
      rw [if_neg (fun z => h3 (isS_t z).1)]
      rfl
    show ((¬ nI (kd T n s) = 2 → _) ∧ _)
    refine ⟨fun q => ⟨fun q1 => ?_, fun q1 => ?_⟩, fun q => ?_⟩
    · have k2 : ¬ kd T n s = 2 := fun z => q (by rw [z]; rfl)
      have k1 : ¬ kd T n s = 1 := fun z => q1 (by rw [z]; rfl)
      refine ⟨_, m_markS (c := 40) hS (by decide), ?_⟩
      rintro v h1 ⟨rfl, m1, m2⟩
      refine ⟨rfl, _, hx' h1 _ (fun z => absurd z (by decide)) (fun y hy => ?_) m1, ?_⟩
      · have hy' : (if isS T n 40 s = true then Sum.inr (nx T n s, c) else Sum.inl (1, s) : PR) = .inr y := hy
        split at hy'
        · cases hy'
          exact Nat.le_trans hl (nx_b (T := T) hsn).1
        · cases hy'
      rintro v h2 ⟨rfl, m3, m4⟩
      refine ⟨rfl, _, m_markS (c := 41) m3 (by decide), ?_⟩
      rintro v h3 ⟨rfl, m5, m6⟩
      refine ⟨rfl, rfl, ?_, (m2.trans m4).trans m6⟩
      have e : pbd (.inr (s, c)) (pPart T n ex) = pbd (pbd (pbd (.inr (s, c)) (fun s c' => if isS T n 40 s = true then .inr (nx T n s, c') else .inl (1, s))) ex) (fun s c' => if isS T n 41 s = true then .inr (nx T n s, c') else .inl (1, s)) := by
        show pPart T n ex s c = pbd (pbd (if isS T n 40 s = true then .inr (nx T n s, c) else .inl (1, s)) ex) _
        unfold pPart
        by_cases z : isS T n 40 s = true
        · rw [if_pos z, if_pos z]
          rfl
        · rw [if_neg z, if_neg z, if_neg k1]
          unfold num
          rw [if_pos k2]
          rfl
      rw [e]
      exact m5
    · have k1 : kd T n s = 1 := (nI_eq (b := 1) (by omega) (by omega)).1 q1
      have hlt : s < n := kd_lt (T := T) (by rw [k1]; decide)
      obtain ⟨d0, d1, d2, d3, -⟩ := jsT_d
      have e0 : pbd (.inr (s, c)) (pPart T n ex) = (match pVal T n s with | none => .inl (3, s) | some z => .inr (nx T n s, c ++ [z])) := by
        show pPart T n ex s c = _
        rw [ep (by omega), if_pos k1]
      rw [e0]
      refine ⟨fun v h4 => h4 = h ∧ ((∃ k, k < 4 ∧ v = some (.int (nI k)) ∧ pVal T n s = some (-1 - nI k) ∧ trc (-1 - nI k) = -1 - nI k) ∨ (v = some (.int (-1)) ∧ pVal T n s = none)), ?_, ?_⟩
      · refine XSpec.of rfl (by decide) (Nat.le_of_ble_eq_true rfl) rfl (v_X11_which_0 hM 58 4 rfl (by decide) (l_mwhich (i0 := 32) hS.2.1 rfl (by decide) (by decide) (fun k hk => by rw [hS.1.2 k hk]) (fun k hk4 w1 w2 => ⟨rfl, Or.inl ⟨k, hk4, rfl, ?_⟩⟩) (fun w => ⟨rfl, Or.inr ⟨rfl, ?_⟩⟩) 4 0 (by omega) (fun j hj => absurd hj (Nat.not_lt_zero j))))
        · unfold pVal
          have hc4 : k = 0 ∨ k = 1 ∨ k = 2 ∨ k = 3 := by omega
          have w3 : ∀ j W, j < k → jsT (32 + j) = W → ¬ isW T n W s = true := fun j W hj e z => by
            have := w2 j hj
            rw [e, z] at this
            exact absurd this (by decide)
          rcases hc4 with z | z | z | z <;> subst z
          · rw [if_pos (by rw [← d0]; exact w1)]
            exact ⟨by decide, by decide⟩
          · rw [if_neg (w3 0 _ (by omega) d0), if_pos (by rw [← d1]; exact w1)]
            exact ⟨by decide, by decide⟩
          · rw [if_neg (w3 0 _ (by omega) d0), if_neg (w3 1 _ (by omega) d1), if_pos (by rw [← d2]; exact w1)]
            exact ⟨by decide, by decide⟩
          · rw [if_neg (w3 0 _ (by omega) d0), if_neg (w3 1 _ (by omega) d1), if_neg (w3 2 _ (by omega) d2), if_pos (by rw [← d3]; exact w1)]
            exact ⟨by decide, by decide⟩
        · have w3 : ∀ j W, j < 4 → jsT (32 + j) = W → ¬ isW T n W s = true := fun j W hj e z => by
            have := w j hj
            rw [e, z] at this
            exact absurd this (by decide)
          unfold pVal
          rw [if_neg (w3 0 _ (by omega) d0), if_neg (w3 1 _ (by omega) d1), if_neg (w3 2 _ (by omega) d2), if_neg (w3 3 _ (by omega) d3)]
      · rintro v h4 ⟨e4, hv⟩
        subst h4
        rcases hv with ⟨k, hk4, rfl, pv, tv⟩ | ⟨rfl, pv⟩
        · refine ⟨_, rfl, fun _ => ⟨_, m_layS hS (fun y hy => by cases hy; show c.length < 500; omega) tv, ?_⟩, fun z => absurd z (nI_nm1 (by omega))⟩
          rintro v h5 ⟨rfl, m1, m2⟩
          refine ⟨rfl, fun z => absurd m1.2.1.2.2.2 z, fun _ => ⟨_, MS.st m1, ?_⟩⟩
          rintro v h6 ⟨rfl, m3, m4⟩
          rw [pv]
          exact ⟨rfl, rfl, m3, m2.trans m4⟩
        · refine ⟨_, rfl, fun z => absurd rfl z, fun _ => ⟨_, m_wrong hS.2.1 (f := 3) (by omega), ?_⟩⟩
          rintro v h7 ⟨rfl, m1, m2⟩
          have m3 : MS h7 T n (.inl (3, s)) := ⟨by rw [m2.2.2]; exact hS.1, m1⟩
          refine ⟨rfl, _, m_layS (z := trc (-1 - -1)) m3 (fun y hy => by cases hy) (by decide), ?_⟩
          rintro v h8 ⟨rfl, m4, m5⟩
          refine ⟨rfl, fun _ => ?_, fun z => absurd z m4.2.n0⟩
          rw [pv]
          exact ⟨rfl, m4, m2.e.trans m5⟩
    · have k2 : kd T n s = 2 := (nI_eq (b := 2) (by omega) (by omega)).1 q
      have hlt : s < n := kd_lt (T := T) (by rw [k2]; decide)
      have e0 : pbd (.inr (s, c)) (pPart T n ex) = (match num T n 0 9999 s with | .inl f => .inl (f, s) | .inr v => .inr (nx T n s, c ++ [nI v])) := by
        show pPart T n ex s c = _
        rw [ep (by omega), if_neg (by omega)]
      rw [e0]
      refine ⟨_, m_readNumber (lo := 0) (hi := 9999) hS.2.1 (by omega) (by omega), ?_⟩
      rintro v h10 ⟨⟨w, e1, rfl, m1⟩ | ⟨f, e1, rfl, m1⟩, m2⟩
      · have m3 : MS h10 T n (.inr (nx T n s, c)) := ⟨by rw [m2.2.2]; exact hS.1, m1, hS.2.2.f m2⟩
        refine ⟨_, rfl, _, m_layS m3 (fun y hy => by cases hy; show c.length < 500; omega) (trc_n (num_r e1).2.2), ?_⟩
        rintro v h11 ⟨rfl, m4, m5⟩
        rw [e1]
        exact ⟨rfl, rfl, m4, m2.e.trans m5⟩
      · have m3 : MS h10 T n (.inl (f, s)) := ⟨by rw [m2.2.2]; exact hS.1, m1⟩
        refine ⟨_, rfl, _, m_layS (z := 0) m3 (fun y hy => by cases hy) (by decide), ?_⟩
        rintro v h11 ⟨rfl, m4, m5⟩
        rw [e1]
        exact ⟨rfl, rfl, m4, m2.e.trans m5⟩
theorem pLoop_no {op : Nat → Option Int32} {nxt : Nat → Nat} {p : Nat → List Int32 → PR} {s : Nat} {c : List Int32} (h : op s = none) : ∀ f, pLoop op nxt p f s c = .inr (s, c) := by
  intro f
  cases f with
  | zero => rfl
  | succ f =>
    unfold pLoop
    rw [h]
/-! the loops over operators -/
theorem l_mreadProduct {n D b : Nat} {T : Nat → Nat} {a : Int32} {g : Bool} {p : Nat → List Int32 → PR} {h0 : XH} {res : PR} (hD : 18 ≤ D) (hx : RSpec g mX11_readPart (D + 1) T n a p) (hg : PG n b p) {Q : Option Value → XH → Prop} {X : String → XH → Prop} (hQ : ∀ h', MS h' T n res → MEch h0 h' → Q none h') : ∀ (f : Nat) (x : PR) (h : XH), (g = false → ∃ e, x = .inl e) → (∀ y, x = .inr y → y.2.length ≤ y.1 ∧ n ≤ y.1 + f) → MS h T n x → MEch h0 h → pbd x (pLoop (opM T n) (nx T n) p f) = res →
    XW (xrm (D + 2) 0 0) mX11_readProduct (xE 100 Q X 0 0) 100 0 0 h 5 [some (.ref 56), some (.int a), none] [] := by
  intro f
  induction f with
  | zero =>
    intro x h hgx hcap hS he hres
    have no : mkS T n 42 x = false ∧ mkS T n 47 x = false := by
      rcases x with e | y
      · exact ⟨rfl, rfl⟩
      · have := (hcap y rfl).2
        exact ⟨decide_eq_false (fun z => by have := isS_lt (decide_eq_true z : isS T n 42 y.1 = true); omega), decide_eq_false (fun z => by have := isS_lt (decide_eq_true z : isS T n 47 y.1 = true); omega)⟩
    have ex : Q none h := hQ h (by rw [← hres]; rcases x with e | y; exact hS; exact hS) he
    refine v_X11_readProduct_5 D hD hS.hM _ ⟨_, m_markedS (c := 42) hS (by decide), ?_⟩
    rintro v h2 ⟨rfl, e2⟩
    subst h2
    rw [no.1]
    refine ⟨_, rfl, fun q => absurd rfl q, fun _ => ⟨_, m_markedS (c := 47) hS (by decide), ?_⟩⟩
    rintro v h3 ⟨rfl, e3⟩
    subst h3
    rw [no.2]
    exact ⟨_, rfl, fun _ => ex, fun q => absurd rfl q⟩
  | succ f ih =>
    intro x h hgx hcap hS he hres
    have done : (∀ y, x = .inr y → opM T n y.1 = none) → Q none h := fun hn => hQ h (by
      rw [← hres]
      rcases x with e | y
      · exact hS
      · show MS h T n (pLoop (opM T n) (nx T n) p (f + 1) y.1 y.2)
        rw [pLoop_no (hn y rfl)]
        exact hS) he
    have step : ∀ (y : Nat × List Int32) (z z' : Int32), x = .inr y → opM T n y.1 = some z → y.1 < n → trc z = z' → ∃ Q1, XSpec mX11_stepOn 2 0 0 100 100 [.ref 56] h Q1 xno ∧ ∀ v h5, Q1 v h5 → v = none ∧ (∃ Q1, XSpec mX11_readPart (D + 1) 0 0 100 100 [.ref 56, .int a] h5 Q1 xno ∧ ∀ v h6, Q1 v h6 → v = none ∧ (∃ Q1, XSpec mX11_lay 1 0 0 100 100 [.ref 56, .int z'] h6 Q1 xno ∧ ∀ v h7, Q1 v h7 → v = none ∧ (XW (xrm (D + 2) 0 0) mX11_readProduct (xE 100 Q X 0 0) 100 0 0 h7 5 [some (.ref 56), some (.int a), none] []))) := fun y z z' hy hz hlt hzz => by
      subst hy
      obtain ⟨c1, c2⟩ := hcap y rfl
      have hlx := nx_lt (T := T) hlt
      have n5 := hS.2.1.2.1.2.1
      refine ⟨_, MS.st hS, ?_⟩
      rintro v h5 ⟨rfl, m1, m2⟩
      refine ⟨rfl, _, hx h5 _ (fun z => by obtain ⟨e, w⟩ := hgx z; cases w) (fun w hw => by cases hw; show y.2.length ≤ nx T n y.1; omega) m1, ?_⟩
      rintro v h6 ⟨rfl, m3, m4⟩
      have hp : ∀ w, p (nx T n y.1) y.2 = .inr w → w.2.length < w.1 ∧ w.1 ≤ n ∧ nx T n y.1 < w.1 := fun w hw => by
        obtain ⟨g1, g2, g3, -⟩ := hg _ _ w.1 w.2 (nx_b (Nat.le_of_lt hlt)).2 hw
        omega
      refine ⟨rfl, _, m_layS m3 (fun w hw => by have := hp w hw; omega) hzz, ?_⟩
      rintro v h7 ⟨rfl, m5, m6⟩
      refine ⟨rfl, ih (pbd (p (nx T n y.1) y.2) (fun s c => .inr (s, c ++ [z]))) h7 (fun z => by obtain ⟨e, w⟩ := hgx z; cases w) (fun w hw => ?_) m5 (((he.trans m2).trans m4).trans m6) ?_⟩
      · obtain ⟨s1, c1', e1, e2⟩ := pbd_r (s' := w.1) (c' := w.2) hw
        have h3 := hp (s1, c1') e1
        have e3 : (s1, c1' ++ [z]) = w := Sum.inr.inj e2
        subst e3
        have hl' : (c1' ++ [z]).length = c1'.length + 1 := by rw [List.length_append]; rfl
        show (c1' ++ [z]).length ≤ s1 ∧ n ≤ s1 + f
        have h3' : c1'.length < s1 ∧ s1 ≤ n ∧ nx T n y.1 < s1 := h3
        omega
      · rw [← hres, pbd_a]
        show _ = pLoop (opM T n) (nx T n) p (f + 1) y.1 y.2
        unfold pLoop
        rw [hz]
        rfl
    have s40 : ∀ (y : Nat × List Int32) (z z' : Int32), x = .inr y → opM T n y.1 = some z → y.1 < n → trc z = z' → XW (xrm (D + 2) 0 0) mX11_readProduct (xE 100 Q X 0 0) 100 0 0 h 40 [some (.ref 56), some (.int a), some (.int z')] [] := fun y z z' hy hz hlt hzz => v_X11_readProduct_40 D hD hS.hM _ _ (step y z z' hy hz hlt hzz)
    have s23 : (mkS T n 42 x = true ∨ mkS T n 47 x = true) → XW (xrm (D + 2) 0 0) mX11_readProduct (xE 100 Q X 0 0) 100 0 0 h 23 [some (.ref 56), some (.int a), none] [] := fun hor => by
      rcases x with e | y
      · rcases hor with z | z <;> exact absurd z (by show ¬ (false = true); decide)
      · have hor' : isS T n 42 y.1 = true ∨ isS T n 47 y.1 = true := hor
        have hlt : y.1 < n := by rcases hor' with z | z <;> exact isS_lt z
        refine v_X11_readProduct_23 D hD hS.hM _ ⟨_, m_markedS (c := 42) hS (by decide), ?_⟩
        rintro v h4 ⟨rfl, e4⟩
        subst h4
        refine ⟨_, rfl, fun q => s40 y (-13) _ rfl ?_ hlt (by decide), fun q => s40 y (-12) _ rfl ?_ hlt (by decide)⟩
        · have f1 : isS T n 42 y.1 = false := bI_0.1 q
          unfold opM
          rw [if_neg (by rw [f1]; decide), if_pos (by rcases hor' with z | z; rw [f1] at z; exact absurd z (by decide); exact z)]
        · have f1 : isS T n 42 y.1 = true := bI_n0.1 q
          unfold opM
          rw [if_pos f1]
    refine v_X11_readProduct_5 D hD hS.hM _ ⟨_, m_markedS (c := 42) hS (by decide), ?_⟩
    rintro v h2 ⟨rfl, e2⟩
    subst h2
    refine ⟨_, rfl, fun q => s23 (Or.inl (bI_n0.1 q)), fun q => ⟨_, m_markedS (c := 47) hS (by decide), ?_⟩⟩
    have f1 := bI_0.1 q
    rintro v h3 ⟨rfl, e3⟩
    subst h3
    refine ⟨_, rfl, fun q2 => done (fun y hy => ?_), fun q2 => s23 (Or.inr (bI_n0.1 q2))⟩
    have f2 := bI_0.1 q2
    subst hy
    have f1' : isS T n 42 y.1 = false := f1
    have f2' : isS T n 47 y.1 = false := f2
    unfold opM
    rw [if_neg (by rw [f1']; decide), if_neg (by rw [f2']; decide)]
theorem m_readProduct {n D b : Nat} {T : Nat → Nat} {a : Int32} {g : Bool} {p : Nat → List Int32 → PR} (hn : n ≤ 500) (hD : 18 ≤ D) (hx : RSpec g mX11_readPart (D + 1) T n a p) (hg : PG n b p) : RSpec g mX11_readProduct (D + 2) T n a (pBin (opM T n) (nx T n) p) := by
  intro h x hgx hcap hS
  refine XSpec.of rfl (by decide) (Nat.le_of_ble_eq_true rfl) rfl (v_X11_readProduct_0 D hD hS.hM a ⟨_, hx h x hgx hcap hS, ?_⟩)
  rintro v h1 ⟨rfl, m1, m2⟩
  refine ⟨rfl, l_mreadProduct (h0 := h) hD hx hg (fun h' k1 k2 => ⟨rfl, k1, k2⟩) 500 _ h1 (fun z => ?_) (fun y hy => ?_) m1 m2 ?_⟩
  · obtain ⟨e, rfl⟩ := hgx z
    exact ⟨e, rfl⟩
  · rcases x with e | ⟨s, c⟩
    · cases hy
    · have hs : s ≤ n := hS.2.1.2.2.1.2.2.2.2.1
      have hl : c.length ≤ s := hcap _ rfl
      obtain ⟨g1, g2, g3, -⟩ := hg s c y.1 y.2 hs hy
      omega
  · rw [pbd_a]
    rfl
theorem l_mreadSum {n D b : Nat} {T : Nat → Nat} {a : Int32} {g : Bool} {p : Nat → List Int32 → PR} {h0 : XH} {res : PR} (hD : 18 ≤ D) (hx : RSpec g mX11_readProduct (D + 2) T n a p) (hg : PG n b p) {Q : Option Value → XH → Prop} {X : String → XH → Prop} (hQ : ∀ h', MS h' T n res → MEch h0 h' → Q none h') : ∀ (f : Nat) (x : PR) (h : XH), (g = false → ∃ e, x = .inl e) → (∀ y, x = .inr y → y.2.length ≤ y.1 ∧ n ≤ y.1 + f) → MS h T n x → MEch h0 h → pbd x (pLoop (opP T n) (nx T n) p f) = res →
    XW (xrm (D + 3) 0 0) mX11_readSum (xE 100 Q X 0 0) 100 0 0 h 5 [some (.ref 56), some (.int a), none] [] := by
  intro f
  induction f with
  | zero =>
    intro x h hgx hcap hS he hres
    have no : mkS T n 43 x = false ∧ mkS T n 45 x = false := by
      rcases x with e | y
      · exact ⟨rfl, rfl⟩
      · have := (hcap y rfl).2
        exact ⟨decide_eq_false (fun z => by have := isS_lt (decide_eq_true z : isS T n 43 y.1 = true); omega), decide_eq_false (fun z => by have := isS_lt (decide_eq_true z : isS T n 45 y.1 = true); omega)⟩
    have ex : Q none h := hQ h (by rw [← hres]; rcases x with e | y; exact hS; exact hS) he
    refine v_X11_readSum_5 D hD hS.hM _ ⟨_, m_markedS (c := 43) hS (by decide), ?_⟩
    rintro v h2 ⟨rfl, e2⟩
    subst h2
    rw [no.1]
    refine ⟨_, rfl, fun q => absurd rfl q, fun _ => ⟨_, m_markedS (c := 45) hS (by decide), ?_⟩⟩
    rintro v h3 ⟨rfl, e3⟩
    subst h3
    rw [no.2]
    exact ⟨_, rfl, fun _ => ex, fun q => absurd rfl q⟩
  | succ f ih =>
    intro x h hgx hcap hS he hres
    have done : (∀ y, x = .inr y → opP T n y.1 = none) → Q none h := fun hn => hQ h (by
      rw [← hres]
      rcases x with e | y
      · exact hS
      · show MS h T n (pLoop (opP T n) (nx T n) p (f + 1) y.1 y.2)
        rw [pLoop_no (hn y rfl)]
        exact hS) he
    have step : ∀ (y : Nat × List Int32) (z z' : Int32), x = .inr y → opP T n y.1 = some z → y.1 < n → trc z = z' → ∃ Q1, XSpec mX11_stepOn 2 0 0 100 100 [.ref 56] h Q1 xno ∧ ∀ v h5, Q1 v h5 → v = none ∧ (∃ Q1, XSpec mX11_readProduct (D + 2) 0 0 100 100 [.ref 56, .int a] h5 Q1 xno ∧ ∀ v h6, Q1 v h6 → v = none ∧ (∃ Q1, XSpec mX11_lay 1 0 0 100 100 [.ref 56, .int z'] h6 Q1 xno ∧ ∀ v h7, Q1 v h7 → v = none ∧ (XW (xrm (D + 3) 0 0) mX11_readSum (xE 100 Q X 0 0) 100 0 0 h7 5 [some (.ref 56), some (.int a), none] []))) := fun y z z' hy hz hlt hzz => by
      subst hy
      obtain ⟨c1, c2⟩ := hcap y rfl
      have hlx := nx_lt (T := T) hlt
      have n5 := hS.2.1.2.1.2.1
      refine ⟨_, MS.st hS, ?_⟩
      rintro v h5 ⟨rfl, m1, m2⟩
      refine ⟨rfl, _, hx h5 _ (fun z => by obtain ⟨e, w⟩ := hgx z; cases w) (fun w hw => by cases hw; show y.2.length ≤ nx T n y.1; omega) m1, ?_⟩
      rintro v h6 ⟨rfl, m3, m4⟩
      have hp : ∀ w, p (nx T n y.1) y.2 = .inr w → w.2.length < w.1 ∧ w.1 ≤ n ∧ nx T n y.1 < w.1 := fun w hw => by
        obtain ⟨g1, g2, g3, -⟩ := hg _ _ w.1 w.2 (nx_b (Nat.le_of_lt hlt)).2 hw
        omega
      refine ⟨rfl, _, m_layS m3 (fun w hw => by have := hp w hw; omega) hzz, ?_⟩
      rintro v h7 ⟨rfl, m5, m6⟩
      refine ⟨rfl, ih (pbd (p (nx T n y.1) y.2) (fun s c => .inr (s, c ++ [z]))) h7 (fun z => by obtain ⟨e, w⟩ := hgx z; cases w) (fun w hw => ?_) m5 (((he.trans m2).trans m4).trans m6) ?_⟩
      · obtain ⟨s1, c1', e1, e2⟩ := pbd_r (s' := w.1) (c' := w.2) hw
        have h3 := hp (s1, c1') e1
        have e3 : (s1, c1' ++ [z]) = w := Sum.inr.inj e2
        subst e3
        have hl' : (c1' ++ [z]).length = c1'.length + 1 := by rw [List.length_append]; rfl
        show (c1' ++ [z]).length ≤ s1 ∧ n ≤ s1 + f
        have h3' : c1'.length < s1 ∧ s1 ≤ n ∧ nx T n y.1 < s1 := h3
        omega
      · rw [← hres, pbd_a]
        show _ = pLoop (opP T n) (nx T n) p (f + 1) y.1 y.2
        unfold pLoop
        rw [hz]
        rfl
    have s40 : ∀ (y : Nat × List Int32) (z z' : Int32), x = .inr y → opP T n y.1 = some z → y.1 < n → trc z = z' → XW (xrm (D + 3) 0 0) mX11_readSum (xE 100 Q X 0 0) 100 0 0 h 40 [some (.ref 56), some (.int a), some (.int z')] [] := fun y z z' hy hz hlt hzz => v_X11_readSum_40 D hD hS.hM _ _ (step y z z' hy hz hlt hzz)
    have s23 : (mkS T n 43 x = true ∨ mkS T n 45 x = true) → XW (xrm (D + 3) 0 0) mX11_readSum (xE 100 Q X 0 0) 100 0 0 h 23 [some (.ref 56), some (.int a), none] [] := fun hor => by
      rcases x with e | y
      · rcases hor with z | z <;> exact absurd z (by show ¬ (false = true); decide)
      · have hor' : isS T n 43 y.1 = true ∨ isS T n 45 y.1 = true := hor
        have hlt : y.1 < n := by rcases hor' with z | z <;> exact isS_lt z
        refine v_X11_readSum_23 D hD hS.hM _ ⟨_, m_markedS (c := 43) hS (by decide), ?_⟩
        rintro v h4 ⟨rfl, e4⟩
        subst h4
        refine ⟨_, rfl, fun q => s40 y (-11) _ rfl ?_ hlt (by decide), fun q => s40 y (-10) _ rfl ?_ hlt (by decide)⟩
        · have f1 : isS T n 43 y.1 = false := bI_0.1 q
          unfold opP
          rw [if_neg (by rw [f1]; decide), if_pos (by rcases hor' with z | z; rw [f1] at z; exact absurd z (by decide); exact z)]
        · have f1 : isS T n 43 y.1 = true := bI_n0.1 q
          unfold opP
          rw [if_pos f1]
    refine v_X11_readSum_5 D hD hS.hM _ ⟨_, m_markedS (c := 43) hS (by decide), ?_⟩
    rintro v h2 ⟨rfl, e2⟩
    subst h2
    refine ⟨_, rfl, fun q => s23 (Or.inl (bI_n0.1 q)), fun q => ⟨_, m_markedS (c := 45) hS (by decide), ?_⟩⟩
    have f1 := bI_0.1 q
    rintro v h3 ⟨rfl, e3⟩
    subst h3
    refine ⟨_, rfl, fun q2 => done (fun y hy => ?_), fun q2 => s23 (Or.inr (bI_n0.1 q2))⟩
    have f2 := bI_0.1 q2
    subst hy
    have f1' : isS T n 43 y.1 = false := f1
    have f2' : isS T n 45 y.1 = false := f2
    unfold opP
    rw [if_neg (by rw [f1']; decide), if_neg (by rw [f2']; decide)]
theorem m_readSum {n D b : Nat} {T : Nat → Nat} {a : Int32} {g : Bool} {p : Nat → List Int32 → PR} (hn : n ≤ 500) (hD : 18 ≤ D) (hx : RSpec g mX11_readProduct (D + 2) T n a p) (hg : PG n b p) : RSpec g mX11_readSum (D + 3) T n a (pBin (opP T n) (nx T n) p) := by
  intro h x hgx hcap hS
  refine XSpec.of rfl (by decide) (Nat.le_of_ble_eq_true rfl) rfl (v_X11_readSum_0 D hD hS.hM a ⟨_, hx h x hgx hcap hS, ?_⟩)
  rintro v h1 ⟨rfl, m1, m2⟩
  refine ⟨rfl, l_mreadSum (h0 := h) hD hx hg (fun h' k1 k2 => ⟨rfl, k1, k2⟩) 500 _ h1 (fun z => ?_) (fun y hy => ?_) m1 m2 ?_⟩
  · obtain ⟨e, rfl⟩ := hgx z
    exact ⟨e, rfl⟩
  · rcases x with e | ⟨s, c⟩
    · cases hy
    · have hs : s ≤ n := hS.2.1.2.2.1.2.2.2.2.1
      have hl : c.length ≤ s := hcap _ rfl
      obtain ⟨g1, g2, g3, -⟩ := hg s c y.1 y.2 hs hy
      omega
  · rw [pbd_a]
    rfl
theorem l_mreadAnd {n D b : Nat} {T : Nat → Nat} {a : Int32} {g : Bool} {p : Nat → List Int32 → PR} {h0 : XH} {res : PR} (hD : 18 ≤ D) (hx : RSpec g mX11_readNot (D + 4) T n a p) (hg : PG n b p) {Q : Option Value → XH → Prop} {X : String → XH → Prop} (hQ : ∀ h', MS h' T n res → MEch h0 h' → Q none h') : ∀ (f : Nat) (x : PR) (h : XH), (g = false → ∃ e, x = .inl e) → (∀ y, x = .inr y → y.2.length ≤ y.1 ∧ n ≤ y.1 + f) → MS h T n x → MEch h0 h → pbd x (pLoop (opA T n) (nx T n) p f) = res →
    XW (xrm (D + 5) 0 0) mX11_readAnd (xE 100 Q X 0 0) 100 0 0 h 5 [some (.ref 56), some (.int a)] [] := by
  intro f
  induction f with
  | zero =>
    intro x h hgx hcap hS he hres
    have no : mkW T n wAnd x = false := by
      rcases x with e | y
      · exact rfl
      · have := (hcap y rfl).2
        exact decide_eq_false (fun z => by have := isW_lt (decide_eq_true z : isW T n wAnd y.1 = true); omega)
    have ex : Q none h := hQ h (by rw [← hres]; rcases x with e | y; exact hS; exact hS) he
    refine v_X11_readAnd_5 D hD hS.hM _ ⟨_, m_isS (i := 44) hS (by decide), ?_⟩
    rintro v h2 ⟨rfl, e2⟩
    subst h2
    rw [jsT_d.2.2.2.2.2.1, no]
    exact ⟨_, rfl, fun _ => ex, fun q => absurd rfl q⟩
  | succ f ih =>
    intro x h hgx hcap hS he hres
    have done : (∀ y, x = .inr y → opA T n y.1 = none) → Q none h := fun hn => hQ h (by
      rw [← hres]
      rcases x with e | y
      · exact hS
      · show MS h T n (pLoop (opA T n) (nx T n) p (f + 1) y.1 y.2)
        rw [pLoop_no (hn y rfl)]
        exact hS) he
    have step : ∀ (y : Nat × List Int32) (z z' : Int32), x = .inr y → opA T n y.1 = some z → y.1 < n → trc z = z' → ∃ Q1, XSpec mX11_stepOn 2 0 0 100 100 [.ref 56] h Q1 xno ∧ ∀ v h5, Q1 v h5 → v = none ∧ (∃ Q1, XSpec mX11_readNot (D + 4) 0 0 100 100 [.ref 56, .int a] h5 Q1 xno ∧ ∀ v h6, Q1 v h6 → v = none ∧ (∃ Q1, XSpec mX11_lay 1 0 0 100 100 [.ref 56, .int z'] h6 Q1 xno ∧ ∀ v h7, Q1 v h7 → v = none ∧ (XW (xrm (D + 5) 0 0) mX11_readAnd (xE 100 Q X 0 0) 100 0 0 h7 5 [some (.ref 56), some (.int a)] []))) := fun y z z' hy hz hlt hzz => by
      subst hy
      obtain ⟨c1, c2⟩ := hcap y rfl
      have hlx := nx_lt (T := T) hlt
      have n5 := hS.2.1.2.1.2.1
      refine ⟨_, MS.st hS, ?_⟩
      rintro v h5 ⟨rfl, m1, m2⟩
      refine ⟨rfl, _, hx h5 _ (fun z => by obtain ⟨e, w⟩ := hgx z; cases w) (fun w hw => by cases hw; show y.2.length ≤ nx T n y.1; omega) m1, ?_⟩
      rintro v h6 ⟨rfl, m3, m4⟩
      have hp : ∀ w, p (nx T n y.1) y.2 = .inr w → w.2.length < w.1 ∧ w.1 ≤ n ∧ nx T n y.1 < w.1 := fun w hw => by
        obtain ⟨g1, g2, g3, -⟩ := hg _ _ w.1 w.2 (nx_b (Nat.le_of_lt hlt)).2 hw
        omega
      refine ⟨rfl, _, m_layS m3 (fun w hw => by have := hp w hw; omega) hzz, ?_⟩
      rintro v h7 ⟨rfl, m5, m6⟩
      refine ⟨rfl, ih (pbd (p (nx T n y.1) y.2) (fun s c => .inr (s, c ++ [z]))) h7 (fun z => by obtain ⟨e, w⟩ := hgx z; cases w) (fun w hw => ?_) m5 (((he.trans m2).trans m4).trans m6) ?_⟩
      · obtain ⟨s1, c1', e1, e2⟩ := pbd_r (s' := w.1) (c' := w.2) hw
        have h3 := hp (s1, c1') e1
        have e3 : (s1, c1' ++ [z]) = w := Sum.inr.inj e2
        subst e3
        have hl' : (c1' ++ [z]).length = c1'.length + 1 := by rw [List.length_append]; rfl
        show (c1' ++ [z]).length ≤ s1 ∧ n ≤ s1 + f
        have h3' : c1'.length < s1 ∧ s1 ≤ n ∧ nx T n y.1 < s1 := h3
        omega
      · rw [← hres, pbd_a]
        show _ = pLoop (opA T n) (nx T n) p (f + 1) y.1 y.2
        unfold pLoop
        rw [hz]
        rfl
    refine v_X11_readAnd_5 D hD hS.hM _ ⟨_, m_isS (i := 44) hS (by decide), ?_⟩
    rintro v h7 ⟨rfl, e7⟩
    subst h7
    rw [jsT_d.2.2.2.2.2.1]
    refine ⟨_, rfl, fun q => done (fun y hy => ?_), fun q => ?_⟩
    · have f1 := bI_0.1 q
      subst hy
      have f1' : isW T n wAnd y.1 = false := f1
      unfold opA
      rw [if_neg (by rw [f1']; decide)]
    · have f1 := bI_n0.1 q
      rcases x with e | y
      · exact absurd f1 (by show ¬ (false = true); decide)
      · have f1' : isW T n wAnd y.1 = true := f1
        refine step y (-6) _ rfl ?_ (isW_lt f1') (by decide)
        unfold opA
        rw [if_pos f1']
theorem m_readAnd {n D b : Nat} {T : Nat → Nat} {a : Int32} {g : Bool} {p : Nat → List Int32 → PR} (hn : n ≤ 500) (hD : 18 ≤ D) (hx : RSpec g mX11_readNot (D + 4) T n a p) (hg : PG n b p) : RSpec g mX11_readAnd (D + 5) T n a (pBin (opA T n) (nx T n) p) := by
  intro h x hgx hcap hS
  refine XSpec.of rfl (by decide) (Nat.le_of_ble_eq_true rfl) rfl (v_X11_readAnd_0 D hD hS.hM a ⟨_, hx h x hgx hcap hS, ?_⟩)
  rintro v h1 ⟨rfl, m1, m2⟩
  refine ⟨rfl, l_mreadAnd (h0 := h) hD hx hg (fun h' k1 k2 => ⟨rfl, k1, k2⟩) 500 _ h1 (fun z => ?_) (fun y hy => ?_) m1 m2 ?_⟩
  · obtain ⟨e, rfl⟩ := hgx z
    exact ⟨e, rfl⟩
  · rcases x with e | ⟨s, c⟩
    · cases hy
    · have hs : s ≤ n := hS.2.1.2.2.1.2.2.2.2.1
      have hl : c.length ≤ s := hcap _ rfl
      obtain ⟨g1, g2, g3, -⟩ := hg s c y.1 y.2 hs hy
      omega
  · rw [pbd_a]
    rfl
theorem l_mreadExpression {n D b : Nat} {T : Nat → Nat} {a : Int32} {g : Bool} {p : Nat → List Int32 → PR} {h0 : XH} {res : PR} (hD : 18 ≤ D) (hx : RSpec g mX11_readAnd (D + 5) T n a p) (hg : PG n b p) {Q : Option Value → XH → Prop} {X : String → XH → Prop} (hQ : ∀ h', MS h' T n res → MEch h0 h' → Q none h') : ∀ (f : Nat) (x : PR) (h : XH), (g = false → ∃ e, x = .inl e) → (∀ y, x = .inr y → y.2.length ≤ y.1 ∧ n ≤ y.1 + f) → MS h T n x → MEch h0 h → pbd x (pLoop (opO T n) (nx T n) p f) = res →
    XW (xrm (D + 6) 0 0) mX11_readExpression (xE 100 Q X 0 0) 100 0 0 h 67 [some (.ref 56), some (.int a), none] [] := by
  intro f
  induction f with
  | zero =>
    intro x h hgx hcap hS he hres
    have no : mkW T n wOr x = false := by
      rcases x with e | y
      · exact rfl
      · have := (hcap y rfl).2
        exact decide_eq_false (fun z => by have := isW_lt (decide_eq_true z : isW T n wOr y.1 = true); omega)
    have ex : Q none h := hQ h (by rw [← hres]; rcases x with e | y; exact hS; exact hS) he
    refine v_X11_readExpression_67 D hD hS.hM _ ⟨_, m_isS (i := 45) hS (by decide), ?_⟩
    rintro v h2 ⟨rfl, e2⟩
    subst h2
    rw [jsT_d.2.2.2.2.2.2, no]
    exact ⟨_, rfl, fun _ => ex, fun q => absurd rfl q⟩
  | succ f ih =>
    intro x h hgx hcap hS he hres
    have done : (∀ y, x = .inr y → opO T n y.1 = none) → Q none h := fun hn => hQ h (by
      rw [← hres]
      rcases x with e | y
      · exact hS
      · show MS h T n (pLoop (opO T n) (nx T n) p (f + 1) y.1 y.2)
        rw [pLoop_no (hn y rfl)]
        exact hS) he
    have step : ∀ (y : Nat × List Int32) (z z' : Int32), x = .inr y → opO T n y.1 = some z → y.1 < n → trc z = z' → ∃ Q1, XSpec mX11_stepOn 2 0 0 100 100 [.ref 56] h Q1 xno ∧ ∀ v h5, Q1 v h5 → v = none ∧ (∃ Q1, XSpec mX11_readAnd (D + 5) 0 0 100 100 [.ref 56, .int a] h5 Q1 xno ∧ ∀ v h6, Q1 v h6 → v = none ∧ (∃ Q1, XSpec mX11_lay 1 0 0 100 100 [.ref 56, .int z'] h6 Q1 xno ∧ ∀ v h7, Q1 v h7 → v = none ∧ (XW (xrm (D + 6) 0 0) mX11_readExpression (xE 100 Q X 0 0) 100 0 0 h7 67 [some (.ref 56), some (.int a), none] []))) := fun y z z' hy hz hlt hzz => by
      subst hy
      obtain ⟨c1, c2⟩ := hcap y rfl
      have hlx := nx_lt (T := T) hlt
      have n5 := hS.2.1.2.1.2.1
      refine ⟨_, MS.st hS, ?_⟩
      rintro v h5 ⟨rfl, m1, m2⟩
      refine ⟨rfl, _, hx h5 _ (fun z => by obtain ⟨e, w⟩ := hgx z; cases w) (fun w hw => by cases hw; show y.2.length ≤ nx T n y.1; omega) m1, ?_⟩
      rintro v h6 ⟨rfl, m3, m4⟩
      have hp : ∀ w, p (nx T n y.1) y.2 = .inr w → w.2.length < w.1 ∧ w.1 ≤ n ∧ nx T n y.1 < w.1 := fun w hw => by
        obtain ⟨g1, g2, g3, -⟩ := hg _ _ w.1 w.2 (nx_b (Nat.le_of_lt hlt)).2 hw
        omega
      refine ⟨rfl, _, m_layS m3 (fun w hw => by have := hp w hw; omega) hzz, ?_⟩
      rintro v h7 ⟨rfl, m5, m6⟩
      refine ⟨rfl, ih (pbd (p (nx T n y.1) y.2) (fun s c => .inr (s, c ++ [z]))) h7 (fun z => by obtain ⟨e, w⟩ := hgx z; cases w) (fun w hw => ?_) m5 (((he.trans m2).trans m4).trans m6) ?_⟩
      · obtain ⟨s1, c1', e1, e2⟩ := pbd_r (s' := w.1) (c' := w.2) hw
        have h3 := hp (s1, c1') e1
        have e3 : (s1, c1' ++ [z]) = w := Sum.inr.inj e2
        subst e3
        have hl' : (c1' ++ [z]).length = c1'.length + 1 := by rw [List.length_append]; rfl
        show (c1' ++ [z]).length ≤ s1 ∧ n ≤ s1 + f
        have h3' : c1'.length < s1 ∧ s1 ≤ n ∧ nx T n y.1 < s1 := h3
        omega
      · rw [← hres, pbd_a]
        show _ = pLoop (opO T n) (nx T n) p (f + 1) y.1 y.2
        unfold pLoop
        rw [hz]
        rfl
    refine v_X11_readExpression_67 D hD hS.hM _ ⟨_, m_isS (i := 45) hS (by decide), ?_⟩
    rintro v h7 ⟨rfl, e7⟩
    subst h7
    rw [jsT_d.2.2.2.2.2.2]
    refine ⟨_, rfl, fun q => done (fun y hy => ?_), fun q => ?_⟩
    · have f1 := bI_0.1 q
      subst hy
      have f1' : isW T n wOr y.1 = false := f1
      unfold opO
      rw [if_neg (by rw [f1']; decide)]
    · have f1 := bI_n0.1 q
      rcases x with e | y
      · exact absurd f1 (by show ¬ (false = true); decide)
      · have f1' : isW T n wOr y.1 = true := f1
        refine step y (-7) _ rfl ?_ (isW_lt f1') (by decide)
        unfold opO
        rw [if_pos f1']
