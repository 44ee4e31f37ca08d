/-! WHAT STAYS: a state over the cells that a call leaves -/
theorem xRul.pc {r : Nat} {P P' : Nat → Nat → Option Nat} (h0 : P' r = P r) (h1 : P' (r + 1) = P (r + 1)) (hr : xRul r P) : xRul r P' := by
  unfold xRul xFor at *
  rw [h0, h1]; exact hr
theorem CBd.of {h h' : XH} {r : Nat} {b : BD} (hp : ∀ c, c = r ∨ c = r + 1 ∨ c = 21 → xP h' c = xP h c) (he : ∀ c, (r ≤ c ∧ c ≤ r + 8 ∧ c ≠ r + 4) ∨ c = 24 → xI h' c = xI h c) (hC : CBd h r b) : CBd h' r b := by
  obtain ⟨⟨hr, ha, g1, g2, g3, g4, g5, g6, g7, g8⟩, c1, c2, c3, c4, c5, c6, c7, c8, c9, c10, c11, c12⟩ := hC
  have p0 := hp r (Or.inl rfl)
  have p1 := hp (r + 1) (Or.inr (Or.inl rfl))
  have p2 := hp 21 (Or.inr (Or.inr rfl))
  have e0 := he r (by omega)
  have e1 := he (r + 1) (by omega)
  have e2 := he (r + 2) (by omega)
  have e3 := he (r + 3) (by omega)
  have e5 := he (r + 5) (by omega)
  have e6 := he (r + 6) (by omega)
  have e7 := he (r + 7) (by omega)
  have e8 := he (r + 8) (by omega)
  have e24 := he 24 (by omega)
  refine ⟨⟨hr.pc p0 p1, ?_, by rw [e0]; exact g1, by rw [e0]; exact g2, by rw [e0]; exact g3, g4, g5, g6, by rw [e5]; exact g7, by rw [e24]; exact g8⟩, by rw [e0]; exact c1, by rw [e0]; exact c2, by rw [e0]; exact c3, by rw [e0]; exact c4, by rw [e0]; exact c5, by rw [e6, e7]; exact c6, by rw [e8]; exact c7, by rw [e1]; exact c8, by rw [e3]; exact c9, by rw [e1]; exact c10, by rw [e1]; exact c11, by rw [e2]; exact c12⟩
  unfold xPth at *
  rw [p2]; exact ha
theorem CGm.of {h h' : XH} {u : Nat} {b : BD} {g : GD} (he : ∀ c, u ≤ c → c ≤ u + 4 → xI h' c = xI h c) (hC : CGm h u b g) : CGm h' u b g := by
  unfold CGm at *
  rw [he u (by omega) (by omega), he (u + 1) (by omega) (by omega), he (u + 2) (by omega) (by omega), he (u + 3) (by omega) (by omega), he (u + 4) (by omega) (by omega)]
  exact hC
theorem CPtr.pc {r : Nat} {P P' : Nat → Nat → Option Nat} (hr : r = 2 ∨ r = 12) (hp : ∀ c, c < 56 → ¬ (26 ≤ c ∧ c ≤ 28) → c ≠ r + 4 → P' c = P c) (hC : CPtr r P) : CPtr r P' := by
  obtain ⟨h1, h2, h3, h4, h5, h6, h7, h8, h9, h10, r2, h11, h12, h13⟩ := hC
  have q := h13.1
  refine ⟨?_, ?_, ?_, ?_, ?_, ?_, ?_, ?_, ?_, ?_, r2, h11, ?_, h13.pc (hp _ (by omega) (by omega) (by omega)) (hp _ (by omega) (by omega) (by omega))⟩
  · unfold xBrd at *; rw [hp 0 (by omega) (by omega) (by omega)]; exact h1
  · unfold xPth at *; rw [hp 25 (by omega) (by omega) (by omega)]; exact h2
  · unfold xSta at *; rw [hp 29 (by omega) (by omega) (by omega)]; exact h3
  · unfold xSta at *; rw [hp 34 (by omega) (by omega) (by omega)]; exact h4
  · unfold xWay at *; rw [hp 39 (by omega) (by omega) (by omega)]; exact h5
  · obtain ⟨y, z, k⟩ := h6; refine ⟨y, z, ?_⟩; unfold xSnd at *; rw [hp 43 (by omega) (by omega) (by omega)]; exact k
  · obtain ⟨y, z, k⟩ := h7; refine ⟨y, z, ?_⟩; unfold xSnd at *; rw [hp 46 (by omega) (by omega) (by omega)]; exact k
  · obtain ⟨y, z, k⟩ := h8; refine ⟨y, z, ?_⟩; unfold xHop at *; rw [hp 49 (by omega) (by omega) (by omega)]; exact k
  · obtain ⟨na, nb, k⟩ := h9; refine ⟨na, nb, ?_⟩; unfold xNot at *; rw [hp 52 (by omega) (by omega) (by omega)]; exact k
  · exact h10
  · unfold xRdr at *; rw [hp 11 (by omega) (by omega) (by omega)]; exact h12
theorem CI.r {h : XH} {r : Nat} {s : SG} (hC : CI h r s) : r = 2 ∨ r = 12 := hC.2.1.1.1.1
theorem CI.brd {h : XH} {r : Nat} {s : SG} (hC : CI h r s) : xBrd r (xP h) := hC.1.1
theorem CI.rul {h : XH} {r : Nat} {s : SG} (hC : CI h r s) : xRul r (xP h) := hC.2.1.1.1
theorem CI.geo {h : XH} {r : Nat} {s : SG} (hC : CI h r s) : Geo h r 21 (bLast (sB s)) (bLst (sB s)) (bOd (sB s)) (bT (sB s)) := hC.2.1.1
theorem CI.last {h : XH} {r : Nat} {s : SG} (hC : CI h r s) : xI h r 0 = nI (bLast (sB s)) := hC.2.1.1.2.2.1
theorem CI.csc {h h' : XH} {r : Nat} {s : SG} (hC : CI h r s) (hs : csc r h h') : CI h' r s := by
  have hr := hC.r
  obtain ⟨s1, s2, s3, s4⟩ := hs
  obtain ⟨c1, c2, c3, ⟨c4, c5⟩, c6, c7, c8⟩ := hC
  have e : ∀ c, c ≠ 39 → (c ≤ 25 ∧ c ≠ r + 4 ∨ 29 ≤ c ∧ c ≤ 40 ∨ 54 ≤ c) → xI h' c = xI h c := fun c h1 h2 => s1 c (fun z => by unfold SC at z; omega) h1
  refine ⟨s3 c1, c2.of (fun c hc => s4 c (by unfold SC; omega)) (fun c hc => e c (by omega) (by omega)), c3.of (fun c q1 q2 => e c (by omega) (by omega)), ⟨by rw [e 0 (by omega) (by omega)]; exact c4, fun z => (c5 z).of (fun c q1 q2 => e c (by omega) (by omega))⟩, ?_, ?_, ?_⟩
  · unfold CKr at *
    rw [s2 0 (by omega), e 40 (by omega) (by omega)]; exact c6
  · unfold CTp at *
    rw [e 0 (by omega) (by omega), e 1 (by omega) (by omega)]; exact c7
  · exact c8
theorem mch.csc {h h' : XH} {r : Nat} (hr : r = 2 ∨ r = 12) (hm : mch h h') : mch h h' ∧ ((∀ c, c < 56 → xI h' c = xI h c) ∧ (CPtr r (xP h) → CPtr r (xP h'))) := ⟨hm, fun c hc => (hm c hc).1, fun k => k.pc hr (fun c hc _ _ => (hm c hc).2)⟩
theorem CI.mch {h h' : XH} {r : Nat} {s : SG} (hC : CI h r s) (hm : mch h h') : CI h' r s := by
  have hr := hC.r
  obtain ⟨c1, c2, c3, ⟨c4, c5⟩, c6, c7, c8⟩ := hC
  have e : ∀ c, c < 56 → xI h' c = xI h c := fun c hc => (hm c hc).1
  refine ⟨c1.pc hr (fun c hc _ _ => (hm c hc).2), c2.of (fun c hc => (hm c (by omega)).2) (fun c hc => e c (by omega)), c3.of (fun c q1 q2 => e c (by omega)), ⟨by rw [e 0 (by omega)]; exact c4, fun z => (c5 z).of (fun c q1 q2 => e c (by omega))⟩, ?_, ?_, ?_⟩
  · unfold CKr at *
    rw [e 39 (by omega), e 40 (by omega)]; exact c6
  · unfold CTp at *
    rw [e 0 (by omega), e 1 (by omega)]; exact c7
  · exact c8
theorem MGm.of {h h' : XH} {a1 a2 a3 p l t n s : Nat} {g : GD} (h1 : xI h' 56 a1 = xI h 56 a1) (h2 : xI h' 56 a2 = xI h 56 a2) (h3 : xI h' 56 a3 = xI h 56 a3) (h4 : xI h' p = xI h p) (h5 : ∀ k, k < 5 → xI h' (l + k) = xI h (l + k)) (h6 : xI h' t = xI h t) (h7 : xI h' n = xI h n) (h8 : xI h' s = xI h s) (hM : MGm h a1 a2 a3 p l t n s g) : MGm h' a1 a2 a3 p l t n s g := by
  obtain ⟨m1, m2, m3, m4, m5, m6, m7⟩ := hM
  exact ⟨by rw [h1]; exact m1, by rw [h2]; exact m2, by rw [h3]; exact m3, by rw [h4]; exact m4, fun i hi => ⟨fun k hk => by rw [h5 k hk]; exact (m5 i hi).1 k hk, by rw [h6]; exact (m5 i hi).2⟩, by rw [h7]; exact m6, by rw [h8]; exact m7⟩
theorem CodeM.of {h h' : XH} {C : Nat → Int32} {len : Nat} (h1 : xI h' 59 = xI h 59) (h2 : xI h' 63 = xI h 63) (hc : CodeM h C len) : CodeM h' C len := by
  unfold CodeM at *
  rw [h1, h2]; exact hc
theorem MBd.of {h h' : XH} {b : BD} (hp : xP h' 56 = xP h 56) (he : ∀ c, 59 ≤ c → c ≤ 64 → xI h' c = xI h c) (hM : MBd h b) : MBd h' b := by
  obtain ⟨⟨b1, b2, b3, b4, b5, b6, b7⟩, m1, m2, m3, m4, m5, m6, m7⟩ := hM
  have e59 := he 59 (by omega) (by omega)
  have e60 := he 60 (by omega) (by omega)
  have e61 := he 61 (by omega) (by omega)
  have e62 := he 62 (by omega) (by omega)
  have e63 := he 63 (by omega) (by omega)
  have e64 := he 64 (by omega) (by omega)
  refine ⟨⟨fun q hq => by rw [hp]; exact b1 q hq, by rw [e59]; exact b2, by rw [e59]; exact b3, by rw [e59]; exact b4, b5.of e59 e63, by rw [e60]; exact b6, by rw [e61, e62]; exact b7⟩, by rw [e59]; exact m1, by rw [e59]; exact m2, by rw [e59]; exact m3, by rw [e59]; exact m4, by rw [e59]; exact m5, by rw [e59]; exact m6, by rw [e64]; exact m7⟩
theorem MI.msc {h h' : XH} {s : SG} (hM : MI h s) (hs : msc h h') : MI h' s := by
  obtain ⟨s1, s2, s3⟩ := hs
  obtain ⟨m1, ⟨m2, m2'⟩, m3, m4, ⟨m5, m6⟩, ⟨m7, m7'⟩, m8, m9, m10⟩ := hM
  have e : ∀ c, c ≠ 56 → (59 ≤ c ∧ c ≤ 66 ∨ 71 ≤ c ∧ c ≤ 76 ∨ c = 78 ∨ c = 79 ∨ c = 87 ∨ 90 ≤ c) → xI h' c = xI h c := fun c h1 h2 => s1 c (fun z => by unfold SM at z; omega) h1
  have f : ∀ j, (j = 11 ∨ j = 20 ∨ j = 33 ∨ j = 34 ∨ j = 38 ∨ j = 46 ∨ 50 ≤ j) → xI h' 56 j = xI h 56 j := fun j hj => s2 j (fun z => by unfold SM6 at z; omega)
  have p : ∀ c, c < 67 → xP h' c = xP h c := fun c hc => s3 c (by omega)
  refine ⟨fun q hq => by rw [p 56 (by omega)]; exact m1 q hq, ⟨by rw [p 57 (by omega)]; exact m2, by rw [p 58 (by omega)]; exact m2'⟩, m3.of (p 56 (by omega)) (fun c h1 h2 => e c (by omega) (by omega)), m4.of (f _ (by omega)) (f _ (by omega)) (f _ (by omega)) (e _ (by omega) (by omega)) (fun k hk => e _ (by omega) (by omega)) (e _ (by omega) (by omega)) (e _ (by omega) (by omega)) (e _ (by omega) (by omega)), ⟨by rw [f 50 (by omega)]; exact m5, fun z => (m6 z).of (f _ (by omega)) (f _ (by omega)) (f _ (by omega)) (e _ (by omega) (by omega)) (fun k hk => e _ (by omega) (by omega)) (e _ (by omega) (by omega)) (e _ (by omega) (by omega)) (e _ (by omega) (by omega))⟩, ⟨by rw [f 38 (by omega)]; exact m7, by rw [e 79 (by omega) (by omega)]; exact m7'⟩, by rw [f 11 (by omega)]; exact m8, by rw [f 20 (by omega)]; exact m9, by rw [e 66 (by omega) (by omega)]; exact m10⟩
theorem cch.msc {h h' : XH} (hc : cch h h') : (∀ c, 56 ≤ c → xI h' c = xI h c) ∧ ∀ c, 56 ≤ c → xP h' c = xP h c := ⟨fun c q => (hc c q).1, fun c q => (hc c q).2⟩
theorem MI.cch {h h' : XH} {s : SG} (hM : MI h s) (hc : cch h h') : MI h' s := by
  obtain ⟨m1, ⟨m2, m2'⟩, m3, m4, ⟨m5, m6⟩, ⟨m7, m7'⟩, m8, m9, m10⟩ := hM
  have e : ∀ c, 56 ≤ c → xI h' c = xI h c := fun c q => (hc c q).1
  have f : ∀ j, xI h' 56 j = xI h 56 j := fun j => by rw [e 56 (by omega)]
  have p : ∀ c, 56 ≤ c → xP h' c = xP h c := fun c q => (hc c q).2
  refine ⟨fun q hq => by rw [p 56 (by omega)]; exact m1 q hq, ⟨by rw [p 57 (by omega)]; exact m2, by rw [p 58 (by omega)]; exact m2'⟩, m3.of (p 56 (by omega)) (fun c h1 h2 => e c (by omega)), m4.of (f _) (f _) (f _) (e _ (by omega)) (fun k hk => e _ (by omega)) (e _ (by omega)) (e _ (by omega)) (e _ (by omega)), ⟨by rw [f 50]; exact m5, fun z => (m6 z).of (f _) (f _) (f _) (e _ (by omega)) (fun k hk => e _ (by omega)) (e _ (by omega)) (e _ (by omega)) (e _ (by omega))⟩, ⟨by rw [f 38]; exact m7, by rw [e 79 (by omega)]; exact m7'⟩, by rw [f 11]; exact m8, by rw [f 20]; exact m9, by rw [e 66 (by omega)]; exact m10⟩
/-! how scratch is used -/
theorem csc.rfl {r : Nat} {h : XH} : csc r h h := ⟨fun _ _ _ => Eq.refl _, fun _ _ => Eq.refl _, fun k => k, fun _ _ => Eq.refl _⟩
theorem csc.trans {r : Nat} {h h1 h2 : XH} (a : csc r h h1) (b : csc r h1 h2) : csc r h h2 := ⟨fun c q1 q2 => (b.1 c q1 q2).trans (a.1 c q1 q2), fun j q => (b.2.1 j q).trans (a.2.1 j q), fun k => b.2.2.1 (a.2.2.1 k), fun c q => (b.2.2.2 c q).trans (a.2.2.2 c q)⟩
theorem csc.cch {r : Nat} {h h' : XH} (hr : r = 2 ∨ r = 12) (a : csc r h h') : cch h h' := fun c hc => ⟨a.1 c (fun z => by unfold SC at z; omega) (by omega), a.2.2.2 c (fun z => by unfold SC at z; omega)⟩
theorem cch.rfl {h : XH} : cch h h := fun _ _ => ⟨Eq.refl _, Eq.refl _⟩
theorem cch.trans {h h1 h2 : XH} (a : cch h h1) (b : cch h1 h2) : cch h h2 := fun c q => ⟨(b c q).1.trans (a c q).1, (b c q).2.trans (a c q).2⟩
theorem mch.rfl {h : XH} : mch h h := fun _ _ => ⟨Eq.refl _, Eq.refl _⟩
theorem mch.trans {h h1 h2 : XH} (a : mch h h1) (b : mch h1 h2) : mch h h2 := fun c q => ⟨(b c q).1.trans (a c q).1, (b c q).2.trans (a c q).2⟩
theorem msc.rfl {h : XH} : msc h h := ⟨fun _ _ _ => Eq.refl _, fun _ _ => Eq.refl _, fun _ _ => Eq.refl _⟩
theorem msc.trans {h h1 h2 : XH} (a : msc h h1) (b : msc h1 h2) : msc h h2 := ⟨fun c q1 q2 => (b.1 c q1 q2).trans (a.1 c q1 q2), fun j q => (b.2.1 j q).trans (a.2.1 j q), fun c q => (b.2.2 c q).trans (a.2.2 c q)⟩
/-- sand is used -/
theorem csc.sand {r sn : Nat} {h h' : XH} (hr : r = 2 ∨ r = 12) (hn : sn = 43 ∨ sn = 46) (hf : xfr sn (sn + 3) h h') (hs : SandIs h' sn) : csc r h h' := by
  refine ⟨fun c q1 q2 => (hf c ?_).1, fun j _ => by rw [(hf 39 (by omega)).1], fun k => ?_, fun c q => (hf c (by unfold SC at q; omega)).2.2⟩
  · unfold SC at q1; omega
  · obtain ⟨h1, h2, h3, h4, h5, h6, h7, h8, h9, h10, r2, h11, h12, h13⟩ := k
    have q := h13.1
    have p : ∀ c, c < sn ∨ sn + 3 ≤ c → xP h' c = xP h c := fun c hc => (hf c hc).2.2
    refine ⟨?_, ?_, ?_, ?_, ?_, ?_, ?_, ?_, ?_, ?_, r2, h11, ?_, h13.pc (p _ (by omega)) (p _ (by omega))⟩
    · unfold xBrd at *; rw [p 0 (by omega)]; exact h1
    · unfold xPth at *; rw [p 25 (by omega)]; exact h2
    · unfold xSta at *; rw [p 29 (by omega)]; exact h3
    · unfold xSta at *; rw [p 34 (by omega)]; exact h4
    · unfold xWay at *; rw [p 39 (by omega)]; exact h5
    · rcases hn with e | e
      · subst e; exact hs
      · obtain ⟨y, z, k⟩ := h6; refine ⟨y, z, ?_⟩; unfold xSnd at *; rw [p 43 (by omega)]; exact k
    · rcases hn with e | e
      · obtain ⟨y, z, k⟩ := h7; refine ⟨y, z, ?_⟩; unfold xSnd at *; rw [p 46 (by omega)]; exact k
      · subst e; exact hs
    · obtain ⟨y, z, k⟩ := h8; refine ⟨y, z, ?_⟩; unfold xHop at *; rw [p 49 (by omega)]; exact k
    · obtain ⟨na, nb, k⟩ := h9; refine ⟨na, nb, ?_⟩; unfold xNot at *; rw [p 52 (by omega)]; exact k
    · exact h10
    · unfold xRdr at *; rw [p 11 (by omega)]; exact h12
/-- cells whose pointers stay -/
theorem csc.eqP {r : Nat} {h h' : XH} (he : ∀ c, ¬ SC r c → c ≠ 39 → xI h' c = xI h c) (hj : ∀ j, j ≠ 4 → xI h' 39 j = xI h 39 j) (hp : xP h' = xP h) : csc r h h' := ⟨he, hj, fun k => by rw [hp]; exact k, fun c _ => by rw [hp]⟩
theorem csc.way {r : Nat} {h h' : XH} (hf : wfr h h') : csc r h h' := csc.eqP (fun c q1 q2 => (hf.1 c (by unfold SC at q1; omega)).1) hf.2.1 hf.2.2
/-- a run of the reference's rows -/
theorem msc.fr {lo hi : Nat} {h h' : XH} (hf : xfr lo hi h h') (hd : (67 ≤ lo ∧ hi ≤ 71) ∨ (80 ≤ lo ∧ hi ≤ 87) ∨ (88 ≤ lo ∧ hi ≤ 90)) : msc h h' := ⟨fun c q1 q2 => (hf c (by unfold SM at q1; omega)).1, fun j _ => by rw [(hf 56 (by omega)).1], fun c q => (hf c (by omega)).2.2⟩
theorem mch.fr {lo hi : Nat} {h h' : XH} (hf : xfr lo hi h h') (hd : 56 ≤ lo) : mch h h' := fun c hc => ⟨(hf c (by omega)).1, (hf c (by omega)).2.2⟩
theorem msc.SI6 {h : XH} {j : Nat} {v : Int32} (hj : SM6 j) : msc h (xSI 56 (va_up (xI h 56) j v) h) := ⟨fun c q1 q2 => va_up_of _ _ q2, fun i hi => by rw [xI_at]; exact va_up_of _ _ (fun z => hi (by rw [z]; exact hj)), fun _ _ => Eq.refl _⟩
theorem mch.SI6 {h : XH} {f : Nat → Int32} : mch h (xSI 56 f h) := fun c hc => ⟨va_up_of _ _ (by omega), Eq.refl _⟩
theorem CI.nr {h : XH} {r : Nat} {s : SG} (hC : CI h r s) : r + 9 ≤ 100 := by have := hC.r; omega
/-- the pointers of the class, as its walks want them -/
def BP (r : Nat) (h : XH) : Prop := xBrd r (xP h) ∧ xRul r (xP h) ∧ r + 9 ≤ 100 ∧ xPth 21 (xP h) ∧ xPth 25 (xP h) ∧ xSta 29 (xP h) ∧ xSta 34 (xP h) ∧ xWay (xP h) ∧ (∃ na nb, xNot na nb (xP h)) ∧ xWri (xP h)
theorem CI.bp {h : XH} {r : Nat} {s : SG} (hC : CI h r s) : BP r h := ⟨hC.brd, hC.rul, hC.nr, hC.geo.2.1, hC.1.2.1, hC.1.2.2.1, hC.1.2.2.2.1, hC.1.2.2.2.2.1, hC.1.2.2.2.2.2.2.2.2.1, hC.1.2.2.2.2.2.2.2.2.2.1⟩
/-- the second table's rows -/
theorem csc.oth {r : Nat} {h h' : XH} (hr : r = 2 ∨ r = 12) (hf : xfs (fun c => (26 ≤ c ∧ c ≤ 28) ∨ c = r + 4) h h') : csc r h h' :=
  ⟨fun c q1 q2 => (hf c (by unfold SC at q1; omega)).1, fun j _ => by rw [(hf 39 (by omega)).1], fun k => k.pc hr (fun c _ q1 q2 => (hf c (by omega)).2.2), fun c q => (hf c (by unfold SC at q; omega)).2.2⟩
