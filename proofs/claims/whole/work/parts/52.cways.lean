/-! THE CLASS: fewest, never, lost, round, row -/
theorem GoodS.l {s : SG} (g : GoodS s) : 10 ≤ bLast (sB s) ∧ bLast (sB s) ≤ 100 ∧ bKx (sB s) ≤ 24 ∧ bE (sB s) ≤ 2 := ⟨g.1.1.1, g.1.1.2.1, g.1.1.2.2.1, g.1.1.2.2.2.1⟩
theorem CI.p0 {h : XH} {r : Nat} {s : SG} (hC : CI h r s) : xP h 0 0 = some 1 := hC.brd.1
theorem CI.p3 {h : XH} {r : Nat} {s : SG} (hC : CI h r s) : xP h 0 3 = some r := hC.brd.2.1
theorem CI.p4 {h : XH} {r : Nat} {s : SG} (hC : CI h r s) : xP h 0 4 = some 11 := hC.brd.2.2.1
theorem CI.p5 {h : XH} {r : Nat} {s : SG} (hC : CI h r s) : xP h 0 5 = some 21 := hC.brd.2.2.2.1
theorem CI.p6 {h : XH} {r : Nat} {s : SG} (hC : CI h r s) : xP h 0 6 = some 25 := hC.brd.2.2.2.2.1
theorem CI.p7 {h : XH} {r : Nat} {s : SG} (hC : CI h r s) : xP h 0 7 = some 29 := hC.brd.2.2.2.2.2.1
theorem CI.p8 {h : XH} {r : Nat} {s : SG} (hC : CI h r s) : xP h 0 8 = some 34 := hC.brd.2.2.2.2.2.2.1
theorem CI.p10 {h : XH} {r : Nat} {s : SG} (hC : CI h r s) : xP h 0 10 = some 39 := hC.brd.2.2.2.2.2.2.2.1
theorem CI.p11 {h : XH} {r : Nat} {s : SG} (hC : CI h r s) : xP h 0 11 = some 43 := hC.brd.2.2.2.2.2.2.2.2.1
theorem CI.p12 {h : XH} {r : Nat} {s : SG} (hC : CI h r s) : xP h 0 12 = some 46 := hC.brd.2.2.2.2.2.2.2.2.2.1
theorem CI.p13 {h : XH} {r : Nat} {s : SG} (hC : CI h r s) : xP h 0 13 = some 49 := hC.brd.2.2.2.2.2.2.2.2.2.2.1
theorem CI.p14 {h : XH} {r : Nat} {s : SG} (hC : CI h r s) : xP h 0 14 = some 52 := hC.brd.2.2.2.2.2.2.2.2.2.2.2.1
theorem CI.p15 {h : XH} {r : Nat} {s : SG} (hC : CI h r s) : xP h 0 15 = some 55 := hC.brd.2.2.2.2.2.2.2.2.2.2.2.2
theorem CI.way {h : XH} {r : Nat} {s : SG} (hC : CI h r s) : xWay (xP h) := hC.1.2.2.2.2.1
theorem CI.pth {h : XH} {r : Nat} {s : SG} (hC : CI h r s) : xPth 25 (xP h) := hC.1.2.1
theorem CI.s43 {h : XH} {r : Nat} {s : SG} (hC : CI h r s) : SandIs h 43 := hC.1.2.2.2.2.2.1
theorem CI.s46 {h : XH} {r : Nat} {s : SG} (hC : CI h r s) : SandIs h 46 := hC.1.2.2.2.2.2.2.1
def kd1 (c : Bool) : Nat := if c = true then 0 else 1
def kd2 (c d : Bool) : Nat := if c = true then (if d = true then 0 else 2) else 1
theorem kd1_t {c : Bool} (h : c = true) : kd1 c = 0 := by rw [h]; rfl
theorem kd1_f {c : Bool} (h : c = false) : kd1 c = 1 := by rw [h]; rfl
theorem kd2_t {c d : Bool} (h : c = true) (h2 : d = true) : kd2 c d = 0 := by rw [h, h2]; rfl
theorem kd2_1 {c d : Bool} (h : c = false) : kd2 c d = 1 := by rw [h]; rfl
theorem kd2_2 {c d : Bool} (h : c = true) (h2 : d = false) : kd2 c d = 2 := by rw [h, h2]; rfl
/-- the row that fewest keeps -/
def FwR (b : BD) (q : Nat) (w : Int32) (R : Nat → Int32) : Prop := ∃ A, Far (bOd b) (bT b) (bLast b) (bLast b) A ∧ ((A q = -1 ∧ w = -1) ∨ (∃ m, m ≤ bLast b ∧ A q = nI m ∧ w = nI m ∧ RowK (bOd b) (bT b) A m 0 q R))
def sRow (s : SG) (w : Int32) (R : Nat → Int32) : SG := (s.1, s.2.1, s.2.2.1, (w, R), s.2.2.2.2)
def sFew (s : SG) (w : Int32) (R : Nat → Int32) : SG := if w = -1 then s else sRow s w R
theorem CI.row {h : XH} {r : Nat} {s : SG} (hC : CI h r s) (w : Int32) (R : Nat → Int32) (h1 : XH) (e : h1 = xSI 40 R (xSI 39 (va_up (xI h 39) 0 w) h)) : CI h1 r (sRow s w R) := by
  subst e
  have hr := hC.r
  obtain ⟨c1, c2, c3, ⟨c4, c5⟩, c6, c7, c8⟩ := hC
  have e : ∀ c, c ≠ 40 → c ≠ 39 → xI (xSI 40 R (xSI 39 (va_up (xI h 39) 0 w) h)) c = xI h c := fun c q1 q2 => (xI_ne q1).trans (xI_ne q2)
  exact ⟨c1, c2.of (h := h) (fun _ _ => Eq.refl _) (fun c hc => e c (by omega) (by omega)), c3.of (fun c q1 q2 => e c (by omega) (by omega)), ⟨c4, fun z => (c5 z).of (fun c q1 q2 => e c (by omega) (by omega))⟩, ⟨by rw [xI_ne (by decide), xI_at]; exact va_up_eq _ _ _, fun i _ => by rw [xI_at]; rfl⟩, c7, c8⟩
theorem s_X10_fewest {h : XH} {r : Nat} {s : SG} (hC : CI h r s) (hg : GoodS s) (q : Int32) : XSpec mX10_fewest 8 1 6 100 100 [.ref 0, .int q] h (fun v h' => kd1 (inR q 0 (bLast (sB s))) = 0 ∧ ∃ w R, v = some (.int w) ∧ FwR (sB s) q.toNatClampNeg w R ∧ CI h' r (sFew s w R) ∧ cch h h') (cThr h (kd1 (inR q 0 (bLast (sB s)))) eN eA) := by
  obtain ⟨l1, l2, -, -⟩ := hg.l
  have hr := hC.r
  refine XSpec.of rfl (by decide) (Nat.le_of_ble_eq_true rfl) rfl (v_X10_fewest_0 r hC.bp q ⟨_, _, s_needSquare hC l2 q, fun E9 h9 z => ⟨z.1, Or.inl ⟨kd1_f z.2.2, z.2.1⟩⟩, ?_⟩)
  rintro v h1 ⟨rfl, rfl, hq⟩
  refine ⟨rfl, hC.p10, hC.p3, hC.p5, _, s_X8_findHome 100 r 21 hC.nr (by omega) (by omega) _ _ _ _ h1 hC.geo hC.way, ?_⟩
  rintro v h2 ⟨rfl, hf, hA⟩
  have hs := csc.way (r := r) hf
  have hC2 := hC.csc hs
  obtain ⟨q, hq', rfl⟩ := inR_nI hq
  rw [nI_clamp (show q < 2 ^ 31 by omega)]
  refine ⟨rfl, hC2.p10, hC2.p3, hC2.p5, _, s_X8_keepFewest 100 r 21 hC.nr (by omega) (by omega) _ _ _ _ h2 hC2.geo hC2.way hA q hq', ?_⟩
  rintro v h3 (⟨e1, rfl, rfl⟩ | ⟨m, R, e1, e2, rfl, hR, e3⟩)
  · exact ⟨_, rfl, kd1_t hq, -1, fun _ => 0, rfl, ⟨_, hA, Or.inl ⟨e1, rfl⟩⟩, hC2, hs.cch hr⟩
  · refine ⟨_, rfl, kd1_t hq, _, R, rfl, ⟨_, hA, Or.inr ⟨m, e2, e1, rfl, hR⟩⟩, ?_, ?_⟩
    · unfold sFew
      rw [if_neg (nI_nm1 (by omega))]
      exact hC2.row _ _ _ e3
    · subst e3
      exact (hs.cch hr).trans (fun c hc => ⟨(xI_ne (by omega)).trans (xI_ne (by omega)), Eq.refl _⟩)
theorem rd41 {A : Nat → Int32} {q : Nat} (hq : q ≤ 100) : rd A 101 (-1) (nI q) = A q := by
  rw [iz_nI, rd_in (by omega) (by show (q : Int) < 101; omega)]; rfl
/-- never, lost, round: of the ways from a square, to the last one -/
def NvA (b : BD) (q : Nat) (w : Int32) : Prop := ∃ A, Far1 (bOd b) (bT b) (bLast b) 0 A ∧ w = if q = 0 then 0 else if A q = -1 then 1 else 0
def LsA (b : BD) (q : Nat) (w : Int32) : Prop := ∃ A, Far (bOd b) (bT b) (bLast b) (bLast b) A ∧ w = if A q = -1 then 1 else 0
def RnA (b : BD) (q : Nat) (w : Int32) : Prop := ∃ A, Far1 (bOd b) (bT b) (bLast b) q A ∧ w = A q
theorem s_X10_never {h : XH} {r : Nat} {s : SG} (hC : CI h r s) (hg : GoodS s) (q : Int32) : XSpec mX10_never 8 1 6 100 100 [.ref 0, .int q] h (fun v h' => kd1 (inR q 0 (bLast (sB s))) = 0 ∧ ∃ w, v = some (.int w) ∧ NvA (sB s) q.toNatClampNeg w ∧ CI h' r s ∧ cch h h') (cThr h (kd1 (inR q 0 (bLast (sB s)))) eN eA) := by
  obtain ⟨l1, l2, -, -⟩ := hg.l
  have hr := hC.r
  refine XSpec.of rfl (by decide) (Nat.le_of_ble_eq_true rfl) rfl (v_X10_never_0 r hC.bp q ⟨_, _, s_needSquare hC l2 q, fun E9 h9 z => ⟨z.1, Or.inl ⟨kd1_f z.2.2, z.2.1⟩⟩, ?_⟩)
  rintro v h1 ⟨rfl, rfl, hq⟩
  refine ⟨rfl, hC.p10, hC.p3, hC.p5, _, s_X8_findFrom 100 r 21 hC.nr (by omega) (by omega) _ _ _ _ h1 hC.geo hC.way 0 (by omega), ?_⟩
  rintro v h2 ⟨rfl, hf, hA⟩
  have hs := csc.way (r := r) hf
  have hC2 := hC.csc hs
  obtain ⟨q, hq', rfl⟩ := inR_nI hq
  rw [nI_clamp (show q < 2 ^ 31 by omega)]
  refine ⟨rfl, fun z => ⟨kd1_t hq, 0, rfl, ⟨_, hA, ?_⟩, hC2, hs.cch hr⟩, fun z => ⟨hC2.p10, _, s_X8_throwsOf 100 h2 hC2.way (by omega) (nI q), ?_⟩⟩
  · rw [if_pos ((nI_eq (b := 0) (by omega) (by omega)).1 z)]
  · have z' : ¬ q = 0 := fun y => z (by rw [y]; rfl)
    rintro v h3 ⟨rfl, rfl⟩
    rw [rd41 (by omega)]
    refine ⟨_, rfl, fun y => ⟨kd1_t hq, 0, rfl, ⟨_, hA, ?_⟩, hC2, hs.cch hr⟩, fun y => ⟨kd1_t hq, 1, rfl, ⟨_, hA, ?_⟩, hC2, hs.cch hr⟩⟩
    · rw [if_neg z', if_neg y]
    · rw [if_neg z', if_pos y]
theorem s_X10_lost {h : XH} {r : Nat} {s : SG} (hC : CI h r s) (hg : GoodS s) (q : Int32) : XSpec mX10_lost 8 1 6 100 100 [.ref 0, .int q] h (fun v h' => kd1 (inR q 0 (bLast (sB s))) = 0 ∧ ∃ w, v = some (.int w) ∧ LsA (sB s) q.toNatClampNeg w ∧ CI h' r s ∧ cch h h') (cThr h (kd1 (inR q 0 (bLast (sB s)))) eN eA) := by
  obtain ⟨l1, l2, -, -⟩ := hg.l
  have hr := hC.r
  refine XSpec.of rfl (by decide) (Nat.le_of_ble_eq_true rfl) rfl (v_X10_lost_0 r hC.bp q ⟨_, _, s_needSquare hC l2 q, fun E9 h9 z => ⟨z.1, Or.inl ⟨kd1_f z.2.2, z.2.1⟩⟩, ?_⟩)
  rintro v h1 ⟨rfl, rfl, hq⟩
  refine ⟨rfl, hC.p10, hC.p3, hC.p5, _, s_X8_findHome 100 r 21 hC.nr (by omega) (by omega) _ _ _ _ h1 hC.geo hC.way, ?_⟩
  rintro v h2 ⟨rfl, hf, hA⟩
  have hs := csc.way (r := r) hf
  have hC2 := hC.csc hs
  obtain ⟨q, hq', rfl⟩ := inR_nI hq
  rw [nI_clamp (show q < 2 ^ 31 by omega)]
  refine ⟨rfl, hC2.p10, _, s_X8_throwsOf 100 h2 hC2.way (by omega) (nI q), ?_⟩
  rintro v h3 ⟨rfl, rfl⟩
  rw [rd41 (by omega)]
  refine ⟨_, rfl, fun y => ⟨kd1_t hq, 0, rfl, ⟨_, hA, ?_⟩, hC2, hs.cch hr⟩, fun y => ⟨kd1_t hq, 1, rfl, ⟨_, hA, ?_⟩, hC2, hs.cch hr⟩⟩
  · rw [if_neg y]
  · rw [if_pos y]
theorem s_X10_round {h : XH} {r : Nat} {s : SG} (hC : CI h r s) (hg : GoodS s) (q : Int32) : XSpec mX10_round 8 1 6 100 100 [.ref 0, .int q] h (fun v h' => kd1 (inR q 0 (bLast (sB s))) = 0 ∧ ∃ w, v = some (.int w) ∧ RnA (sB s) q.toNatClampNeg w ∧ CI h' r s ∧ cch h h') (cThr h (kd1 (inR q 0 (bLast (sB s)))) eN eA) := by
  obtain ⟨l1, l2, -, -⟩ := hg.l
  have hr := hC.r
  refine XSpec.of rfl (by decide) (Nat.le_of_ble_eq_true rfl) rfl (v_X10_round_0 r hC.bp q ⟨_, _, s_needSquare hC l2 q, fun E9 h9 z => ⟨z.1, Or.inl ⟨kd1_f z.2.2, z.2.1⟩⟩, ?_⟩)
  rintro v h1 ⟨rfl, rfl, hq⟩
  obtain ⟨q, hq', rfl⟩ := inR_nI hq
  rw [nI_clamp (show q < 2 ^ 31 by omega)]
  refine ⟨rfl, hC.p10, hC.p3, hC.p5, _, s_X8_findFrom 100 r 21 hC.nr (by omega) (by omega) _ _ _ _ h1 hC.geo hC.way q hq', ?_⟩
  rintro v h2 ⟨rfl, hf, hA⟩
  have hs := csc.way (r := r) hf
  have hC2 := hC.csc hs
  refine ⟨rfl, hC2.p10, _, s_X8_throwsOf 100 h2 hC2.way (by omega) (nI q), ?_⟩
  rintro v h3 ⟨rfl, rfl⟩
  rw [rd41 (by omega)]
  exact ⟨_, rfl, kd1_t hq, _, rfl, ⟨_, hA, rfl⟩, hC2, hs.cch hr⟩
theorem s_X10_row {h : XH} {r : Nat} {s : SG} (hC : CI h r s) (hg : GoodS s) (q : Int32) : XSpec mX10_row 7 1 6 100 100 [.ref 0, .int q] h (cEnd h r s (kd1 (inR q 0 ((sKl s).toInt - 1))) (.int (sKr s q.toNatClampNeg))) (cThr h (kd1 (inR q 0 ((sKl s).toInt - 1))) eN eA) := by
  have k : (sKl s).toInt ≤ 100 := by
    rcases hg.2.2.2.1 with e | ⟨m, h1, e⟩
    · rw [e]; decide
    · rw [e, nI_toInt (by omega)]; omega
  have h0 := hC.2.2.2.2.1
  refine XSpec.of rfl (by decide) (Nat.le_of_ble_eq_true rfl) rfl (v_X10_row_0 r hC.bp q ?_)
  rw [h0.1]
  simp only [i32_lt0, i32_le, i32_lt q 101]
  have e : (101 : Int32).toInt = 101 := by decide
  rw [e]
  refine ⟨fun c => ⟨rfl, Or.inl ⟨kd1_f (inR_f.2 (by omega)), rfl⟩⟩, fun c => ⟨fun c2 => ⟨rfl, Or.inl ⟨kd1_f (inR_f.2 (by omega)), rfl⟩⟩, fun c2 => ⟨fun c3 => ⟨vp_in_iff.mpr (by omega), kd1_t (inR_t.2 (by omega)), ?_, hC, cch.rfl⟩, fun c3 => absurd (by omega) c3⟩⟩⟩
  rw [h0.2 _ (by show ((q.toInt.toNat : Nat) : Int) < _; omega)]
