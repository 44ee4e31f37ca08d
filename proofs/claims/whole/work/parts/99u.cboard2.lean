/-! READ: the class' board -/
/-- the tape is empty, the latest fault is at p -/
def sTp0 (s : SG) (p : Int32) : SG := (s.1, s.2.1, s.2.2.1, s.2.2.2.1, (0, sTp s, p))
def sFlt (s : SG) (p : Nat) : SG := sGm (sTp0 s (nI p)) (gRef (sG s) 0)
theorem sTp0_good {s : SG} (hg : GoodS s) (p : Int32) : GoodS (sTp0 s p) := ⟨hg.1, hg.2.1, hg.2.2.1, hg.2.2.2.1, Nat.zero_le _, fun i hi => absurd hi (Nat.not_lt_zero i)⟩
theorem CI.bch {h h' : XH} {r r2 : Nat} {s : SG} (hC : CI h r s) (h2 : r2 = 2 ∨ r2 = 12) (hn : r2 ≠ r) (hb : Bch r2 h h') : CI h' r s := by
  have hr := hC.r
  obtain ⟨c1, c2, c3, ⟨c4, c5⟩, c6, c7, c8⟩ := hC
  have e : ∀ c, c ≠ 11 → (c < r2 ∨ r2 + 8 < c) → xI h' c = xI h c := hb.1
  refine ⟨by rw [hb.2]; exact c1, c2.of (fun c _ => by rw [hb.2]) (fun c hc => e c (by omega) (by omega)), c3.of (fun c q1 q2 => e c (by omega) (by omega)), ⟨by rw [e 0 (by omega) (by omega)]; exact c4, fun z => (c5 z).of (fun c q1 q2 => e c (by omega) (by omega))⟩, ?_, ?_, ?_⟩
  · unfold CKr at *
    rw [e 39 (by omega) (by omega), e 40 (by omega) (by omega)]; exact c6
  · unfold CTp at *
    rw [e 0 (by omega) (by omega), e 1 (by omega) (by omega)]; exact c7
  · exact c8
theorem Bch.cch {r2 : Nat} {h h' : XH} (h2 : r2 = 2 ∨ r2 = 12) (hb : Bch r2 h h') : cch h h' := fun c hc => ⟨hb.1 c (by omega) (by omega), by rw [hb.2]⟩
/-- the reader and the board have changed their rules -/
def swp (r r2 : Nat) (h : XH) : XH := xSP 0 (va_up (xP (xSP 11 (va_up (xP h 11) 7 (some r)) h) 0) 3 (some r2)) (xSP 11 (va_up (xP h 11) 7 (some r)) h)
theorem xPs_at {a : Nat} {f : Nat → Option Nat} {h : XH} : xP (xSP a f h) a = f := va_up_eq h.2.2 a f
theorem xPs_ne {a b : Nat} {f : Nat → Option Nat} {h : XH} (hb : b ≠ a) : xP (xSP a f h) b = xP h b := va_up_of h.2.2 f hb
theorem swp_ne {r r2 c : Nat} {h : XH} (h0 : c ≠ 0) (h1 : c ≠ 11) : xP (swp r r2 h) c = xP h c := (xPs_ne h0).trans (xPs_ne h1)
theorem swp_x {r r2 : Nat} {h : XH} : xP (swp r r2 h) 0 = va_up (xP h 0) 3 (some r2) := by
  unfold swp
  rw [xPs_at, xPs_ne (by decide)]
theorem swp_0 {r r2 j : Nat} {h : XH} (hj : j ≠ 3) : xP (swp r r2 h) 0 j = xP h 0 j := by rw [swp_x]; exact va_up_of _ _ hj
theorem swp_03 {r r2 : Nat} {h : XH} : xP (swp r r2 h) 0 3 = some r2 := by rw [swp_x]; exact va_up_eq _ _ _
theorem swp_11 {r r2 : Nat} {h : XH} : xP (swp r r2 h) 11 = va_up (xP h 11) 7 (some r) := by
  unfold swp
  rw [xPs_ne (by decide), xPs_at]
theorem swp_ptr {r r2 : Nat} {h : XH} (hC : CPtr r (xP h)) (hr : xRul r (xP h)) (hn : r2 ≠ r) (h2 : xRul r2 (xP h)) (h3 : xRdr r2 (xP h)) : CPtr r2 (xP (swp r r2 h)) ∧ xRul r2 (xP (swp r r2 h)) := by
  obtain ⟨⟨b0, b1, b2, b3, b4, b5, b6, b7, b8, b9, b10, b11, b12⟩, p25, s29, s34, w, sn1, sn2, hp, nt, wr, -⟩ := hC
  have q1 := hr.1
  have q2 := h2.1
  have e : ∀ c, c ≠ 0 → c ≠ 11 → xP (swp r r2 h) c = xP h c := fun c a1 a2 => swp_ne a1 a2
  refine ⟨⟨⟨by rw [swp_0 (by decide)]; exact b0, swp_03, by rw [swp_0 (by decide)]; exact b2, by rw [swp_0 (by decide)]; exact b3, by rw [swp_0 (by decide)]; exact b4, by rw [swp_0 (by decide)]; exact b5, by rw [swp_0 (by decide)]; exact b6, by rw [swp_0 (by decide)]; exact b7, by rw [swp_0 (by decide)]; exact b8, by rw [swp_0 (by decide)]; exact b9, by rw [swp_0 (by decide)]; exact b10, by rw [swp_0 (by decide)]; exact b11, by rw [swp_0 (by decide)]; exact b12⟩, ?_, ?_, ?_, ?_, ?_, ?_, ?_, ?_, ?_, r, fun z => hn z.symm, ⟨?_, ?_⟩, hr.pc (e r (by omega) (by omega)) (e (r + 1) (by omega) (by omega))⟩, h2.pc (e r2 (by omega) (by omega)) (e (r2 + 1) (by omega) (by omega))⟩
  · unfold xPth at *; rw [e 25 (by decide) (by decide)]; exact p25
  · unfold xSta at *; rw [e 29 (by decide) (by decide)]; exact s29
  · unfold xSta at *; rw [e 34 (by decide) (by decide)]; exact s34
  · unfold xWay at *; rw [e 39 (by decide) (by decide)]; exact w
  · obtain ⟨y, z, k⟩ := sn1; refine ⟨y, z, ?_⟩; unfold xSnd at *; rw [e 43 (by decide) (by decide)]; exact k
  · obtain ⟨y, z, k⟩ := sn2; refine ⟨y, z, ?_⟩; unfold xSnd at *; rw [e 46 (by decide) (by decide)]; exact k
  · obtain ⟨y, z, k⟩ := hp; refine ⟨y, z, ?_⟩; unfold xHop at *; rw [e 49 (by decide) (by decide)]; exact k
  · obtain ⟨na, nb, k⟩ := nt; refine ⟨na, nb, ?_⟩; unfold xNot at *; rw [e 52 (by decide) (by decide)]; exact k
  · exact wr
  · rw [swp_11, va_up_of _ _ (by decide)]; exact h3.1
  · rw [swp_11, va_up_eq]
theorem s_X10_board {h : XH} {r : Nat} {s : SG} (hC : CI h r s) (hg : GoodS s) (nn : Int32) : XSpec mX10_board 83 1 6 100 100 [.ref 0, .int nn] h (fun v h' => kd1 (inR nn 0 (sTl s)) = 0 ∧ cch h h' ∧ (match lText (sTp s) nn.toNatClampNeg with
    | .inl e => v = some (.int (nI e.1)) ∧ (1 ≤ e.1 ∧ e.1 ≤ 5) ∧ CI h' r (sFlt s e.2)
    | .inr y => v = some (.int 0) ∧ ∃ (r' : Nat) (C : Nat → Int32), (∀ k, k < bLen y.2.1 → C k = bC y.2.1 k) ∧ CI h' r' (sNew (sTp0 s (-1)) (wC y.2.1 C)))) (cThr h (kd1 (inR nn 0 (sTl s))) eA eA) := by
  have hl : sTl s ≤ 500 := hg.2.2.2.2.1
  have el := nI_toInt (show sTl s < 2 ^ 31 by omega)
  have hrr := hC.r
  obtain ⟨r2, hn2, hrd2, hru2⟩ := hC.1.2.2.2.2.2.2.2.2.2.2
  have hr2 := hru2.1
  refine XSpec.of rfl (by decide) (Nat.le_of_ble_eq_true rfl) rfl (v_X10_board_0 r hC.bp nn ?_)
  rw [hC.tl, i32_lt0, i32_le, el]
  refine ⟨fun c => ⟨rfl, Or.inl ⟨kd1_f (inR_f.2 (by omega)), rfl⟩⟩, fun c => ⟨fun c2 => ?_, fun c2 => ⟨rfl, Or.inl ⟨kd1_f (inR_f.2 (by omega)), rfl⟩⟩⟩⟩
  have hin : inR nn 0 (sTl s) = true := inR_t.2 ⟨by omega, c2⟩
  have hk := kd1_t hin
  obtain ⟨n, hn, rfl⟩ := inR_nI hin
  rw [nI_clamp (show n < 2 ^ 31 by omega)]
  have ht := hC.2.2.2.2.2.1.2.2
  obtain ⟨h0, e0⟩ : ∃ h0, h0 = xSI 0 (va_up (xI h 0) 1 0) h := ⟨_, rfl⟩
  rw [← e0]
  have p0 : xP h0 = xP h := by rw [e0]; rfl
  have n0 : ∀ c, c ≠ 0 → xI h0 c = xI h c := fun c q => by rw [e0, xI_ne q]
  have a01 : xI h0 0 1 = 0 := by rw [e0, xI_at, va_up_eq]
  have a0 : ∀ j, j ≠ 1 → xI h0 0 j = xI h 0 j := fun j q => by rw [e0, xI_at, va_up_of _ _ q]
  clear e0
  have hR0 : RD h0 r2 := ⟨by rw [p0]; exact hrd2, by rw [p0]; exact hru2, by omega⟩
  have c0 : cch h h0 := fun c hc => ⟨n0 c (by omega), by rw [p0]⟩
  refine ⟨_, c_read (T := sTp s) hR0 (show n ≤ 500 by omega) (fun i hi => ⟨by rw [n0 1 (by decide)]; exact ht i (by omega), hg.2.2.2.2.2 i (by omega)⟩), ?_⟩
  intro v h1 hq
  have tape : ∀ (h1 : XH) (w : Int32), Bch r2 h0 h1 → CI (xSI 0 (va_up (xI h1 0) 2 w) h1) r (sTp0 s w) ∧ cch h (xSI 0 (va_up (xI h1 0) 2 w) h1) := fun h1 w hb => by
    have i0 : xI h1 0 = xI h0 0 := hb.1 0 (by decide) (by omega)
    have hC0 : CI h0 r (sTp0 s (sFp s)) := hC.tape (0, sTp s, sFp s) (fun c q1 q2 => n0 c q1) (fun j q1 q2 => a0 j q1) p0 ⟨a01, (a0 2 (by decide)).trans hC.2.2.2.2.2.1.2.1, fun i hi => absurd hi (Nat.not_lt_zero i)⟩
    have hC1 := hC0.bch hr2 hn2 hb
    refine ⟨hC1.tape (0, sTp s, w) (fun c q1 q2 => xI_ne q1) (fun j q1 q2 => by rw [xI_at, va_up_of _ _ q2]) rfl ⟨?_, ?_, fun i hi => absurd hi (Nat.not_lt_zero i)⟩, (c0.trans (hb.cch hr2)).trans (fun c hc => ⟨xI_ne (by omega), rfl⟩)⟩
    · rw [xI_at, va_up_of _ _ (by decide), i0]; exact a01
    · rw [xI_at, va_up_eq]; rfl
  cases hz : lText (sTp s) n with
  | inl e =>
    rw [hz] at hq
    obtain ⟨e1, e2, e3, e4⟩ := hq
    have ne : ¬ nI e.1 = 0 := nI_ne0 (by omega) (by omega)
    obtain ⟨t1, t2⟩ := tape h1 (nI e.2) e4
    have pb : xP h1 = xP h := e4.2.trans p0
    refine ⟨_, e1, fun q => absurd q ne, fun _ => ⟨by rw [pb]; exact hC.brd.2.2.1, by rw [pb]; exact hC.brd.2.2.2.2.2.1, ?_⟩⟩
    rw [e2]
    refine ⟨_, c_refuse t1 (k := 0) (by decide) 0 rfl, ?_⟩
    rintro v h4 ⟨rfl, k1, k2⟩
    exact ⟨rfl, hk, t2.trans k2, rfl, e3, k1⟩
  | inr y =>
    rw [hz] at hq
    obtain ⟨e1, e2, e4⟩ := hq
    have pb : xP h1 = xP h := e4.2.trans p0
    have i0 : xI h1 0 = xI h0 0 := e4.1 0 (by decide) (by omega)
    have hgd : GoodBD y.2.1 := lText_g (T := sTp s) (n := n) (by omega) (fun i hi => hg.2.2.2.2.2 i (by omega)) hz
    refine ⟨_, e1, fun _ => ⟨by rw [pb]; exact hC.brd.2.2.1, by rw [pb]; exact hC.brd.2.1, ?_⟩, fun q => absurd rfl q⟩
    obtain ⟨h2, e5⟩ : ∃ h2, h2 = xSI 0 (va_up (xI h1 0) 2 (-1)) h1 := ⟨_, rfl⟩
    rw [← e5]
    have t2 : cch h h2 := by rw [e5]; exact (tape h1 (-1) e4).2
    have p2 : xP h2 = xP h := by rw [e5]; exact pb
    have n2 : ∀ c, c ≠ 0 → xI h2 c = xI h1 c := fun c q => by rw [e5, xI_ne q]
    have a2 : xI h2 0 1 = 0 ∧ xI h2 0 2 = -1 := by
      rw [e5, xI_at]
      exact ⟨by rw [va_up_of _ _ (by decide), i0]; exact a01, va_up_eq _ _ _⟩
    clear e5
    have hrd' : xRdr r2 (xP h2) := by rw [p2]; exact hrd2
    have hru' : xRul r2 (xP h2) := by rw [p2]; exact hru2
    refine ⟨_, XSpec.of (Q := fun v h' => v = some (.ref r2) ∧ h' = xSP 11 (va_up (xP h2 11) 7 (some r)) h2) rfl (by decide) (Nat.le_of_ble_eq_true rfl) rfl (v_X4_exchange_0 r (by rw [p2]; exact hC.rul) (by omega) r2 hrd' hru' (by omega) ⟨rfl, rfl⟩), ?_⟩
    rintro v h3 ⟨rfl, e6⟩
    subst e6
    refine ⟨r2, rfl, ?_⟩
    have hptr := swp_ptr (h := h2) (by rw [p2]; exact hC.1) (by rw [p2]; exact hC.rul) hn2 hru' hrd'
    have hW2 : CRw h2 r2 y.2.1 := e2.of (fun c q1 q2 => n2 c (by omega))
    have hW : CRl (swp r r2 h2) r2 (wC y.2.1 (xI h2 (r2 + 3))) := hW2.rl
    have hgd2 : GoodBD (wC y.2.1 (xI h2 (r2 + 3))) := wC_good hgd (fun k hk => hW2.2.2.2.1 k hk)
    have hpt : xPth 21 (xP (swp r r2 h2)) := by
      have := hC.bp.2.2.2.1
      unfold xPth at *
      rw [swp_ne (by decide) (by decide), p2]; exact this
    refine ⟨_, s_anew (s := sTp0 s (-1)) (h := swp r r2 h2) hptr.1 hptr.2 hpt hW hgd2 (fun i hi => ?_) ⟨a2.1, a2.2, fun i hi => absurd hi (Nat.not_lt_zero i)⟩, ?_⟩
    · show xI h2 33 i = _
      rw [n2 33 (by decide), e4.1 33 (by decide) (by omega), n0 33 (by decide)]
      exact hC.2.2.1.2.2.2.2.2.2.2 i hi
    · rintro v h5 ⟨rfl, k1, k2⟩
      refine ⟨rfl, hk, (t2.trans (show cch h2 (swp r r2 h2) from fun c hc => ⟨rfl, swp_ne (by omega) (by omega)⟩)).trans k2, rfl, r2, _, fun k hk => hW2.2.2.2.1 k hk, k1⟩
theorem sFlt_good {s : SG} (hg : GoodS s) (p : Nat) : GoodS (sFlt s p) := by
  obtain ⟨g1, g2, g3, g4, g5, g6⟩ := sTp0_good hg (nI p)
  exact ⟨g1, gRef_good g2 0, g3, g4, g5, g6⟩
