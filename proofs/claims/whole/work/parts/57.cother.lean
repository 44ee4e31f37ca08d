/-! THE CLASS: another table: matters, most, wanted, ended -/
/-- where one goes by these exits and this end -/
def TJ (b : BD) (J : Nat → Nat) (E : Nat) : Nat → Nat → Nat := goTo J (bLast b) E (farAt (bC b) (bLen b) (bLast b) J)
def tLong (b : BD) (J : Nat → Nat) (E n : Nat) : Nat := longK (bLast b) (bLst b) (bOd b) (TJ b J E) 0 n
def bJ (b : BD) : Nat → Nat := jmps (bFt b) (bHd b) (bKx b)
theorem bT_TJ (b : BD) : bT b = TJ b (bJ b) (bE b) := rfl
theorem bLong_t (b : BD) (n : Nat) : bLong b 0 n = tLong b (bJ b) (bE b) n := rfl
def GoodJ (b : BD) (J : Nat → Nat) : Prop := (∀ j, j ≤ bLast b → J j ≤ bLast b) ∧ J (bLast b) = 0
theorem GoodS.bj {s : SG} (g : GoodS s) : GoodJ (sB s) (bJ (sB s)) := g.1.1.jl
theorem GoodJ.set {b : BD} {J : Nat → Nat} (g : GoodJ b J) {f t : Nat} (hf : f < bLast b) (ht : t ≤ bLast b) : GoodJ b (va_up J f t) := by
  refine ⟨fun j hj => ?_, ?_⟩
  · unfold va_up
    split
    · exact ht
    · exact g.1 j hj
  · rw [va_up_of _ _ (by omega)]; exact g.2
def OJ (h : XH) (J : Nat → Nat) : Prop := ∀ j, j < 101 → xI h 26 j = nI (J j)
def OF (h : XH) (b : BD) (J : Nat → Nat) : Prop := ∀ s, s ≤ bLast b → ∀ g, g < 7 → xI h 27 (s * 7 + g) = farAt (bC b) (bLen b) (bLast b) J s g
theorem GoodS.ok {s : SG} (g : GoodS s) : CodeOK (bC (sB s)) (bLen (sB s)) := g.1.1.2.2.2.2.2.1
theorem GoodS.ex {s : SG} (g : GoodS s) : ∀ i, i < bKx (sB s) → 1 ≤ bFt (sB s) i ∧ bFt (sB s) i < bLast (sB s) ∧ 1 ≤ bHd (sB s) i ∧ bHd (sB s) i ≤ bLast (sB s) := g.1.1.2.2.2.2.2.2.1
theorem CI.C {h : XH} {r : Nat} {s : SG} (hC : CI h r s) : xI h (r + 3) = bC (sB s) := hC.2.1.2.2.2.2.2.2.2.2.2.1
theorem CI.len {h : XH} {r : Nat} {s : SG} (hC : CI h r s) : xI h (r + 1) 3 = nI (bLen (sB s)) := hC.2.1.2.2.2.2.2.2.2.2.1
theorem CI.kx {h : XH} {r : Nat} {s : SG} (hC : CI h r s) : xI h r 7 = nI (bKx (sB s)) := hC.2.1.2.2.2.2.2.1
theorem CI.e {h : XH} {r : Nat} {s : SG} (hC : CI h r s) : xI h r 3 = nI (bE (sB s)) := hC.2.1.2.1
theorem CI.fh {h : XH} {r : Nat} {s : SG} (hC : CI h r s) : ∀ i, i < bKx (sB s) → xI h (r + 6) i = nI (bFt (sB s) i) ∧ xI h (r + 7) i = nI (bHd (sB s) i) := hC.2.1.2.2.2.2.2.2.1
theorem c_takeFeet {h : XH} {r : Nat} {s : SG} (hC : CI h r s) (hg : GoodS s) : XSpec mX3_takeFeet 2 0 0 100 100 [.ref 25, .ref r] h (fun v h' => v = none ∧ OJ h' (bJ (sB s)) ∧ CI h' r s ∧ cch h h') xno := by
  have hl := hg.l
  refine (s_X3_takeFeet 100 25 h hC.pth (by omega) r hC.rul hC.nr _ _ (bKx (sB s)) hl.2.2.1 (fun i hi => by have := hg.ex i hi; omega) hC.kx hC.fh).mono ?_ (fun _ _ z => z)
  rintro v h' ⟨e, hJ, hf⟩
  have hs := csc.oth hC.r (hf.fs (fun c q1 q2 => Or.inl (by omega)))
  exact ⟨e, hJ, hC.csc hs, hs.cch hC.r⟩
theorem c_measure {h : XH} {r : Nat} {s : SG} (hC : CI h r s) (hg : GoodS s) (J : Nat → Nat) (hG : GoodJ (sB s) J) (hO : OJ h J) : XSpec mX3_measure 5 0 0 100 100 [.ref 25, .ref r] h (fun v h' => v = none ∧ OJ h' J ∧ OF h' (sB s) J ∧ CI h' r s ∧ cch h h') xno := by
  have hl := hg.l
  have hr := hC.r
  have ok := hg.ok
  rw [← hC.C] at ok
  refine (s_X3_measure 100 25 r h hC.pth (by omega) hC.rul hC.nr _ _ J hl.2.1 ok hG.1 hG.2 hC.last hC.len (fun j hj => hO j (by omega))).mono ?_ (fun _ _ z => z)
  rintro v h' ⟨e, hF, hf⟩
  have hs := csc.oth hC.r (hf.mono (fun c q => by omega))
  rw [hC.C] at hF
  exact ⟨e, fun j hj => by rw [(hf 26 (by omega)).1]; exact hO j hj, hF, hC.csc hs, hs.cch hr⟩
theorem c_lay {h : XH} {r : Nat} {s : SG} (hC : CI h r s) (hg : GoodS s) (J J0 : Nat → Nat) (E : Nat) (hE : E ≤ 2) (hG : GoodJ (sB s) J) (hO : OJ h J) (hF : OF h (sB s) J0) (hz : ∀ s' g, farAt (bC (sB s)) (bLen (sB s)) (bLast (sB s)) J0 s' g = farAt (bC (sB s)) (bLen (sB s)) (bLast (sB s)) J s' g) : XSpec mX3_lay 3 0 0 100 100 [.ref 25, .ref r, .int (nI E)] h (fun v h' => v = none ∧ Geo h' r 25 (bLast (sB s)) (bLst (sB s)) (bOd (sB s)) (TJ (sB s) J E) ∧ OJ h' J ∧ OF h' (sB s) J0 ∧ CI h' r s ∧ cch h h') xno := by
  have hl := hg.l
  have hr := hC.r
  refine (s_X3_lay 100 25 r h hC.pth (by omega) hC.rul hC.nr _ E J (farAt (bC (sB s)) (bLen (sB s)) (bLast (sB s)) J) hl.2.1 hE (fun s g => farAt_b _ _ _ _ s g) hG.1 hC.last (fun j hj => hO j (by omega)) (fun s' hs' g hg' => by rw [← hz]; exact hF s' hs' g hg')).mono ?_ (fun _ _ z => z)
  rintro v h' ⟨e, hT, hf⟩
  have hs := csc.oth hr (hf.fs (fun c q1 q2 => Or.inl (by omega)))
  have hC' := hC.csc hs
  obtain ⟨g1, g2, g3, g4, g5, g6, g7, g8, g9, g10⟩ := hC'.geo
  exact ⟨e, ⟨g1, hC'.pth, g3, g4, g5, g6, g7, g8, g9, fun s' hs' f hf' => ⟨hT s' hs' f (by omega), goTo_le hs' hG.1⟩⟩, fun j hj => by rw [(hf 26 (by omega)).1]; exact hO j hj, fun s' hs' g hg' => by rw [(hf 27 (by omega)).1]; exact hF s' hs' g hg', hC', hs.cch hr⟩
theorem c_sumOut {h : XH} {r : Nat} {s : SG} (hC : CI h r s) (a : Nat) (ha : a = 21 ∨ a = 25) (T : Nat → Nat → Nat) (hG : Geo h r a (bLast (sB s)) (bLst (sB s)) (bOd (sB s)) T) (n : Nat) (hn : n ≤ 400) : XSpec mX6_sumOut 4 0 0 100 100 [.ref 43, .ref r, .ref a, .int 0, .int (nI n)] h (fun v h' => v = some (.long (lN (longK (bLast (sB s)) (bLst (sB s)) (bOd (sB s)) T 0 n))) ∧ CI h' r s ∧ cch h h' ∧ xfr 43 46 h h') xno := by
  refine (s_sumOut 100 43 r a _ _ 0 n h _ _ hC.s43 hG (Nat.zero_le _) hn (by omega) hC.nr (by omega)).mono ?_ (fun _ _ z => z)
  rintro v h' ⟨e, hf, hi⟩
  have hs := csc.sand hC.r (Or.inl rfl) hf hi
  exact ⟨e, hC.csc hs, hs.cch hC.r, hf⟩
theorem OJ.fr {lo hi : Nat} {h h' : XH} {J : Nat → Nat} (hf : xfr lo hi h h') (hc : 26 < lo ∨ hi ≤ 26) (hO : OJ h J) : OJ h' J := fun j hj => by rw [(hf 26 hc).1]; exact hO j hj
theorem OF.fr {lo hi : Nat} {h h' : XH} {b : BD} {J : Nat → Nat} (hf : xfr lo hi h h') (hc : 27 < lo ∨ hi ≤ 27) (hO : OF h b J) : OF h' b J := fun s hs g hg => by rw [(hf 27 hc).1]; exact hO s hs g hg
/-- a foot is put, or taken away -/
theorem OJ.put {h : XH} {J : Nat → Nat} (hO : OJ h J) {f t : Nat} (hf : f ≤ 100) : OJ (xSI 26 (wr (xI h 26) 101 (nI f) (nI t)) h) (va_up J f t) := fun j hj => by
  rw [xI_at, iz_wr (M := 101) rfl (by omega)]
  unfold va_up
  by_cases z : j = f
  · rw [if_pos z, if_pos z]
  · rw [if_neg z, if_neg z]; exact hO j hj
theorem csc.put {r : Nat} {h : XH} {f : Nat → Int32} (hr : r = 2 ∨ r = 12) : csc r h (xSI 26 f h) := csc.oth hr (xfs.SI (Or.inl (by omega)))
theorem OF.put {h : XH} {b : BD} {J : Nat → Nat} {f : Nat → Int32} (hO : OF h b J) : OF (xSI 26 f h) b J := fun s hs g hg => by rw [xI_ne (by decide)]; exact hO s hs g hg
/-- the exits without one -/
theorem jmps_s (ft hd : Nat → Nat) (k : Nat) : jmps ft hd (k + 1) = va_up (jmps ft hd k) (ft k) (hd k) := rfl
theorem jmps_at {ft hd : Nat → Nat} {q : Nat} : ∀ k e, e < k → ft e = q → (∀ i j, i < k → j < k → ft i = ft j → i = j) → jmps ft hd k q = hd e := by
  intro k
  induction k with
  | zero => intro e he; omega
  | succ k ih =>
    intro e he eq hi
    rw [jmps_s]
    by_cases z : e = k
    · rw [← eq, z, va_up_eq]
    · rw [va_up_of _ _ (fun y => z (hi e k (by omega) (by omega) (by rw [eq, y])))]
      exact ih e (by omega) eq (fun i j i1 j1 => hi i j (by omega) (by omega))
theorem jmpw_up {ft hd : Nat → Nat} : ∀ k e, e < k → k ≤ 24 → (∀ i j, i < k → j < k → ft i = ft j → i = j) → jmpw (nI e) ft hd k = va_up (jmps ft hd k) (ft e) 0 := by
  have out : ∀ k e, k ≤ e → e ≤ 24 → jmpw (nI e) ft hd k = jmps ft hd k := by
    intro k
    induction k with
    | zero => intro e _ _; rfl
    | succ k ih =>
      intro e h1 h2
      have : ¬ nI k = nI e := fun z => by have := (nI_eq (by omega) (by omega)).1 z; omega
      rw [jmpw, if_neg this, ih e (by omega) h2]; rfl
  intro k
  induction k with
  | zero => intro e he; omega
  | succ k ih =>
    intro e he hk hi
    by_cases z : e = k
    · subst z
      rw [jmpw, if_pos rfl, out e e (Nat.le_refl _) (by omega)]
      funext q
      rw [jmps_s]
      by_cases y : q = ft e
      · rw [y, va_up_eq]
        exact jmps_0 e (fun i h1 h2 => by have := hi i e (by omega) (by omega) h2; omega)
      · rw [va_up_of _ _ y, va_up_of _ _ y]
    · have : ¬ nI k = nI e := fun y => by have := (nI_eq (by omega) (by omega)).1 y; omega
      rw [jmpw, if_neg this, ih e (by omega) (by omega) (fun i j i1 j1 => hi i j (by omega) (by omega))]
      have hne : ft k ≠ ft e := fun y => z (hi k e (by omega) (by omega) y).symm
      rw [jmps_s, va_up_cm _ _ _ hne]
def bW (b : BD) (e : Nat) : Nat → Nat := va_up (bJ b) (bFt b e) 0
def chL (b : BD) (e n : Nat) : Int64 := lN (tLong b (bW b e) (bE b) n) - lN (bLong b 0 n)
theorem s_sumWithout {h : XH} {r : Nat} {s : SG} (hC : CI h r s) (hg : GoodS s) (e n : Nat) (he : e < bKx (sB s)) (hn : n ≤ 400) : XSpec mX10_sumWithout 6 0 0 100 100 [.ref 0, .int (nI e), .int (nI n)] h (fun v h' => v = some (.long (lN (tLong (sB s) (bW (sB s) e) (bE (sB s)) n))) ∧ CI h' r s ∧ cch h h') xno := by
  have hr := hC.r
  have hl := hg.l
  have hx := hg.ex e he
  refine XSpec.of rfl (by decide) (Nat.le_of_ble_eq_true rfl) rfl (v_X10_sumWithout_0 r hC.bp (nI e) (nI n) ⟨_, c_takeFeet hC hg, ?_⟩)
  rintro v h1 ⟨rfl, hO1, hC1, hc1⟩
  refine ⟨rfl, hC1.p6, hC1.p3, _, s_X5_footOf 100 h1 r hC1.rul hC1.nr (nI e), ?_⟩
  rintro v h2 ⟨rfl, rfl⟩
  have ef : rd (xI h2 (r + 6)) 24 0 (nI e) = nI (bFt (sB s) e) := by
    rw [iz_rd (M := 24) rfl (by omega)]; exact (hC1.fh e he).1
  refine ⟨_, rfl, _, s_X3_putFoot 100 h2 25 hC1.pth (by omega) _ 0, ?_⟩
  rintro v h3 ⟨rfl, e3⟩
  rw [ef] at e3
  have hO3 := hO1.put (f := bFt (sB s) e) (t := 0) (by omega)
  have hs3 := csc.put (h := h2) (f := wr (xI h2 26) 101 (nI (bFt (sB s) e)) (nI 0)) hr
  have hC3 := hC1.csc hs3
  have hc3 := hs3.cch hr
  rw [← show h3 = xSI 26 (wr (xI h2 26) 101 (nI (bFt (sB s) e)) (nI 0)) h2 from e3] at hO3 hC3 hc3
  have hG := hg.bj.set (f := bFt (sB s) e) (t := 0) hx.2.1 (by omega)
  refine ⟨rfl, hC3.p6, hC3.p3, _, c_measure hC3 hg _ hG hO3, ?_⟩
  rintro v h4 ⟨rfl, hO4, hF4, hC4, hc4⟩
  refine ⟨rfl, hC4.p6, hC4.p3, hC4.p3, ?_⟩
  rw [hC4.e]
  refine ⟨_, c_lay hC4 hg _ _ _ hl.2.2.2 hG hO4 hF4 (fun _ _ => rfl), ?_⟩
  rintro v h5 ⟨rfl, hG5, -, -, hC5, hc5⟩
  refine ⟨rfl, hC5.p11, hC5.p3, hC5.p6, _, c_sumOut hC5 25 (Or.inr rfl) _ hG5 n hn, ?_⟩
  rintro v h6 ⟨rfl, hC6, hc6, -⟩
  exact ⟨_, rfl, rfl, hC6, (((hc1.trans hc3).trans hc4).trans hc5).trans hc6⟩
theorem s_X10_matters {h : XH} {r : Nat} {s : SG} (hC : CI h r s) (hg : GoodS s) (e n : Int32) : XSpec mX10_matters 8 2 12 100 100 [.ref 0, .int e, .int n] h (cEndL h r s (kd2 (inR e 0 ((bKx (sB s) : Int) - 1)) (inR n 0 400)) (fun z => z = chL (sB s) e.toNatClampNeg n.toNatClampNeg)) (cThr h (kd2 (inR e 0 ((bKx (sB s) : Int) - 1)) (inR n 0 400)) eN eA) := by
  have hl := hg.l
  refine XSpec.of rfl (by decide) (Nat.le_of_ble_eq_true rfl) rfl (v_X10_matters_0 r hC.bp e n ⟨_, _, s_needExit hC hl.2.2.1 e, fun E9 h9 z => ⟨z.1, Or.inl ⟨kd2_1 z.2.2, z.2.1⟩⟩, ?_⟩)
  rintro v h1 ⟨rfl, rfl, he⟩
  refine ⟨rfl, _, _, s_needThrows hC n, fun E9 h9 z => ⟨z.1, Or.inr ⟨kd2_2 he z.2.2, z.2.1⟩⟩, ?_⟩
  rintro v h2 ⟨rfl, rfl, hn⟩
  have hk := kd2_t he hn
  obtain ⟨e, he', rfl⟩ : ∃ q, q < bKx (sB s) ∧ e = nI q := by
    have := inR_t.1 he
    have h2 := inR_nI (x := e) (n := bKx (sB s) - 1) (inR_t.2 (by omega))
    obtain ⟨q, q1, q2⟩ := h2
    exact ⟨q, by omega, q2⟩
  obtain ⟨n, hn', rfl⟩ := inR_nI (n := 400) hn
  rw [nI_clamp (show e < 2 ^ 31 by omega), nI_clamp (show n < 2 ^ 31 by omega)]
  refine ⟨rfl, _, s_sumWithout hC hg e n he' hn', ?_⟩
  rintro v h3 ⟨rfl, hC3, hc3⟩
  refine ⟨_, rfl, hC3.p11, hC3.p3, hC3.p5, _, c_sumOut hC3 21 (Or.inl rfl) _ hC3.geo n hn', ?_⟩
  rintro v h4 ⟨rfl, hC4, hc4, -⟩
  exact ⟨_, rfl, hk, _, rfl, rfl, hC4, hc3.trans hc4⟩
def endL (b : BD) (E n : Nat) : Int64 := lN (tLong b (bJ b) E n)
theorem s_X10_ended {h : XH} {r : Nat} {s : SG} (hC : CI h r s) (hg : GoodS s) (e n : Int32) : XSpec mX10_ended 8 2 12 100 100 [.ref 0, .int e, .int n] h (cEndL h r s (kd2 (inR e 0 2) (inR n 0 400)) (fun z => z = endL (sB s) e.toNatClampNeg n.toNatClampNeg)) (cThr h (kd2 (inR e 0 2) (inR n 0 400)) eN eA) := by
  have hl := hg.l
  refine XSpec.of rfl (by decide) (Nat.le_of_ble_eq_true rfl) rfl (v_X10_ended_0 r hC.bp e n ⟨_, _, s_needWhat hC e 2 2 (by decide), fun E9 h9 z => ⟨z.1, Or.inl ⟨kd2_1 z.2.2, z.2.1⟩⟩, ?_⟩)
  rintro v h1 ⟨rfl, rfl, he⟩
  refine ⟨rfl, _, _, s_needThrows hC n, fun E9 h9 z => ⟨z.1, Or.inr ⟨kd2_2 he z.2.2, z.2.1⟩⟩, ?_⟩
  rintro v h2 ⟨rfl, rfl, hn⟩
  have hk := kd2_t (show inR e 0 2 = true from he) hn
  obtain ⟨e, he', rfl⟩ := inR_nI he
  obtain ⟨n, hn', rfl⟩ := inR_nI (n := 400) hn
  rw [nI_clamp (show e < 2 ^ 31 by omega), nI_clamp (show n < 2 ^ 31 by omega)]
  refine ⟨rfl, hC.p6, hC.p3, _, c_takeFeet hC hg, ?_⟩
  rintro v h3 ⟨rfl, hO3, hC3, hc3⟩
  refine ⟨rfl, hC3.p6, hC3.p3, _, c_measure hC3 hg _ hg.bj hO3, ?_⟩
  rintro v h4 ⟨rfl, hO4, hF4, hC4, hc4⟩
  refine ⟨rfl, hC4.p6, hC4.p3, _, c_lay hC4 hg _ _ e he' hg.bj hO4 hF4 (fun _ _ => rfl), ?_⟩
  rintro v h5 ⟨rfl, hG5, -, -, hC5, hc5⟩
  refine ⟨rfl, hC5.p11, hC5.p3, hC5.p6, _, c_sumOut hC5 25 (Or.inr rfl) _ hG5 n hn', ?_⟩
  rintro v h6 ⟨rfl, hC6, hc6, -⟩
  exact ⟨_, rfl, hk, _, rfl, rfl, hC6, ((hc3.trans hc4).trans hc5).trans hc6⟩
