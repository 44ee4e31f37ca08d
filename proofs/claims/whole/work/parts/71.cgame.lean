/-! THE GAME: count, exit, goes, piece, rolled, note, forget, often: the class -/
def sGm (s : SG) (g : GD) : SG := (s.1, g, s.2.2)
theorem CI.game {h h' : XH} {r : Nat} {s : SG} (hC : CI h r s) (g : GD) (hI : ∀ c, ¬ (29 ≤ c ∧ c ≤ 33) → xI h' c = xI h c) (hP : xP h' = xP h) (hG : CGm h' 29 (sB s) g) : CI h' r (sGm s g) := by
  have hr := hC.r
  obtain ⟨c1, c2, c3, ⟨c4, c5⟩, c6, c7, c8⟩ := hC
  refine ⟨by rw [hP]; exact c1, c2.of (h := h) (fun c _ => by rw [hP]) (fun c hc => hI c (by omega)), hG, ⟨by rw [hI 0 (by omega)]; exact c4, fun z => (c5 z).of (h := h) (fun c q1 q2 => hI c (by omega))⟩, ?_, ?_, ?_⟩
  · unfold CKr at *
    rw [hI 39 (by omega), hI 40 (by omega)]; exact c6
  · unfold CTp at *
    rw [hI 0 (by omega), hI 1 (by omega)]; exact c7
  · exact c8
theorem CI.gm {h : XH} {r : Nat} {s : SG} (hC : CI h r s) : CGm h 29 (sB s) (sG s) := hC.2.2.1
def ovB (s : SG) : Bool := isOv (bLast (sB s)) (bPc (sB s)) (gPl (sG s))
def ctA (s : SG) (w : Int32) : Int32 := if w = 0 then nI (bLast (sB s)) else if w = 1 then nI (bKx (sB s)) else if w = 2 then nI (bPc (sB s)) else if w = 3 then nI (bE (sB s)) else if w = 4 then nI (bAg (sB s)) else if w = 5 then nI (bMt (sB s)) else if w = 6 then nI (gTh (sG s)) else if w = 7 then (if ovB s = true then -1 else nI (gT (sG s))) else if w = 8 then nI (gNn (sG s)) else if w = 9 then nI (sTl s) else if w = 10 then gSt (sG s) 0 else if w = 11 then gSt (sG s) 1 else if w = 12 then gSt (sG s) 2 else nI (bOd (sB s) (w.toNatClampNeg - 20))
theorem c_refused {h : XH} {r : Nat} {s : SG} (hC : CI h r s) {k : Nat} (hk : k < 3) (kk : Int32) (e : kk = nI k) : XSpec mX7_refusedOf 1 0 0 100 100 [.ref 29, .int kk] h (xq (some (.int (gSt (sG s) k))) h) xno := by
  subst e
  have e := s_X7_refusedOf 100 h 29 hC.1.2.2.1 (by omega) (nI k)
  rw [iz_rd (M := 3) rfl hk, hC.gm.2.2.2.2.2.2.2 k hk] at e
  exact e
theorem s_X10_count {h : XH} {r : Nat} {s : SG} (hC : CI h r s) (hg : GoodS s) (w : Int32) : XSpec mX10_count 7 1 6 100 100 [.ref 0, .int w] h (cEndI h r s (kd1 (inR w 0 12 || inR w 21 26)) (fun z => z = ctA s w)) (cThr h (kd1 (inR w 0 12 || inR w 21 26)) eN eA) := by
  have hl := hg.l
  have hb := hC.2.1
  have hG := hC.gm
  have h20 : (20 : Int32).toInt = 20 := by decide
  have h26 : (26 : Int32).toInt = 26 := by decide
  have hm : bMt (sB s) ≤ 1 := hg.1.2.2.2.1
  have fin : ∀ (k : Int32) (v : Int32), kd1 (inR k 0 12 || inR k 21 26) = 0 → v = ctA s k → cEndI h r s (kd1 (inR k 0 12 || inR k 21 26)) (fun z => z = ctA s k) (some (.int v)) h := fun k v e1 e2 => ⟨e1, v, rfl, e2, hC, cch.rfl⟩
  have ref : ∀ (k : Int32) (i : Nat) (kk : Int32), i < 3 → kk = nI i → kd1 (inR k 0 12 || inR k 21 26) = 0 → gSt (sG s) i = ctA s k → ∃ Q1, XSpec mX7_refusedOf 1 0 0 100 100 [.ref 29, .int kk] h Q1 xno ∧ ∀ v h1, Q1 v h1 → ∃ r1 : Int32, v = some (.int r1) ∧ cEndI h r s (kd1 (inR k 0 12 || inR k 21 26)) (fun z => z = ctA s k) (some (.int r1)) h1 := by
    intro k i kk hi ek e1 e2
    refine ⟨_, c_refused hC hi kk ek, ?_⟩
    rintro v h1 ⟨rfl, e⟩
    subst e
    exact ⟨_, rfl, fin k _ e1 e2⟩
  have body : (w.toInt ≤ 20 ∨ 26 < w.toInt) → ((w = 0 → cEndI h r s (kd1 (inR w 0 12 || inR w 21 26)) (fun z => z = ctA s w) (some (.int (xI h r 0))) h) ∧ (w = 1 → cEndI h r s (kd1 (inR w 0 12 || inR w 21 26)) (fun z => z = ctA s w) (some (.int (xI h r 7))) h) ∧ (w = 2 → cEndI h r s (kd1 (inR w 0 12 || inR w 21 26)) (fun z => z = ctA s w) (some (.int (xI h r 6))) h) ∧ (w = 3 → cEndI h r s (kd1 (inR w 0 12 || inR w 21 26)) (fun z => z = ctA s w) (some (.int (xI h r 3))) h) ∧ (w = 4 → cEndI h r s (kd1 (inR w 0 12 || inR w 21 26)) (fun z => z = ctA s w) (some (.int (xI h r 4))) h) ∧ (w = 5 → ((xI h r 5) = 0 → cEndI h r s (kd1 (inR w 0 12 || inR w 21 26)) (fun z => z = ctA s w) (some (.int 0)) h) ∧ (¬ (xI h r 5) = 0 → cEndI h r s (kd1 (inR w 0 12 || inR w 21 26)) (fun z => z = ctA s w) (some (.int 1)) h)) ∧ (w = 6 → cEndI h r s (kd1 (inR w 0 12 || inR w 21 26)) (fun z => z = ctA s w) (some (.int (xI h 29 1))) h) ∧ (w = 7 → cEndI h r s (kd1 (inR w 0 12 || inR w 21 26)) (fun z => z = ctA s w) (some (.int (xI h 29 0))) h) ∧ (w = 8 → cEndI h r s (kd1 (inR w 0 12 || inR w 21 26)) (fun z => z = ctA s w) (some (.int (xI h 29 2))) h) ∧ (w = 9 → cEndI h r s (kd1 (inR w 0 12 || inR w 21 26)) (fun z => z = ctA s w) (some (.int (xI h 0 1))) h) ∧ (w = 10 → ∃ Q1, XSpec mX7_refusedOf 1 0 0 100 100 [.ref 29, .int 0] h Q1 xno ∧ ∀ v h1, Q1 v h1 → ∃ r1 : Int32, v = some (.int r1) ∧ cEndI h r s (kd1 (inR w 0 12 || inR w 21 26)) (fun z => z = ctA s w) (some (.int r1)) h1) ∧ (w = 11 → ∃ Q1, XSpec mX7_refusedOf 1 0 0 100 100 [.ref 29, .int 1] h Q1 xno ∧ ∀ v h1, Q1 v h1 → ∃ r1 : Int32, v = some (.int r1) ∧ cEndI h r s (kd1 (inR w 0 12 || inR w 21 26)) (fun z => z = ctA s w) (some (.int r1)) h1) ∧ (w = 12 → ∃ Q1, XSpec mX7_refusedOf 1 0 0 100 100 [.ref 29, .int 2] h Q1 xno ∧ ∀ v h1, Q1 v h1 → ∃ r1 : Int32, v = some (.int r1) ∧ cEndI h r s (kd1 (inR w 0 12 || inR w 21 26)) (fun z => z = ctA s w) (some (.int r1)) h1) ∧ ((w.toInt < 0 ∨ 12 < w.toInt) → cThr h (kd1 (inR w 0 12 || inR w 21 26)) eN eA eN h)) := by
    intro hw
    refine ⟨?_, ?_, ?_, ?_, ?_, ?_, ?_, ?_, ?_, ?_, ?_, ?_, ?_, ?_⟩
    · rintro rfl; exact fin 0 _ (by decide) hC.last
    · rintro rfl; exact fin 1 _ (by decide) hC.kx
    · rintro rfl; exact fin 2 _ (by decide) hb.2.2.2.2.1
    · rintro rfl; exact fin 3 _ (by decide) hC.e
    · rintro rfl; exact fin 4 _ (by decide) hb.2.2.1
    · rintro rfl
      rw [hb.2.2.2.1]
      refine ⟨fun c => fin 5 _ (by decide) ?_, fun c => fin 5 _ (by decide) ?_⟩
      · exact c.symm
      · have : bMt (sB s) = 1 := by
          have : bMt (sB s) ≠ 0 := fun z => c (by rw [z]; rfl)
          omega
        show (1 : Int32) = nI (bMt (sB s))
        rw [this]; rfl
    · rintro rfl; exact fin 6 _ (by decide) hG.2.1
    · rintro rfl; exact fin 7 _ (by decide) hG.1
    · rintro rfl; exact fin 8 _ (by decide) hG.2.2.1
    · rintro rfl; exact fin 9 _ (by decide) hC.2.2.2.2.2.1.1
    · rintro rfl; exact ref 10 0 0 (by decide) rfl (by decide) rfl
    · rintro rfl; exact ref 11 1 1 (by decide) rfl (by decide) rfl
    · rintro rfl; exact ref 12 2 2 (by decide) rfl (by decide) rfl
    · intro z
      refine ⟨rfl, Or.inl ⟨kd1_f ?_, rfl⟩⟩
      rw [inR_f.2 (by omega), inR_f.2 (by omega)]; rfl
  refine XSpec.of rfl (by decide) (Nat.le_of_ble_eq_true rfl) rfl (v_X10_count_0 r hC.bp w ⟨fun c => body (Or.inl ?_), fun c => ⟨fun c2 => body (Or.inr ?_), fun c2 => ?_⟩⟩)
  · rw [i32_le, h20] at c; exact c
  · rw [i32_lt, h26] at c2; exact c2
  · rw [i32_le, h20] at c
    rw [i32_lt, h26] at c2
    have hin : inR w 21 26 = true := inR_t.2 (by omega)
    obtain ⟨q, q1, q2, rfl⟩ : ∃ q, 21 ≤ q ∧ q ≤ 26 ∧ w = nI q := by
      obtain ⟨q, q1, q2⟩ := inR_nI (x := w) (n := 26) (inR_t.2 (by omega))
      rw [q2, nI_toInt (by omega)] at c
      exact ⟨q, by omega, q1, q2⟩
    have e : nI q - 20 = nI (q - 20) := pk_sub (b := 20) (by omega)
    rw [e]
    refine ⟨_, c_odds hC (show 1 ≤ q - 20 by omega) (by omega), ?_⟩
    rintro v h1 ⟨rfl, e1⟩
    subst e1
    refine ⟨_, rfl, fin _ _ (kd1_t (by rw [hin]; simp)) ?_⟩
    have hne : ∀ k : Nat, k ≤ 12 → ¬ nI q = nI k := fun k hk z => by
      have := (nI_eq (by omega) (by omega)).1 z
      omega
    unfold ctA
    rw [if_neg (show ¬ nI q = 0 from hne 0 (by omega)), if_neg (show ¬ nI q = 1 from hne 1 (by omega)), if_neg (show ¬ nI q = 2 from hne 2 (by omega)), if_neg (show ¬ nI q = 3 from hne 3 (by omega)), if_neg (show ¬ nI q = 4 from hne 4 (by omega)), if_neg (show ¬ nI q = 5 from hne 5 (by omega)), if_neg (show ¬ nI q = 6 from hne 6 (by omega)), if_neg (show ¬ nI q = 7 from hne 7 (by omega)), if_neg (show ¬ nI q = 8 from hne 8 (by omega)), if_neg (show ¬ nI q = 9 from hne 9 (by omega)), if_neg (show ¬ nI q = 10 from hne 10 (by omega)), if_neg (show ¬ nI q = 11 from hne 11 (by omega)), if_neg (show ¬ nI q = 12 from hne 12 (by omega)), nI_clamp (by omega)]
def exA (b : BD) (e w : Nat) : Int32 := if w = 0 then nI (bFt b e) else nI (bHd b e)
theorem s_X10_exit {h : XH} {r : Nat} {s : SG} (hC : CI h r s) (hg : GoodS s) (e w : Int32) : XSpec mX10_exit 8 2 12 100 100 [.ref 0, .int e, .int w] h (cEndI h r s (kd1 (inR e 0 ((bKx (sB s) : Int) - 1) && inR w 0 1)) (fun z => z = exA (sB s) e.toNatClampNeg w.toNatClampNeg)) (cThr h (kd1 (inR e 0 ((bKx (sB s) : Int) - 1) && inR w 0 1)) eN eA) := by
  have hl := hg.l
  refine XSpec.of rfl (by decide) (Nat.le_of_ble_eq_true rfl) rfl (v_X10_exit_0 r hC.bp e w ⟨_, _, s_needExit hC hl.2.2.1 e, fun E9 h9 z => ⟨z.1, Or.inl ⟨kd1_f (by rw [z.2.2]; rfl), z.2.1⟩⟩, ?_⟩)
  rintro v h1 ⟨rfl, rfl, he⟩
  have he0 := he
  obtain ⟨e, he', rfl⟩ := inR_lt he
  rw [nI_clamp (show e < 2 ^ 31 by omega)]
  refine ⟨rfl, fun c => ⟨fun c2 => absurd c c2, fun _ => ⟨hC.p3, _, s_X5_footOf 100 h1 r hC.rul hC.nr (nI e), ?_⟩⟩, fun c => ⟨fun c2 => ⟨fun _ => ⟨hC.p3, _, s_X5_headOf 100 h1 r hC.rul hC.nr (nI e), ?_⟩, fun c3 => absurd c3 c⟩, fun c2 => ⟨rfl, Or.inl ⟨kd1_f ?_, rfl⟩⟩⟩⟩
  · rintro v h2 ⟨rfl, e2⟩
    subst e2
    rw [iz_rd (M := 24) rfl (by omega), (hC.fh e he').1]
    subst c
    exact ⟨_, rfl, kd1_t (by rw [he0]; decide), _, rfl, rfl, hC, cch.rfl⟩
  · rintro v h2 ⟨rfl, e2⟩
    subst e2
    rw [iz_rd (M := 24) rfl (by omega), (hC.fh e he').2]
    subst c2
    exact ⟨_, rfl, kd1_t (by rw [he0]; decide), _, rfl, rfl, hC, cch.rfl⟩
  · rw [he0, Bool.true_and]
    refine inR_f.2 (fun z => ?_)
    obtain ⟨q, q1, rfl⟩ := inR_nI (x := w) (n := 1) (inR_t.2 z)
    have : q ≠ 0 := fun y => c (by rw [y]; rfl)
    have : q ≠ 1 := fun y => c2 (by rw [y]; rfl)
    omega
theorem s_X10_goes {h : XH} {r : Nat} {s : SG} (hC : CI h r s) (hg : GoodS s) (q f : Int32) : XSpec mX10_goes 8 2 12 100 100 [.ref 0, .int q, .int f] h (cEndI h r s (kd1 (inR q 0 (bLast (sB s)) && inR f 1 6)) (fun z => z = nI (bT (sB s) q.toNatClampNeg f.toNatClampNeg))) (cThr h (kd1 (inR q 0 (bLast (sB s)) && inR f 1 6)) eN eA) := by
  have hl := hg.l
  refine XSpec.of rfl (by decide) (Nat.le_of_ble_eq_true rfl) rfl (v_X10_goes_0 r hC.bp q f ⟨_, _, s_needSquare hC hl.2.1 q, fun E9 h9 z => ⟨z.1, Or.inl ⟨kd1_f (by rw [z.2.2]; rfl), z.2.1⟩⟩, ?_⟩)
  rintro v h1 ⟨rfl, rfl, hq⟩
  refine ⟨rfl, _, _, s_needFace hC f, fun E9 h9 z => ⟨z.1, Or.inl ⟨kd1_f (by rw [hq]; exact z.2.2), z.2.1⟩⟩, ?_⟩
  rintro v h2 ⟨rfl, rfl, hf⟩
  have hk : kd1 (inR q 0 (bLast (sB s)) && inR f 1 6) = 0 := kd1_t (by rw [hq]; exact hf)
  obtain ⟨q, hq', rfl⟩ := inR_nI hq
  obtain ⟨f, f1, f2, rfl⟩ := inR_1 (n := 6) hf
  rw [nI_clamp (show q < 2 ^ 31 by omega), nI_clamp (show f < 2 ^ 31 by omega)]
  refine ⟨rfl, hC.p5, _, c_to hC hq' f2, ?_⟩
  rintro v h3 ⟨rfl, e3⟩
  subst e3
  exact ⟨_, rfl, hk, _, rfl, rfl, hC, cch.rfl⟩
theorem CI.pc {h : XH} {r : Nat} {s : SG} (hC : CI h r s) : xI h r 6 = nI (bPc (sB s)) := hC.2.1.2.2.2.2.1
theorem GoodS.pc {s : SG} (g : GoodS s) : 1 ≤ bPc (sB s) ∧ bPc (sB s) ≤ 4 := g.1.2.2.1
theorem s_X10_piece {h : XH} {r : Nat} {s : SG} (hC : CI h r s) (hg : GoodS s) (p : Int32) : XSpec mX10_piece 7 1 6 100 100 [.ref 0, .int p] h (cEndI h r s (kd1 (inR p 0 ((bPc (sB s) : Int) - 1))) (fun z => z = nI (gPl (sG s) p.toNatClampNeg))) (cThr h (kd1 (inR p 0 ((bPc (sB s) : Int) - 1))) eN eA) := by
  have hp := hg.pc
  refine XSpec.of rfl (by decide) (Nat.le_of_ble_eq_true rfl) rfl (v_X10_piece_0 r hC.bp p ?_)
  rw [hC.pc]
  have e := nI_toInt (show bPc (sB s) < 2 ^ 31 by omega)
  refine ⟨fun c => ⟨rfl, Or.inl ⟨kd1_f (inR_f.2 ?_), rfl⟩⟩, fun c => ⟨fun c2 => ?_, fun c2 => ⟨rfl, Or.inl ⟨kd1_f (inR_f.2 ?_), rfl⟩⟩⟩⟩
  · rw [i32_lt0] at c; omega
  · rw [i32_lt0] at c
    rw [i32_lt, e] at c2
    have hin : inR p 0 ((bPc (sB s) : Int) - 1) = true := inR_t.2 (by omega)
    have hk := kd1_t hin
    obtain ⟨p, hp', rfl⟩ := inR_lt hin
    rw [nI_clamp (show p < 2 ^ 31 by omega)]
    refine ⟨_, s_X7_placeOf 100 h 29 hC.1.2.2.1 (by omega) (nI p), ?_⟩
    rintro v h3 ⟨rfl, e3⟩
    subst e3
    rw [iz_rd (M := 4) rfl (by omega), hC.gm.2.2.2.2.1 p (by omega)]
    exact ⟨_, rfl, hk, _, rfl, rfl, hC, cch.rfl⟩
  · rw [i32_lt0] at c
    rw [i32_lt, e] at c2
    omega
theorem CI.th {h : XH} {r : Nat} {s : SG} (hC : CI h r s) : xI h 29 1 = nI (gTh (sG s)) := hC.gm.2.1
theorem GoodS.th {s : SG} (g : GoodS s) : gTh (sG s) ≤ 200 := g.2.1.2.1
theorem c_logged {h : XH} {r : Nat} {s : SG} (hC : CI h r s) (hg : GoodS s) {i k : Nat} (hi : i < gTh (sG s)) (hk : k < 5) : XSpec mX7_logged 1 0 0 100 100 [.ref 29, .int (nI i), .int (nI k)] h (xq (some (.int (nI (gLg (sG s) i k)))) h) xno := by
  have ht := hg.th
  have e := s_X7_logged 100 h 29 hC.1.2.2.1 (by omega) (nI i) (nI k)
  have e5 : nI i * 5 + nI k = nI (5 * i + k) := by
    have : (5 : Int32) = nI 5 := rfl
    rw [this, pk_mul, nI_add, Nat.mul_comm]
  rw [e5, iz_rd (M := 1000) rfl (by omega), hC.gm.2.2.2.2.2.1 i hi k hk] at e
  exact e
theorem s_X10_rolled {h : XH} {r : Nat} {s : SG} (hC : CI h r s) (hg : GoodS s) (i w : Int32) : XSpec mX10_rolled 7 1 6 100 100 [.ref 0, .int i, .int w] h (cEndI h r s (kd1 (inR i 0 ((gTh (sG s) : Int) - 1) && inR w 0 4)) (fun z => z = nI (gLg (sG s) i.toNatClampNeg w.toNatClampNeg))) (cThr h (kd1 (inR i 0 ((gTh (sG s) : Int) - 1) && inR w 0 4)) eN eA) := by
  have ht := hg.th
  refine XSpec.of rfl (by decide) (Nat.le_of_ble_eq_true rfl) rfl (v_X10_rolled_0 r hC.bp i w ?_)
  rw [hC.th]
  have e := nI_toInt (show gTh (sG s) < 2 ^ 31 by omega)
  have e5 : (5 : Int32).toInt = 5 := by decide
  refine ⟨fun c => ⟨rfl, Or.inl ⟨kd1_f ?_, rfl⟩⟩, fun c => ⟨fun c2 => ⟨rfl, Or.inl ⟨kd1_f ?_, rfl⟩⟩, fun c2 => ⟨fun c3 => ⟨rfl, Or.inl ⟨kd1_f ?_, rfl⟩⟩, fun c3 => ⟨fun c4 => ?_, fun c4 => ⟨rfl, Or.inl ⟨kd1_f ?_, rfl⟩⟩⟩⟩⟩⟩
  · rw [i32_lt0] at c; rw [inR_f.2 (by omega)]; rfl
  · rw [i32_le, e] at c2; rw [inR_f.2 (by omega)]; rfl
  · rw [i32_lt0] at c3; rw [Bool.and_eq_false_iff]; exact Or.inr (inR_f.2 (by omega))
  · rw [i32_lt0] at c c3
    rw [i32_le, e] at c2
    rw [i32_lt, e5] at c4
    have hi : inR i 0 ((gTh (sG s) : Int) - 1) = true := inR_t.2 (by omega)
    have hw : inR w 0 4 = true := inR_t.2 (by omega)
    have hk : kd1 (inR i 0 ((gTh (sG s) : Int) - 1) && inR w 0 4) = 0 := kd1_t (by rw [hi]; exact hw)
    obtain ⟨i, hi', rfl⟩ := inR_lt hi
    obtain ⟨w, hw', rfl⟩ := inR_nI (n := 4) hw
    rw [nI_clamp (show i < 2 ^ 31 by omega), nI_clamp (show w < 2 ^ 31 by omega)]
    refine ⟨_, c_logged hC hg hi' (show w < 5 by omega), ?_⟩
    rintro v h3 ⟨rfl, e3⟩
    subst e3
    exact ⟨_, rfl, hk, _, rfl, rfl, hC, cch.rfl⟩
  · rw [i32_lt, e5] at c4; rw [Bool.and_eq_false_iff]; exact Or.inr (inR_f.2 (by omega))
/-! what is noted -/
def gNote (g : GD) (q : Int32) : GD := ((gT g, gTh g, gNn g + 1), gPl g, gLg g, va_up (gNr g) (gNn g) q, gSt g)
def gForg (g : GD) : GD := ((gT g, gTh g, gNn g - 1), gPl g, gLg g, gNr g, gSt g)
def gRef (g : GD) (k : Nat) : GD := ((gT g, gTh g, gNn g), gPl g, gLg g, gNr g, va_up (gSt g) k (gSt g k + 1))
def ntB (s : SG) (q : Int32) : Bool := inR q (-1) (bLast (sB s)) && decide (gNn (sG s) < 40)
def sNote (s : SG) (q : Int32) : SG := if ntB s q = true then sGm s (gNote (sG s) q) else sGm s (gRef (sG s) 2)
def ntA (s : SG) (q : Int32) : Int32 := if ntB s q = true then nI (gNn (sG s) + 1) else -1
theorem CI.ref {h : XH} {r : Nat} {s : SG} (hC : CI h r s) {k : Nat} (hk : k < 3) {h' : XH} (e : h' = xSI 33 (va_up (xI h 33) k (xI h 33 k + 1)) h) : CI h' r (sGm s (gRef (sG s) k)) ∧ cch h h' := by
  subst e
  have f : ∀ c, c ≠ 33 → xI (xSI 33 (va_up (xI h 33) k (xI h 33 k + 1)) h) c = xI h c := fun c q => xI_ne q
  refine ⟨hC.game _ (fun c hc => f c (by omega)) rfl ?_, fun c hc => ⟨f c (by omega), Eq.refl _⟩⟩
  obtain ⟨g1, g2, g3, g4, g5, g6, g7, g8⟩ := hC.gm
  refine ⟨g1, g2, g3, g4, g5, g6, g7, fun i hi => ?_⟩
  rw [xI_at]
  show _ = va_up (gSt (sG s)) k (gSt (sG s) k + 1) i
  by_cases z : i = k
  · rw [z, va_up_eq, va_up_eq, g8 k hk]
  · rw [va_up_of _ _ z, va_up_of _ _ z]; exact g8 i hi
theorem c_refuse {h : XH} {r : Nat} {s : SG} (hC : CI h r s) {k : Nat} (hk : k < 3) (kk : Int32) (e : kk = nI k) : XSpec mX7_refuse 1 0 0 100 100 [.ref 29, .int kk] h (fun v h' => v = none ∧ CI h' r (sGm s (gRef (sG s) k)) ∧ cch h h') xno := by
  subst e
  refine (s_X7_refuse 100 h 29 hC.1.2.2.1 (by omega) (nI k)).mono ?_ (fun _ _ z => z)
  rintro v h' ⟨e1, e2⟩
  rw [iz_wr (M := 3) rfl hk, nI_clamp (by omega)] at e2
  exact ⟨e1, hC.ref hk e2⟩
theorem s_X10_note {h : XH} {r : Nat} {s : SG} (hC : CI h r s) (hg : GoodS s) (q : Int32) : XSpec mX10_note 2 0 0 100 100 [.ref 0, .int q] h (fun v h' => v = some (.int (ntA s q)) ∧ CI h' r (sNote s q) ∧ cch h h') xno := by
  have hl := hg.l
  have hn := hg.nn
  have e := nI_toInt (show bLast (sB s) < 2 ^ 31 by omega)
  have e2 := nI_toInt (show gNn (sG s) < 2 ^ 31 by omega)
  have em : (-1 : Int32).toInt = -1 := by decide
  have e40 : (40 : Int32).toInt = 40 := by decide
  have rf : ntB s q = false → ∃ Q1, XSpec mX7_refuse 1 0 0 100 100 [.ref 29, .int 2] h Q1 xno ∧ ∀ v h1, Q1 v h1 → v = none ∧ (some (.int (-1)) = some (Value.int (ntA s q)) ∧ CI h1 r (sNote s q) ∧ cch h h1) := fun z => by
    refine ⟨_, c_refuse hC (k := 2) (by omega) 2 rfl, ?_⟩
    rintro v h1 ⟨rfl, hC1, hc1⟩
    unfold ntA sNote
    rw [z]
    exact ⟨rfl, rfl, hC1, hc1⟩
  refine XSpec.of rfl (by decide) (Nat.le_of_ble_eq_true rfl) rfl (v_X10_note_0 r hC.bp q ?_)
  rw [hC.last, hC.nn, i32_lt, i32_lt, i32_lt, e, e2, em, e40]
  refine ⟨fun c => rf ?_, fun c => ⟨fun c2 => rf ?_, fun c2 => ⟨fun c3 => ?_, fun c3 => rf ?_⟩⟩⟩
  · unfold ntB; rw [inR_f.2 (by omega)]; rfl
  · unfold ntB; rw [inR_f.2 (by omega)]; rfl
  · have z : ntB s q = true := by unfold ntB; rw [inR_t.2 (by omega), decide_eq_true (by omega)]; rfl
    refine ⟨_, s_X7_putNote 100 h 29 hC.1.2.2.1 (by omega) q, ?_⟩
    rintro v h1 ⟨rfl, e1⟩
    rw [hC.nn, if_neg (nI_pos (by omega)), if_neg (show ¬ (40 : Int32) ≤ nI (gNn (sG s)) from nI_ge (b := 40) (by omega) (by omega)), nI_clamp (by omega), nI_1] at e1
    subst e1
    have f : ∀ c, c ≠ 29 → c ≠ 32 → xI (xSI 29 (va_up (xI h 29) 2 (nI (gNn (sG s) + 1))) (xSI (29 + 3) (va_up (xI h (29 + 3)) (gNn (sG s)) q) h)) c = xI h c := fun c q1 q2 => (xI_ne q1).trans (xI_ne q2)
    refine ⟨rfl, hC.p7, ?_⟩
    rw [xI_at, va_up_eq]
    unfold ntA sNote
    rw [z, if_pos rfl, if_pos rfl]
    refine ⟨rfl, hC.game _ (fun c hc => f c (by omega) (by omega)) rfl ?_, fun c hc => ⟨f c (by omega) (by omega), Eq.refl _⟩⟩
    obtain ⟨g1, g2, g3, g4, g5, g6, g7, g8⟩ := hC.gm
    refine ⟨by rw [xI_at, va_up_of _ _ (by decide)]; exact g1, by rw [xI_at, va_up_of _ _ (by decide)]; exact g2, by rw [xI_at, va_up_eq]; rfl, by rw [xI_at, va_up_of _ _ (by decide)]; exact g4, g5, g6, fun i hi => ?_, g8⟩
    rw [xI_ne (by decide), xI_at]
    show _ = va_up (gNr (sG s)) (gNn (sG s)) q i
    by_cases y : i = gNn (sG s)
    · rw [y, va_up_eq, va_up_eq]
    · rw [va_up_of _ _ y, va_up_of _ _ y]
      have hi' : i < gNn (sG s) + 1 := hi
      exact g7 i (by omega)
  · unfold ntB; rw [decide_eq_false (by omega), Bool.and_false]
def sForg (s : SG) : SG := if gNn (sG s) = 0 then s else sGm s (gForg (sG s))
def fgA (s : SG) : Int32 := if gNn (sG s) = 0 then -1 else nI (gNn (sG s) - 1)
theorem s_X10_forget {h : XH} {r : Nat} {s : SG} (hC : CI h r s) (hg : GoodS s) : XSpec mX10_forget 1 0 0 100 100 [.ref 0] h (fun v h' => v = some (.int (fgA s)) ∧ CI h' r (sForg s) ∧ cch h h') xno := by
  have hn := hg.nn
  refine XSpec.of rfl (by decide) (Nat.le_of_ble_eq_true rfl) rfl (v_X10_forget_0 r hC.bp ?_)
  rw [hC.nn, va_up_eq]
  unfold fgA sForg
  refine ⟨fun c => ?_, fun c => ?_⟩
  · have z : 1 ≤ gNn (sG s) := Nat.pos_of_ne_zero (fun y => by rw [y] at c; exact absurd c (by decide))
    rw [if_neg (by omega), if_neg (by omega), nI_p1 z]
    have f : ∀ c, c ≠ 29 → xI (xSI 29 (va_up (xI h 29) 2 (nI (gNn (sG s) - 1))) h) c = xI h c := fun c q1 => xI_ne q1
    refine ⟨rfl, hC.game _ (fun c hc => f c (by omega)) rfl ?_, fun c hc => ⟨f c (by omega), Eq.refl _⟩⟩
    obtain ⟨g1, g2, g3, g4, g5, g6, g7, g8⟩ := hC.gm
    refine ⟨by rw [xI_at, va_up_of _ _ (by decide)]; exact g1, by rw [xI_at, va_up_of _ _ (by decide)]; exact g2, by rw [xI_at, va_up_eq]; rfl, by rw [xI_at, va_up_of _ _ (by decide)]; exact g4, g5, g6, fun i hi => ?_, g8⟩
    have hi' : i < gNn (sG s) - 1 := hi
    exact g7 i (by omega)
  · have z : gNn (sG s) = 0 := by
      refine Nat.eq_zero_of_not_pos (fun y => c ?_)
      exact nI_lt (a := 0) y (by omega)
    rw [if_pos z, if_pos z]
    exact ⟨rfl, hC, cch.rfl⟩
theorem s_X10_fault {h : XH} {r : Nat} {s : SG} (hC : CI h r s) : XSpec mX10_fault 1 0 0 100 100 [.ref 0] h (fun v h' => v = some (.int (sFp s)) ∧ CI h' r s ∧ cch h h') xno :=
  XSpec.of rfl (by decide) (Nat.le_of_ble_eq_true rfl) rfl (v_X10_fault_0 r hC.bp ⟨by rw [hC.2.2.2.2.2.1.2.1], hC, cch.rfl⟩)
/-- how often a face was thrown -/
def oft (g : GD) (f : Nat) : Nat → Nat
  | 0 => 0
  | k + 1 => oft g f k + (if gLg g k 1 = f then 1 else 0)
theorem oft_le (g : GD) (f k : Nat) : oft g f k ≤ k := by
  induction k with
  | zero => exact Nat.le_refl _
  | succ k ih => unfold oft; split <;> omega
theorem l_times {h : XH} {r : Nat} {s : SG} (hC : CI h r s) (hg : GoodS s) {f : Nat} (hf : f ≤ 6) {Q : Option Value → XH → Prop} {X : String → XH → Prop} (hQ : Q (some (.int (nI (oft (sG s) f (gTh (sG s)))))) h) : ∀ (k i : Nat), i + k = gTh (sG s) →
    XW (xrm 2 0 0) mX7_timesThrown (xE 100 Q X 0 0) 100 0 0 h 4 [some (.ref 29), some (.int (nI f)), some (.int (nI (oft (sG s) f i))), some (.int (nI i))] [] := by
  have ht := hg.th
  intro k
  induction k with
  | zero =>
    intro i hi
    have : i = gTh (sG s) := by omega
    subst this
    refine v_X7_timesThrown_4 r hC.bp _ _ (nI _) ⟨fun _ => hQ, fun c => absurd ?_ c⟩
    rw [hC.th]; exact nI_le (Nat.le_refl _) (by omega)
  | succ k ih =>
    intro i hi
    have hI := ih (i + 1) (by omega)
    have lg := hg.2.1.2.2.2.2.1 i (by omega)
    refine v_X7_timesThrown_4 r hC.bp _ _ (nI _) ⟨fun c => absurd c ?_, fun _ => ⟨_, c_logged hC hg (show i < gTh (sG s) by omega) (show 1 < 5 by omega), ?_⟩⟩
    · rw [hC.th]; exact nI_ge (by omega) (by omega)
    rintro v h1 ⟨rfl, e1⟩
    subst e1
    refine ⟨_, rfl, fun c => ?_, fun c => ?_⟩
    · unfold oft at hI
      rw [if_neg (fun z => c (by rw [z]))] at hI
      rw [nI_1]; exact hI
    · unfold oft at hI
      rw [if_pos ((nI_eq (a := gLg (sG s) i 1) (b := f) (by omega) (by omega)).1 c)] at hI
      rw [nI_1, nI_1]; exact hI
theorem c_times {h : XH} {r : Nat} {s : SG} (hC : CI h r s) (hg : GoodS s) {f : Nat} (hf : f ≤ 6) : XSpec mX7_timesThrown 2 0 0 100 100 [.ref 29, .int (nI f)] h (xq (some (.int (nI (oft (sG s) f (gTh (sG s)))))) h) xno :=
  XSpec.of rfl (by decide) (Nat.le_of_ble_eq_true rfl) rfl (v_X7_timesThrown_0 r hC.bp (nI f) (l_times hC hg hf ⟨rfl, rfl⟩ (gTh (sG s)) 0 (by omega)))
theorem s_X10_often {h : XH} {r : Nat} {s : SG} (hC : CI h r s) (hg : GoodS s) (f : Int32) : XSpec mX10_often 8 1 6 100 100 [.ref 0, .int f] h (cEndI h r s (kd1 (inR f 1 6)) (fun z => z = nI (oft (sG s) f.toNatClampNeg (gTh (sG s))))) (cThr h (kd1 (inR f 1 6)) eN eA) := by
  refine XSpec.of rfl (by decide) (Nat.le_of_ble_eq_true rfl) rfl (v_X10_often_0 r hC.bp f ⟨_, _, s_needFace hC f, fun E9 h9 z => ⟨z.1, Or.inl ⟨kd1_f z.2.2, z.2.1⟩⟩, ?_⟩)
  rintro v h2 ⟨rfl, rfl, hf⟩
  have hk := kd1_t hf
  obtain ⟨f, f1, f2, rfl⟩ := inR_1 (n := 6) hf
  rw [nI_clamp (show f < 2 ^ 31 by omega)]
  refine ⟨rfl, hC.p7, _, c_times hC hg f2, ?_⟩
  rintro v h3 ⟨rfl, e3⟩
  subst e3
  exact ⟨_, rfl, hk, _, rfl, rfl, hC, cch.rfl⟩
