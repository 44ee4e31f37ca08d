/-! THE GAME: the small ones: the reference -/
theorem MI.game {h h' : XH} {s : SG} (hM : MI h s) (g : GD) (hI : ∀ c, c ≠ 56 → ¬ (71 ≤ c ∧ c ≤ 78) → c ≠ 87 → c ≠ 65 → ¬ SM c → xI h' c = xI h c) (hJ : ∀ j, ¬ SM6 j → j ≠ 33 → j ≠ 34 → j ≠ 46 → xI h' 56 j = xI h 56 j) (hP : ∀ c, c < 67 → xP h' c = xP h c) (hG : MGm h' 33 34 46 71 72 78 87 65 g) : MI h' (sGm s g) := by
  obtain ⟨m1, ⟨m2, m2'⟩, m3, m4, ⟨m5, m6⟩, ⟨m7, m7'⟩, m8, m9, m10⟩ := hM
  have e : ∀ c, (59 ≤ c ∧ c ≤ 64 ∨ c = 66 ∨ c = 79 ∨ 90 ≤ c) → xI h' c = xI h c := fun c h2 => hI c (by omega) (by omega) (by omega) (by omega) (fun z => by unfold SM at z; omega)
  have f : ∀ j, (j = 11 ∨ j = 20 ∨ j = 38 ∨ 50 ≤ j) → xI h' 56 j = xI h 56 j := fun j hj => hJ j (fun z => by unfold SM6 at z; omega) (by omega) (by omega) (by omega)
  refine ⟨fun q hq => by rw [hP 56 (by omega)]; exact m1 q hq, ⟨by rw [hP 57 (by omega)]; exact m2, by rw [hP 58 (by omega)]; exact m2'⟩, m3.of (h := h) (hP 56 (by omega)) (fun c h1 h2 => e c (by omega)), hG, ⟨by rw [f 50 (by omega)]; exact m5, fun z => (m6 z).of (h := h) (f _ (by omega)) (f _ (by omega)) (f _ (by omega)) (e _ (by omega)) (fun k hk => e _ (by omega)) (e _ (by omega)) (e _ (by omega)) (e _ (by omega))⟩, ⟨by rw [f 38 (by omega)]; exact m7, by rw [e 79 (by omega)]; exact m7'⟩, by rw [f 11 (by omega)]; exact m8, by rw [f 20 (by omega)]; exact m9, by rw [e 66 (by omega)]; exact m10⟩
theorem MI.gm {h : XH} {s : SG} (hM : MI h s) : MGm h 33 34 46 71 72 78 87 65 (sG s) := hM.2.2.2.1
theorem MI.bd {h : XH} {s : SG} (hM : MI h s) : MBd h (sB s) := hM.2.2.1
theorem MI.last {h : XH} {s : SG} (hM : MI h s) : xI h 59 0 = nI (bLast (sB s)) := hM.2.2.1.1.2.1
theorem MI.pc {h : XH} {s : SG} (hM : MI h s) : xI h 59 2 = nI (bPc (sB s)) := hM.2.2.1.2.1
theorem isOv_t {last pc : Nat} {pl : Nat → Nat} : isOv last pc pl = true ↔ ∀ p, p < pc → pl p = last := by
  unfold isOv
  simp
theorem l_mover {h : XH} {s : SG} (hM : MI h s) (hg : GoodS s) {Q : Option Value → XH → Prop} {X : String → XH → Prop} (hQ : Q (some (.int (bI (ovB s)))) h) : ∀ (k p : Nat), p + k = bPc (sB s) → (∀ q, q < p → gPl (sG s) q = bLast (sB s)) →
    XW (xrm 1 0 0) mX11_isOver (xE 100 Q X 0 0) 100 0 0 h 2 [some (.ref 56), some (.int (nI p))] [] := by
  have hp := hg.pc
  have hl := hg.l
  intro k
  induction k with
  | zero =>
    intro p hi hn
    have : p = bPc (sB s) := by omega
    subst this
    refine v_X11_isOver_2 hM.1 (nI _) ⟨fun _ => ?_, fun c => absurd ?_ c⟩
    · have : ovB s = true := isOv_t.2 hn
      rw [this] at hQ; exact hQ
    · rw [hM.pc]; exact nI_le (Nat.le_refl _) (by omega)
  | succ k ih =>
    intro p hi hn
    have hpl := hg.2.1.2.2.2.1 p (by omega)
    refine v_X11_isOver_2 hM.1 (nI _) ⟨fun c => absurd c ?_, fun _ => ?_⟩
    · rw [hM.pc]; exact nI_ge (by omega) (by omega)
    rw [nI_clamp (by omega), hM.gm.2.2.2.1 p (by omega), hM.last, nI_eq (by omega) (by omega)]
    refine ⟨vp_in_nI (by omega) (by omega), fun c => ?_, fun c => ?_⟩
    · rw [nI_1]
      refine ih (p + 1) (by omega) (fun q hq => ?_)
      by_cases z : q = p
      · rw [z]; exact c
      · exact hn q (by omega)
    · have : ovB s = false := by
        rw [← Bool.not_eq_true]
        intro z
        exact c (isOv_t.1 z p (by omega))
      rw [this] at hQ; exact hQ
theorem m_isOver {h : XH} {s : SG} (hM : MI h s) (hg : GoodS s) : XSpec mX11_isOver 1 0 0 100 100 [.ref 56] h (xq (some (.int (bI (ovB s)))) h) xno :=
  XSpec.of rfl (by decide) (Nat.le_of_ble_eq_true rfl) rfl (v_X11_isOver_0 hM.1 (l_mover hM hg ⟨rfl, rfl⟩ (bPc (sB s)) 0 (by omega) (fun q hq => by omega)))
theorem m_isInR {h : XH} (x : Int32) (a9 b9 : Int64) (a b : Int32) (A B : Int) (hA : a.toInt = A) (hB : b.toInt = B) (ha : a9 = Int32.toInt64 a) (hb : b9 = Int32.toInt64 b) : XSpec mX11_isIn 1 0 0 100 100 [.long (Int32.toInt64 x), .long a9, .long b9] h (xq (some (.int (bI (inR x A B)))) h) xno := by
  have := m_isIn 100 h x a9 b9 a b ha hb
  rw [hA, hB] at this
  exact this
theorem s_X11_count {h : XH} {s : SG} (hM : MI h s) (hg : GoodS s) (w : Int32) : XSpec mX11_count 2 0 0 100 100 [.ref 56, .int w] h (mEndI h s (kd1 (inR w 0 12 || inR w 21 26)) (fun z => z = ctA s w)) xno := by
  have hl := hg.l
  obtain ⟨hM0, hm0, e0⟩ := m_code hM 0
  have hb := hM0.bd
  have hG := hM0.gm
  have fin : ∀ (k v : Int32), kd1 (inR k 0 12 || inR k 21 26) = 0 → v = ctA s k → mEndI h s (kd1 (inR k 0 12 || inR k 21 26)) (fun z => z = ctA s k) (some (.int v)) (mz 0 h) := fun k v e1 e2 => ⟨v, rfl, fun _ => e2, by rw [e1]; exact e0, hM0, hm0⟩
  refine XSpec.of rfl (by decide) (Nat.le_of_ble_eq_true rfl) rfl (v_X11_count_0 hM.1 w ⟨_, m_isInR w 0 5 0 5 0 5 (by decide) (by decide) (by decide) (by decide), ?_⟩)
  rintro v h1 ⟨rfl, rfl⟩
  refine ⟨_, rfl, fun c => ⟨_, m_isInR w 21 26 21 26 21 26 (by decide) (by decide) (by decide) (by decide), ?_⟩, fun c => ?_⟩
  · have c' := inR_f.1 (bI_0.1 c)
    rintro v h2 ⟨rfl, rfl⟩
    refine ⟨_, rfl, fun c2 => ⟨?_, ?_, ?_, ?_, ?_, ?_, ?_, ?_⟩, fun c2 => ?_⟩
    · rintro rfl; exact fin 6 _ (by decide) hG.2.1
    · rintro rfl
      refine ⟨_, m_isOver hM0 hg, ?_⟩
      rintro v h3 ⟨rfl, rfl⟩
      refine ⟨_, rfl, fun c3 => fin 7 _ (by decide) ?_, fun c3 => fin 7 _ (by decide) ?_⟩
      · rw [hG.1]
        show _ = if ovB s = true then (-1 : Int32) else nI (gT (sG s))
        rw [bI_0.1 c3]; rfl
      · show _ = if ovB s = true then (-1 : Int32) else nI (gT (sG s))
        rw [bI_n0.1 c3]; rfl
    · rintro rfl; exact fin 8 _ (by decide) hG.2.2.1
    · rintro rfl; exact fin 9 _ (by decide) hM0.2.2.2.2.2.2.1
    · rintro rfl; exact ⟨mp_status hM0.1, by unfold vp_in; decide, fin 10 _ (by decide) (hG.2.2.2.2.2.2 0 (by decide))⟩
    · rintro rfl; exact ⟨mp_status hM0.1, by unfold vp_in; decide, fin 11 _ (by decide) (hG.2.2.2.2.2.2 1 (by decide))⟩
    · rintro rfl; exact ⟨mp_status hM0.1, by unfold vp_in; decide, fin 12 _ (by decide) (hG.2.2.2.2.2.2 2 (by decide))⟩
    · intro z
      have c2' := inR_f.1 (bI_0.1 c2)
      exact m_failI hM0 hm0 1 (kd1_f (by rw [inR_f.2 (by omega), inR_f.2 (by omega)]; rfl)) (by decide) 1 rfl
    · have hin := bI_n0.1 c2
      obtain ⟨q1, q2⟩ := inR_t.1 hin
      obtain ⟨q, q3, rfl⟩ := inR_nI (x := w) (n := 26) (inR_t.2 (by omega))
      rw [nI_toInt (by omega)] at q1
      have e : nI q - 21 = nI (q - 21) := pk_sub (b := 21) (by omega)
      rw [e, nI_clamp (by omega)]
      have g7 := hb.1.2.2.2.2.2.1 (q - 20) (by omega) (by omega)
      rw [show q - 20 - 1 = q - 21 by omega] at g7
      refine ⟨mp_die hM0.1, vp_in_nI (by omega) (by omega), fin _ _ (kd1_t (by rw [hin]; simp)) ?_⟩
      have hne : ∀ k : Nat, k ≤ 12 → ¬ nI q = nI k := fun k hk z => by
        have := (nI_eq (by omega) (by omega)).1 z
        omega
      unfold ctA
      rw [if_neg (show ¬ nI q = 0 from hne 0 (by omega)), if_neg (show ¬ nI q = 1 from hne 1 (by omega)), if_neg (show ¬ nI q = 2 from hne 2 (by omega)), if_neg (show ¬ nI q = 3 from hne 3 (by omega)), if_neg (show ¬ nI q = 4 from hne 4 (by omega)), if_neg (show ¬ nI q = 5 from hne 5 (by omega)), if_neg (show ¬ nI q = 6 from hne 6 (by omega)), if_neg (show ¬ nI q = 7 from hne 7 (by omega)), if_neg (show ¬ nI q = 8 from hne 8 (by omega)), if_neg (show ¬ nI q = 9 from hne 9 (by omega)), if_neg (show ¬ nI q = 10 from hne 10 (by omega)), if_neg (show ¬ nI q = 11 from hne 11 (by omega)), if_neg (show ¬ nI q = 12 from hne 12 (by omega)), nI_clamp (by omega)]
      exact g7
  · obtain ⟨q, q1, rfl⟩ := inR_nI (n := 5) (bI_n0.1 c)
    rw [nI_clamp (by omega)]
    refine ⟨mp_told hM0.1, vp_in_nI (by omega) (by omega), ?_⟩
    rcases (show q = 0 ∨ q = 1 ∨ q = 2 ∨ q = 3 ∨ q = 4 ∨ q = 5 by omega) with rfl | rfl | rfl | rfl | rfl | rfl
    · exact fin _ _ (by decide) hM0.last
    · exact fin _ _ (by decide) hb.1.2.2.1
    · exact fin _ _ (by decide) hM0.pc
    · exact fin _ _ (by decide) hb.1.2.2.2.1
    · exact fin _ _ (by decide) hb.2.2.1
    · exact fin _ _ (by decide) hb.2.2.2.1
theorem s_X11_exit {h : XH} {s : SG} (hM : MI h s) (hg : GoodS s) (e w : Int32) : XSpec mX11_exit 2 0 0 100 100 [.ref 56, .int e, .int w] h (mEndI h s (kd1 (inR e 0 ((bKx (sB s) : Int) - 1) && inR w 0 1)) (fun z => z = exA (sB s) e.toNatClampNeg w.toNatClampNeg)) xno := by
  have hl := hg.l
  obtain ⟨hM0, hm0, e0⟩ := m_code hM 0
  refine XSpec.of rfl (by decide) (Nat.le_of_ble_eq_true rfl) rfl (v_X11_exit_0 hM.1 e w ?_)
  rw [hM.bd.1.2.2.1]
  refine ⟨_, m_isInR e 0 _ 0 (nI (bKx (sB s)) - 1) 0 ((bKx (sB s) : Int) - 1) (by decide) (nI_m1 (by omega)) (by decide) rfl, ?_⟩
  rintro v h1 ⟨rfl, rfl⟩
  have e1 : (1 : Int32).toInt = 1 := by decide
  refine ⟨_, rfl, fun c => m_failI hM0 hm0 1 (kd1_f (by rw [bI_0.1 c]; rfl)) (by decide) 1 rfl, fun c => ⟨fun c2 => m_failI hM0 hm0 1 (kd1_f ?_) (by decide) 1 rfl, fun c2 => ⟨fun c3 => ?_, fun c3 => m_failI hM0 hm0 1 (kd1_f ?_) (by decide) 1 rfl⟩⟩⟩
  · rw [i32_lt0] at c2; rw [Bool.and_eq_false_iff]; exact Or.inr (inR_f.2 (by omega))
  · rw [i32_lt0] at c2
    rw [i32_le, e1] at c3
    have he := bI_n0.1 c
    have hw : inR w 0 1 = true := inR_t.2 (by omega)
    have hk : kd1 (inR e 0 ((bKx (sB s) : Int) - 1) && inR w 0 1) = 0 := kd1_t (by rw [he]; exact hw)
    obtain ⟨e, he', rfl⟩ := inR_lt he
    obtain ⟨w, hw', rfl⟩ := inR_nI (n := 1) hw
    have hfh := hM0.bd.1.2.2.2.2.2.2 e he'
    rw [nI_clamp (show e < 2 ^ 31 by omega), nI_clamp (show w < 2 ^ 31 by omega), hk]
    unfold exA
    refine ⟨fun c4 => ⟨mp_head hM0.1, vp_in_nI (by omega) (by omega), _, rfl, fun _ => ?_, e0, hM0, hm0⟩, fun c4 => ⟨mp_foot hM0.1, vp_in_nI (by omega) (by omega), _, rfl, fun _ => ?_, e0, hM0, hm0⟩⟩
    · rw [if_neg (fun z => c4 (by rw [z]; rfl))]; exact hfh.2
    · rw [if_pos ((nI_eq (b := 0) (by omega) (by omega)).1 c4)]; exact hfh.1
  · rw [i32_le, e1] at c3; rw [Bool.and_eq_false_iff]; exact Or.inr (inR_f.2 (by omega))
theorem s_X11_goes {h : XH} {s : SG} (hM : MI h s) (hg : GoodS s) (q f : Int32) : XSpec mX11_goes 6 0 0 100 100 [.ref 56, .int q, .int f] h (mEndI h s (kd1 (inR q 0 (bLast (sB s)) && inR f 1 6)) (fun z => z = nI (bT (sB s) q.toNatClampNeg f.toNatClampNeg))) xno := by
  have hl := hg.l
  have hR := m3.code hM
  refine XSpec.of rfl (by decide) (Nat.le_of_ble_eq_true rfl) rfl (v_X11_goes_0 hM.1 q f ⟨_, m_isSquare hR.1 hl.2.1 q, ?_⟩)
  rintro v h1 ⟨rfl, rfl⟩
  refine ⟨_, rfl, fun c => m_failI hR.1 hR.2.1 1 (kd1_f (by rw [bI_0.1 c]; rfl)) (by decide) 1 rfl, fun c => ⟨_, m_isFace 100 _ f, ?_⟩⟩
  have hq := bI_n0.1 c
  rintro v h2 ⟨rfl, rfl⟩
  refine ⟨_, rfl, fun c2 => ?_, fun c2 => m_failI hR.1 hR.2.1 1 (kd1_f (by rw [hq]; exact bI_0.1 c2)) (by decide) 1 rfl⟩
  have hf := bI_n0.1 c2
  have hk : kd1 (inR q 0 (bLast (sB s)) && inR f 1 6) = 0 := kd1_t (by rw [hq]; exact hf)
  obtain ⟨q, hq', rfl⟩ := inR_nI hq
  obtain ⟨f, f1, f2, rfl⟩ := inR_1 (n := 6) hf
  rw [nI_clamp (show q < 2 ^ 31 by omega), nI_clamp (show f < 2 ^ 31 by omega), hk]
  refine ⟨_, m_tellT hg hR, ?_⟩
  rintro v h3 ⟨rfl, hR3⟩
  obtain ⟨hM3, g1, g4, g5, g6, g7, g8⟩ := id hR3.1
  rw [m67, nI_clamp (show 101 * f + q < 2 ^ 31 by omega)]
  exact ⟨rfl, mp_to hM3, vp_in_nI (by omega) (by omega), _, rfl, fun _ => (g8 q hq' f f2).1, hR3.2.2.2, hR3.2.1, hR3.2.2.1⟩
theorem s_X11_piece {h : XH} {s : SG} (hM : MI h s) (hg : GoodS s) (p : Int32) : XSpec mX11_piece 2 0 0 100 100 [.ref 56, .int p] h (mEndI h s (kd1 (inR p 0 ((bPc (sB s) : Int) - 1))) (fun z => z = nI (gPl (sG s) p.toNatClampNeg))) xno := by
  have hp := hg.pc
  obtain ⟨hM0, hm0, e0⟩ := m_code hM 0
  refine XSpec.of rfl (by decide) (Nat.le_of_ble_eq_true rfl) rfl (v_X11_piece_0 hM.1 p ?_)
  rw [hM.pc]
  refine ⟨_, m_isInR p 0 _ 0 (nI (bPc (sB s)) - 1) 0 ((bPc (sB s) : Int) - 1) (by decide) (nI_m1 (by omega)) (by decide) rfl, ?_⟩
  rintro v h1 ⟨rfl, rfl⟩
  refine ⟨_, rfl, fun c => m_failI hM0 hm0 1 (kd1_f (bI_0.1 c)) (by decide) 1 rfl, fun c => ?_⟩
  have he := bI_n0.1 c
  have hk := kd1_t he
  obtain ⟨p, hp', rfl⟩ := inR_lt he
  rw [nI_clamp (show p < 2 ^ 31 by omega), hk]
  exact ⟨mp_place hM0.1, vp_in_nI (by omega) (by omega), _, rfl, fun _ => hM0.gm.2.2.2.1 p (by omega), e0, hM0, hm0⟩
theorem s_X11_rolled {h : XH} {s : SG} (hM : MI h s) (hg : GoodS s) (i w : Int32) : XSpec mX11_rolled 2 0 0 100 100 [.ref 56, .int i, .int w] h (mEndI h s (kd1 (inR i 0 ((gTh (sG s) : Int) - 1) && inR w 0 4)) (fun z => z = nI (gLg (sG s) i.toNatClampNeg w.toNatClampNeg))) xno := by
  have ht := hg.th
  obtain ⟨hM0, hm0, e0⟩ := m_code hM 0
  have e34 : va_up (xI h 56) 2 0 34 = nI (gTh (sG s)) := by rw [va_up_of _ _ (by decide)]; exact hM.gm.2.1
  refine XSpec.of rfl (by decide) (Nat.le_of_ble_eq_true rfl) rfl (v_X11_rolled_0 hM.1 i w ?_)
  rw [e34]
  refine ⟨_, m_isInR i 0 _ 0 (nI (gTh (sG s)) - 1) 0 ((gTh (sG s) : Int) - 1) (by decide) (nI_m1 (by omega)) (by decide) rfl, ?_⟩
  rintro v h1 ⟨rfl, rfl⟩
  refine ⟨_, rfl, fun c => ?_, fun c => m_failI hM0 hm0 1 (kd1_f (by rw [bI_0.1 c]; rfl)) (by decide) 1 rfl⟩
  have hi := bI_n0.1 c
  have hi0 := hi
  obtain ⟨i, hi', rfl⟩ := inR_lt hi
  rw [nI_clamp (show i < 2 ^ 31 by omega)]
  have hlg := (hM0.gm.2.2.2.2.1 i hi').1
  have fin : ∀ (k : Nat) (kk v : Int32), kk = nI k → k < 5 → v = nI (gLg (sG s) i k) → mEndI h s (kd1 (inR (nI i) 0 ((gTh (sG s) : Int) - 1) && inR kk 0 4)) (fun z => z = nI (gLg (sG s) i kk.toNatClampNeg)) (some (.int v)) (mz 0 h) := fun k kk v ek hk ev => by
    subst ek
    have : inR (nI k) 0 4 = true := inR_t.2 (by rw [nI_toInt (by omega)]; omega)
    rw [nI_clamp (by omega), hi0, this]
    exact ⟨v, rfl, fun _ => ev, e0, hM0, hm0⟩
  refine ⟨fun c0 => ⟨fun c1 => ⟨fun c2 => ⟨fun c3 => ⟨fun c4 => m_failI hM0 hm0 1 (kd1_f ?_) (by decide) 1 rfl, ?_⟩, ?_⟩, ?_⟩, ?_⟩, ?_⟩
  · rw [Bool.and_eq_false_iff]
    refine Or.inr (inR_f.2 (fun z => ?_))
    obtain ⟨q, q1, rfl⟩ := inR_nI (x := w) (n := 4) (inR_t.2 z)
    have : q ≠ 0 := fun y => c0 (by rw [y]; rfl)
    have : q ≠ 1 := fun y => c1 (by rw [y]; rfl)
    have : q ≠ 2 := fun y => c2 (by rw [y]; rfl)
    have : q ≠ 3 := fun y => c3 (by rw [y]; rfl)
    have : q ≠ 4 := fun y => c4 (by rw [y]; rfl)
    omega
  · rintro rfl; exact ⟨mp_rolledMet hM0.1, vp_in_nI (by omega) (by omega), fin 4 4 _ rfl (by decide) (hlg 4 (by decide))⟩
  · rintro rfl; exact ⟨mp_rolledTo hM0.1, vp_in_nI (by omega) (by omega), fin 3 3 _ rfl (by decide) (hlg 3 (by decide))⟩
  · rintro rfl; exact ⟨mp_rolledFrom hM0.1, vp_in_nI (by omega) (by omega), fin 2 2 _ rfl (by decide) (hlg 2 (by decide))⟩
  · rintro rfl; exact ⟨mp_rolledFace hM0.1, vp_in_nI (by omega) (by omega), fin 1 1 _ rfl (by decide) (hlg 1 (by decide))⟩
  · rintro rfl; exact ⟨mp_rolledBy hM0.1, vp_in_nI (by omega) (by omega), fin 0 0 _ rfl (by decide) (hlg 0 (by decide))⟩
theorem MI.ref {h : XH} {s : SG} (hM : MI h s) {k : Nat} (hk : k < 3) {h' : XH} (e : h' = xSI 65 (va_up (xI h 65) k (xI h 65 k + 1)) h) : MI h' (sGm s (gRef (sG s) k)) ∧ mch h h' := by
  subst e
  have f : ∀ c, c ≠ 65 → xI (xSI 65 (va_up (xI h 65) k (xI h 65 k + 1)) h) c = xI h c := fun c q => xI_ne q
  refine ⟨hM.game _ (fun c _ _ _ hc _ => f c hc) (fun j _ _ _ _ => rfl) (fun _ _ => rfl) ?_, fun c hc => ⟨f c (by omega), Eq.refl _⟩⟩
  obtain ⟨g1, g2, g3, g4, g5, g6, g7⟩ := hM.gm
  refine ⟨g1, g2, g3, g4, fun i hi => ⟨fun k' hk' => by rw [f (72 + k') (by omega)]; exact (g5 i hi).1 k' hk', (g5 i hi).2⟩, g6, fun i hi => ?_⟩
  rw [xI_at]
  show _ = va_up (gSt (sG s)) k (gSt (sG s) k + 1) i
  by_cases z : i = k
  · rw [z, va_up_eq, va_up_eq, g7 k hk]
  · rw [va_up_of _ _ z, va_up_of _ _ z]; exact g7 i hi
theorem s_X11_note {h : XH} {s : SG} (hM : MI h s) (hg : GoodS s) (q : Int32) : XSpec mX11_note 2 0 0 100 100 [.ref 56, .int q] h (fun v h' => v = some (.int (ntA s q)) ∧ MI h' (sNote s q) ∧ mch h h') xno := by
  have hl := hg.l
  have hn := hg.nn
  obtain ⟨hM0, hm0, e0⟩ := m_code hM 0
  have e46 : va_up (xI h 56) 2 0 46 = nI (gNn (sG s)) := by rw [va_up_of _ _ (by decide)]; exact hM.nn
  have e46' : xI (mz 0 h) 56 46 = nI (gNn (sG s)) := hM0.nn
  refine XSpec.of rfl (by decide) (Nat.le_of_ble_eq_true rfl) rfl (v_X11_note_0 hM.1 q ?_)
  rw [e46, hM.last]
  have e40 : (40 : Int32) = nI 40 := rfl
  rw [e40, nI_eq (by omega) (by omega)]
  refine ⟨fun c => ?_, fun c => ⟨_, m_isInR q (-1) _ (-1) (nI (bLast (sB s))) (-1) (bLast (sB s)) (by decide) (nI_toInt (by omega)) (by decide) rfl, ?_⟩⟩
  · have z : ntB s q = false := by unfold ntB; rw [decide_eq_false (by omega), Bool.and_false]
    obtain ⟨r1, r2⟩ := hM0.ref (k := 2) (by omega) rfl
    unfold ntA sNote
    rw [z]
    exact ⟨rfl, r1, hm0.trans r2⟩
  · rintro v h1 ⟨rfl, rfl⟩
    refine ⟨_, rfl, fun c2 => ?_, fun c2 => ⟨mp_status hM0.1, ?_⟩⟩
    · have z : ntB s q = true := by unfold ntB; rw [bI_n0.1 c2, decide_eq_true (by omega)]; rfl
      rw [e46', nI_clamp (by omega), nI_1, va_up_eq]
      unfold ntA sNote
      rw [z, if_pos rfl, if_pos rfl]
      have f : ∀ c, c ≠ 56 → c ≠ 87 → xI (xSI 56 (va_up (xI (mz 0 h) 56) 46 (nI (gNn (sG s) + 1))) (xSI 87 (va_up (xI (mz 0 h) 87) (gNn (sG s)) q) (mz 0 h))) c = xI (mz 0 h) c := fun c q1 q2 => (xI_ne q1).trans (xI_ne q2)
      refine ⟨mp_noted hM0.1, vp_in_nI (by omega) (by omega), rfl, hM0.game _ (fun c q1 _ q2 _ _ => f c q1 q2) (fun j _ _ _ hj => by rw [xI_at, va_up_of _ _ hj]) (fun _ _ => rfl) ?_, hm0.trans (fun c hc => ⟨f c (by omega) (by omega), Eq.refl _⟩)⟩
      obtain ⟨g1, g2, g3, g4, g5, g6, g7⟩ := hM0.gm
      refine ⟨by rw [xI_at, va_up_of _ _ (by decide)]; exact g1, by rw [xI_at, va_up_of _ _ (by decide)]; exact g2, by rw [xI_at, va_up_eq]; rfl, by rw [f 71 (by decide) (by decide)]; exact g4, fun i hi => ⟨fun k hk => by rw [f (72 + k) (by omega) (by omega)]; exact (g5 i hi).1 k hk, by rw [f 78 (by decide) (by decide)]; exact (g5 i hi).2⟩, fun i hi => ?_, by rw [f 65 (by decide) (by decide)]; exact g7⟩
      rw [xI_ne (by decide), xI_at]
      show _ = va_up (gNr (sG s)) (gNn (sG s)) q i
      by_cases y : i = gNn (sG s)
      · rw [y, va_up_eq, va_up_eq]
      · rw [va_up_of _ _ y, va_up_of _ _ y]
        have hi' : i < gNn (sG s) + 1 := hi
        exact g6 i (by omega)
    · have z : ntB s q = false := by unfold ntB; rw [bI_0.1 c2]; rfl
      obtain ⟨r1, r2⟩ := hM0.ref (k := 2) (by omega) rfl
      unfold ntA sNote
      rw [z]
      exact ⟨rfl, r1, hm0.trans r2⟩
theorem s_X11_forget {h : XH} {s : SG} (hM : MI h s) (hg : GoodS s) : XSpec mX11_forget 1 0 0 100 100 [.ref 56] h (fun v h' => v = some (.int (fgA s)) ∧ MI h' (sForg s) ∧ mch h h') xno := by
  have hn := hg.nn
  obtain ⟨hM0, hm0, e0⟩ := m_code hM 0
  have e46 : va_up (xI h 56) 2 0 46 = nI (gNn (sG s)) := by rw [va_up_of _ _ (by decide)]; exact hM.nn
  refine XSpec.of rfl (by decide) (Nat.le_of_ble_eq_true rfl) rfl (v_X11_forget_0 hM.1 ?_)
  rw [e46, va_up_eq]
  unfold fgA sForg
  refine ⟨fun c => ?_, fun c => ?_⟩
  · have z : 1 ≤ gNn (sG s) := Nat.pos_of_ne_zero (fun y => c (by rw [y]; rfl))
    rw [if_neg (by omega), if_neg (by omega), nI_p1 z]
    have f : ∀ c, c ≠ 56 → xI (xSI 56 (va_up (va_up (xI h 56) 2 0) 46 (nI (gNn (sG s) - 1))) (mz 0 h)) c = xI (mz 0 h) c := fun c q1 => xI_ne q1
    have f2 : xI (mz 0 h) 56 = va_up (xI h 56) 2 0 := xI_at
    refine ⟨rfl, hM0.game _ (fun c q1 _ _ _ _ => f c q1) (fun j _ _ _ hj => by rw [xI_at, va_up_of _ _ hj, f2]) (fun _ _ => rfl) ?_, hm0.trans (fun c hc => ⟨f c (by omega), Eq.refl _⟩)⟩
    obtain ⟨g1, g2, g3, g4, g5, g6, g7⟩ := hM0.gm
    rw [f2] at g1 g2
    refine ⟨by rw [xI_at, va_up_of _ _ (by decide)]; exact g1, by rw [xI_at, va_up_of _ _ (by decide)]; exact g2, by rw [xI_at, va_up_eq]; rfl, by rw [f 71 (by decide)]; exact g4, fun i hi => ⟨fun k hk => by rw [f (72 + k) (by omega)]; exact (g5 i hi).1 k hk, by rw [f 78 (by decide)]; exact (g5 i hi).2⟩, fun i hi => ?_, by rw [f 65 (by decide)]; exact g7⟩
    have hi' : i < gNn (sG s) - 1 := hi
    rw [f 87 (by decide)]
    exact g6 i (by omega)
  · have z : gNn (sG s) = 0 := (nI_eq (b := 0) (by omega) (by omega)).1 c
    rw [if_pos z, if_pos z]
    exact ⟨rfl, hM0, hm0⟩
theorem s_X11_fault {h : XH} {s : SG} (hM : MI h s) : XSpec mX11_fault 1 0 0 100 100 [.ref 56] h (fun v h' => v = some (.int (sFp s)) ∧ MI h' s ∧ mch h h') xno := by
  obtain ⟨hM0, hm0, e0⟩ := m_code hM 0
  refine XSpec.of rfl (by decide) (Nat.le_of_ble_eq_true rfl) rfl (v_X11_fault_0 hM.1 ⟨?_, hM0, hm0⟩)
  rw [va_up_of _ _ (by decide), hM.2.2.2.2.2.2.2.1]
theorem s_X11_thrown {h : XH} {s : SG} (hM : MI h s) : XSpec mX11_thrown 1 0 0 100 100 [.ref 56] h (xq (some (.int (xI h 56 2))) h) xno :=
  XSpec.of rfl (by decide) (Nat.le_of_ble_eq_true rfl) rfl (v_X11_thrown_0 hM.1 ⟨rfl, rfl⟩)
theorem l_moft {h : XH} {s : SG} (hM : MI h s) (hg : GoodS s) {f : Nat} (hf : f ≤ 6) {Q : Option Value → XH → Prop} {X : String → XH → Prop} (hQ : Q (some (.int (nI (oft (sG s) f (gTh (sG s)))))) h) : ∀ (k i : Nat), i + k = gTh (sG s) →
    XW (xrm 1 0 0) mX11_oftenOf (xE 100 Q X 0 0) 100 0 0 h 4 [some (.ref 56), some (.int (nI f)), some (.int (nI (oft (sG s) f i))), some (.int (nI i))] [] := by
  have ht := hg.th
  intro k
  induction k with
  | zero =>
    intro i hi
    have : i = gTh (sG s) := by omega
    subst this
    refine v_X11_oftenOf_4 hM.1 _ _ (nI _) ⟨fun _ => hQ, fun c => absurd ?_ c⟩
    rw [hM.gm.2.1]; exact nI_le (Nat.le_refl _) (by omega)
  | succ k ih =>
    intro i hi
    have hI := ih (i + 1) (by omega)
    have lg := hg.2.1.2.2.2.2.1 i (by omega)
    have e1 : xI h 73 i = nI (gLg (sG s) i 1) := (hM.gm.2.2.2.2.1 i (by omega)).1 1 (by decide)
    refine v_X11_oftenOf_4 hM.1 _ _ (nI _) ⟨fun c => absurd c ?_, fun _ => ?_⟩
    · rw [hM.gm.2.1]; exact nI_ge (by omega) (by omega)
    rw [nI_clamp (by omega), e1]
    refine ⟨vp_in_nI (by omega) (by omega), fun c => ?_, fun c => ?_⟩
    · unfold oft at hI
      rw [if_neg (fun z => c (by rw [z]))] at hI
      rw [nI_1, Int32.add_zero]; exact hI
    · unfold oft at hI
      rw [if_pos ((nI_eq (a := gLg (sG s) i 1) (b := f) (by omega) (by omega)).1 c)] at hI
      rw [nI_1, nI_1]; exact hI
theorem m_oft {h : XH} {s : SG} (hM : MI h s) (hg : GoodS s) {f : Nat} (hf : f ≤ 6) : XSpec mX11_oftenOf 1 0 0 100 100 [.ref 56, .int (nI f)] h (xq (some (.int (nI (oft (sG s) f (gTh (sG s)))))) h) xno :=
  XSpec.of rfl (by decide) (Nat.le_of_ble_eq_true rfl) rfl (v_X11_oftenOf_0 hM.1 (nI f) (l_moft hM hg hf ⟨rfl, rfl⟩ (gTh (sG s)) 0 (by omega)))
theorem s_X11_often {h : XH} {s : SG} (hM : MI h s) (hg : GoodS s) (f : Int32) : XSpec mX11_often 3 0 0 100 100 [.ref 56, .int f] h (mEndI h s (kd1 (inR f 1 6)) (fun z => z = nI (oft (sG s) f.toNatClampNeg (gTh (sG s))))) xno := by
  obtain ⟨hM0, hm0, e0⟩ := m_code hM 0
  refine XSpec.of rfl (by decide) (Nat.le_of_ble_eq_true rfl) rfl (v_X11_often_0 hM.1 f ⟨_, m_isFace 100 _ f, ?_⟩)
  rintro v h1 ⟨rfl, rfl⟩
  refine ⟨_, rfl, fun c => m_failI hM0 hm0 1 (kd1_f (bI_0.1 c)) (by decide) 1 rfl, fun c => ?_⟩
  have hf := bI_n0.1 c
  have hk := kd1_t hf
  obtain ⟨f, f1, f2, rfl⟩ := inR_1 (n := 6) hf
  rw [nI_clamp (show f < 2 ^ 31 by omega), hk]
  refine ⟨_, m_oft hM0 hg f2, ?_⟩
  rintro v h3 ⟨rfl, rfl⟩
  exact ⟨_, rfl, _, rfl, fun _ => rfl, e0, hM0, hm0⟩
