/-! THE REFERENCE: fewest, never, lost, round, row -/
theorem bI_n0 {b : Bool} : ¬ bI b = 0 ↔ b = true := by cases b <;> decide
abbrev mz (k : Int32) (h : XH) : XH := xSI 56 (va_up (xI h 56) 2 k) h
abbrev mEndI (h : XH) (s : SG) (kd : Nat) (A : Int32 → Prop) : Option Value → XH → Prop := fun v h' => ∃ w : Int32, v = some (.int w) ∧ (kd = 0 → A w) ∧ xI h' 56 2 = nI kd ∧ MI h' s ∧ mch h h'
abbrev mEndL (h : XH) (s : SG) (kd : Nat) (A : Int64 → Prop) : Option Value → XH → Prop := fun v h' => ∃ w : Int64, v = some (.long w) ∧ (kd = 0 → A w) ∧ xI h' 56 2 = nI kd ∧ MI h' s ∧ mch h h'
abbrev cEndI (h : XH) (r : Nat) (s : SG) (kd : Nat) (A : Int32 → Prop) : Option Value → XH → Prop := fun v h' => kd = 0 ∧ ∃ w : Int32, v = some (.int w) ∧ A w ∧ CI h' r s ∧ cch h h'
abbrev cEndL (h : XH) (r : Nat) (s : SG) (kd : Nat) (A : Int64 → Prop) : Option Value → XH → Prop := fun v h' => kd = 0 ∧ ∃ w : Int64, v = some (.long w) ∧ A w ∧ CI h' r s ∧ cch h h'
theorem m_code {h : XH} {s : SG} (hM : MI h s) (k : Int32) : MI (mz k h) s ∧ mch h (mz k h) ∧ xI (mz k h) 56 2 = k := ⟨hM.msc (msc.SI6 (Or.inl rfl)), mch.SI6, by rw [xI_at]; exact va_up_eq _ _ _⟩
theorem m_failX {h0 h : XH} {s : SG} (hM : MI h s) (hm : mch h0 h) (k : Nat) (kk : Int32) (hk : kk = nI k) : XSpec mX11_fail 1 0 0 100 100 [.ref 56, .int kk] h (fun v h' => v = some (.int 0) ∧ xI h' 56 2 = nI k ∧ MI h' s ∧ mch h0 h') xno :=
  XSpec.of rfl (by decide) (Nat.le_of_ble_eq_true rfl) rfl (v_X11_fail_0 hM.1 kk ⟨rfl, by rw [xI_at, va_up_eq]; exact hk, (m_code hM kk).1, hm.trans (m_code hM kk).2.1⟩)
theorem m_failI {h0 h : XH} {s : SG} (hM : MI h s) (hm : mch h0 h) {kd : Nat} {A : Int32 → Prop} (k : Nat) (e : kd = k) (hk0 : 0 < k) (kk : Int32) (hk : kk = nI k) : ∃ Q1, XSpec mX11_fail 1 0 0 100 100 [.ref 56, .int kk] h Q1 xno ∧ ∀ v h2, Q1 v h2 → ∃ r2 : Int32, v = some (.int r2) ∧ mEndI h0 s kd A (some (.int r2)) h2 := by
  refine ⟨_, m_failX hM hm k kk hk, ?_⟩
  rintro v h2 ⟨rfl, k1, k2, k3⟩
  exact ⟨_, rfl, _, rfl, fun z => by omega, by rw [e]; exact k1, k2, k3⟩
theorem m_failL {h0 h : XH} {s : SG} (hM : MI h s) (hm : mch h0 h) {kd : Nat} {A : Int64 → Prop} (k : Nat) (e : kd = k) (hk0 : 0 < k) (kk : Int32) (hk : kk = nI k) : ∃ Q1, XSpec mX11_fail 1 0 0 100 100 [.ref 56, .int kk] h Q1 xno ∧ ∀ v h2, Q1 v h2 → ∃ r2 : Int32, v = some (.int r2) ∧ mEndL h0 s kd A (some (.long (Int32.toInt64 r2))) h2 := by
  refine ⟨_, m_failX hM hm k kk hk, ?_⟩
  rintro v h2 ⟨rfl, k1, k2, k3⟩
  exact ⟨_, rfl, _, rfl, fun z => by omega, by rw [e]; exact k1, k2, k3⟩
theorem XSpec.mono {M : XM} {d mc ms n n' : Nat} {As : List Value} {h : XH} {Q Q' : Option Value → XH → Prop} {X X' : String → XH → Prop} (hs : XSpec M d mc ms n n' As h Q X) (hQ : ∀ v h', Q v h' → Q' v h') (hX : ∀ E h', X E h' → X' E h') : XSpec M d mc ms n n' As h Q' X' := by
  intro l G hl
  refine Jvm.Free.MetFree.mono (hs l G hl) (fun _ _ z => z) (fun _ _ _ _ _ z => z) (fun a st o t _ z => ?_)
  rcases z with ⟨⟨⟨v, h', e1, e2, e3⟩, e4⟩, e5⟩ | ⟨q, e1, E, ce, L, ⟨⟨h', e2, e3⟩, e4⟩, e5⟩
  · exact Or.inl ⟨⟨⟨v, h', e1, hQ _ _ e2, e3⟩, e4⟩, e5⟩
  · exact Or.inr ⟨q, e1, E, ce, L, ⟨⟨h', hX _ _ e2, e3⟩, e4⟩, e5⟩
theorem m_tell {h : XH} {s : SG} (hM : MI h s) (hg : GoodS s) : XSpec mX11_tellBoard 5 0 0 100 100 [.ref 56] h (fun v h' => v = none ∧ GeoM h' (bLast (sB s)) (bLst (sB s)) (bOd (sB s)) (bT (sB s)) ∧ xfr 67 71 h h' ∧ MI h' s ∧ mch h h') xno := by
  have := s_tellGeo hg.1.1 h hM.2.2.1.1
  refine this.mono ?_ (fun _ _ z => z)
  rintro v h' ⟨e, hG, hf⟩
  exact ⟨e, hG, hf, hM.msc (msc.fr hf (by omega)), mch.fr hf (by omega)⟩
theorem m_fewest {h : XH} {s : SG} (hM : MI h s) (hg : GoodS s) (q : Int32) : XSpec mX11_fewest 6 0 0 100 100 [.ref 56, .int q] h (fun v h' => ∃ w, v = some (.int w) ∧ xI h' 56 2 = nI (kd1 (inR q 0 (bLast (sB s)))) ∧ mch h h' ∧ (kd1 (inR q 0 (bLast (sB s))) = 0 → ∃ R, FwR (sB s) q.toNatClampNeg w R ∧ MI h' (sFew s w R)) ∧ (kd1 (inR q 0 (bLast (sB s))) = 1 → MI h' s)) xno := by
  obtain ⟨l1, l2, -, -⟩ := hg.l
  obtain ⟨hM0, hm0, e0⟩ := m_code hM 0
  refine XSpec.of rfl (by decide) (Nat.le_of_ble_eq_true rfl) rfl (v_X11_fewest_0 hM.1 q ⟨_, m_isSquare hM0 l2 q, ?_⟩)
  rintro v h1 ⟨rfl, rfl⟩
  refine ⟨_, rfl, fun c => ?_, fun c => ⟨_, m_failX hM0 hm0 1 1 rfl, ?_⟩⟩
  · have hq := bI_n0.1 c
    obtain ⟨q, hq', rfl⟩ := inR_nI hq
    rw [nI_clamp (show q < 2 ^ 31 by omega), kd1_t hq]
    refine ⟨_, m_tell hM0 hg, ?_⟩
    rintro v h2 ⟨rfl, hG, hf, hM2, hm2⟩
    have e2 : xI h2 56 2 = 0 := by rw [xfr1 hf (by omega)]; exact e0
    refine ⟨rfl, mp_told hM2.1, ?_⟩
    rw [hG.2.1]
    refine ⟨_, s_X11_tellAway _ _ _ _ _ (Nat.le_refl _) h2 hG, ?_⟩
    rintro v h3 ⟨rfl, hA, hf3⟩
    have hM3 : MI h3 s := hM2.msc (msc.fr hf3 (by omega))
    have hm3 : mch h h3 := (hm0.trans hm2).trans (mch.fr hf3 (by omega))
    have e3 : xI h3 56 2 = 0 := by rw [xfr1 hf3 (by omega)]; exact e2
    have hG3 := hG.fr hf3 (by omega)
    refine ⟨rfl, mp_away hM3.1, vp_in_nI (by omega) (by omega), fun c2 => ?_, fun c2 => ⟨_, rfl, e3, hm3, fun _ => ⟨fun _ => 0, ⟨_, hA, Or.inl ⟨c2, rfl⟩⟩, hM3⟩, fun z => absurd z (by decide)⟩⟩
    rcases hA q hq' with ⟨m, a1, a2, -, -⟩ | ⟨a1, -⟩
    · refine l_mkeep _ _ _ _ q m (by omega) hq' _ hA a1 m 0 q h3 (by omega) hq' hG3 rfl a1 (fun R _ hR => ⟨_, rfl, ?_, ?_, fun _ => ⟨R, ⟨_, hA, Or.inr ⟨m, a2, a1, rfl, hR⟩⟩, ?_⟩, fun z => absurd z (by decide)⟩)
      · rw [xI_at, va_up_of _ _ (by decide)]; exact e3
      · exact hm3.trans (fun c hc => ⟨(xI_ne (by omega)).trans (xI_ne (by omega)), Eq.refl _⟩)
      · unfold sFew
        rw [if_neg (nI_nm1 (by omega))]
        obtain ⟨m1, ⟨m2, m2'⟩, m3, m4, ⟨m5, m6⟩, ⟨m7, m7'⟩, m8, m9, m10⟩ := hM3
        have e : ∀ c, c ≠ 56 → c ≠ 79 → xI (xSI 56 (va_up (xI h3 56) 38 (nI m)) (xSI 79 R h3)) c = xI h3 c := fun c q1 q2 => (xI_ne q1).trans (xI_ne q2)
        have f : ∀ j, j ≠ 38 → xI (xSI 56 (va_up (xI h3 56) 38 (nI m)) (xSI 79 R h3)) 56 j = xI h3 56 j := fun j hj => by rw [xI_at, va_up_of _ _ hj]
        refine ⟨m1, ⟨m2, m2'⟩, m3.of (h := h3) rfl (fun c q1 q2 => e c (by omega) (by omega)), m4.of (h := h3) (f _ (by decide)) (f _ (by decide)) (f _ (by decide)) (e _ (by decide) (by decide)) (fun k hk => e _ (by omega) (by omega)) (e _ (by decide) (by decide)) (e _ (by decide) (by decide)) (e _ (by decide) (by decide)), ⟨(f 50 (by decide)).trans m5, fun z => (m6 z).of (h := h3) (f _ (by decide)) (f _ (by decide)) (f _ (by decide)) (e _ (by decide) (by decide)) (fun k hk => e _ (by omega) (by omega)) (e _ (by decide) (by decide)) (e _ (by decide) (by decide)) (e _ (by decide) (by decide))⟩, ⟨?_, ?_⟩, (f 11 (by decide)).trans m8, (f 20 (by decide)).trans m9, fun i hi => ?_⟩
        · rw [xI_at]; exact va_up_eq _ _ _
        · intro i _
          rw [xI_ne (by decide), xI_at]; rfl
        · rw [e 66 (by decide) (by decide)]; exact m10 i hi
    · exact absurd a1 c2
  · rintro v h2 ⟨rfl, k1, k2, k3⟩
    have e := kd1_f (bI_0.1 c)
    exact ⟨_, rfl, _, rfl, by rw [e]; exact k1, k3, fun z => absurd (e.symm.trans z) (by decide), fun _ => k2⟩
theorem m_never {h : XH} {s : SG} (hM : MI h s) (hg : GoodS s) (q : Int32) : XSpec mX11_never 6 0 0 100 100 [.ref 56, .int q] h (mEndI h s (kd1 (inR q 0 (bLast (sB s)))) (fun w => ∃ B, Far (bOd (sB s)) (bT (sB s)) (bLast (sB s)) q.toNatClampNeg B ∧ w = if B 0 = -1 then 1 else 0)) xno := by
  obtain ⟨l1, l2, -, -⟩ := hg.l
  obtain ⟨hM0, hm0, e0⟩ := m_code hM 0
  refine XSpec.of rfl (by decide) (Nat.le_of_ble_eq_true rfl) rfl (v_X11_never_0 hM.1 q ⟨_, m_isSquare hM0 l2 q, ?_⟩)
  rintro v h1 ⟨rfl, rfl⟩
  refine ⟨_, rfl, fun c => ?_, fun c => ?_⟩
  · have hq := bI_n0.1 c
    obtain ⟨q, hq', rfl⟩ := inR_nI hq
    rw [nI_clamp (show q < 2 ^ 31 by omega), kd1_t hq]
    refine ⟨_, m_tell hM0 hg, ?_⟩
    rintro v h2 ⟨rfl, hG, hf, hM2, hm2⟩
    have e2 : xI h2 56 2 = 0 := by rw [xfr1 hf (by omega)]; exact e0
    refine ⟨rfl, _, s_X11_tellAway _ _ _ _ _ hq' h2 hG, ?_⟩
    rintro v h3 ⟨rfl, hA, hf3⟩
    have hM3 : MI h3 s := hM2.msc (msc.fr hf3 (by omega))
    have hm3 : mch h h3 := (hm0.trans hm2).trans (mch.fr hf3 (by omega))
    have e3 : xI h3 56 2 = 0 := by rw [xfr1 hf3 (by omega)]; exact e2
    refine ⟨rfl, mp_away hM3.1, fun c2 => ⟨_, rfl, fun _ => ⟨_, hA, ?_⟩, e3, hM3, hm3⟩, fun c2 => ⟨_, rfl, fun _ => ⟨_, hA, ?_⟩, e3, hM3, hm3⟩⟩
    · rw [if_neg c2]
    · rw [if_pos c2]
  · have e := kd1_f (bI_0.1 c)
    refine ⟨_, rfl, fun z => absurd (e.symm.trans z) (by decide), ?_, (m_code hM0 1).1, hm0.trans (m_code hM0 1).2.1⟩
    rw [e]; exact (m_code hM0 1).2.2
theorem m_lost {h : XH} {s : SG} (hM : MI h s) (hg : GoodS s) (q : Int32) : XSpec mX11_lost 6 0 0 100 100 [.ref 56, .int q] h (mEndI h s (kd1 (inR q 0 (bLast (sB s)))) (fun w => LsA (sB s) q.toNatClampNeg w)) xno := by
  obtain ⟨l1, l2, -, -⟩ := hg.l
  obtain ⟨hM0, hm0, e0⟩ := m_code hM 0
  refine XSpec.of rfl (by decide) (Nat.le_of_ble_eq_true rfl) rfl (v_X11_lost_0 hM.1 q ⟨_, m_isSquare hM0 l2 q, ?_⟩)
  rintro v h1 ⟨rfl, rfl⟩
  refine ⟨_, rfl, fun c => ?_, fun c => ?_⟩
  · have hq := bI_n0.1 c
    obtain ⟨q, hq', rfl⟩ := inR_nI hq
    rw [nI_clamp (show q < 2 ^ 31 by omega), kd1_t hq]
    refine ⟨_, m_tell hM0 hg, ?_⟩
    rintro v h2 ⟨rfl, hG, hf, hM2, hm2⟩
    have e2 : xI h2 56 2 = 0 := by rw [xfr1 hf (by omega)]; exact e0
    refine ⟨rfl, mp_told hM2.1, ?_⟩
    rw [hG.2.1]
    refine ⟨_, s_X11_tellAway _ _ _ _ _ (Nat.le_refl _) h2 hG, ?_⟩
    rintro v h3 ⟨rfl, hA, hf3⟩
    have hM3 : MI h3 s := hM2.msc (msc.fr hf3 (by omega))
    have hm3 : mch h h3 := (hm0.trans hm2).trans (mch.fr hf3 (by omega))
    have e3 : xI h3 56 2 = 0 := by rw [xfr1 hf3 (by omega)]; exact e2
    refine ⟨rfl, mp_away hM3.1, vp_in_nI (by omega) (by omega), fun c2 => ⟨_, rfl, fun _ => ⟨_, hA, ?_⟩, e3, hM3, hm3⟩, fun c2 => ⟨_, rfl, fun _ => ⟨_, hA, ?_⟩, e3, hM3, hm3⟩⟩
    · rw [if_neg c2]
    · rw [if_pos c2]
  · have e := kd1_f (bI_0.1 c)
    refine ⟨_, rfl, fun z => absurd (e.symm.trans z) (by decide), ?_, (m_code hM0 1).1, hm0.trans (m_code hM0 1).2.1⟩
    rw [e]; exact (m_code hM0 1).2.2
theorem m_round {h : XH} {s : SG} (hM : MI h s) (hg : GoodS s) (q : Int32) : XSpec mX11_round 6 0 0 100 100 [.ref 56, .int q] h (mEndI h s (kd1 (inR q 0 (bLast (sB s)))) (fun w => ∃ B, Far (bOd (sB s)) (bT (sB s)) (bLast (sB s)) q.toNatClampNeg B ∧ Bst (bOd (sB s)) (bT (sB s)) B q.toNatClampNeg 7 w)) xno := by
  obtain ⟨l1, l2, -, -⟩ := hg.l
  obtain ⟨hM0, hm0, e0⟩ := m_code hM 0
  refine XSpec.of rfl (by decide) (Nat.le_of_ble_eq_true rfl) rfl (v_X11_round_0 hM.1 q ⟨_, m_isSquare hM0 l2 q, ?_⟩)
  rintro v h1 ⟨rfl, rfl⟩
  refine ⟨_, rfl, fun c => ?_, fun c => m_failI hM0 hm0 1 (kd1_f (bI_0.1 c)) (by decide) 1 rfl⟩
  have hq := bI_n0.1 c
  obtain ⟨q, hq', rfl⟩ := inR_nI hq
  rw [nI_clamp (show q < 2 ^ 31 by omega), kd1_t hq]
  refine ⟨_, m_tell hM0 hg, ?_⟩
  rintro v h2 ⟨rfl, hG, hf, hM2, hm2⟩
  have e2 : xI h2 56 2 = 0 := by rw [xfr1 hf (by omega)]; exact e0
  refine ⟨rfl, _, s_X11_tellAway _ _ _ _ _ hq' h2 hG, ?_⟩
  rintro v h3 ⟨rfl, hA, hf3⟩
  have hM3 : MI h3 s := hM2.msc (msc.fr hf3 (by omega))
  have hm3 : mch h h3 := (hm0.trans hm2).trans (mch.fr hf3 (by omega))
  have e3 : xI h3 56 2 = 0 := by rw [xfr1 hf3 (by omega)]; exact e2
  have hG3 := hG.fr hf3 (by omega)
  exact ⟨rfl, l_round _ _ _ _ h3 hG3 q hq' hA (fun w hw => ⟨_, rfl, fun _ => ⟨_, hA, hw⟩, e3, hM3, hm3⟩) 6 1 (-1) rfl (Nat.le_refl _) (Or.inl ⟨rfl, fun g q1 q2 => by omega⟩)⟩
theorem m_row {h : XH} {s : SG} (hM : MI h s) (hg : GoodS s) (q : Int32) : XSpec mX11_row 2 0 0 100 100 [.ref 56, .int q] h (mEndI h s (kd1 (inR q 0 ((sKl s).toInt - 1))) (fun w => w = sKr s q.toNatClampNeg)) xno := by
  obtain ⟨hM0, hm0, e0⟩ := m_code hM 0
  have k := hM.2.2.2.2.2.1
  have e38 : va_up (xI h 56) 2 0 38 = sKl s := by rw [va_up_of _ _ (by decide)]; exact k.1
  refine XSpec.of rfl (by decide) (Nat.le_of_ble_eq_true rfl) rfl (v_X11_row_0 hM.1 q ?_)
  rw [e38]
  refine ⟨fun c => m_failI hM0 hm0 1 (kd1_f (inR_f.2 ?_)) (by decide) 1 rfl, fun c => ⟨_, m_isIn 100 _ q 0 _ 0 (sKl s - 1) (by decide) rfl, ?_⟩⟩
  · rw [c]; intro z; have : (-1 : Int32).toInt = -1 := by decide
    omega
  · rintro v h2 ⟨rfl, rfl⟩
    obtain ⟨m, hm, em⟩ : ∃ m, m ≤ 100 ∧ sKl s = nI m := by
      rcases hg.2.2.2.1 with e | e
      · exact absurd e c
      · exact e
    have e1 : (sKl s - 1).toInt = (sKl s).toInt - 1 := by
      rw [em, nI_toInt (by omega), iz_nI, iz_lit 1, iz_sub, iz_toInt (by omega) (by omega)]; rfl
    have ez : (0 : Int32).toInt = 0 := by decide
    rw [e1, ez]
    refine ⟨_, rfl, fun c2 => m_failI hM0 hm0 1 (kd1_f (bI_0.1 c2)) (by decide) 1 rfl, fun c2 => ?_⟩
    have hq := inR_t.1 (bI_n0.1 c2)
    rw [em, nI_toInt (by omega)] at hq
    refine ⟨mp_row hM0.1, vp_in_iff.mpr (by omega), _, rfl, fun _ => ?_, ?_, hM0, hm0⟩
    · rw [xI_ne (by decide)]
      exact k.2 _ (by rw [em, nI_toInt (by omega)]; show ((q.toInt.toNat : Nat) : Int) < _; omega)
    · rw [kd1_t (bI_n0.1 c2)]; exact e0
