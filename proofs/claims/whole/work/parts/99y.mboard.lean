/-! READ: the reference's board -/
theorem MI.lch {h h' : XH} {s : SG} (hM : MI h s) (hg : GoodBD (sB s)) (c : Lch h h') : MI h' s := by
  obtain ⟨c1, c2, ⟨c3, c4, c5, c6, c7, c8⟩, c9⟩ := c
  obtain ⟨M1, M2, ⟨⟨b1, b2, b3, b4, b5, b6, b7⟩, m1, m2, m3, m4, m5, m6, m7⟩, M4, ⟨M5, M6⟩, ⟨M7, M8⟩, M9, M10, M11⟩ := hM
  have e : ∀ c, c ≠ 56 → (c < 59 ∨ 64 < c) → xI h' c = xI h c := c1
  have j : ∀ j, j = 2 ∨ j = 11 ∨ 20 ≤ j → xI h' 56 j = xI h 56 j := fun j hj => c2 j (by unfold SB; omega)
  have k3 := hg.1.2.2.1
  have k6 := hg.1.2.2.2.2.2.1.1
  have k7 := hg.2.2.2.2.2.1
  have hC : CodeM h' (bC (sB s)) (bLen (sB s)) := by
    unfold CodeM at *
    refine ⟨b5.1, ?_⟩
    rw [c3 6 (by omega)]
    rcases b5.2 with ⟨x1, x2⟩ | ⟨x1, x2⟩
    · exact Or.inl ⟨x1, x2⟩
    · exact Or.inr ⟨x1, fun k hk => by rw [c7 k (by omega)]; exact x2 k hk⟩
  refine ⟨by rw [c9]; exact M1, by rw [c9]; exact M2, ⟨⟨by rw [c9]; exact b1, by rw [c3 0 (by omega)]; exact b2, by rw [c3 1 (by omega)]; exact b3, by rw [c3 3 (by omega)]; exact b4, hC, fun f f1 f2 => by rw [c4 (f - 1) (by omega)]; exact b6 f f1 f2, fun i hi => by rw [c5 i (by omega), c6 i (by omega)]; exact b7 i hi⟩, by rw [c3 2 (by omega)]; exact m1, by rw [c3 4 (by omega)]; exact m2, by rw [c3 5 (by omega)]; exact m3, by rw [c3 6 (by omega)]; exact m4, by rw [c3 6 (by omega)]; exact m5, by rw [c3 7 (by omega)]; exact m6, fun i hi => by rw [c8 i (by omega)]; exact m7 i hi⟩, M4.of (j _ (by omega)) (j _ (by omega)) (j _ (by omega)) (e _ (by omega) (by omega)) (fun k hk => e _ (by omega) (by omega)) (e _ (by omega) (by omega)) (e _ (by omega) (by omega)) (e _ (by omega) (by omega)), ⟨by rw [j 50 (by omega)]; exact M5, fun z => (M6 z).of (j _ (by omega)) (j _ (by omega)) (j _ (by omega)) (e _ (by omega) (by omega)) (fun k hk => e _ (by omega) (by omega)) (e _ (by omega) (by omega)) (e _ (by omega) (by omega)) (e _ (by omega) (by omega))⟩, ⟨by rw [j 38 (by omega)]; exact M7, by rw [e 79 (by omega) (by omega)]; exact M8⟩, by rw [j 11 (by omega)]; exact M9, by rw [j 20 (by omega)]; exact M10, by rw [e 66 (by omega) (by omega)]; exact M11⟩
theorem Lch.mch {h h' : XH} (c : Lch h h') : mch h h' := fun q hq => ⟨c.1 q (by omega) (by omega), by rw [c.2.2.2]⟩
theorem Begun.l {h h' : XH} (b : Begun h h') : Lch h h' := by
  obtain ⟨b1, b2, b3, b4, b5, b6⟩ := b
  exact ⟨fun c q1 q2 => b2 c (by omega) (by omega), fun j _ => by rw [b2 56 (by decide) (by decide)], ⟨b3, b5, fun j _ => by rw [b2 61 (by decide) (by decide)], fun j _ => by rw [b2 62 (by decide) (by decide)], fun j _ => by rw [b2 63 (by decide) (by decide)], fun j _ => by rw [b2 64 (by decide) (by decide)]⟩, b1⟩
theorem MRl.wC {h : XH} {b : BD} {C : Nat → Int32} (hR : MRl h b) (hC : ∀ k, k < bLen b → C k = bC b k) : MRl h (wC b C) := by
  obtain ⟨r1, ⟨r7, r8⟩, r⟩ := hR
  exact ⟨r1, ⟨r7, fun z => ⟨(r8 z).1, fun k hk => by rw [(r8 z).2 k hk, ← hC k hk]; rfl⟩⟩, r⟩
theorem lLine_td {T : Nat → Nat} {n s t : Nat} {b : BD} {y : Nat × (BD × Nat)} (h8 : t < 256) (htd : t.testBit 7 = false → bTd b = 0) (h : lLine T n s b t = .inr y) : y.2.2.testBit 7 = false → bTd y.2.1 = 0 := by
  unfold lLine at h
  cases hz : lBad T n s b t with
  | some f => rw [hz] at h; cases h
  | none =>
    rw [hz] at h
    obtain ⟨l0, -, -⟩ := lBad_n hz
    have l7 := (lnO_lt l0).2
    obtain ⟨s1, b1, e1, e2⟩ := qbd_r h
    obtain ⟨s2, b2, e3, e4⟩ := qbd_r e1
    obtain ⟨-, m2⟩ := lSem_g e4
    obtain ⟨-, m2b⟩ := Prod.mk.inj m2
    cases e2
    show (t ||| 2 ^ lnO T n s).testBit 7 = false → bTd b1 = 0
    rw [m2b]
    clear m2 m2b e4 e1
    by_cases c : lnO T n s = 7
    · intro z
      rw [c, lm_t7 t h8] at z
      exact absurd z (by decide)
    · rw [lm_td t h8 _ (by omega) c]
      intro z
      have hb := htd z
      have die : ∀ (k s : Nat) (b : BD) (y : Nat × BD), bTd b = 0 → lDie T n k s b = .inr y → bTd y.2 = 0 := by
        intro k
        induction k with
        | zero => intro s b y hb h; cases h; exact hb
        | succ k ih =>
          intro s b y hb h
          unfold lDie at h
          cases h1 : num T n 0 9 s with
          | inl f => rw [h1] at h; cases h
          | inr v =>
            rw [h1] at h
            have h' : (if k = 0 ∧ od6 (bOd (dOd b (6 - k) v)) = 0 then (.inl (2, s) : QR) else lDie T n k (nx T n s) (dOd b (6 - k) v)) = .inr y := h
            split at h'
            · cases h'
            · exact ih _ (dOd b (6 - k) v) _ hb h'
      generalize lnO T n s = k at *
      unfold lBody at e3
      split at e3
      · unfold lExit at e3
        cases h1 : num T n 1 (bLast b - 1) (nx T n s) with
        | inl f => rw [h1] at e3; cases e3
        | inr a =>
          rw [h1] at e3
          have h' : (if dFt b a = true then (.inl (4, nx T n s) : QR) else match num T n 1 (bLast b) (nx T n (nx T n s)) with | .inl f => .inl (f, nx T n (nx T n s)) | .inr t => if t = a then .inl (2, nx T n (nx T n s)) else .inr (nx T n (nx T n (nx T n s)), dAdd b a t)) = .inr (s2, b2) := e3
          split at h'
          · cases h'
          · cases h2 : num T n 1 (bLast b) (nx T n (nx T n s)) with
            | inl f => rw [h2] at h'; cases h'
            | inr t =>
              rw [h2] at h'
              have h'' : (if t = a then (.inl (2, nx T n (nx T n s)) : QR) else .inr (nx T n (nx T n (nx T n s)), dAdd b a t)) = .inr (s2, b2) := h'
              split at h''
              · cases h''
              · cases h''; exact hb
      · split at e3
        · exact die 6 _ _ _ hb e3
        · split at e3
          · unfold lEnd at e3
            repeat' split at e3
            all_goals first | (cases e3; exact hb) | cases e3
          · split at e3
            · unfold lNum at e3
              cases h1 : num T n 1 6 (nx T n s) with
              | inl f => rw [h1] at e3; cases e3
              | inr v => rw [h1] at e3; cases e3; exact hb
            · split at e3
              · cases e3; exact hb
              · split at e3
                · unfold lNum at e3
                  cases h1 : num T n 1 4 (nx T n s) with
                  | inl f => rw [h1] at e3; cases e3
                  | inr v => rw [h1] at e3; cases e3; exact hb
                · omega
theorem mb92B {h : XH} {T : Nat → Nat} {n f p : Nat} {x2 : Int32} {Q : Option Value → XH → Prop} {X : String → XH → Prop} (hB : MB h T n f p) (hQ : Q (some (.int (nI f))) (xSI 65 (va_up (xI h 65) 0 (xI h 65 0 + 1)) (xSI 56 (va_up (xI h 56) 20 (nI p)) h))) : XW (xrm 63 0 0) mX11_board (xE 100 Q X 0 0) 100 0 0 h 92 [some (.ref 56), none, some (.int x2)] [] := by
  refine v_X11_board_92 hB.1 _ ⟨fun _ => ⟨fun q => absurd q hB.n0, fun _ => ?_⟩, fun q => absurd q hB.n0⟩
  rw [va_up_of _ _ (by decide), hB.2.2.1, hB.2.2.2.2]
  exact hQ
theorem mb92 {h0 : XH} {T : Nat → Nat} {n : Nat} {res : RR} (hS : MStr (xP h0)) (ht : ∀ i, i < n → T i < 256) {Q : Option Value → XH → Prop} {X : String → XH → Prop}
    (hQb : ∀ e h', res = .inl e → MB h' T n e.1 e.2 → Lch h0 h' → Q (some (.int (nI e.1))) (xSI 65 (va_up (xI h' 65) 0 (xI h' 65 0 + 1)) (xSI 56 (va_up (xI h' 56) 20 (nI e.2)) h')))
    (hQg : ∀ y h', res = .inr y → MRl h' y.2.1 → GoodBD y.2.1 → xMod (xP h') → Lch h0 h' → ∃ Q1, XSpec mX11_take 2 0 0 100 100 [.ref 56] h' Q1 xno ∧ ∀ v h9, Q1 v h9 → v = none ∧ Q (some (.int 0)) h9) : ∀ (f s t : Nat) (b : BD) (h : XH), 501 ≤ s + f → s ≤ n → MK h T n s → MRl h b → GoodBD b → t < 256 → (t.testBit 7 = false → bTd b = 0) → Lch h0 h → lAll T n f s b t = res →
    XW (xrm 63 0 0) mX11_board (xE 100 Q X 0 0) 100 0 0 h 92 [some (.ref 56), none, some (.int (nI (t / 4)))] [] := by
  intro f
  induction f with
  | zero =>
    intro s t b h hf hs hK hR hb h8 htd hc hres
    have := hK.2.1.2.1
    omega
  | succ f ih =>
    intro s t b h hf hs hK hR hb h8 htd hc hres
    have n5 := hK.2.1.2.1
    have kl := kd_le (T := T) (n := n) (s := s)
    unfold lAll at hres
    refine v_X11_board_92 hK.1 _ ⟨fun q => absurd hK.2.2.2 q, fun _ => ?_⟩
    have ek : xI h 56 14 = nI (kd T n s) := hK.2.2.1.2.2.2.1
    have k0 : nI (kd T n s) = 0 ↔ kd T n s = 0 := nI_eq (b := 0) (by omega) (by omega)
    rw [ek, k0]
    refine ⟨fun q => ⟨fun _ => ?_, fun q2 => absurd hK.2.2.2 q2⟩, fun q => ⟨_, m_readLine (by rw [hc.2.2.2]; exact hS) hK hR hb h8 htd, ?_⟩⟩
    · rw [if_pos q] at hres
      exact hQg _ h hres.symm hR hb hK.1 hc
    · rw [if_neg q] at hres
      rintro v h1 ⟨w, rfl, c1, hx⟩
      refine ⟨w, rfl, ?_⟩
      cases hz : lLine T n s b t with
      | inl e =>
        rw [hz] at hx hres
        exact mb92B hx (hQb e h1 hres.symm hx (hc.trans c1))
      | inr y =>
        rw [hz] at hx hres
        obtain ⟨rfl, k1, k2⟩ := hx
        obtain ⟨g1, g2, g3, g4⟩ := lLine_g hb hs n5 ht h8 hz
        exact ih y.1 y.2.2 y.2.1 h1 (by omega) g2 k1 k2 g3 g4 (lLine_td h8 htd hz) (hc.trans c1) hres
def MBp (h : XH) (s : SG) (kd n : Nat) (C : Nat → Int32) : Option Value → XH → Prop := fun v h' => ∃ w : Int32, v = some (.int w) ∧ xI h' 56 2 = nI kd ∧ mch h h' ∧ (kd = 1 → MI h' s) ∧ (kd = 0 → match lText (sTp s) n with
  | .inl e => w = nI e.1 ∧ MI h' (sFlt s e.2)
  | .inr y => w = 0 ∧ MI h' (sNew (sTp0 s (-1)) (wC y.2.1 C)))
theorem s_X11_board {h : XH} {s : SG} (hM : MI h s) (hg : GoodS s) (nn : Int32) (C : Nat → Int32) (hC : ∀ y, lText (sTp s) nn.toNatClampNeg = .inr y → ∀ k, k < bLen y.2.1 → C k = bC y.2.1 k) : XSpec mX11_board 63 0 0 100 100 [.ref 56, .int nn] h (MBp h s (kd1 (inR nn 0 (sTl s))) nn.toNatClampNeg C) xno := by
  obtain ⟨hM0, hm0, e0⟩ := m_code hM 0
  have hl : sTl s ≤ 500 := hg.2.2.2.2.1
  have el := nI_toInt (show sTl s < 2 ^ 31 by omega)
  have t1 : xI h 56 11 = nI (sTl s) := hM.2.2.2.2.2.2.1
  refine XSpec.of rfl (by decide) (Nat.le_of_ble_eq_true rfl) rfl (v_X11_board_0 hM.1 nn ?_)
  rw [va_up_of _ _ (by decide), t1, i32_lt0, i32_le, el]
  have no : ¬ (0 ≤ nn.toInt ∧ nn.toInt ≤ (sTl s : Int)) → ∃ Q1, XSpec mX11_fail 1 0 0 100 100 [.ref 56, .int 1] (mz 0 h) Q1 xno ∧ ∀ v h1, Q1 v h1 → ∃ r1 : Int32, v = some (.int r1) ∧ ((MBp h s (kd1 (inR nn 0 (sTl s))) nn.toNatClampNeg C) (some (.int r1)) h1) := fun c => by
    refine ⟨_, m_failX hM0 hm0 1 1 rfl, ?_⟩
    rintro v h1 ⟨rfl, k1, k2, k3⟩
    have ek : kd1 (inR nn 0 (sTl s)) = 1 := kd1_f (inR_f.2 c)
    exact ⟨_, rfl, _, rfl, by rw [ek]; exact k1, k3, fun _ => k2, fun z => absurd (ek.symm.trans z) (by decide)⟩
  refine ⟨fun c => no (by omega), fun c => ⟨fun c2 => ?_, fun c2 => no (by omega)⟩⟩
  have hin : inR nn 0 (sTl s) = true := inR_t.2 ⟨by omega, c2⟩
  have hk : kd1 (inR nn 0 (sTl s)) = 0 := kd1_t hin
  clear no
  obtain ⟨n, hn, rfl⟩ := inR_nI hin
  rw [nI_clamp (show n < 2 ^ 31 by omega)] at hC ⊢
  rw [hk]
  rw [xSI_SI, xSI_SI, xSI_SI, xSI_SI, xSI_SI]
  have ht : ∀ i, i < n → sTp s i < 256 := fun i hi => hg.2.2.2.2.2 i (by omega)
  -- the state without a tape
  obtain ⟨ha, ea⟩ : ∃ ha, ha = xSI 56 (va_up (va_up (va_up (xI h 56) 13 (nI n)) 12 0) 18 0) h := ⟨_, rfl⟩
  obtain ⟨hb, eb⟩ : ∃ hb, hb = xSI 56 (va_up (va_up (va_up (va_up (va_up (va_up (xI h 56) 2 0) 11 0) 13 (nI n)) 12 0) 18 0) 20 (-1)) h := ⟨_, rfl⟩
  rw [← eb]
  have hMa : MI ha s := hM.msc ⟨fun c _ q => by rw [ea, xI_ne q], fun j q => by unfold SM6 at q; rw [ea, xI_at, va_up_of _ _ (by omega), va_up_of _ _ (by omega), va_up_of _ _ (by omega)], fun c _ => by rw [ea]; rfl⟩
  have jb : ∀ j, j ≠ 2 → j ≠ 11 → j ≠ 20 → xI hb 56 j = xI ha 56 j := fun j q1 q2 q3 => by
    rw [ea, eb, xI_at, xI_at]
    unfold va_up
    by_cases z1 : j = 18
    · simp [z1]
    · by_cases z2 : j = 12
      · simp [z2]
      · by_cases z3 : j = 13
        · simp [z3]
        · simp [q1, q2, q3, z1, z2, z3]
  have b2 : xI hb 56 2 = 0 := by rw [eb, xI_at]; rfl
  have b11 : xI hb 56 11 = 0 := by rw [eb, xI_at]; rfl
  have b20 : xI hb 56 20 = -1 := by rw [eb, xI_at]; rfl
  have b13 : xI hb 56 13 = nI n := by rw [eb, xI_at]; rfl
  have b12 : xI hb 56 12 = 0 := by rw [eb, xI_at]; rfl
  have b18 : xI hb 56 18 = 0 := by rw [eb, xI_at]; rfl
  have pb : xP hb = xP h := by rw [eb]; rfl
  have nb : ∀ c, c ≠ 56 → xI hb c = xI h c := fun c q => by rw [eb, xI_ne q]
  have na : ∀ c, c ≠ 56 → xI hb c = xI ha c := fun c q => by rw [ea, eb, xI_ne q, xI_ne q]
  have pa : xP hb = xP ha := by rw [ea, eb]; rfl
  have hMb : MI hb (sTp0 s (-1)) := hMa.tape (0, sTp s, -1) (fun c q1 q2 => na c q1) jb pa b11 b20 (fun i hi => absurd hi (Nat.not_lt_zero i))
  have hmb : mch h hb := fun c hc => ⟨nb c (by omega), by rw [pb]⟩
  clear ea eb na pa jb hMa
  have hgB : GoodBD (sB (sTp0 s (-1))) := hg.1
  refine ⟨_, m_begin hMb.1, ?_⟩
  rintro v h2 ⟨rfl, hB⟩
  have l2 := hB.l
  have hR2 : MRl h2 b0T := hB.rl 1 (fun _ => 0) (fun _ => 0) (fun _ => 0) (fun _ => -1)
  have n2 : ∀ c, c ≠ 59 → c ≠ 60 → xI h2 c = xI hb c := hB.2.1
  have p2 : xP h2 = xP hb := hB.1
  clear hB
  have hM2 : xMod (xP h2) := by rw [p2]; exact hMb.1
  have tp := hM.2.2.2.2.2.2.2.2
  have hT2 : TM h2 (sTp s) n := ⟨by rw [n2 56 (by decide) (by decide)]; exact b13, by omega, fun i hi => ⟨by rw [n2 66 (by decide) (by decide), nb 66 (by decide)]; exact tp i (by omega), ht i hi⟩⟩
  refine ⟨rfl, _, m_stepOn0 (q := 0) hM2 hT2 (by rw [n2 56 (by decide) (by decide)]; exact b12) (Nat.zero_le n), ?_⟩
  rintro v h3 ⟨rfl, c3, k3⟩
  have hK3 : MK h3 (sTp s) n (s0T (sTp s) n) := ⟨c3.m hM2, hT2.c c3, k3, by rw [c3.2.1 18 (by unfold SJ; omega), n2 56 (by decide) (by decide)]; exact b18⟩
  have hR3 : MRl h3 b0T := hR2.fc c3.fc
  have l3 : Lch hb h3 := l2.trans c3.l
  have hSb : MStr (xP hb) := hMb.2.1
  -- the end
  have fin : ∀ (h' : XH), Lch hb h' → MI h' (sTp0 s (-1)) ∧ mch h h' ∧ xI h' 56 2 = 0 := fun h' c => ⟨hMb.lch hgB c, hmb.trans c.mch, (c.2.1 2 (by unfold SB; omega)).trans b2⟩
  have qB : ∀ (e : Nat × Nat) (h' : XH), lText (sTp s) n = .inl e → MB h' (sTp s) n e.1 e.2 → Lch hb h' → MBp h s 0 n C (some (.int (nI e.1))) (xSI 65 (va_up (xI h' 65) 0 (xI h' 65 0 + 1)) (xSI 56 (va_up (xI h' 56) 20 (nI e.2)) h')) := fun e h' he hBd c => by
    obtain ⟨f1, f2, f3⟩ := fin h' c
    have f4 : MI (xSI 56 (va_up (xI h' 56) 20 (nI e.2)) h') (sTp0 s (nI e.2)) := f1.tape (0, sTp s, nI e.2) (fun c q1 q2 => xI_ne q1) (fun j q1 q2 q3 => by rw [xI_at, va_up_of _ _ q3]) rfl (by rw [xI_at, va_up_of _ _ (by decide)]; exact f1.2.2.2.2.2.2.1) (by rw [xI_at, va_up_eq]) (fun i hi => absurd hi (Nat.not_lt_zero i))
    have f5 := f4.ref (k := 0) (by decide) (h' := xSI 65 (va_up (xI h' 65) 0 (xI h' 65 0 + 1)) (xSI 56 (va_up (xI h' 56) 20 (nI e.2)) h')) (by rw [xI_ne (show (65 : Nat) ≠ 56 by decide)])
    refine ⟨_, rfl, by rw [xI_ne (by decide), xI_at, va_up_of _ _ (by decide)]; exact f3, f2.trans (fun c hc => ⟨by rw [xI_ne (by omega), xI_ne (by omega)], rfl⟩), fun z => absurd z (by decide), fun _ => ?_⟩
    rw [he]
    exact ⟨rfl, f5.1⟩
  have qG : ∀ (y : Nat × (BD × Nat)) (h' : XH), lText (sTp s) n = .inr y → MRl h' y.2.1 → GoodBD y.2.1 → xMod (xP h') → Lch hb h' → ∃ Q1, XSpec mX11_take 2 0 0 100 100 [.ref 56] h' Q1 xno ∧ ∀ v h9, Q1 v h9 → v = none ∧ MBp h s 0 n C (some (.int 0)) h9 := fun y h' he hR hgd hMo c => by
    obtain ⟨f1, f2, f3⟩ := fin h' c
    have hD : MD h h' (sTp0 s (-1)) (wC y.2.1 C) := ⟨f1.1, f1.2.1, hR.wC (hC y he), f1.2.2.2.1.2.2.2.2.2.2, f1.2.2.2.2.2.2, f3, f2⟩
    refine ⟨_, m_take hD (wC_good hgd (hC y he)), ?_⟩
    rintro v h9 ⟨rfl, k1, k2, k3⟩
    refine ⟨rfl, _, rfl, k2, k3, fun z => absurd z (by decide), fun _ => ?_⟩
    rw [he]
    exact ⟨rfl, k1⟩
  refine ⟨rfl, _, m_is hK3 (i := 34) (by decide), ?_⟩
  rintro v h4 ⟨rfl, e4⟩
  subst h4
  rw [jsT_d.2.2.1]
  refine ⟨_, rfl, fun q => ?_, fun q => ⟨_, m_stepOn hK3, ?_⟩⟩
  · have eh : lText (sTp s) n = lAll (sTp s) n 501 (s0T (sTp s) n) b0T 0 := by
      unfold lText lHead
      rw [if_neg (by rw [bI_0.1 q]; decide)]
      rfl
    exact mb92 (h0 := hb) hSb ht (fun e h' he => qB e h' he) (fun y h' he => qG y h' he) 501 _ 0 b0T h3 (by omega) s0T_le hK3 hR3 b0T_good (by omega) (fun _ => rfl) l3 eh.symm
  · have eh : lText (sTp s) n = qbd (lLast (sTp s) n (nx (sTp s) n (s0T (sTp s) n)) b0T) (fun s' b => lAll (sTp s) n 501 s' b 0) := by
      unfold lText lHead
      rw [if_pos (bI_n0.1 q)]
    have ehd : lHead (sTp s) n = lLast (sTp s) n (nx (sTp s) n (s0T (sTp s) n)) b0T := by
      unfold lHead
      rw [if_pos (bI_n0.1 q)]
    rintro v h5 ⟨rfl, k5, c5⟩
    have hR5 := hR3.fc c5.fc
    have l5 := l3.trans c5.l
    refine ⟨rfl, k5.1 (3, 59) (by decide), _, m_readNumber (lo := 10) (hi := 100) k5 (by omega) (by omega), ?_⟩
    rintro v h6 ⟨hv, c6⟩
    have l6 := (l5.trans c6.l)
    rcases hv with ⟨w, e, rfl, k6⟩ | ⟨f, e, rfl, k6⟩
    · have hw := num_r e
      have en : lLast (sTp s) n (nx (sTp s) n (s0T (sTp s) n)) b0T = lSem (sTp s) n (nx (sTp s) n (nx (sTp s) n (s0T (sTp s) n))) (dLa b0T w) := by unfold lLast; rw [e]
      rw [en] at eh ehd
      have hR6 := (hR5.fc c6).la (v := w)
      have hK6 : MK (xSI 59 (va_up (xI h6 59) 8 (nI w)) h6) (sTp s) n (nx (sTp s) n (nx (sTp s) n (s0T (sTp s) n))) := k6.o (xI_ne (by decide)) (xI_ne (by decide)) rfl
      have l7 : Lch hb (xSI 59 (va_up (xI h6 59) 8 (nI w)) h6) := l6.put (by omega)
      refine ⟨_, rfl, _, m_mark hK6 (c := 59) (by omega), ?_⟩
      rintro v h7 ⟨rfl, k7, c7⟩
      refine ⟨rfl, ?_⟩
      rcases k7 with ⟨q7, k7⟩ | ⟨q7, k7⟩
      · unfold lSem at eh ehd
        rw [if_pos q7] at eh ehd
        obtain ⟨g1, g2⟩ := lHead_g ehd
        exact mb92 (h0 := hb) hSb ht (fun e h' he => qB e h' he) (fun y h' he => qG y h' he) 501 _ 0 _ h7 (by omega) g1 k7 (hR6.fc c7) g2 (by omega) (fun _ => rfl) (l7.trans c7.l) eh.symm
      · unfold lSem at eh
        rw [if_neg (by rw [q7]; decide)] at eh
        exact mb92B k7 (qB (1, _) h7 eh k7 (l7.trans c7.l))
    · have en : lLast (sTp s) n (nx (sTp s) n (s0T (sTp s) n)) b0T = .inl (f, nx (sTp s) n (s0T (sTp s) n)) := by unfold lLast; rw [e]
      rw [en] at eh
      have hB6 : MB (xSI 59 (va_up (xI h6 59) 8 0) h6) (sTp s) n f (nx (sTp s) n (s0T (sTp s) n)) := k6.o (xI_ne (by decide)) (xI_ne (by decide)) rfl
      refine ⟨_, rfl, _, m_markB hB6 _, ?_⟩
      rintro v h7 ⟨rfl, e7⟩
      subst h7
      exact ⟨rfl, mb92B hB6 (qB (f, _) _ eh hB6 (l6.put (by omega)))⟩
theorem brd_good {s : SG} (hg : GoodS s) {n : Nat} (hn : n ≤ sTl s) {y : Nat × (BD × Nat)} (hy : lText (sTp s) n = .inr y) {C : Nat → Int32} (hC : ∀ k, k < bLen y.2.1 → C k = bC y.2.1 k) : GoodS (sNew (sTp0 s (-1)) (wC y.2.1 C)) :=
  sNew_good (sTp0_good hg _) (wC_good (lText_g (T := sTp s) (n := n) (by have := hg.2.2.2.2.1; omega) (fun i hi => hg.2.2.2.2.2 i (by omega)) hy) hC)
