/-! SAND in natural numbers: the contracts of its functions -/
def SandM (h : XH) (sn last : Nat) (m : Nat → Nat) : Prop := SandAt h sn last (fun j => lN (m j))
theorem s_share (n sn r a last lst : Nat) (h : XH) (od : Nat → Nat) (T : Nat → Nat → Nat) (m : Nat → Nat) (hS : SandM h sn last m) (hm : ∀ s, s ≤ last → m s ≤ 1000000000) (hg : Geo h r a last lst od T) (hn : sn + 3 ≤ n) (hnr : r + 9 ≤ n) (hna : a + 4 ≤ n) :
    XSpec mX6_share 3 0 0 n n [.ref sn, .ref r, .ref a] h (fun v h' => v = none ∧ SandM h' sn last (shM last lst od T m) ∧ xfr sn (sn + 3) h h') xno := by
  have hd : Die od lst := hg.2.2.2.2.2.2.2.1
  have e : shN last lst od T (fun j => lN (m j)) = fun j => lN (shM last lst od T m j) := by
    funext j
    exact shN_lN hd hm (fun _ _ => rfl) j
  have := s_X6_share n sn r a last lst h od T _ hS hg hn hnr hna
  rw [e] at this
  exact this
theorem xfr.rfl {lo hi : Nat} {h : XH} : xfr lo hi h h := fun _ _ => ⟨Eq.refl _, Eq.refl _, Eq.refl _⟩
theorem xfr.trans {lo hi : Nat} {h h1 h2 : XH} (a : xfr lo hi h h1) (b : xfr lo hi h1 h2) : xfr lo hi h h2 := fun c hc => by
  obtain ⟨a1, a2, a3⟩ := a c hc
  obtain ⟨b1, b2, b3⟩ := b c hc
  exact ⟨b1.trans a1, b2.trans a2, b3.trans a3⟩
theorem xfr.mono {lo hi lo' hi' : Nat} {h h1 : XH} (a : xfr lo hi h h1) (h2 : lo' ≤ lo) (h3 : hi ≤ hi') : xfr lo' hi' h h1 := fun c hc => a c (by omega)
theorem xfr.SI {lo hi a : Nat} {f : Nat → Int32} {h : XH} (h1 : lo ≤ a) (h2 : a < hi) : xfr lo hi h (xSI a f h) := fun c hc => ⟨va_up_of _ _ (by omega), Eq.refl _, Eq.refl _⟩
theorem xfr.SL {lo hi a : Nat} {f : Nat → Int64} {h : XH} (h1 : lo ≤ a) (h2 : a < hi) : xfr lo hi h (xSL a f h) := fun c hc => ⟨Eq.refl _, va_up_of _ _ (by omega), Eq.refl _⟩
theorem xRul.fr {lo hi r : Nat} {h h' : XH} (hf : xfr lo hi h h') (hd : r + 9 ≤ lo ∨ hi ≤ r) (hr : xRul r (xP h)) : xRul r (xP h') := by
  obtain ⟨h1, h2, h3, h4, h5, h6, h7, h8, h9, h10⟩ := hr
  have e1 := (hf r (by omega)).2.2
  have e2 := (hf (r + 1) (by omega)).2.2
  exact ⟨h1, by rw [e1]; exact h2, by rw [e1]; exact h3, by rw [e1]; exact h4, by rw [e1]; exact h5, by rw [e1]; exact h6, h7, by rw [e2]; exact h8, by rw [e2]; exact h9, by rw [e2]; exact h10⟩
theorem xPth.fr {lo hi a : Nat} {h h' : XH} (hf : xfr lo hi h h') (hd : a + 4 ≤ lo ∨ hi ≤ a) (ha : xPth a (xP h)) : xPth a (xP h') := by
  obtain ⟨h1, h2, h3, h4⟩ := ha
  have e1 := (hf a (by omega)).2.2
  exact ⟨h1, by rw [e1]; exact h2, by rw [e1]; exact h3, by rw [e1]; exact h4⟩
theorem Geo.fr {lo hi r a last lst : Nat} {od : Nat → Nat} {T : Nat → Nat → Nat} {h h' : XH} (hf : xfr lo hi h h') (hd : r + 9 ≤ lo ∨ hi ≤ r) (hd2 : a + 4 ≤ lo ∨ hi ≤ a) (hg : Geo h r a last lst od T) : Geo h' r a last lst od T := by
  obtain ⟨hr, ha, g1, g2, g3, g4, g5, g6, g7, g8⟩ := hg
  have e1 := (hf r (by omega)).1
  have e2 := (hf (r + 5) (by omega)).1
  have e3 := (hf (a + 3) (by omega)).1
  exact ⟨hr.fr hf hd, ha.fr hf hd2, by rw [e1]; exact g1, by rw [e1]; exact g2, by rw [e1]; exact g3, g4, g5, g6, by rw [e2]; exact g7, by rw [e3]; exact g8⟩
theorem SandAt.cells {h : XH} {sn last : Nat} {L : Nat → Int64} (hS : SandAt h sn last L) : sn = 43 ∨ sn = 46 := by
  obtain ⟨ya, za, hs, -, -⟩ := hS
  exact (xSnd_ne hs).2.2.2.2.2
theorem SandAt.fr {lo hi sn last : Nat} {L : Nat → Int64} {h h' : XH} (hf : xfr lo hi h h') (hd : sn + 3 ≤ lo ∨ hi ≤ sn) (hS : SandAt h sn last L) : SandAt h' sn last L := by
  obtain ⟨ya, za, hs, h1, h2⟩ := hS
  have hne := xSnd_ne hs
  have e1 := hf sn (by omega)
  have e2 := hf ya (by omega)
  refine ⟨ya, za, ⟨hs.1, by rw [e1.2.2]; exact hs.2.1, by rw [e1.2.2]; exact hs.2.2⟩, by rw [e1.1]; exact h1, fun j hj => by rw [e2.2.1]; exact h2 j hj⟩
/-- Rules and paths lie ahead of the sand -/
theorem Geo.far {h : XH} {r a last lst sn : Nat} {od : Nat → Nat} {T : Nat → Nat → Nat} (hg : Geo h r a last lst od T) (hs : sn = 43 ∨ sn = 46) : r + 9 ≤ sn ∧ a + 4 ≤ sn := by
  have h1 := hg.1.1
  have h2 := hg.2.1.1
  omega
theorem s_out (n sn last : Nat) (h : XH) (m : Nat → Nat) (hS : SandM h sn last m) (hl : last ≤ 100) (hm : m last ≤ 1000000000) (hn : sn + 3 ≤ n) : XSpec mX6_out 2 0 0 n n [.ref sn] h (xq (some (.long (lN (1000000000 - m last)))) h) xno := by
  obtain ⟨ya, za, hs, h1, h2⟩ := hS
  have := s_X6_out n h sn ya za hs hn
  rw [h1, iz_rd (M := 101) rfl (by omega), h2 last (Nat.le_refl _)] at this
  have e : (1000000000 : Int64) - lN (m last) = lN (1000000000 - m last) := lN_sub (a := 1000000000) hm
  rw [e] at this
  exact this
theorem s_on (n sn last q : Nat) (h : XH) (m : Nat → Nat) (hS : SandM h sn last m) (hl : last ≤ 100) (hq : q ≤ last) (hn : sn + 3 ≤ n) : XSpec mX6_on 1 0 0 n n [.ref sn, .int (nI q)] h (xq (some (.long (lN (m q)))) h) xno := by
  obtain ⟨ya, za, hs, h1, h2⟩ := hS
  have := s_X6_on n h sn ya za hs hn (nI q)
  rw [iz_rd (M := 101) rfl (by omega), h2 q hq] at this
  exact this
theorem pour_at {h : XH} {sn ya za r last q : Nat} (hs : xSnd sn ya za (xP h)) (hl : xI h r 0 = nI last) (hl2 : last ≤ 100) (hq : q ≤ last) : SandM (xSL ya (pourL (nI q) (xL h ya)) (xSI sn (va_up (xI h sn) 0 (xI h r 0)) h)) sn last (fun j => if q = j then 1000000000 else 0) := by
  have hne := xSnd_ne hs
  refine ⟨ya, za, hs, ?_, fun j hj => ?_⟩
  · rw [xI_SL, xI_SI, if_pos rfl, va_up_eq, hl]
  · rw [xL_SL, if_pos rfl]
    unfold pourL
    rw [iz_wr (M := 101) rfl (by omega), nI_clamp (by omega)]
    show _ = lN (if q = j then 1000000000 else 0)
    unfold va_up fl
    by_cases c : j = q
    · subst c
      rw [if_pos rfl, if_pos rfl, if_pos (by omega)]
      rfl
    · rw [if_neg c, if_neg (Ne.symm c), if_pos (by omega)]
      rfl
/-- some sand's rows, whatever lies there -/
def SandIs (h : XH) (sn : Nat) : Prop := ∃ ya za : Nat, xSnd sn ya za (xP h)
theorem SandAt.is {h : XH} {sn last : Nat} {L : Nat → Int64} (hS : SandAt h sn last L) : SandIs h sn := by
  obtain ⟨ya, za, hs, -, -⟩ := hS
  exact ⟨ya, za, hs⟩
theorem SandIs.cells {h : XH} {sn : Nat} (hS : SandIs h sn) : sn = 43 ∨ sn = 46 := by
  obtain ⟨ya, za, hs⟩ := hS
  exact (xSnd_ne hs).2.2.2.2.2
theorem SandIs.fr {lo hi sn : Nat} {h h' : XH} (hf : xfr lo hi h h') (hd : sn + 3 ≤ lo ∨ hi ≤ sn) (hS : SandIs h sn) : SandIs h' sn := by
  obtain ⟨ya, za, hs⟩ := hS
  have e1 := hf sn (by omega)
  exact ⟨ya, za, hs.1, by rw [e1.2.2]; exact hs.2.1, by rw [e1.2.2]; exact hs.2.2⟩
theorem s_pour (n sn r a last lst q : Nat) (h : XH) (od : Nat → Nat) (T : Nat → Nat → Nat) (hS : SandIs h sn) (hg : Geo h r a last lst od T) (hq : q ≤ last) (hn : sn + 3 ≤ n) (hnr : r + 9 ≤ n) : XSpec mX6_pour 2 0 0 n n [.ref sn, .ref r, .int (nI q)] h (fun v h' => v = none ∧ SandM h' sn last (mass last lst od T q 0) ∧ xfr sn (sn + 3) h h') xno := by
  obtain ⟨ya, za, hs⟩ := hS
  obtain ⟨hr, ha, g1, g2, g3, g4, g5, g6, g7, g8⟩ := hg
  have hne := xSnd_ne hs
  refine XSpec.of rfl (by decide) (Nat.le_of_ble_eq_true rfl) rfl (v_X6_pour_0 n sn ya za hs hn r hr hnr (nI q) ⟨rfl, ?_, ?_⟩)
  · rw [xSL_SL]
    exact pour_at hs g1 g5 hq
  · rw [xSL_SL]
    exact (xfr.SI (by omega) (by omega)).trans (xfr.SL (by omega) (by omega))
theorem lN_cmp0 {k : Nat} (hk : k < 2 ^ 31) : (lg_cmp (lN k) 0 ≤ 0) ↔ k = 0 := by
  have e : (0 : Int64) = lN 0 := rfl
  have h1 : (lN k > 0) ↔ 0 < k := by rw [e]; exact pk_lLT (by omega) (by omega)
  have h2 : (lN k = 0) ↔ k = 0 := by rw [e]; exact pk_lEQ (by omega) (by omega)
  unfold lg_cmp
  by_cases c : 0 < k
  · rw [if_pos (h1.mpr c)]
    constructor
    · intro q; exact absurd q (by decide)
    · intro q; omega
  · rw [if_neg (fun z => c (h1.mp z)), if_pos (h2.mpr (by omega))]
    constructor
    · intro _; omega
    · intro _; decide
theorem l_sumOut (n sn r a last lst q k0 : Nat) (od : Nat → Nat) (T : Nat → Nat → Nat) {Q : Option Value → XH → Prop} {X : String → XH → Prop} (hn : sn + 3 ≤ n) (hnr : r + 9 ≤ n) (hna : a + 4 ≤ n) (hq : q ≤ last) (hk0 : k0 ≤ 400) (h0 : XH)
    (hQ : ∀ h', xfr sn (sn + 3) h0 h' → SandIs h' sn → Q (some (.long (lN (longK last lst od T q k0)))) h') :
    ∀ (k i : Nat) (h : XH), i + k = k0 → SandM h sn last (mass last lst od T q (i - 1)) → Geo h r a last lst od T → xfr sn (sn + 3) h0 h →
      XW (xrm 4 0 0) mX6_sumOut (xE n Q X 0 0) n 0 0 h 12 [some (.ref sn), some (.ref r), some (.ref a), none, some (.int (nI k0)), some (.long (lN (longK last lst od T q i))), none, some (.int (nI i))] [] := by
  intro k
  induction k with
  | zero =>
    intro i h hi hS hg hf
    have : i = k0 := by omega
    subst this
    obtain ⟨ya, za, hs, h1, h2⟩ := id hS
    refine v_X6_sumOut_12 n sn ya za hs hn r hg.1 hnr a hg.2.1 hna (nI i) _ (nI i) ⟨fun _ => hQ h hf hS.is, fun c => absurd (nI_le (Nat.le_refl _) (by omega)) c⟩
  | succ k ih =>
    intro i h hi hS hg hf
    obtain ⟨hr, ha, g1, g2, g3, g4, g5, g6, g7, g8⟩ := id hg
    have hT : ∀ s, s ≤ last → ∀ f, f ≤ 6 → T s f ≤ last := fun s hs f hf => (g8 s hs f hf).2
    obtain ⟨ya, za, hs, h1, h2⟩ := id hS
    have hml : ∀ i j, j ≤ last → mass last lst od T q i j ≤ 1000000000 := fun i j hj => mass_le g6 hT hq hj
    have hfar := hg.far hS.cells
    refine v_X6_sumOut_12 n sn ya za hs hn r hr hnr a ha hna (nI k0) _ (nI i) ⟨fun c => absurd c (nI_ge (by omega) (by omega)), fun _ => ?_⟩
    have eo : (1000000000 : Int64) - rd (xL h ya) 101 0 (xI h sn 0) = lN (outK last lst od T q (i - 1)) := by
      rw [h1, iz_rd (M := 101) rfl (by omega), h2 last (Nat.le_refl _)]
      exact lN_sub (a := 1000000000) (hml _ _ (Nat.le_refl _))
    rw [eo]
    have hob : outK last lst od T q (i - 1) ≤ 1000000000 := Nat.sub_le _ _
    refine ⟨fun c => ?_, fun c => ?_⟩
    · have c0 := (lN_cmp0 (by omega)).mp c
      have e : longK last lst od T q k0 = longK last lst od T q i := by
        have : ∀ d, longK last lst od T q (i + d) = longK last lst od T q i := by
          intro d
          induction d with
          | zero => rfl
          | succ d ihd =>
            have := out_stay (k := i - 1) g6 hT hq c0 (0 + (i + d) - (i - 1))
            rw [show i - 1 + (0 + (i + d) - (i - 1)) = 0 + (i + d) by omega] at this
            unfold longK at ihd ⊢
            rw [show i + (d + 1) = i + d + 1 by omega, sN_last, ihd, this]
            rfl
        rw [← this (k0 - i)]
        congr 1
        omega
      rw [← e]
      exact hQ h hf hS.is
    · refine ⟨fun c2 => ?_, fun c2 => ?_⟩
      · have i0 : i = 0 := by
          rcases Nat.eq_zero_or_pos i with z | z
          · exact z
          · exact absurd c2 (nI_nle z (by omega))
        subst i0
        rw [nI_1]
        have e : lN (longK last lst od T q 0) + lN (outK last lst od T q (0 - 1)) = lN (longK last lst od T q (0 + 1)) := by
          rw [lN_add]
          simp [longK, sN]
        rw [e]
        exact ih 1 h (by omega) hS hg hf
      · have i1 : 0 < i := by
          rcases Nat.eq_zero_or_pos i with z | z
          · subst z; exact absurd (by decide) c2
          · exact z
        refine ⟨_, s_share n sn r a last lst h od T _ hS (fun s hs => hml _ s hs) hg hn hnr hna, ?_⟩
        rintro v ha1 ⟨rfl, hS1, hf1⟩
        have hS2 : SandM ha1 sn last (mass last lst od T q i) := by
          have : mass last lst od T q i = shM last lst od T (mass last lst od T q (i - 1)) := by
            obtain ⟨i', rfl⟩ : ∃ i', i = i' + 1 := ⟨i - 1, by omega⟩
            rfl
          rw [this]; exact hS1
        refine ⟨rfl, _, s_out n sn last ha1 _ hS2 g5 (hml _ _ (Nat.le_refl _)) hn, ?_⟩
        rintro v h2' ⟨rfl, rfl⟩
        refine ⟨_, rfl, ?_⟩
        rw [nI_1, lN_add]
        have e : longK last lst od T q i + (1000000000 - mass last lst od T q i last) = longK last lst od T q (i + 1) := by
          unfold longK
          rw [sN_last, Nat.zero_add]
          rfl
        rw [e]
        exact ih (i + 1) h2' (by omega) hS2 (hg.fr hf1 (Or.inl hfar.1) (Or.inl hfar.2)) (hf.trans hf1)
theorem s_sumOut (n sn r a last lst q k0 : Nat) (h : XH) (od : Nat → Nat) (T : Nat → Nat → Nat) (hS : SandIs h sn) (hg : Geo h r a last lst od T) (hq : q ≤ last) (hk : k0 ≤ 400) (hn : sn + 3 ≤ n) (hnr : r + 9 ≤ n) (hna : a + 4 ≤ n) : XSpec mX6_sumOut 4 0 0 n n [.ref sn, .ref r, .ref a, .int (nI q), .int (nI k0)] h (fun v h' => v = some (.long (lN (longK last lst od T q k0))) ∧ xfr sn (sn + 3) h h' ∧ SandIs h' sn) xno := by
  have hcl := hS.cells
  obtain ⟨ya, za, hs⟩ := hS
  obtain ⟨hr, ha, g1, g2, g3, g4, g5, g6, g7, g8⟩ := id hg
  have hne := xSnd_ne hs
  have hfar := hg.far hcl
  refine XSpec.of rfl (by decide) (Nat.le_of_ble_eq_true rfl) rfl (v_X6_sumOut_0 n sn ya za hs hn r hr hnr a ha hna (nI q) (nI k0) ?_)
  have hf : xfr sn (sn + 3) h (xSL ya (pourL (nI q) (xL h ya)) (xSI sn (va_up (xI h sn) 0 (xI h r 0)) h)) := (xfr.SI (by omega) (by omega)).trans (xfr.SL (by omega) (by omega))
  exact l_sumOut n sn r a last lst q k0 od T hn hnr hna hq hk h (fun h' hf' hS' => ⟨rfl, hf', hS'⟩) k0 0 _ (by omega) (pour_at hs g1 g5 hq) (hg.fr hf (Or.inl hfar.1) (Or.inl hfar.2)) hf
