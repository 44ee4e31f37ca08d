/-! THE REFERENCE: the table of a board, told -/
abbrev TabS : Nat → Prop := fun c => c = 67 ∨ c = 69 ∨ c = 70
theorem l_mtabIn (C : Nat → Int32) (len last E : Nat) (J : Nat → Nat) (hl : last ≤ 100) (hE : E ≤ 2) (hJb : ∀ j, j ≤ last → J j ≤ last) (hJl : J last = 0) (g : Nat) (hg : g ≤ 6) {Q : Option Value → XH → Prop} {X : String → XH → Prop} : ∀ (k x : Nat) (h : XH), x + k = last + 1 → xMod (xP h) → CodeM h C len → xI h 59 0 = nI last → (∀ j, j ≤ last → xI h 68 j = nI (J j)) →
    (∀ h', xfs TabS h h' → (∀ j, xI h' 67 j = if 101 * g + x ≤ j ∧ j ≤ 101 * g + last then nI (goTo J last E (farAt C len last J) (j - 101 * g) g) else xI h 67 j) → XW (xrm 4 0 0) mX11_tellTable (xE 100 Q X 0 0) 100 0 0 h' 93 [some (.ref 56), none, none, none, some (.int (nI E)), some (.int (nI g)), some (.int (nI (last + 1)))] []) →
    XW (xrm 4 0 0) mX11_tellTable (xE 100 Q X 0 0) 100 0 0 h 93 [some (.ref 56), none, none, none, some (.int (nI E)), some (.int (nI g)), some (.int (nI x))] [] := by
  intro k
  induction k with
  | zero =>
    intro x h hx hM hc h1 hJ hQ
    have : x = last + 1 := by omega
    subst this
    exact hQ h xfs.rfl (fun j => by rw [if_neg (by omega)])
  | succ k ih =>
    intro x h hx hM hc h1 hJ hQ
    refine v_X11_tellTable_93 hM (nI E) (nI g) (nI x) ⟨fun c => absurd c (by rw [h1]; exact nI_nlt (by omega) (by omega)), fun _ => ⟨_, s_X11_leads h hM C len last E J hl hE hc h1 (fun j hj => ⟨hJ j hj, hJb j hj⟩) hJl x g (by omega) hg, ?_⟩⟩
    rintro v h2 ⟨rfl, hfr⟩
    have e1 : (101 : Int32) * nI g + nI x = nI (101 * g + x) := m67 g x
    refine ⟨_, rfl, ?_⟩
    rw [e1, nI_1, nI_clamp (by omega)]
    have hfs : xfs TabS h h2 := hfr.fs (fun c c1 c2 => Or.inr (by omega))
    have hfs2 := hfs.trans (xfs.SI (S := TabS) (a := 67) (f := va_up (xI h2 67) (101 * g + x) (nI (goTo J last E (farAt C len last J) x g))) (h := h2) (Or.inl rfl))
    have n56 : ¬ TabS 56 := by decide
    have n59 : ¬ TabS 59 := by decide
    have n63 : ¬ TabS 63 := by decide
    have n68 : ¬ TabS 68 := by decide
    refine ⟨vp_in_nI (by omega) (by omega), ih (x + 1) _ (by omega) (hM.fs hfs2 n56) (hc.fr hfs2 n59 n63) (by rw [(hfs2 59 n59).1]; exact h1) (fun j hj => by rw [(hfs2 68 n68).1]; exact hJ j hj) (fun h' k1 k2 => hQ h' (hfs2.trans k1) (fun j => ?_))⟩
    rw [k2 j, xI_at, xfr1 hfr (c := 67) (by omega)]
    unfold va_up
    by_cases c : j = 101 * g + x
    · rw [if_neg (by omega), if_pos c, if_pos (by omega), c, Nat.add_sub_cancel_left]
    · by_cases c2 : 101 * g + (x + 1) ≤ j ∧ j ≤ 101 * g + last
      · rw [if_pos c2, if_pos (by omega)]
      · rw [if_neg c2, if_neg c, if_neg (by omega)]
theorem l_mtab (C : Nat → Int32) (len last E : Nat) (J : Nat → Nat) (hl : last ≤ 100) (hE : E ≤ 2) (hJb : ∀ j, j ≤ last → J j ≤ last) (hJl : J last = 0) {Q : Option Value → XH → Prop} {X : String → XH → Prop} : ∀ (k x : Nat) (h : XH), x + k = 7 → xMod (xP h) → CodeM h C len → xI h 59 0 = nI last → (∀ j, j ≤ last → xI h 68 j = nI (J j)) →
    (∀ h', xfs TabS h h' → (∀ g, x ≤ g → g < 7 → ∀ s, s ≤ last → xI h' 67 (101 * g + s) = nI (goTo J last E (farAt C len last J) s g)) → (∀ j, j < 101 * x → xI h' 67 j = xI h 67 j) → Q none h') →
    XW (xrm 4 0 0) mX11_tellTable (xE 100 Q X 0 0) 100 0 0 h 83 [some (.ref 56), none, none, none, some (.int (nI E)), some (.int (nI x)), none] [] := by
  intro k
  induction k with
  | zero =>
    intro x h hx hM hc h1 hJ hQ
    have : x = 7 := by omega
    subst this
    exact v_X11_tellTable_83 hM (nI E) (nI 7) ⟨fun _ => hQ h xfs.rfl (fun g g1 g2 => by omega) (fun _ _ => rfl), fun c => absurd (by decide) c⟩
  | succ k ih =>
    intro x h hx hM hc h1 hJ hQ
    refine v_X11_tellTable_83 hM (nI E) (nI x) ⟨fun c => absurd c (nI_nlt (a := 6) (b := x) (by omega) (by omega)), fun _ => ?_⟩
    refine l_mtabIn C len last E J hl hE hJb hJl x (by omega) (last + 1) 0 h (by omega) hM hc h1 hJ (fun h2 f1 f2 => ?_)
    have n56 : ¬ TabS 56 := by decide
    have n59 : ¬ TabS 59 := by decide
    have n63 : ¬ TabS 63 := by decide
    have n68 : ¬ TabS 68 := by decide
    have hM2 := hM.fs f1 n56
    have h12 : xI h2 59 0 = nI last := by rw [(f1 59 n59).1]; exact h1
    refine v_X11_tellTable_93 hM2 (nI E) (nI x) (nI (last + 1)) ⟨fun _ => ?_, fun c => absurd (by rw [h12]; exact nI_lt (by omega) (by omega)) c⟩
    rw [nI_1]
    refine ih (x + 1) h2 (by omega) hM2 (hc.fr f1 n59 n63) h12 (fun j hj => by rw [(f1 68 n68).1]; exact hJ j hj) (fun h' k1 k2 k3 => hQ h' (f1.trans k1) (fun g g1 g2 s hs => ?_) (fun j hj => ?_))
    · by_cases c : g = x
      · subst c
        rw [k3 _ (by omega), f2 _, if_pos (by omega), Nat.add_sub_cancel_left]
      · exact k2 g (by omega) g2 s hs
    · rw [k3 j (by omega), f2 j, if_neg (by omega)]
/-- the exits that a table is told by: all but one (wo), and one more (foot 0: none) -/
def jmpT (wo : Int32) (ft hd : Nat → Nat) (kx f1 h1 : Nat) : Nat → Nat := if f1 = 0 then jmpw wo ft hd kx else va_up (jmpw wo ft hd kx) f1 h1
theorem s_X11_tellTable (h : XH) (hM : xMod (xP h)) (C : Nat → Int32) (len last E : Nat) (ft hd : Nat → Nat) (kx : Nat) (hk : kx ≤ 48) (hft : ∀ i, i < kx → ft i ≤ 100) (wo : Int32) (f1 hd1 : Nat) (hf1 : f1 ≤ 100) (hl : last ≤ 100) (hE : E ≤ 2) (hJb : ∀ j, j ≤ last → jmpT wo ft hd kx f1 hd1 j ≤ last) (hJl : jmpT wo ft hd kx f1 hd1 last = 0) (hc : CodeM h C len) (h1 : xI h 59 0 = nI last) (hkx : xI h 59 1 = nI kx) (hfh : ∀ i, i < kx → xI h 61 i = nI (ft i) ∧ xI h 62 i = nI (hd i)) :
    XSpec mX11_tellTable 4 0 0 100 100 [.ref 56, .int wo, .int (nI f1), .int (nI hd1), .int (nI E)] h (fun v h' => v = none ∧ (∀ s, s ≤ last → ∀ g, g ≤ 6 → xI h' 67 (101 * g + s) = nI (goTo (jmpT wo ft hd kx f1 hd1) last E (farAt C len last (jmpT wo ft hd kx f1 hd1)) s g)) ∧ (∀ j, j < 101 → xI h' 68 j = nI (jmpT wo ft hd kx f1 hd1 j)) ∧ xfr 67 71 h h') xno := by
  generalize eJ : jmpT wo ft hd kx f1 hd1 = J at hJb hJl
  refine XSpec.of rfl (by decide) (Nat.le_of_ble_eq_true rfl) rfl (v_X11_tellTable_0 hM wo (nI f1) (nI hd1) (nI E) ?_)
  refine l_mjump0 wo (nI f1) (nI hd1) E 101 0 h (by omega) hM (fun F hF => ?_)
  refine l_mfeet wo (nI f1) (nI hd1) E ft hd kx hk hft kx 0 (xSI 68 F h) (by omega) hM hkx hfh (fun j hj => by rw [xI_at, hF j hj, if_pos (Nat.zero_le _)]; rfl) (fun F2 hF2 => ?_)
  rw [xSI_SI]
  have fin : ∀ F3 : Nat → Int32, (∀ j, j < 101 → F3 j = nI (J j)) → XW (xrm 4 0 0) mX11_tellTable (xE 100 (fun v h' => v = none ∧ (∀ s, s ≤ last → ∀ g, g ≤ 6 → xI h' 67 (101 * g + s) = nI (goTo J last E (farAt C len last J) s g)) ∧ (∀ j, j < 101 → xI h' 68 j = nI (J j)) ∧ xfr 67 71 h h') xno 0 0) 100 0 0 (xSI 68 F3 h) 83 [some (.ref 56), none, none, none, some (.int (nI E)), some (.int (nI 0)), none] [] := by
    intro F3 hF3
    refine l_mtab C len last E J hl hE hJb hJl 7 0 (xSI 68 F3 h) (by omega) hM hc h1 (fun j hj => by rw [xI_at]; exact hF3 j (by omega)) (fun h' k1 k2 _ => ⟨rfl, fun s hs g hg => k2 g (Nat.zero_le _) (by omega) s hs, fun j hj => ?_, ?_⟩)
    · rw [(k1 68 (by decide)).1, xI_at]; exact hF3 j hj
    · intro c hc
      have := k1 c (by show ¬ (c = 67 ∨ c = 69 ∨ c = 70); omega)
      rw [this.1, this.2.1, this.2.2]
      exact ⟨va_up_of _ _ (by omega), rfl, rfl⟩
  refine v_X11_tellTable_27 (h := xSI 68 F2 h) hM wo (nI f1) (nI hd1) (nI E) (nI kx) ⟨fun _ => ⟨fun c => ?_, fun c => ?_⟩, fun c => absurd (by show xI h 59 1 ≤ nI kx; rw [hkx]; exact nI_le (Nat.le_refl _) (by omega)) c⟩
  · have z : f1 = 0 := by have := (nI_leI (a := f1) (b := 0) (by omega) (by omega)).1 c; omega
    refine fin F2 (fun j hj => ?_)
    rw [hF2 j hj, ← eJ, jmpT, if_pos z]
  · have z : ¬ f1 = 0 := fun z => c (by rw [z]; decide)
    refine ⟨vp_in_nI (by omega) (by omega), ?_⟩
    rw [xSI_SI, nI_clamp (by omega), xI_at]
    refine fin _ (fun j hj => ?_)
    rw [← eJ, jmpT, if_neg z]
    unfold va_up
    split
    · rfl
    · exact hF2 j hj
theorem jmpT_all (ft hd : Nat → Nat) (kx : Nat) (hk : kx ≤ 48) : jmpT (-1) ft hd kx 0 0 = jmps ft hd kx := by
  unfold jmpT
  rw [if_pos rfl, jmpw_none ft hd kx hk]
theorem s_X11_tellBoard (h : XH) (hM : xMod (xP h)) (C : Nat → Int32) (len last E : Nat) (ft hd : Nat → Nat) (kx : Nat) (hk : kx ≤ 48) (hft : ∀ i, i < kx → ft i ≤ 100) (hl : last ≤ 100) (hE : E ≤ 2) (hJb : ∀ j, j ≤ last → jmps ft hd kx j ≤ last) (hJl : jmps ft hd kx last = 0) (hc : CodeM h C len) (h1 : xI h 59 0 = nI last) (h3 : xI h 59 3 = nI E) (hkx : xI h 59 1 = nI kx) (hfh : ∀ i, i < kx → xI h 61 i = nI (ft i) ∧ xI h 62 i = nI (hd i)) :
    XSpec mX11_tellBoard 5 0 0 100 100 [.ref 56] h (fun v h' => v = none ∧ (∀ s, s ≤ last → ∀ g, g ≤ 6 → xI h' 67 (101 * g + s) = nI (goTo (jmps ft hd kx) last E (farAt C len last (jmps ft hd kx)) s g)) ∧ (∀ j, j < 101 → xI h' 68 j = nI (jmps ft hd kx j)) ∧ xfr 67 71 h h') xno := by
  refine XSpec.of rfl (by decide) (Nat.le_of_ble_eq_true rfl) rfl (v_X11_tellBoard_0 hM ?_)
  rw [h3]
  have := s_X11_tellTable h hM C len last E ft hd kx hk hft (-1) 0 0 (by omega) hl hE (by rw [jmpT_all _ _ _ hk]; exact hJb) (by rw [jmpT_all _ _ _ hk]; exact hJl) hc h1 hkx hfh
  rw [jmpT_all _ _ _ hk] at this
  refine ⟨_, this, ?_⟩
  rintro v h2 ⟨rfl, g⟩
  exact ⟨rfl, rfl, g⟩
/-- feet and heads of a board that holds: where the exits lead -/
theorem jmps_le {ft hd : Nat → Nat} {last : Nat} : ∀ k, (∀ i, i < k → hd i ≤ last) → ∀ j, jmps ft hd k j ≤ last := by
  intro k
  induction k with
  | zero => intro _ j; exact Nat.zero_le _
  | succ k ih =>
    intro hh j
    rw [jmps]
    unfold va_up
    split
    · exact hh k (by omega)
    · exact ih (fun i hi => hh i (by omega)) j
theorem jmps_0 {ft hd : Nat → Nat} {q : Nat} : ∀ k, (∀ i, i < k → ft i ≠ q) → jmps ft hd k q = 0 := by
  intro k
  induction k with
  | zero => intro _; rfl
  | succ k ih =>
    intro hh
    rw [jmps]
    unfold va_up
    rw [if_neg (fun z => hh k (by omega) z.symm)]
    exact ih (fun i hi => hh i (by omega))
