/-! THE REFERENCE: the row that is kept -/
theorem l_mnear (last lst : Nat) (od : Nat → Nat) (T : Nat → Nat → Nat) (h : XH) (hg : GeoM h last lst od T) (s0 s i : Nat) (hs : s ≤ last) (hi : i ≤ 100) (hex : ∃ f, 1 ≤ f ∧ f ≤ 6 ∧ 0 < od f ∧ xI h 80 (T s f) = xI h 80 s - 1) {Q : Option Value → XH → Prop} {X : String → XH → Prop} (hQ : ∀ f, NearF od T (xI h 80) s f → XW (xrm 6 0 0) mX11_fewest (xE 100 Q X 0 0) 100 0 0 (xSI 79 (va_up (xI h 79) i (nI f)) h) 49 [some (.ref 56), some (.int (nI s0)), some (.int (nI (T s f))), some (.int (nI (i + 1))), none] []) : ∀ (k x : Nat), x + k = 7 → 1 ≤ x → (∀ g, 1 ≤ g → g < x → ¬ (0 < od g ∧ xI h 80 (T s g) = xI h 80 s - 1)) →
    XW (xrm 6 0 0) mX11_fewest (xE 100 Q X 0 0) 100 0 0 h 62 [some (.ref 56), some (.int (nI s0)), some (.int (nI s)), some (.int (nI i)), some (.int (nI x))] [] := by
  obtain ⟨hM, g1, g4, g5, g6, g7, g8⟩ := hg
  intro k
  induction k with
  | zero =>
    intro x hx h1 hno
    obtain ⟨f, f1, f2, f3, f4⟩ := hex
    exact absurd ⟨f3, f4⟩ (hno f f1 (by omega))
  | succ k ih =>
    intro x hx h1 hno
    have e1 : nI x - 1 = nI (x - 1) := by
      have : nI x - 1 = nI x - nI 1 := rfl
      rw [this, pk_sub (by omega)]
    have b1 := g6.1 x h1 (by omega)
    obtain ⟨t1, t2⟩ := g8 s hs x (by omega)
    refine v_X11_fewest_62 hM _ _ _ (nI x) ?_
    rw [e1, nI_clamp (show x - 1 < 2 ^ 31 by omega), g7 x h1 (by omega), m67, nI_clamp (show 101 * x + s < 2 ^ 31 by omega), t1, nI_clamp (show T s x < 2 ^ 31 by omega), nI_clamp (show s < 2 ^ 31 by omega), nI_1, nI_1, nI_clamp (show i < 2 ^ 31 by omega)]
    have step := fun (hn : ¬ (0 < od x ∧ xI h 80 (T s x) = xI h 80 s - 1)) => ih (x + 1) (by omega) (by omega) (fun g g1 g2 => by
      by_cases z : g = x
      · rw [z]; exact hn
      · exact hno g g1 (by omega))
    refine ⟨vp_in_nI (by omega) (by omega), fun c => step (fun z => ?_), fun c => ⟨vp_in_nI (by omega) (by omega), vp_in_nI (by omega) (by omega), vp_in_nI (by omega) (by omega), fun c2 => ⟨vp_in_nI (by omega) (by omega), vp_in_nI (by omega) (by omega), hQ x ⟨h1, by omega, ⟨?_, c2⟩, hno⟩⟩, fun c2 => step (fun z => c2 z.2)⟩⟩
    · have := (nI_eq (a := od x) (b := 0) (by omega) (by omega)).1 c
      omega
    · exact Nat.pos_of_ne_zero (fun z => c (by rw [z]; rfl))
theorem l_mkeep (last lst : Nat) (od : Nat → Nat) (T : Nat → Nat → Nat) (s0 m : Nat) (hm : m ≤ 100) (hs0 : s0 ≤ last) (A : Nat → Int32) (hA : Far od T last last A) (hA0 : A s0 = nI m) {Q : Option Value → XH → Prop} {X : String → XH → Prop} : ∀ (c i s : Nat) (h : XH), i + c = m → s ≤ last → GeoM h last lst od T → xI h 80 = A → A s = nI c →
    (∀ R : Nat → Int32, (∀ j, j < i → R j = xI h 79 j) → RowK od T A c i s R → Q (some (.int (nI m))) (xSI 56 (va_up (xI h 56) 38 (nI m)) (xSI 79 R h))) →
    XW (xrm 6 0 0) mX11_fewest (xE 100 Q X 0 0) 100 0 0 h 49 [some (.ref 56), some (.int (nI s0)), some (.int (nI s)), some (.int (nI i)), none] [] := by
  intro c
  induction c with
  | zero =>
    intro i s h hx hs hg hA1 hd hQ
    have hl := hg.2.2.2.1
    have : i = m := by omega
    subst this
    refine v_X11_fewest_49 hg.1 _ _ (nI i) ?_
    rw [nI_clamp (show s0 < 2 ^ 31 by omega), hA1, hA0]
    refine ⟨vp_in_nI (by omega) (by omega), fun _ => ⟨vp_in_nI (by omega) (by omega), ?_⟩, fun z => absurd (nI_le (Nat.le_refl _) (by omega)) z⟩
    rw [va_up_eq]
    have := hQ (xI h 79) (fun _ _ => rfl) True.intro
    rw [xSI_self] at this
    exact this
  | succ c ih =>
    intro i s h hx hs hg hA1 hd hQ
    have hl := hg.2.2.2.1
    have hT : ∀ s, s ≤ last → ∀ f, f ≤ 6 → T s f ≤ last := fun s hs f hf => (hg.2.2.2.2.2.2 s hs f hf).2
    obtain ⟨f0, f1, f2, f3, f4⟩ := hA.near hl hT hs hd (by omega)
    have em : A s - 1 = nI c := by
      rw [hd]
      have : nI (c + 1) - 1 = nI (c + 1) - nI 1 := rfl
      rw [this, pk_sub (by omega), Nat.add_sub_cancel]
    refine v_X11_fewest_49 hg.1 _ _ (nI i) ?_
    rw [nI_clamp (show s0 < 2 ^ 31 by omega), hA1, hA0]
    refine ⟨vp_in_nI (by omega) (by omega), fun z => absurd z (nI_ge (by omega) (by omega)), fun _ => ?_⟩
    refine l_mnear last lst od T h hg s0 s i hs (by omega) ⟨f0, f1, f2, f3, by rw [hA1, em]; exact f4⟩ (fun f hf => ?_) 6 1 rfl (Nat.le_refl _) (fun g g1 g2 => by omega)
    rw [hA1] at hf
    obtain ⟨k1, k2, ⟨k3, k4⟩, k5⟩ := hf
    have hfr : xfr 79 80 h (xSI 79 (va_up (xI h 79) i (nI f)) h) := xfr.SI (by omega) (by omega)
    refine ih (i + 1) (T s f) _ (by omega) (hT s hs f k2) (hg.fr hfr (by omega)) hA1 (by rw [k4]; exact em) (fun R r1 r2 => ?_)
    have := hQ R (fun j hj => by rw [r1 j (by omega), xI_at, va_up_of _ _ (by omega)]) ⟨f, ⟨k1, k2, ⟨k3, k4⟩, k5⟩, by rw [r1 i (by omega), xI_at, va_up_eq], r2⟩
    rw [xSI_SI]
    exact this
