/-! WAYS: a round, as the reference asks -/
/-- the least of the faces below x, of what is to go behind them and one more -/
def Bst (od : Nat → Nat) (T : Nat → Nat → Nat) (B : Nat → Int32) (s x : Nat) (w : Int32) : Prop := (w = -1 ∧ ∀ g, 1 ≤ g → g < x → 0 < od g → B (T s g) = -1) ∨ (∃ m, w = nI (m + 1) ∧ m ≤ 100 ∧ (∃ f, 1 ≤ f ∧ f < x ∧ 0 < od f ∧ B (T s f) = nI m) ∧ ∀ g, 1 ≤ g → g < x → 0 < od g → ∀ m', m' ≤ 100 → B (T s g) = nI m' → m ≤ m')
theorem round_eq {od : Nat → Nat} {T : Nat → Nat → Nat} {last s : Nat} {A B : Nat → Int32} {w : Int32} (ha : Far1 od T last s A) (hb : Far od T last s B) (hl : last ≤ 100) (hs : s ≤ last) (hT : ∀ s, s ≤ last → ∀ f, f ≤ 6 → T s f ≤ last) (hw : Bst od T B s 7 w) : A s = w := by
  have far : ∀ t, t ≤ last → ∀ m, B t = nI m → m ≤ 100 → wlk od T s m t := by
    intro t ht m hm hmb
    rcases hb t ht with ⟨m', b1, b2, b3, -⟩ | ⟨b1, -⟩
    · rw [hm] at b1
      rw [(nI_eq (by omega) (by omega)).1 b1]; exact b3
    · rw [hm] at b1; exact absurd b1 (nI_nm1 (by omega))
  rcases hw with ⟨rfl, h1⟩ | ⟨m, rfl, hm, ⟨f, f1, f2, f3, f4⟩, h2⟩
  · rcases ha s hs with ⟨m, a1, a2, a3, a4, a5⟩ | ⟨a1, -⟩
    · have : m = (m - 1) + 1 := by omega
      rw [this] at a4
      obtain ⟨s', ⟨f, f1, f2, f3, f4⟩, hw⟩ := a4
      have e := h1 f f1 (by omega) f3
      rw [f4] at e
      rcases hb s' (by rw [← f4]; exact hT s hs f f2) with ⟨m', b1, b2, b3, -⟩ | ⟨-, b2⟩
      · rw [e] at b1; exact absurd b1.symm (nI_nm1 (by omega))
      · exact absurd hw (b2 _)
    · exact a1
  · have hwm : wlk od T s (m + 1) s := ⟨T s f, ⟨f, f1, by omega, f3, rfl⟩, far _ (hT s hs f (by omega)) m f4 hm⟩
    rcases ha s hs with ⟨k, a1, a2, a3, a4, a5⟩ | ⟨-, a2⟩
    · have h3 := a5 (m + 1) (by omega) hwm
      have : k = (k - 1) + 1 := by omega
      rw [this] at a4
      obtain ⟨s', ⟨g, g1, g2, g3, g4⟩, hw⟩ := a4
      rcases hb s' (by rw [← g4]; exact hT s hs g g2) with ⟨m', b1, b2, b3, b4⟩ | ⟨-, b2⟩
      · have h4 := b4 _ hw
        have h5 := h2 g g1 (by omega) g3 m' (by omega) (by rw [g4]; exact b1)
        rw [a1, show k = m + 1 by omega]
      · exact absurd hw (b2 _)
    · exact absurd hwm (a2 (m + 1) (by omega))
theorem l_round (last lst : Nat) (od : Nat → Nat) (T : Nat → Nat → Nat) (h : XH) (hg : GeoM h last lst od T) (s : Nat) (hs : s ≤ last) (hb : Far od T last s (xI h 80)) {Q : Option Value → XH → Prop} {X : String → XH → Prop} (hQ : ∀ w, Bst od T (xI h 80) s 7 w → Q (some (.int w)) h) : ∀ (k x : Nat) (w : Int32), x + k = 7 → 1 ≤ x → Bst od T (xI h 80) s x w →
    XW (xrm 6 0 0) mX11_round (xE 100 Q X 0 0) 100 0 0 h 32 [some (.ref 56), some (.int (nI s)), some (.int w), some (.int (nI x)), none] [] := by
  obtain ⟨hM, g1, g4, g5, g6, g7, g8⟩ := hg
  intro k
  induction k with
  | zero =>
    intro x w hx h1 hB
    have : x = 7 := by omega
    subst this
    exact v_X11_round_32 hM _ w (nI 7) ⟨fun _ => hQ w hB, fun c => absurd (by decide) c⟩
  | succ k ih =>
    intro x w hx h1 hB
    have e1 : nI x - 1 = nI (x - 1) := by
      have : nI x - 1 = nI x - nI 1 := rfl
      rw [this, pk_sub (by omega)]
    have b1 := g6.1 x h1 (by omega)
    obtain ⟨t1, t2⟩ := g8 s hs x (by omega)
    refine v_X11_round_32 hM _ w (nI x) ⟨fun c => absurd c (nI_nlt (a := 6) (b := x) (by omega) (by omega)), fun _ => ?_⟩
    rw [e1, nI_clamp (show x - 1 < 2 ^ 31 by omega), g7 x h1 (by omega), m67, nI_clamp (show 101 * x + s < 2 ^ 31 by omega), t1, nI_clamp (show T s x < 2 ^ 31 by omega), nI_1]
    have skip : (0 < od x → xI h 80 (T s x) = -1) → Bst od T (xI h 80) s (x + 1) w := by
      intro hn
      rcases hB with ⟨e, h2⟩ | ⟨m, e, hm, ⟨f, f1, f2, f3, f4⟩, h2⟩
      · refine Or.inl ⟨e, fun g q1 q2 q3 => ?_⟩
        by_cases z : g = x
        · rw [z]; rw [z] at q3; exact hn q3
        · exact h2 g q1 (by omega) q3
      · refine Or.inr ⟨m, e, hm, ⟨f, f1, by omega, f3, f4⟩, fun g q1 q2 q3 m' q4 q5 => ?_⟩
        by_cases z : g = x
        · rw [z] at q3 q5
          rw [hn q3] at q5
          exact absurd q5.symm (nI_nm1 (by omega))
        · exact h2 g q1 (by omega) q3 m' q4 q5
    have nmx : ∀ {v : Int32}, ¬ v = -1 → xI h 80 (T s x) = v → ∃ m, m ≤ 100 ∧ v = nI m := by
      intro v hv e
      rcases hb _ t2 with ⟨m, a1, a2, -, -⟩ | ⟨a1, -⟩
      · exact ⟨m, by omega, by rw [← e]; exact a1⟩
      · exact absurd (by rw [← e]; exact a1) hv
    have hv12 : vp_in (nI (x - 1)) 12 := vp_in_nI (by omega) (by omega)
    refine ⟨hv12, fun c => ⟨vp_in_nI (by omega) (by omega), vp_in_nI (by omega) (by omega), fun c1 => ih (x + 1) w (by omega) (by omega) (skip (fun _ => c1)), fun c1 => ?_⟩, fun c => ih (x + 1) w (by omega) (by omega) (skip (fun z => ?_))⟩
    · have o : 0 < od x := Nat.pos_of_ne_zero (fun z => c (by rw [z]; rfl))
      obtain ⟨m, hm, em⟩ := nmx c1 rfl
      rw [em, nI_1]
      refine ⟨fun c2 => ih (x + 1) _ (by omega) (by omega) ?_, fun c2 => ⟨fun c3 => ih (x + 1) w (by omega) (by omega) ?_, fun c3 => ih (x + 1) _ (by omega) (by omega) ?_⟩⟩
      · rcases hB with ⟨e, h2⟩ | ⟨m1, e, hm1, -, -⟩
        · refine Or.inr ⟨m, rfl, hm, ⟨x, h1, by omega, o, em⟩, fun g q1 q2 q3 m' q4 q5 => ?_⟩
          by_cases z : g = x
          · rw [z, em] at q5
            rw [(nI_eq (by omega) (by omega)).1 q5]; exact Nat.le_refl _
          · rw [h2 g q1 (by omega) q3] at q5
            exact absurd q5.symm (nI_nm1 (by omega))
        · rw [e] at c2
          exact absurd c2 (nI_nm1 (by omega))
      · rcases hB with ⟨e, -⟩ | ⟨m1, e, hm1, ⟨f, f1, f2, f3, f4⟩, h2⟩
        · exact absurd e c2
        · rw [e] at c3
          have c3' := (nI_leI (by omega) (by omega)).1 c3
          refine Or.inr ⟨m1, e, hm1, ⟨f, f1, by omega, f3, f4⟩, fun g q1 q2 q3 m' q4 q5 => ?_⟩
          by_cases z : g = x
          · rw [z, em] at q5
            have := (nI_eq (by omega) (by omega)).1 q5
            omega
          · exact h2 g q1 (by omega) q3 m' q4 q5
      · rcases hB with ⟨e, -⟩ | ⟨m1, e, hm1, ⟨f, f1, f2, f3, f4⟩, h2⟩
        · exact absurd e c2
        · rw [e] at c3
          have c3' : ¬ m1 + 1 ≤ m + 1 := fun z => c3 (nI_le z (by omega))
          refine Or.inr ⟨m, rfl, hm, ⟨x, h1, by omega, o, em⟩, fun g q1 q2 q3 m' q4 q5 => ?_⟩
          by_cases z : g = x
          · rw [z, em] at q5
            have := (nI_eq (by omega) (by omega)).1 q5
            omega
          · have := h2 g q1 (by omega) q3 m' q4 q5
            omega
    · have := (nI_eq (a := od x) (b := 0) (by omega) (by omega)).1 c
      omega
