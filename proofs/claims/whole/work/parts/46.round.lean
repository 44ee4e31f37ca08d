/-! WAYS: a round, as the reference asks -/
/-- the least of the faces below x, of what is to go behind them and one more -/
def Bst (od : Nat → Nat) (T : Nat → Nat → Nat) (B : Nat → Int32) (s x : Nat) (w : Int32) : Prop := (w = -1 ∧ ∀ g, 1 ≤ g → g < x → 0 < od g → B (T s g) = -1) ∨ (∃ m, w = nI (m + 1) ∧ m ≤ 100 ∧ (∃ f, 1 ≤ f ∧ f < x ∧ 0 < od f ∧ B (T s f) = nI m) ∧ ∀ g, 1 ≤ g → g < x → 0 < od g → ∀ m', m' ≤ 100 → B (T s g) = nI m' → m ≤ m')
theorem round_eq {od : Nat → Nat} {T : Nat → Nat → Nat} {last s : Nat} {A B : Nat → Int32} {w : Int32} (ha : Far1 od T last s A) (hb : Far od T last s B) (hl : last ≤ 100) (hs : s ≤ last) (hT : ∀ s, s ≤ last → ∀ f, f ≤ 6 → T s f ≤ last) (hw : Bst od T B s 7 w) : A s = w := by
  have far : ∀ t, t ≤ last → ∀ m, B t = nI m → m ≤ 100 → wlk od T s m t := by
    intro t ht m hm hmb
    rcases hb t ht with ⟨m', b1, b2, b3, -⟩ | ⟨b1, -⟩
    · rw [hm] at b1
      rw [(nI_eq (by omega) (by omega)).1 b1]; exact b3
    · rw [hm] at b1; exact absurd b1 (nI_nm1 (by omega))
  rcases hw with ⟨rfl, h1⟩ | ⟨m, rfl, hm, ⟨f, f1, f2, f3, f4⟩, h2⟩
  · rcases ha s hs with ⟨m, a1, a2, a3, a4, a5⟩ | ⟨a1, -⟩
    · have : m = (m - 1) + 1 := by omega
      rw [this] at a4
      obtain ⟨s', ⟨f, f1, f2, f3, f4⟩, hw⟩ := a4
      have e := h1 f f1 (by omega) f3
      rw [f4] at e
      rcases hb s' (by rw [← f4]; exact hT s hs f f2) with ⟨m', b1, b2, b3, -⟩ | ⟨-, b2⟩
      · rw [e] at b1; exact absurd b1.symm (nI_nm1 (by omega))
      · exact absurd hw (b2 _)
    · exact a1
  · have hwm : wlk od T s (m + 1) s := ⟨T s f, ⟨f, f1, by omega, f3, rfl⟩, far _ (hT s hs f (by omega)) m f4 hm⟩
    rcases ha s hs with ⟨k, a1, a2, a3, a4, a5⟩ | ⟨-, a2⟩
    · have h3 := a5 (m + 1) (by omega) hwm
      have : k = (k - 1) + 1 := by omega
      rw [this] at a4
      obtain ⟨s', ⟨g, g1, g2, g3, g4⟩, hw⟩ := a4
      rcases hb s' (by rw [← g4]; exact hT s hs g g2) with ⟨m', b1, b2, b3, b4⟩ | ⟨-, b2⟩
      · have h4 := b4 _ hw
        have h5 := h2 g g1 (by omega) g3 m' (by omega) (by rw [g4]; exact b1)
        rw [a1, show k = m + 1 by omega]
      · exact absurd hw (b2 _)
    · exact absurd hwm (a2 (m + 1) (by omega))
