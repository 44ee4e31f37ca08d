/-! WAYS: what the two searches find is one thing -/
theorem Far.uniq {od : Nat → Nat} {T : Nat → Nat → Nat} {last goal : Nat} {A B : Nat → Int32} (ha : Far od T last goal A) (hb : Far od T last goal B) {s : Nat} (hs : s ≤ last) : A s = B s := by
  rcases ha s hs with ⟨m, a1, -, a3, a4⟩ | ⟨a1, a2⟩
  · rcases hb s hs with ⟨m', b1, -, b3, b4⟩ | ⟨-, b2⟩
    · have h1 := a4 m' b3
      have h2 := b4 m a3
      rw [a1, b1, show m = m' by omega]
    · exact absurd a3 (b2 m)
  · rcases hb s hs with ⟨m', -, -, b3, -⟩ | ⟨b1, -⟩
    · exact absurd b3 (a2 m')
    · rw [a1, b1]
theorem Far1.uniq {od : Nat → Nat} {T : Nat → Nat → Nat} {last fm : Nat} {A B : Nat → Int32} (ha : Far1 od T last fm A) (hb : Far1 od T last fm B) {s : Nat} (hs : s ≤ last) : A s = B s := by
  rcases ha s hs with ⟨m, a1, a2, -, a3, a4⟩ | ⟨a1, a2⟩
  · rcases hb s hs with ⟨m', b1, b2, -, b3, b4⟩ | ⟨-, b2⟩
    · have h1 := a4 m' b2 b3
      have h2 := b4 m a2 a3
      rw [a1, b1, show m = m' by omega]
    · exact absurd a3 (b2 m a2)
  · rcases hb s hs with ⟨m', -, b2, -, b3, -⟩ | ⟨b1, -⟩
    · exact absurd b3 (a2 m' b2)
    · rw [a1, b1]
/-- never: the class looks from the start, the reference to the square -/
theorem never_eq {od : Nat → Nat} {T : Nat → Nat → Nat} {last t : Nat} {A B : Nat → Int32} (ha : Far1 od T last 0 A) (hb : Far od T last t B) (ht : t ≤ last) (hl : last ≤ 100) : (B 0 = -1) ↔ (¬ t = 0 ∧ A t = -1) := by
  have hbn : ∀ m : Nat, m ≤ last → ¬ t = 0 → wlk od T t m 0 → 1 ≤ m := fun m _ h0 hw => by
    refine Nat.pos_of_ne_zero (fun z => ?_)
    subst z
    exact h0 hw.symm
  constructor
  · intro hB
    rcases hb 0 (Nat.zero_le _) with ⟨m, b1, b2, b3, -⟩ | ⟨-, b2⟩
    · rw [b1] at hB
      exact absurd hB (nI_nm1 (by omega))
    · refine ⟨fun z => b2 0 (by rw [z]; rfl), ?_⟩
      rcases ha t ht with ⟨m1, -, -, -, a4, -⟩ | ⟨a1, -⟩
      · exact absurd a4 (b2 m1)
      · exact a1
  · rintro ⟨h0, hA⟩
    rcases hb 0 (Nat.zero_le _) with ⟨m, -, b2, b3, -⟩ | ⟨b1, -⟩
    · rcases ha t ht with ⟨m1, a1, -, a3, -, -⟩ | ⟨-, a2⟩
      · rw [a1] at hA
        exact absurd hA (nI_nm1 (by omega))
      · exact absurd b3 (a2 m (hbn m b2 h0 b3))
    · exact b1
