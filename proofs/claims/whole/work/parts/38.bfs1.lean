/-! WAYS: the search onward from a square -/
theorem wlk_snoc {od : Nat → Nat} {T : Nat → Nat → Nat} {u t : Nat} (hu : stp od T u t) : ∀ m s, wlk od T u m s → wlk od T t (m + 1) s := by
  intro m
  induction m with
  | zero =>
    intro s hw
    have : s = u := hw
    subst this
    exact ⟨t, hu, rfl⟩
  | succ m ih =>
    rintro s ⟨s', h1, h2⟩
    exact ⟨s', h1, ih s' h2⟩
theorem wlk_last {od : Nat → Nat} {T : Nat → Nat → Nat} {last t : Nat} (hT : ∀ s, s ≤ last → ∀ f, f ≤ 6 → T s f ≤ last) : ∀ m s, s ≤ last → wlk od T t (m + 1) s → ∃ u, u ≤ last ∧ wlk od T u m s ∧ stp od T u t := by
  intro m
  induction m with
  | zero =>
    rintro s hs ⟨s', h1, h2⟩
    have : s' = t := h2
    subst this
    exact ⟨s, hs, rfl, h1⟩
  | succ m ih =>
    rintro s hs ⟨s', h1, h2⟩
    have hs' : s' ≤ last := by
      obtain ⟨f, f1, f2, f3, f4⟩ := h1
      rw [← f4]; exact hT s hs f f2
    obtain ⟨u, u1, u2, u3⟩ := ih s' hs' h2
    exact ⟨u, u1, ⟨s', h1, u2⟩, u3⟩
def Bf1 (od : Nat → Nat) (T : Nat → Nat → Nat) (last fm i x k : Nat) (q e d : Nat → Nat) (v : Nat → Bool) : Prop :=
  (sN (fun s => if v s = true then 1 else 0) 0 (last + 1) + 1 = k) ∧ (q 0 = fm ∧ e 0 = 0 ∧ fm ≤ last) ∧ (∀ j, j < k → q j ≤ last ∧ e j ≤ j ∧ (1 ≤ j → v (q j) = true ∧ d (q j) = e j ∧ 1 ≤ e j)) ∧ (∀ s, s ≤ last → v s = true → ∃ j, 1 ≤ j ∧ j < k ∧ q j = s) ∧ (∀ j, j < k → wlk od T (q j) (e j) fm) ∧ (∀ j1 j2, j1 ≤ j2 → j2 < k → e j1 ≤ e j2) ∧ (∀ j, j < k → i < k → e j ≤ e i + 1) ∧ (∀ j, j < i → ∀ t, stp od T (q j) t → v t = true ∧ d t ≤ e j + 1) ∧ (∀ f, 1 ≤ f → f < x → 0 < od f → v (T (q i) f) = true ∧ d (T (q i) f) ≤ e i + 1)
theorem Bf1.skip {od : Nat → Nat} {T : Nat → Nat → Nat} {last fm i x k : Nat} {q e d : Nat → Nat} {v : Nat → Bool} (b : Bf1 od T last fm i x k q e d v) (ho : ¬ 0 < od x) : Bf1 od T last fm i (x + 1) k q e d v := by
  obtain ⟨b1, b2, b3, b4, b5, b6, b7, b8, b9⟩ := b
  refine ⟨b1, b2, b3, b4, b5, b6, b7, b8, fun f f1 f2 f3 => ?_⟩
  by_cases c : f = x
  · subst c; exact absurd f3 ho
  · exact b9 f f1 (by omega) f3
theorem Bf1.old {od : Nat → Nat} {T : Nat → Nat → Nat} {last fm i x k : Nat} {q e d : Nat → Nat} {v : Nat → Bool} (b : Bf1 od T last fm i x k q e d v) (hi : i < k) (ht : T (q i) x ≤ last) (hv : v (T (q i) x) = true) : Bf1 od T last fm i (x + 1) k q e d v := by
  obtain ⟨b1, b2, b3, b4, b5, b6, b7, b8, b9⟩ := b
  refine ⟨b1, b2, b3, b4, b5, b6, b7, b8, fun f f1 f2 f3 => ?_⟩
  by_cases c : f = x
  · subst c
    obtain ⟨j, j0, j1, j2⟩ := b4 _ ht hv
    have h1 := b7 j j1 hi
    have h2 := ((b3 j j1).2.2 j0).2.1
    rw [j2] at h2
    exact ⟨hv, by omega⟩
  · exact b9 f f1 (by omega) f3
theorem Bf1.new {od : Nat → Nat} {T : Nat → Nat → Nat} {last fm i x k t : Nat} {q e d : Nat → Nat} {v : Nat → Bool} (b : Bf1 od T last fm i x k q e d v) (hi : i < k) (hx1 : 1 ≤ x) (hx6 : x ≤ 6) (ho : 0 < od x) (et : T (q i) x = t) (ht : t ≤ last) (hv : v t = false) : Bf1 od T last fm i (x + 1) (k + 1) (va_up q k t) (va_up e k (e i + 1)) (va_up d t (e i + 1)) (va_up v t true) := by
  obtain ⟨b1, b2, b3, b4, b5, b6, b7, b8, b9⟩ := b
  have ne : ∀ s, v s = true → s ≠ t := fun s h1 h2 => by rw [h2, hv] at h1; cases h1
  have qj : ∀ j, j < k → va_up q k t j = q j := fun j hj => va_up_of _ _ (by omega)
  have ej : ∀ j, j < k → va_up e k (e i + 1) j = e j := fun j hj => va_up_of _ _ (by omega)
  have vj : ∀ s, v s = true → va_up v t true s = true := fun s h1 => by rw [va_up_of _ _ (ne s h1)]; exact h1
  have dj : ∀ s, v s = true → va_up d t (e i + 1) s = d s := fun s h1 => va_up_of _ _ (ne s h1)
  refine ⟨?_, ?_, ?_, ?_, ?_, ?_, ?_, ?_, ?_⟩
  · rw [sN_upd hv (last + 1) 0 (Nat.zero_le _) (by omega), b1]
  · rw [qj 0 (by omega), ej 0 (by omega)]; exact b2
  · intro j hj
    by_cases c : j = k
    · subst c
      rw [va_up_eq, va_up_eq, va_up_eq, va_up_eq]
      have := (b3 i hi).2.1
      exact ⟨ht, by omega, fun _ => ⟨rfl, rfl, by omega⟩⟩
    · rw [qj j (by omega), ej j (by omega)]
      obtain ⟨g1, g2, g3⟩ := b3 j (by omega)
      refine ⟨g1, g2, fun h => ?_⟩
      obtain ⟨k1, k2, k3⟩ := g3 h
      exact ⟨vj _ k1, by rw [dj _ k1]; exact k2, k3⟩
  · intro s hs hvs
    by_cases c : s = t
    · exact ⟨k, by omega, by omega, by rw [va_up_eq, c]⟩
    · rw [va_up_of _ _ c] at hvs
      obtain ⟨j, j0, j1, j2⟩ := b4 s hs hvs
      exact ⟨j, j0, by omega, by rw [qj j j1, j2]⟩
  · intro j hj
    by_cases c : j = k
    · subst c
      rw [va_up_eq, va_up_eq]
      exact wlk_snoc ⟨x, hx1, hx6, ho, et⟩ _ _ (b5 i hi)
    · rw [qj j (by omega), ej j (by omega)]
      exact b5 j (by omega)
  · intro j1 j2 h1 h2
    by_cases c : j2 = k
    · by_cases c1 : j1 = k
      · rw [c, c1]; exact Nat.le_refl _
      · rw [c, va_up_eq, ej j1 (by omega)]
        exact b7 j1 (by omega) hi
    · rw [ej j1 (by omega), ej j2 (by omega)]
      exact b6 j1 j2 h1 (by omega)
  · intro j hj _
    rw [ej i hi]
    by_cases c : j = k
    · rw [c, va_up_eq]; exact Nat.le_refl _
    · rw [ej j (by omega)]; exact b7 j (by omega) hi
  · intro j hj u hu
    rw [qj j (by omega)] at hu
    rw [ej j (by omega)]
    obtain ⟨g1, g2⟩ := b8 j hj u hu
    exact ⟨vj u g1, by rw [dj u g1]; exact g2⟩
  · intro f f1 f2 f3
    rw [qj i hi, ej i hi]
    by_cases c : f = x
    · subst c
      rw [et, va_up_eq, va_up_eq]
      exact ⟨rfl, Nat.le_refl _⟩
    · obtain ⟨g1, g2⟩ := b9 f f1 (by omega) f3
      exact ⟨vj _ g1, by rw [dj _ g1]; exact g2⟩
theorem Bf1.next {od : Nat → Nat} {T : Nat → Nat → Nat} {last fm i k : Nat} {q e d : Nat → Nat} {v : Nat → Bool} (b : Bf1 od T last fm i 7 k q e d v) (hi : i < k) : Bf1 od T last fm (i + 1) 1 k q e d v := by
  obtain ⟨b1, b2, b3, b4, b5, b6, b7, b8, b9⟩ := b
  refine ⟨b1, b2, b3, b4, b5, b6, fun j hj hk => ?_, fun j hj t ht => ?_, fun f f1 f2 => by omega⟩
  · have h1 := b7 j hj hi
    have h2 := b6 i (i + 1) (by omega) hk
    omega
  · by_cases c : j = i
    · subst c
      obtain ⟨f, f1, f2, f3, f4⟩ := ht
      rw [← f4]
      exact b9 f f1 (by omega) f3
    · exact b8 j (by omega) t ht
/-- the fewest throws, one at least, to be on each square -/
def Far1 (od : Nat → Nat) (T : Nat → Nat → Nat) (last fm : Nat) (A : Nat → Int32) : Prop := ∀ t, t ≤ last → (∃ m, A t = nI m ∧ 1 ≤ m ∧ m ≤ last + 1 ∧ wlk od T t m fm ∧ ∀ m', 1 ≤ m' → wlk od T t m' fm → m ≤ m') ∨ (A t = -1 ∧ ∀ m', 1 ≤ m' → ¬ wlk od T t m' fm)
theorem Bf1.all {od : Nat → Nat} {T : Nat → Nat → Nat} {last fm x k : Nat} {q e d : Nat → Nat} {v : Nat → Bool} (b : Bf1 od T last fm k x k q e d v) (hT : ∀ s, s ≤ last → ∀ f, f ≤ 6 → T s f ≤ last) : ∀ m t, wlk od T t (m + 1) fm → v t = true ∧ d t ≤ m + 1 := by
  obtain ⟨b1, b2, b3, b4, b5, b6, b7, b8, b9⟩ := b
  intro m
  induction m with
  | zero =>
    rintro t ⟨s', h1, h2⟩
    have : s' = t := h2
    subst this
    have := b8 0 (by omega) s' (by rw [b2.1]; exact h1)
    rw [b2.2.1] at this
    exact this
  | succ m ih =>
    intro t hw
    obtain ⟨u, u1, u2, u3⟩ := wlk_last hT (m + 1) fm b2.2.2 hw
    obtain ⟨g1, g2⟩ := ih u u2
    obtain ⟨j, j0, j1, j2⟩ := b4 u u1 g1
    obtain ⟨k1, k2⟩ := b8 j j1 t (by rw [j2]; exact u3)
    have h3 := ((b3 j j1).2.2 j0).2.1
    rw [j2] at h3
    exact ⟨k1, by omega⟩
theorem Bf1.far {od : Nat → Nat} {T : Nat → Nat → Nat} {last fm x k : Nat} {q e d : Nat → Nat} {v : Nat → Bool} (b : Bf1 od T last fm k x k q e d v) (hT : ∀ s, s ≤ last → ∀ f, f ≤ 6 → T s f ≤ last) {A : Nat → Int32} (hA : ∀ s, s ≤ last → A s = if v s = true then nI (d s) else -1) : Far1 od T last fm A := by
  have all := b.all hT
  obtain ⟨b1, b2, b3, b4, b5, b6, b7, b8, b9⟩ := b
  have hk := sN_full v (last + 1) 0
  intro t ht
  by_cases c : v t = true
  · obtain ⟨j, j0, j1, j2⟩ := b4 t ht c
    obtain ⟨-, g2, g3⟩ := b3 j j1
    obtain ⟨-, g5, g6⟩ := g3 j0
    have hw := b5 j j1
    rw [← g5, j2] at hw
    rw [j2] at g5
    refine Or.inl ⟨d t, by rw [hA t ht, if_pos c], by omega, by omega, hw, fun m' h1 h2 => ?_⟩
    have := (all (m' - 1) t (by rw [Nat.sub_add_cancel h1]; exact h2)).2
    omega
  · exact Or.inr ⟨by rw [hA t ht, if_neg c], fun m' h1 h2 => c (all (m' - 1) t (by rw [Nat.sub_add_cancel h1]; exact h2)).1⟩
