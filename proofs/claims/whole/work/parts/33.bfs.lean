/-! WAYS: the search from the goal, square by square -/
def Bfs (od : Nat → Nat) (T : Nat → Nat → Nat) (last i x k : Nat) (q d : Nat → Nat) (v : Nat → Bool) : Prop :=
  (sN (fun s => if v s = true then 1 else 0) 0 (last + 1) = k) ∧ (∀ j, j < k → q j ≤ last ∧ v (q j) = true ∧ d (q j) ≤ j) ∧ (∀ s, s ≤ last → v s = true → ∃ j, j < k ∧ q j = s) ∧ (∀ s, s ≤ last → v s = true → wlk od T last (d s) s) ∧ (∀ j1 j2, j1 ≤ j2 → j2 < k → d (q j1) ≤ d (q j2)) ∧ (∀ j, j < k → i < k → d (q j) ≤ d (q i) + 1) ∧ (∀ j, j < i → ∀ s, s ≤ last → stp od T s (q j) → v s = true ∧ d s ≤ d (q j) + 1) ∧ (∀ s, s < x → stp od T s (q i) → v s = true ∧ d s ≤ d (q i) + 1) ∧ (v last = true ∧ d last = 0)
theorem Bfs.cnt {od : Nat → Nat} {T : Nat → Nat → Nat} {last i x k : Nat} {q d : Nat → Nat} {v : Nat → Bool} (b : Bfs od T last i x k q d v) : sN (fun s => if v s = true then 1 else 0) 0 (last + 1) = k := b.1
theorem Bfs.q1 {od : Nat → Nat} {T : Nat → Nat → Nat} {last i x k : Nat} {q d : Nat → Nat} {v : Nat → Bool} (b : Bfs od T last i x k q d v) : ∀ j, j < k → q j ≤ last ∧ v (q j) = true ∧ d (q j) ≤ j := b.2.1
theorem Bfs.q2 {od : Nat → Nat} {T : Nat → Nat → Nat} {last i x k : Nat} {q d : Nat → Nat} {v : Nat → Bool} (b : Bfs od T last i x k q d v) : ∀ s, s ≤ last → v s = true → ∃ j, j < k ∧ q j = s := b.2.2.1
theorem Bfs.wk {od : Nat → Nat} {T : Nat → Nat → Nat} {last i x k : Nat} {q d : Nat → Nat} {v : Nat → Bool} (b : Bfs od T last i x k q d v) : ∀ s, s ≤ last → v s = true → wlk od T last (d s) s := b.2.2.2.1
theorem Bfs.mono {od : Nat → Nat} {T : Nat → Nat → Nat} {last i x k : Nat} {q d : Nat → Nat} {v : Nat → Bool} (b : Bfs od T last i x k q d v) : ∀ j1 j2, j1 ≤ j2 → j2 < k → d (q j1) ≤ d (q j2) := b.2.2.2.2.1
theorem Bfs.near {od : Nat → Nat} {T : Nat → Nat → Nat} {last i x k : Nat} {q d : Nat → Nat} {v : Nat → Bool} (b : Bfs od T last i x k q d v) : ∀ j, j < k → i < k → d (q j) ≤ d (q i) + 1 := b.2.2.2.2.2.1
theorem Bfs.done {od : Nat → Nat} {T : Nat → Nat → Nat} {last i x k : Nat} {q d : Nat → Nat} {v : Nat → Bool} (b : Bfs od T last i x k q d v) : ∀ j, j < i → ∀ s, s ≤ last → stp od T s (q j) → v s = true ∧ d s ≤ d (q j) + 1 := b.2.2.2.2.2.2.1
theorem Bfs.part {od : Nat → Nat} {T : Nat → Nat → Nat} {last i x k : Nat} {q d : Nat → Nat} {v : Nat → Bool} (b : Bfs od T last i x k q d v) : ∀ s, s < x → stp od T s (q i) → v s = true ∧ d s ≤ d (q i) + 1 := b.2.2.2.2.2.2.2.1
theorem Bfs.top {od : Nat → Nat} {T : Nat → Nat → Nat} {last i x k : Nat} {q d : Nat → Nat} {v : Nat → Bool} (b : Bfs od T last i x k q d v) : v last = true ∧ d last = 0 := b.2.2.2.2.2.2.2.2
theorem sN_upd {v : Nat → Bool} {x : Nat} (hv : v x = false) (k : Nat) : ∀ y, y ≤ x → x < y + k → sN (fun s => if va_up v x true s = true then 1 else 0) y k = sN (fun s => if v s = true then 1 else 0) y k + 1 := by
  induction k with
  | zero => intro y h1 h2; omega
  | succ k ih =>
    intro y h1 h2
    rw [sN, sN]
    by_cases c : y = x
    · subst c
      rw [va_up_eq, hv, if_pos rfl, if_neg (by decide), sN_congr (f' := fun s => if v s = true then 1 else 0) k (y + 1) (fun g g1 g2 => by rw [va_up_of _ _ (show g ≠ y by omega)])]
      omega
    · rw [ih (y + 1) (by omega) (by omega), va_up_of _ _ c]
      omega
theorem sN_lt {v : Nat → Bool} {x : Nat} (hv : v x = false) {last : Nat} (hx : x ≤ last) : sN (fun s => if v s = true then 1 else 0) 0 (last + 1) ≤ last := by
  have h1 := sN_upd hv (last + 1) 0 (Nat.zero_le _) (by omega)
  have h2 := sN_le (f := fun s => if va_up v x true s = true then 1 else 0) (f' := fun _ => 1) (last + 1) 0 (fun g _ _ => by split <;> omega)
  have e : ∀ k x, sN (fun _ => 1) x k = k := by
    intro k
    induction k with
    | zero => intro x; rfl
    | succ k ih => intro x; rw [sN, ih]; omega
  rw [e] at h2
  omega
theorem Bfs.old {od : Nat → Nat} {T : Nat → Nat → Nat} {last i x k : Nat} {q d : Nat → Nat} {v : Nat → Bool} (b : Bfs od T last i x k q d v) (hi : i < k) (hx : x ≤ last) (hv : v x = true) : Bfs od T last i (x + 1) k q d v :=
  ⟨b.cnt, b.q1, b.q2, b.wk, b.mono, b.near, b.done, fun s hs hst => by
      by_cases c : s = x
      · subst c
        obtain ⟨j, j1, j2⟩ := b.q2 s hx hv
        have := b.near j j1 hi
        rw [j2] at this
        exact ⟨hv, this⟩
      · exact b.part s (by omega) hst, b.top⟩
theorem Bfs.no {od : Nat → Nat} {T : Nat → Nat → Nat} {last i x k : Nat} {q d : Nat → Nat} {v : Nat → Bool} (b : Bfs od T last i x k q d v) (hn : ¬ stp od T x (q i)) : Bfs od T last i (x + 1) k q d v :=
  ⟨b.cnt, b.q1, b.q2, b.wk, b.mono, b.near, b.done, fun s hs hst => by
      by_cases c : s = x
      · subst c; exact absurd hst hn
      · exact b.part s (by omega) hst, b.top⟩
theorem Bfs.new {od : Nat → Nat} {T : Nat → Nat → Nat} {last i x k : Nat} {q d : Nat → Nat} {v : Nat → Bool} (b : Bfs od T last i x k q d v) (hi : i < k) (hx : x ≤ last) (hv : v x = false) (hst : stp od T x (q i)) : Bfs od T last i (x + 1) (k + 1) (va_up q k x) (va_up d x (d (q i) + 1)) (va_up v x true) := by
  have ne : ∀ s, v s = true → s ≠ x := fun s h1 h2 => by rw [h2, hv] at h1; cases h1
  have dq : ∀ j, j < k → va_up d x (d (q i) + 1) (q j) = d (q j) := fun j hj => va_up_of _ _ (ne _ (b.q1 j hj).2.1)
  have qj : ∀ j, j < k → va_up q k x j = q j := fun j hj => va_up_of _ _ (by omega)
  have vj : ∀ s, v s = true → va_up v x true s = true := fun s h1 => by rw [va_up_of _ _ (ne s h1)]; exact h1
  refine ⟨?_, ?_, ?_, ?_, ?_, ?_, ?_, ?_, ?_⟩
  · rw [sN_upd hv (last + 1) 0 (Nat.zero_le _) (by omega), b.cnt]
  · intro j hj
    by_cases c : j = k
    · subst c
      rw [va_up_eq, va_up_eq, va_up_eq]
      have := (b.q1 i hi).2.2
      exact ⟨hx, rfl, by omega⟩
    · rw [qj j (by omega), dq j (by omega)]
      obtain ⟨g1, g2, g3⟩ := b.q1 j (by omega)
      exact ⟨g1, vj _ g2, g3⟩
  · intro s hs hvs
    by_cases c : s = x
    · exact ⟨k, by omega, by rw [va_up_eq, c]⟩
    · rw [va_up_of _ _ c] at hvs
      obtain ⟨j, j1, j2⟩ := b.q2 s hs hvs
      exact ⟨j, by omega, by rw [qj j j1, j2]⟩
  · intro s hs hvs
    by_cases c : s = x
    · subst c
      rw [va_up_eq]
      exact ⟨q i, hst, b.wk (q i) (b.q1 i hi).1 (b.q1 i hi).2.1⟩
    · rw [va_up_of _ _ c] at hvs
      rw [va_up_of _ _ c]
      exact b.wk s hs hvs
  · intro j1 j2 h1 h2
    by_cases c : j2 = k
    · by_cases c1 : j1 = k
      · rw [c, c1]; exact Nat.le_refl _
      · rw [c, va_up_eq, va_up_eq, qj j1 (by omega), dq j1 (by omega)]
        exact b.near j1 (by omega) hi
    · rw [qj j1 (by omega), qj j2 (by omega), dq j1 (by omega), dq j2 (by omega)]
      exact b.mono j1 j2 h1 (by omega)
  · intro j hj _
    rw [qj i hi, dq i hi]
    by_cases c : j = k
    · rw [c, va_up_eq, va_up_eq]; exact Nat.le_refl _
    · rw [qj j (by omega), dq j (by omega)]
      exact b.near j (by omega) hi
  · intro j hj s hs h1
    rw [qj j (by omega)] at h1
    rw [qj j (by omega), dq j (by omega)]
    obtain ⟨g1, g2⟩ := b.done j hj s hs h1
    exact ⟨vj s g1, by rw [va_up_of _ _ (ne s g1)]; exact g2⟩
  · intro s hs h1
    rw [qj i hi] at h1
    rw [qj i hi, dq i hi]
    by_cases c : s = x
    · subst c
      rw [va_up_eq, va_up_eq]
      exact ⟨rfl, Nat.le_refl _⟩
    · obtain ⟨g1, g2⟩ := b.part s (by omega) h1
      exact ⟨vj s g1, by rw [va_up_of _ _ c]; exact g2⟩
  · exact ⟨vj _ b.top.1, by rw [va_up_of _ _ (ne _ b.top.1)]; exact b.top.2⟩
theorem Bfs.next {od : Nat → Nat} {T : Nat → Nat → Nat} {last i k : Nat} {q d : Nat → Nat} {v : Nat → Bool} (b : Bfs od T last i last k q d v) (hi : i < k) : Bfs od T last (i + 1) 0 k q d v :=
  ⟨b.cnt, b.q1, b.q2, b.wk, b.mono, fun j hj hk => by
      have h1 := b.near j hj hi
      have h2 := b.mono i (i + 1) (by omega) hk
      omega, fun j hj s hs hst => by
      by_cases c : j = i
      · subst c
        by_cases c2 : s = last
        · rw [c2, b.top.2]; exact ⟨b.top.1, Nat.zero_le _⟩
        · exact b.part s (by omega) hst
      · exact b.done j (by omega) s hs hst, fun s hs _ => absurd hs (Nat.not_lt_zero _), b.top⟩
/-- the fewest throws to the goal, or none -/
def Far (od : Nat → Nat) (T : Nat → Nat → Nat) (last goal : Nat) (A : Nat → Int32) : Prop := ∀ s, s ≤ last → (∃ m, A s = nI m ∧ m ≤ last ∧ wlk od T goal m s ∧ ∀ m', wlk od T goal m' s → m ≤ m') ∨ (A s = -1 ∧ ∀ m', ¬ wlk od T goal m' s)
theorem Bfs.all {od : Nat → Nat} {T : Nat → Nat → Nat} {last x k : Nat} {q d : Nat → Nat} {v : Nat → Bool} (b : Bfs od T last k x k q d v) (hT : ∀ s, s ≤ last → ∀ f, f ≤ 6 → T s f ≤ last) : ∀ m s, s ≤ last → wlk od T last m s → v s = true ∧ d s ≤ m := by
  intro m
  induction m with
  | zero =>
    intro s hs hw
    have : s = last := hw
    rw [this, b.top.2]; exact ⟨b.top.1, Nat.le_refl _⟩
  | succ m ih =>
    rintro s hs ⟨s', hst, hw⟩
    obtain ⟨f, f1, f2, f3, f4⟩ := hst
    have hs' : s' ≤ last := by rw [← f4]; exact hT s hs f f2
    obtain ⟨g1, g2⟩ := ih s' hs' hw
    obtain ⟨j, j1, j2⟩ := b.q2 s' hs' g1
    obtain ⟨k1, k2⟩ := b.done j j1 s hs (by rw [j2]; exact ⟨f, f1, f2, f3, f4⟩)
    rw [j2] at k2
    exact ⟨k1, by omega⟩
theorem Bfs.far {od : Nat → Nat} {T : Nat → Nat → Nat} {last x k : Nat} {q d : Nat → Nat} {v : Nat → Bool} (b : Bfs od T last k x k q d v) (hT : ∀ s, s ≤ last → ∀ f, f ≤ 6 → T s f ≤ last) (hk : k ≤ last + 1) {A : Nat → Int32} (hA : ∀ s, s ≤ last → A s = if v s = true then nI (d s) else -1) : Far od T last last A := by
  intro s hs
  by_cases c : v s = true
  · refine Or.inl ⟨d s, by rw [hA s hs, if_pos c], ?_, b.wk s hs c, fun m' h => (b.all hT m' s hs h).2⟩
    obtain ⟨j, j1, j2⟩ := b.q2 s hs c
    have := (b.q1 j j1).2.2
    rw [j2] at this
    omega
  · exact Or.inr ⟨by rw [hA s hs, if_neg c], fun m' h => c (b.all hT m' s hs h).1⟩
