/-! THE REFERENCE: how far away, told -/
theorem l_comes (last lst : Nat) (od : Nat → Nat) (T : Nat → Nat → Nat) (h : XH) (hg : GeoM h last lst od T) (s : Nat) (hs : s ≤ last) (fr : Int32) {X : String → XH → Prop} : ∀ (k x : Nat), x + k = 7 → 1 ≤ x → (∀ f, 1 ≤ f → f < x → ¬ (0 < od f ∧ xI h 80 (T s f) = fr)) →
    XW (xrm 1 0 0) mX11_comes (xE 100 (fun v h' => h' = h ∧ ∃ w : Int32, v = some (.int w) ∧ (w = 0 ↔ ¬ ∃ f, 1 ≤ f ∧ f ≤ 6 ∧ 0 < od f ∧ xI h 80 (T s f) = fr)) X 0 0) 100 0 0 h 2 [some (.ref 56), some (.int (nI s)), some (.int fr), some (.int (nI x))] [] := by
  obtain ⟨hM, g1, g4, g5, g6, g7, g8⟩ := hg
  intro k
  induction k with
  | zero =>
    intro x hx h1 hno
    have : x = 7 := by omega
    subst this
    refine v_X11_comes_2 hM _ _ (nI 7) ⟨fun _ => ⟨rfl, _, rfl, ?_⟩, fun c => absurd (by decide) c⟩
    refine ⟨fun _ => ?_, fun _ => rfl⟩
    rintro ⟨f, f1, f2, f3, f4⟩
    exact hno f f1 (by omega) ⟨f3, f4⟩
  | succ k ih =>
    intro x hx h1 hno
    have e1 : nI x - 1 = nI (x - 1) := by
      have : nI x - 1 = nI x - nI 1 := rfl
      rw [this, pk_sub (by omega)]
    have b1 := g6.1 x h1 (by omega)
    obtain ⟨t1, t2⟩ := g8 s hs x (by omega)
    refine v_X11_comes_2 hM _ _ (nI x) ⟨fun c => absurd c (nI_nlt (a := 6) (b := x) (by omega) (by omega)), fun _ => ?_⟩
    rw [e1, nI_clamp (by omega), g7 x h1 (by omega), m67, nI_clamp (show 101 * x + s < 2 ^ 31 by omega), t1, nI_clamp (by omega), nI_1]
    have step : ¬ (0 < od x ∧ xI h 80 (T s x) = fr) → XW (xrm 1 0 0) mX11_comes (xE 100 (fun v h' => h' = h ∧ ∃ w : Int32, v = some (.int w) ∧ (w = 0 ↔ ¬ ∃ f, 1 ≤ f ∧ f ≤ 6 ∧ 0 < od f ∧ xI h 80 (T s f) = fr)) X 0 0) 100 0 0 h 2 [some (.ref 56), some (.int (nI s)), some (.int fr), some (.int (nI (x + 1)))] [] := fun hn => ih (x + 1) (by omega) (by omega) (fun f f1 f2 => by
      by_cases z : f = x
      · rw [z]; exact hn
      · exact hno f f1 (by omega))
    refine ⟨vp_in_nI (by omega) (by omega), fun c => step (fun z => ?_), fun c => ⟨vp_in_nI (by omega) (by omega), vp_in_nI (by omega) (by omega), fun c2 => step (fun z => c2 z.2), fun c2 => ⟨rfl, _, rfl, ?_⟩⟩⟩
    · have := (nI_leI (a := od x) (b := 0) (by omega) (by omega)).1 c
      omega
    · have o : 0 < od x := Nat.pos_of_ne_zero (fun z => c (by rw [z]; decide))
      exact ⟨fun z => absurd z (by decide), fun z => absurd ⟨x, h1, by omega, o, c2⟩ z⟩
theorem s_X11_comes (last lst : Nat) (od : Nat → Nat) (T : Nat → Nat → Nat) (h : XH) (hg : GeoM h last lst od T) (s : Nat) (hs : s ≤ last) (fr : Int32) : XSpec mX11_comes 1 0 0 100 100 [.ref 56, .int (nI s), .int fr] h (fun v h' => h' = h ∧ ∃ w : Int32, v = some (.int w) ∧ (w = 0 ↔ ¬ ∃ f, 1 ≤ f ∧ f ≤ 6 ∧ 0 < od f ∧ xI h 80 (T s f) = fr)) xno :=
  XSpec.of rfl (by decide) (Nat.le_of_ble_eq_true rfl) rfl (v_X11_comes_0 hg.1 (nI s) fr (l_comes last lst od T h hg s hs fr 6 1 rfl (Nat.le_refl _) (fun f f1 f2 => by omega)))
/-- a pass for n throws, at square x; w: whether it has found one -/
def Lv (od : Nat → Nat) (T : Nat → Nat → Nat) (last goal n x : Nat) (w : Int32) (A : Nat → Int32) : Prop := ∀ s, s ≤ last → (∃ m, m < (if s < x then n + 1 else n) ∧ (w = 0 → m < n) ∧ A s = nI m ∧ wlk od T goal m s ∧ ∀ m', wlk od T goal m' s → m ≤ m') ∨ (A s = -1 ∧ ∀ m', m' < (if s < x then n + 1 else n) → ¬ wlk od T goal m' s)
def seen (A : Nat → Int32) (last : Nat) : Nat := sN (fun s => if (decide (A s ≠ -1)) = true then 1 else 0) 0 (last + 1)
theorem seen_up {A : Nat → Int32} {last x : Nat} {y : Int32} (hx : x ≤ last) (hA : A x = -1) (hy : y ≠ -1) : seen (va_up A x y) last = seen A last + 1 := by
  unfold seen
  rw [← sN_upd (v := fun s => decide (A s ≠ -1)) (x := x) (by rw [hA]; rfl) (last + 1) 0 (Nat.zero_le _) (by omega)]
  refine sN_congr _ _ (fun g _ _ => ?_)
  unfold va_up
  by_cases c : g = x
  · rw [if_pos c, if_pos c, if_pos (decide_eq_true hy), if_pos rfl]
  · rw [if_neg c, if_neg c]
theorem seen_le (A : Nat → Int32) (last : Nat) : seen A last ≤ last + 1 := sN_full _ _ _
theorem Lv.start {od : Nat → Nat} {T : Nat → Nat → Nat} {last goal n : Nat} {w : Int32} {A : Nat → Int32} (hv : Lv od T last goal n (last + 1) w A) : Lv od T last goal (n + 1) 0 0 A := fun s hs => by
  have := hv s hs
  rw [if_pos (by omega)] at this
  rw [if_neg (by omega)]
  rcases this with ⟨m, h1, -, h3, h4, h5⟩ | h
  · exact Or.inl ⟨m, h1, fun _ => h1, h3, h4, h5⟩
  · exact Or.inr h
theorem Lv.far {od : Nat → Nat} {T : Nat → Nat → Nat} {last goal n : Nat} {A : Nat → Int32} (hT : ∀ s, s ≤ last → ∀ f, f ≤ 6 → T s f ≤ last) (hn : n ≤ last + 1) (hl : last ≤ 100) (hv : Lv od T last goal n (last + 1) 0 A) : Far od T last goal A := by
  have key : ∀ m s, s ≤ last → wlk od T goal m s → ¬ A s = -1 := by
    intro m
    induction m with
    | zero =>
      intro s hs hw z
      have := hv s hs
      rw [if_pos (by omega)] at this
      rcases this with ⟨m, h1, h2, h3, -, -⟩ | ⟨-, h⟩
      · rw [h3] at z; exact nI_nm1 (by have := h2 rfl; omega) z
      · exact h 0 (by omega) hw
    | succ m ih =>
      rintro s hs ⟨s', hst, hw⟩ z
      have hs' : s' ≤ last := by
        obtain ⟨f, f1, f2, f3, f4⟩ := hst
        rw [← f4]; exact hT s hs f f2
      have h1 := hv s hs
      rw [if_pos (by omega)] at h1
      rcases h1 with ⟨m1, h1, h2, h3, -, -⟩ | ⟨-, h⟩
      · rw [h3] at z; exact nI_nm1 (by have := h2 rfl; omega) z
      · rcases hv s' hs' with ⟨m1, -, h2, h3, h4, -⟩ | ⟨h3, -⟩
        · exact h (m1 + 1) (by have := h2 rfl; omega) ⟨s', hst, h4⟩
        · exact ih s' hs' hw h3
  intro s hs
  rcases hv s hs with ⟨m, -, h2, h3, h4, h5⟩ | ⟨h3, -⟩
  · exact Or.inl ⟨m, h3, by have := h2 rfl; omega, h4, h5⟩
  · exact Or.inr ⟨h3, fun m' h => key m' s hs h h3⟩
theorem Lv.skip {od : Nat → Nat} {T : Nat → Nat → Nat} {last goal n x : Nat} {w : Int32} {A : Nat → Int32} (hv : Lv od T last goal n x w A) (c : ¬ A x = -1) : Lv od T last goal n (x + 1) w A := fun s hs => by
  by_cases e : s = x
  · subst e
    rcases hv s hs with ⟨m, h1, h2, h3, h4, h5⟩ | ⟨h3, -⟩
    · rw [if_neg (by omega)] at h1
      exact Or.inl ⟨m, by rw [if_pos (by omega)]; omega, h2, h3, h4, h5⟩
    · exact absurd h3 c
  · have e2 : (s < x + 1) = (s < x) := propext (by omega)
    simp only [e2]
    exact hv s hs
theorem Lv.found {od : Nat → Nat} {T : Nat → Nat → Nat} {last goal n x : Nat} {w : Int32} {A : Nat → Int32} (hT : ∀ s, s ≤ last → ∀ f, f ≤ 6 → T s f ≤ last) (hn : 1 ≤ n) (hnb : n ≤ 102) (hx : x ≤ last) (hv : Lv od T last goal n x w A) (c : A x = -1) (hc : ∃ f, 1 ≤ f ∧ f ≤ 6 ∧ 0 < od f ∧ A (T x f) = nI (n - 1)) : Lv od T last goal n (x + 1) 1 (va_up A x (nI n)) := fun s hs => by
  by_cases e : s = x
  · subst e
    rw [va_up_eq]
    obtain ⟨f, f1, f2, f3, f4⟩ := hc
    have hno : ∀ m', m' < n → ¬ wlk od T goal m' s := by
      rcases hv s hs with ⟨m, h1, -, h3, -, -⟩ | ⟨-, h⟩
      · rw [if_neg (by omega)] at h1
        rw [h3] at c
        exact absurd c (nI_nm1 (by omega))
      · rw [if_neg (by omega)] at h; exact h
    have hw : wlk od T goal (n - 1) (T s f) := by
      rcases hv (T s f) (hT s hs f f2) with ⟨m, h1, -, h3, h4, -⟩ | ⟨h3, -⟩
      · rw [f4] at h3
        have hm : m < 2147483648 := by
          have : m < n + 1 := by split at h1 <;> omega
          omega
        rw [(nI_eq (by omega) (by omega)).1 h3]; exact h4
      · rw [f4] at h3; exact absurd h3 (nI_nm1 (by omega))
    have hw' : wlk od T goal n s := by
      have : n = (n - 1) + 1 := by omega
      rw [this]
      exact ⟨T s f, ⟨f, f1, f2, f3, rfl⟩, hw⟩
    exact Or.inl ⟨n, by rw [if_pos (by omega)]; omega, fun z => absurd z (by decide), rfl, hw', fun m' h => Nat.le_of_not_lt (fun z => hno m' z h)⟩
  · have e2 : (s < x + 1) = (s < x) := propext (by omega)
    simp only [e2]
    rw [va_up_of _ _ e]
    rcases hv s hs with ⟨m, h1, -, h3, h4, h5⟩ | h
    · exact Or.inl ⟨m, h1, fun z => absurd z (by decide), h3, h4, h5⟩
    · exact Or.inr h
theorem Lv.miss {od : Nat → Nat} {T : Nat → Nat → Nat} {last goal n x : Nat} {w : Int32} {A : Nat → Int32} (hT : ∀ s, s ≤ last → ∀ f, f ≤ 6 → T s f ≤ last) (hn : 1 ≤ n) (hnb : n ≤ 102) (hx : x ≤ last) (hv : Lv od T last goal n x w A) (c : A x = -1) (hc : ¬ ∃ f, 1 ≤ f ∧ f ≤ 6 ∧ 0 < od f ∧ A (T x f) = nI (n - 1)) : Lv od T last goal n (x + 1) w A := fun s hs => by
  by_cases e : s = x
  · subst e
    have hno : ∀ m', m' < n → ¬ wlk od T goal m' s := by
      rcases hv s hs with ⟨m, h1, -, h3, -, -⟩ | ⟨-, h⟩
      · rw [if_neg (by omega)] at h1
        rw [h3] at c
        exact absurd c (nI_nm1 (by omega))
      · rw [if_neg (by omega)] at h; exact h
    refine Or.inr ⟨c, fun m' hm hw => ?_⟩
    rw [if_pos (by omega)] at hm
    by_cases z : m' < n
    · exact hno m' z hw
    · have : m' = (n - 1) + 1 := by omega
      subst this
      obtain ⟨s', ⟨f, f1, f2, f3, f4⟩, hw'⟩ := hw
      refine hc ⟨f, f1, f2, f3, ?_⟩
      rw [f4]
      have hs' : s' ≤ last := by rw [← f4]; exact hT s hs f f2
      rcases hv s' hs' with ⟨m, -, -, h3, h4, h5⟩ | ⟨-, h⟩
      · have := h5 _ hw'
        by_cases y : m = n - 1
        · rw [h3, y]
        · exact absurd ⟨s', ⟨f, f1, f2, f3, f4⟩, h4⟩ (hno (m + 1) (by omega))
      · exact absurd hw' (h (n - 1) (by split <;> omega))
  · have e2 : (s < x + 1) = (s < x) := propext (by omega)
    simp only [e2]
    exact hv s hs
