/-! WAYS: the least face that leads nearer -/
def NearF (od : Nat → Nat) (T : Nat → Nat → Nat) (A : Nat → Int32) (s f : Nat) : Prop := 1 ≤ f ∧ f ≤ 6 ∧ (0 < od f ∧ A (T s f) = A s - 1) ∧ ∀ g, 1 ≤ g → g < f → ¬ (0 < od g ∧ A (T s g) = A s - 1)
theorem NearF.uniq {od : Nat → Nat} {T : Nat → Nat → Nat} {A : Nat → Int32} {s f g : Nat} (a : NearF od T A s f) (b : NearF od T A s g) : f = g := by
  rcases Nat.lt_trichotomy f g with c | c | c
  · exact absurd a.2.2.1 (b.2.2.2 f a.1 c)
  · exact c
  · exact absurd b.2.2.1 (a.2.2.2 g b.1 c)
theorem Far.near {od : Nat → Nat} {T : Nat → Nat → Nat} {last goal : Nat} {A : Nat → Int32} (ha : Far od T last goal A) (hl : last ≤ 100) (hT : ∀ s, s ≤ last → ∀ f, f ≤ 6 → T s f ≤ last) {s m : Nat} (hs : s ≤ last) (hm : A s = nI (m + 1)) (hmb : m + 1 ≤ 100) : ∃ f, 1 ≤ f ∧ f ≤ 6 ∧ 0 < od f ∧ A (T s f) = nI m := by
  rcases ha s hs with ⟨k, a1, a2, a3, a4⟩ | ⟨a1, -⟩
  · rw [hm] at a1
    have : k = m + 1 := ((nI_eq (by omega) (by omega)).1 a1).symm
    subst this
    obtain ⟨s', ⟨f, f1, f2, f3, f4⟩, hw⟩ := a3
    refine ⟨f, f1, f2, f3, ?_⟩
    rw [f4]
    have hs' : s' ≤ last := by rw [← f4]; exact hT s hs f f2
    rcases ha s' hs' with ⟨k', b1, b2, b3, b4⟩ | ⟨-, b2⟩
    · have h1 := b4 m hw
      have h2 := a4 (k' + 1) ⟨s', ⟨f, f1, f2, f3, f4⟩, b3⟩
      rw [b1, show k' = m by omega]
    · exact absurd hw (b2 m)
  · rw [hm] at a1
    exact absurd a1 (nI_nm1 (by omega))
theorem l_faceNearer (n r a : Nat) (hnr : r + 9 ≤ n) (hna : a + 4 ≤ n) (hn : 43 ≤ n) (last lst : Nat) (od : Nat → Nat) (T : Nat → Nat → Nat) (h : XH) (hg : Geo h r a last lst od T) (hw : xWay (xP h)) (s : Nat) (hs : s ≤ last) (hex : ∃ f, 1 ≤ f ∧ f ≤ 6 ∧ 0 < od f ∧ xI h 41 (T s f) = xI h 41 s - 1) {X : String → XH → Prop} : ∀ (k x : Nat), x + k = 7 → 1 ≤ x → (∀ g, 1 ≤ g → g < x → ¬ (0 < od g ∧ xI h 41 (T s g) = xI h 41 s - 1)) →
    XW (xrm 2 0 0) mX8_faceNearer (xE n (fun v h' => h' = h ∧ ∃ f, v = some (.int (nI f)) ∧ NearF od T (xI h 41) s f) X 0 0) n 0 0 h 3 [some (.ref 39), some (.ref r), some (.ref a), some (.int (nI s)), some (.int (nI x))] [] := by
  have hl := hg.2.2.2.2.2.2.1
  have e41 : ∀ s, s ≤ last → rd (xI h 41) 101 (-1) (nI s) = xI h 41 s := fun s hs => by
    rw [iz_nI, rd_in (by omega) (by show (s : Int) < 101; omega)]; rfl
  intro k
  induction k with
  | zero =>
    intro x hx h1 hno
    obtain ⟨f, f1, f2, f3, f4⟩ := hex
    exact absurd ⟨f3, f4⟩ (hno f f1 (by omega))
  | succ k ih =>
    intro x hx h1 hno
    obtain ⟨e1, b1⟩ := geo_od hg h1 (show x ≤ 6 by omega)
    obtain ⟨e2, b2⟩ := geo_to hg hs (show x ≤ 6 by omega)
    refine v_X8_faceNearer_3 n hw hn a hg.2.1 hna r hg.1 hnr _ (nI x) ⟨fun c => absurd c (nI_nlt (a := 6) (b := x) (by omega) (by omega)), fun _ => ?_⟩
    rw [e1, e2, e41 _ b2, e41 s hs, nI_1]
    have step := fun (hn : ¬ (0 < od x ∧ xI h 41 (T s x) = xI h 41 s - 1)) => ih (x + 1) (by omega) (by omega) (fun g g1 g2 => by
      by_cases z : g = x
      · rw [z]; exact hn
      · exact hno g g1 (by omega))
    refine ⟨fun c => step (fun z => ?_), fun c => ⟨fun c2 => step (fun z => c2 z.2), fun c2 => ⟨rfl, x, rfl, h1, by omega, ⟨?_, c2⟩, hno⟩⟩⟩
    · have := (nI_leI (a := od x) (b := 0) (by omega) (by omega)).1 c
      omega
    · exact Nat.pos_of_ne_zero (fun z => c (by rw [z]; decide))
theorem s_X8_faceNearer (n r a : Nat) (hnr : r + 9 ≤ n) (hna : a + 4 ≤ n) (hn : 43 ≤ n) (last lst : Nat) (od : Nat → Nat) (T : Nat → Nat → Nat) (h : XH) (hg : Geo h r a last lst od T) (hw : xWay (xP h)) (s : Nat) (hs : s ≤ last) (hex : ∃ f, 1 ≤ f ∧ f ≤ 6 ∧ 0 < od f ∧ xI h 41 (T s f) = xI h 41 s - 1) : XSpec mX8_faceNearer 2 0 0 n n [.ref 39, .ref r, .ref a, .int (nI s)] h (fun v h' => h' = h ∧ ∃ f, v = some (.int (nI f)) ∧ NearF od T (xI h 41) s f) xno :=
  XSpec.of rfl (by decide) (Nat.le_of_ble_eq_true rfl) rfl (v_X8_faceNearer_0 n hw hn a hg.2.1 hna r hg.1 hnr (nI s) (l_faceNearer n r a hnr hna hn last lst od T h hg hw s hs hex 6 1 rfl (Nat.le_refl _) (fun g g1 g2 => by omega)))
