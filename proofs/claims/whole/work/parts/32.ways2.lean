/-! WAYS: squares from which one comes to another -/
/-- one throw leads from s to t -/
def stp (od : Nat → Nat) (T : Nat → Nat → Nat) (s t : Nat) : Prop := ∃ f, 1 ≤ f ∧ f ≤ 6 ∧ 0 < od f ∧ T s f = t
/-- m throws lead from s to t -/
def wlk (od : Nat → Nat) (T : Nat → Nat → Nat) (t : Nat) : Nat → Nat → Prop
  | 0, s => s = t
  | m + 1, s => ∃ s', stp od T s s' ∧ wlk od T t m s'
theorem geo_od {h : XH} {r a last lst : Nat} {od : Nat → Nat} {T : Nat → Nat → Nat} (hg : Geo h r a last lst od T) {f : Nat} (h1 : 1 ≤ f) (h2 : f ≤ 6) : rd (xI h (r + 5)) 7 0 (nI f) = nI (od f) ∧ od f ≤ 9 := by
  obtain ⟨-, -, -, -, -, -, -, g6, g7, -⟩ := hg
  refine ⟨?_, g6.1 f h1 h2⟩
  rw [iz_nI, rd_in (by omega) (by show (f : Int) < 7; omega)]
  exact g7 f h1 h2
theorem geo_to {h : XH} {r a last lst : Nat} {od : Nat → Nat} {T : Nat → Nat → Nat} (hg : Geo h r a last lst od T) {s f : Nat} (hs : s ≤ last) (h2 : f ≤ 6) : rd (xI h (a + 3)) 707 0 (nI s * 7 + nI f) = nI (T s f) ∧ T s f ≤ last := by
  obtain ⟨-, -, -, -, -, -, g5, -, -, g8⟩ := hg
  refine ⟨?_, (g8 s hs f h2).2⟩
  have e1 : nI s * 7 + nI f = nI (s * 7 + f) := by
    rw [show (7 : Int32) = nI 7 from rfl, pk_mul, nI_add]
  rw [e1, iz_nI, rd_in (by omega) (by show ((s * 7 + f : Nat) : Int) < 707; omega)]
  exact (g8 s hs f h2).1
theorem l_faceTo (n r a : Nat) (hnr : r + 9 ≤ n) (hna : a + 4 ≤ n) (last lst : Nat) (od : Nat → Nat) (T : Nat → Nat → Nat) (h : XH) (hg : Geo h r a last lst od T) (s t : Nat) (hs : s ≤ last) (ht : t ≤ last) {X : String → XH → Prop} : ∀ (k x : Nat), x + k = 7 → 1 ≤ x → (∀ f, 1 ≤ f → f < x → ¬ (0 < od f ∧ T s f = t)) →
    XW (xrm 2 0 0) mX8_faceTo (xE n (fun v h' => h' = h ∧ ∃ w : Int32, v = some (.int w) ∧ (w = 0 ↔ ¬ stp od T s t)) X 0 0) n 0 0 h 3 [some (.ref r), some (.ref a), some (.int (nI s)), some (.int (nI t)), some (.int (nI x))] [] := by
  have hl := hg.2.2.2.2.2.2.1
  intro k
  induction k with
  | zero =>
    intro x hx h1 hno
    have : x = 7 := by omega
    subst this
    refine v_X8_faceTo_3 n r hg.1 hnr a hg.2.1 hna _ _ (nI 7) ⟨fun _ => ⟨rfl, _, rfl, ?_⟩, fun c => absurd (by decide) c⟩
    refine ⟨fun _ => ?_, fun _ => rfl⟩
    rintro ⟨f, f1, f2, f3, f4⟩
    exact hno f f1 (by omega) ⟨f3, f4⟩
  | succ k ih =>
    intro x hx h1 hno
    obtain ⟨e1, b1⟩ := geo_od hg h1 (show x ≤ 6 by omega)
    obtain ⟨e2, b2⟩ := geo_to hg hs (show x ≤ 6 by omega)
    refine v_X8_faceTo_3 n r hg.1 hnr a hg.2.1 hna _ _ (nI x) ⟨fun c => absurd c (nI_nlt (a := 6) (b := x) (by omega) (by omega)), fun _ => ?_⟩
    rw [e1, e2, nI_1]
    refine ⟨fun c => ih (x + 1) (by omega) (by omega) (fun f f1 f2 => ?_), fun c => ⟨fun c2 => ih (x + 1) (by omega) (by omega) (fun f f1 f2 => ?_), fun c2 => ⟨rfl, _, rfl, ?_⟩⟩⟩
    · by_cases z : f = x
      · subst z
        have := (nI_leI (a := od f) (b := 0) (by omega) (by omega)).1 c
        exact fun z => by omega
      · exact hno f f1 (by omega)
    · by_cases z : f = x
      · subst z
        exact fun z => c2 (by rw [z.2])
      · exact hno f f1 (by omega)
    · have o : 0 < od x := Nat.pos_of_ne_zero (fun z => c (by rw [z]; decide))
      have e : T s x = t := (nI_eq (by omega) (by omega)).1 c2
      refine ⟨fun z => absurd z (nI_ne0 (by omega) (by omega)), fun z => absurd ⟨x, h1, by omega, o, e⟩ z⟩
theorem s_X8_faceTo (n r a : Nat) (hnr : r + 9 ≤ n) (hna : a + 4 ≤ n) (last lst : Nat) (od : Nat → Nat) (T : Nat → Nat → Nat) (h : XH) (hg : Geo h r a last lst od T) (s t : Nat) (hs : s ≤ last) (ht : t ≤ last) : XSpec mX8_faceTo 2 0 0 n n [.ref r, .ref a, .int (nI s), .int (nI t)] h (fun v h' => h' = h ∧ ∃ w : Int32, v = some (.int w) ∧ (w = 0 ↔ ¬ stp od T s t)) xno :=
  XSpec.of rfl (by decide) (Nat.le_of_ble_eq_true rfl) rfl (v_X8_faceTo_0 n r hg.1 hnr a hg.2.1 hna (nI s) (nI t) (l_faceTo n r a hnr hna last lst od T h hg s t hs ht 6 1 rfl (Nat.le_refl _) (fun f f1 f2 => by omega)))
