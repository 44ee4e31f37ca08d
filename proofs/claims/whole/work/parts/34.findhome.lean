/-! WAYS: the fewest throws home, found -/
theorem Geo.fs {S : Nat → Prop} {r a last lst : Nat} {od : Nat → Nat} {T : Nat → Nat → Nat} {h h' : XH} (hf : xfs S h h') (h0 : ¬ S r) (h1 : ¬ S (r + 1)) (h5 : ¬ S (r + 5)) (ha0 : ¬ S a) (ha3 : ¬ S (a + 3)) (hg : Geo h r a last lst od T) : Geo h' r a last lst od T := by
  obtain ⟨hr, ha, g1, g2, g3, g4, g5, g6, g7, g8⟩ := hg
  have e1 := (hf r h0).1
  have e2 := (hf (r + 5) h5).1
  have e3 := (hf (a + 3) ha3).1
  exact ⟨hr.fs hf h0 h1, ha.fs hf ha0, by rw [e1]; exact g1, by rw [e1]; exact g2, by rw [e1]; exact g3, g4, g5, g6, by rw [e2]; exact g7, by rw [e3]; exact g8⟩
abbrev WayS : Nat → Prop := fun c => c = 39 ∨ c = 41 ∨ c = 42
theorem Geo.way {r a last lst : Nat} {od : Nat → Nat} {T : Nat → Nat → Nat} {h h' : XH} (hf : xfs WayS h h') (hg : Geo h r a last lst od T) : Geo h' r a last lst od T := by
  have c1 := hg.1.1
  have c2 := hg.2.1.1
  exact hg.fs hf (by show ¬ (r = 39 ∨ r = 41 ∨ r = 42); omega) (by show ¬ (r + 1 = 39 ∨ r + 1 = 41 ∨ r + 1 = 42); omega) (by show ¬ (r + 5 = 39 ∨ r + 5 = 41 ∨ r + 5 = 42); omega) (by show ¬ (a = 39 ∨ a = 41 ∨ a = 42); omega) (by show ¬ (a + 3 = 39 ∨ a + 3 = 41 ∨ a + 3 = 42); omega)
/-- what may change: the search's own cells, not what is kept -/
def wfr (h h' : XH) : Prop := xfs WayS h h' ∧ (∀ j, j ≠ 4 → xI h' 39 j = xI h 39 j) ∧ xP h' = xP h
theorem wfr.rfl {h : XH} : wfr h h := ⟨xfs.rfl, fun _ _ => Eq.refl _, Eq.refl _⟩
theorem wfr.trans {h h1 h2 : XH} (a : wfr h h1) (b : wfr h1 h2) : wfr h h2 := ⟨a.1.trans b.1, fun j hj => (b.2.1 j hj).trans (a.2.1 j hj), b.2.2.trans a.2.2⟩
def WAt (h : XH) (last k : Nat) (q d : Nat → Nat) (v : Nat → Bool) : Prop := xI h 39 4 = nI k ∧ (∀ j, j < k → xI h 42 j = nI (q j)) ∧ (∀ s, s ≤ last → xI h 41 s = if v s = true then nI (d s) else -1)
theorem nI_nm1 {m : Nat} (h : m < 2147483648) : ¬ nI m = -1 := fun z => by
  have := nI_pos (n := m) h
  rw [z] at this
  exact this (by decide)
theorem wfr_reached {h : XH} {s k : Nat} {m : Int32} (c : xI h 41 s = -1) : wfr h (reached h s k m) := by
  unfold reached
  rw [if_pos c]
  refine ⟨((xfs.SI (Or.inr (Or.inl (Eq.refl _)))).trans (xfs.SI (Or.inr (Or.inr (Eq.refl _))))).trans (xfs.SI (Or.inl (Eq.refl _))), fun j hj => ?_, Eq.refl _⟩
  rw [xI_at, va_up_of _ _ hj]
theorem WAt.reached {h : XH} {last k s m : Nat} {q d : Nat → Nat} {v : Nat → Bool} (w : WAt h last k q d v) (hs : s ≤ last) (hv : v s = false) : WAt (reached h s k (nI m)) last (k + 1) (va_up q k s) (va_up d s m) (va_up v s true) := by
  obtain ⟨w1, w2, w3⟩ := w
  have c : xI h 41 s = -1 := by rw [w3 s hs, hv]; rfl
  unfold _root_.Jvm.Pilot.@@N@@.reached
  rw [if_pos c]
  refine ⟨by rw [xI_at, va_up_eq], fun j hj => ?_, fun j hj => ?_⟩
  · rw [xI_ne (show 42 ≠ 39 by decide), xI_at]
    unfold va_up
    split
    · rfl
    · exact w2 j (by omega)
  · rw [xI_ne (show 41 ≠ 39 by decide), xI_ne (show 41 ≠ 42 by decide), xI_at]
    unfold va_up
    by_cases e : j = s
    · rw [if_pos e, if_pos e, if_pos e, if_pos rfl]
    · rw [if_neg e, if_neg e, if_neg e]; exact w3 j hj
theorem sN_full (v : Nat → Bool) (k : Nat) : ∀ x, sN (fun s => if v s = true then 1 else 0) x k ≤ k := by
  induction k with
  | zero => intro x; exact Nat.le_refl _
  | succ k ih =>
    intro x
    have := ih (x + 1)
    rw [sN]
    split <;> omega
theorem l_homeIn (n r a : Nat) (hnr : r + 9 ≤ n) (hna : a + 4 ≤ n) (hn : 43 ≤ n) (last lst : Nat) (od : Nat → Nat) (T : Nat → Nat → Nat) (i t : Nat) {Q : Option Value → XH → Prop} {X : String → XH → Prop} : ∀ (c x k : Nat) (q d : Nat → Nat) (v : Nat → Bool) (h : XH), x + c = last → Geo h r a last lst od T → xWay (xP h) → i < k → q i = t → WAt h last k q d v → Bfs od T last i x k q d v →
    (∀ h' k' q' d' v', wfr h h' → i < k' → WAt h' last k' q' d' v' → Bfs od T last i last k' q' d' v' → XW (xrm 3 0 0) mX8_findHome (xE n Q X 0 0) n 0 0 h' 24 [some (.ref 39), some (.ref r), some (.ref a), some (.int (nI i + 1)), none, none] []) →
    XW (xrm 3 0 0) mX8_findHome (xE n Q X 0 0) n 0 0 h 52 [some (.ref 39), some (.ref r), some (.ref a), some (.int (nI i)), some (.int (nI t)), some (.int (nI x))] [] := by
  intro c
  induction c with
  | zero =>
    intro x k q d v h hx hg hw hi ht hA hB hQ
    have : x = last := by omega
    subst this
    have hl := hg.2.2.2.2.2.2.1
    exact v_X8_findHome_52 n hw hn a hg.2.1 hna r hg.1 hnr _ _ (nI x) ⟨fun _ => hQ h k q d v wfr.rfl hi hA hB, fun c => absurd (by rw [hg.2.2.1]; exact nI_le (Nat.le_refl _) (by omega)) c⟩
  | succ c ih =>
    intro x k q d v h hx hg hw hi ht hA hB hQ
    have hl := hg.2.2.2.2.2.2.1
    have hk : k ≤ last + 1 := by rw [← hB.cnt]; exact sN_full v (last + 1) 0
    have e41 : ∀ s, s ≤ last → rd (xI h 41) 101 (-1) (nI s) = xI h 41 s := fun s hs => by
      rw [iz_nI, rd_in (by omega) (by show (s : Int) < 101; omega)]; rfl
    have htl : t ≤ last := by rw [← ht]; exact (hB.q1 i hi).1
    refine v_X8_findHome_52 n hw hn a hg.2.1 hna r hg.1 hnr _ _ (nI x) ⟨fun z => absurd z (by rw [hg.2.2.1]; exact nI_ge (by omega) (by omega)), fun _ => ?_⟩
    rw [e41 x (by omega), nI_1]
    refine ⟨fun z => ?_, fun z => ⟨_, s_X8_faceTo n r a hnr hna last lst od T h hg x t (by omega) htl, ?_⟩⟩
    · have hv : v x = true := by
        refine Decidable.byContradiction (fun y => z ?_)
        rw [hA.2.2 x (by omega), if_neg y]
      exact ih (x + 1) k q d v h (by omega) hg hw hi ht hA (hB.old hi (by omega) hv) hQ
    · have hv : v x = false := by
        cases y : v x with
        | false => rfl
        | true =>
          rw [hA.2.2 x (by omega), if_pos y] at z
          obtain ⟨j, j1, j2⟩ := hB.q2 x (by omega) y
          have := (hB.q1 j j1).2.2
          rw [j2] at this
          exact absurd z (nI_nm1 (by omega))
      rintro v2 h2 ⟨e2, w, rfl, hw0⟩
      subst h2
      refine ⟨w, rfl, fun y => ?_, fun y => ⟨_, s_X8_throwsOf n h hw hn (nI t), ?_⟩⟩
      · exact ih (x + 1) k q d v h (by omega) hg hw hi ht hA (hB.no (by rw [ht]; exact hw0.1 y)) hQ
      · have hst : stp od T x (q i) := by
          rw [ht]
          exact Classical.byContradiction (fun u => y (hw0.2 u))
        rintro v3 h3 ⟨rfl, e3⟩
        subst h3
        have hti := hB.q1 i hi
        rw [ht] at hti
        have et : rd (xI h 41) 101 (-1) (nI t) + 1 = nI (d t + 1) := by
          rw [e41 t htl, hA.2.2 t htl, if_pos hti.2.1, nI_1]
        refine ⟨_, rfl, ?_⟩
        rw [et]
        refine ⟨_, s_X8_reach n h hw hn k (by omega) hA.1 x (by omega) (nI (d t + 1)), ?_⟩
        rintro v4 h4 ⟨rfl, rfl⟩
        have hf : wfr h (reached h x k (nI (d t + 1))) := wfr_reached z
        refine ⟨rfl, ih (x + 1) (k + 1) _ _ _ _ (by omega) (hg.way hf.1) (by rw [hf.2.2]; exact hw) (by omega) (by rw [va_up_of _ _ (show i ≠ k by omega)]; exact ht) (hA.reached (m := d t + 1) (by omega) hv) (by have := hB.new hi (by omega) hv hst; rw [ht] at this; exact this) (fun h' k' q' d' v' f1 f2 f3 f4 => hQ h' k' q' d' v' (hf.trans f1) f2 f3 f4)⟩
theorem l_home (n r a : Nat) (hnr : r + 9 ≤ n) (hna : a + 4 ≤ n) (hn : 43 ≤ n) (last lst : Nat) (od : Nat → Nat) (T : Nat → Nat → Nat) (hT : ∀ s, s ≤ last → ∀ f, f ≤ 6 → T s f ≤ last) {Q : Option Value → XH → Prop} {X : String → XH → Prop} : ∀ (c i k : Nat) (q d : Nat → Nat) (v : Nat → Bool) (h : XH), i + c = last + 1 → Geo h r a last lst od T → xWay (xP h) → i ≤ k → WAt h last k q d v → Bfs od T last i 0 k q d v →
    (∀ h', wfr h h' → Far od T last last (xI h' 41) → Q none h') →
    XW (xrm 3 0 0) mX8_findHome (xE n Q X 0 0) n 0 0 h 24 [some (.ref 39), some (.ref r), some (.ref a), some (.int (nI i)), none, none] [] := by
  intro c
  induction c with
  | zero =>
    intro i k q d v h hx hg hw hi hA hB hQ
    have hl := hg.2.2.2.2.2.2.1
    have hk : k ≤ last + 1 := by rw [← hB.cnt]; exact sN_full v (last + 1) 0
    have : i = k := by omega
    subst this
    exact v_X8_findHome_24 n hw hn a hg.2.1 hna r hg.1 hnr (nI i) ⟨fun _ => hQ h wfr.rfl (hB.far hT hk hA.2.2), fun c => absurd (by rw [hA.1]; exact nI_le (Nat.le_refl _) (by omega)) c⟩
  | succ c ih =>
    intro i k q d v h hx hg hw hi hA hB hQ
    have hl := hg.2.2.2.2.2.2.1
    have hk : k ≤ last + 1 := by rw [← hB.cnt]; exact sN_full v (last + 1) 0
    refine v_X8_findHome_24 n hw hn a hg.2.1 hna r hg.1 hnr (nI i) ⟨fun z => ?_, fun z => ⟨fun y => absurd y (nI_ge (a := i) (b := 102) (by omega) (by omega)), fun _ => ⟨vp_in_nI (by omega) (by omega), ?_⟩⟩⟩
    · rw [hA.1] at z
      have z' := (nI_leI (by omega) (by omega)).1 z
      have : i = k := by omega
      subst this
      exact hQ h wfr.rfl (hB.far hT hk hA.2.2)
    · rw [hA.1] at z
      have z' : i < k := Nat.lt_of_not_le (fun y => z (nI_le y (by omega)))
      rw [nI_clamp (by omega), hA.2.1 i z']
      refine l_homeIn n r a hnr hna hn last lst od T i (q i) last 0 k q d v h (by omega) hg hw z' rfl hA hB (fun h' k' q' d' v' f1 f2 f3 f4 => ?_)
      rw [nI_1]
      exact ih (i + 1) k' q' d' v' h' (by omega) (hg.way f1.1) (by rw [f1.2.2]; exact hw) (by omega) f3 (f4.next f2) (fun h'' g1 g2 => hQ h'' (f1.trans g1) g2)
theorem s_X8_findHome (n r a : Nat) (hnr : r + 9 ≤ n) (hna : a + 4 ≤ n) (hn : 43 ≤ n) (last lst : Nat) (od : Nat → Nat) (T : Nat → Nat → Nat) (h : XH) (hg : Geo h r a last lst od T) (hw : xWay (xP h)) : XSpec mX8_findHome 3 0 0 n n [.ref 39, .ref r, .ref a] h (fun v h' => v = none ∧ wfr h h' ∧ Far od T last last (xI h' 41)) xno := by
  have hl := hg.2.2.2.2.2.2.1
  have hT : ∀ s, s ≤ last → ∀ f, f ≤ 6 → T s f ≤ last := fun s hs f hf => (hg.2.2.2.2.2.2.2.2.2 s hs f hf).2
  refine XSpec.of rfl (by decide) (Nat.le_of_ble_eq_true rfl) rfl (v_X8_findHome_0 n hw hn a hg.2.1 hna r hg.1 hnr ?_)
  rw [hg.2.2.1]
  have h0f : wfr h (xSI 39 (va_up (xI h 39) 4 0) (xSI 41 (fl 101 (-1) (xI h 41)) h)) := by
    refine ⟨(xfs.SI (Or.inr (Or.inl (Eq.refl _)))).trans (xfs.SI (Or.inl (Eq.refl _))), fun j hj => ?_, Eq.refl _⟩
    rw [xI_at, va_up_of _ _ hj]
  have hA : WAt (xSI 39 (va_up (xI h 39) 4 0) (xSI 41 (fl 101 (-1) (xI h 41)) h)) last 0 (fun _ => 0) (fun _ => 0) (fun _ => false) := by
    refine ⟨by rw [xI_at, va_up_eq]; rfl, fun j hj => absurd hj (Nat.not_lt_zero _), fun s hs => ?_⟩
    rw [xI_ne (show 41 ≠ 39 by decide), xI_at]
    unfold fl
    rw [if_pos (by omega), if_neg (show ¬ (false = true) by decide)]
  have z : xI (xSI 39 (va_up (xI h 39) 4 0) (xSI 41 (fl 101 (-1) (xI h 41)) h)) 41 last = -1 := by
    rw [hA.2.2 last (Nat.le_refl _)]; rfl
  refine ⟨_, s_X8_reach n (xSI 39 (va_up (xI h 39) 4 0) (xSI 41 (fl 101 (-1) (xI h 41)) h)) hw hn 0 (by omega) hA.1 last (by omega) 0, ?_⟩
  rintro v1 h1 ⟨rfl, rfl⟩
  have hf := h0f.trans (wfr_reached (k := 0) (m := 0) z)
  refine ⟨rfl, l_home n r a hnr hna hn last lst od T hT (last + 1) 0 1 _ _ _ _ (by omega) (hg.way hf.1) (by rw [hf.2.2]; exact hw) (by omega) (hA.reached (m := 0) (Nat.le_refl _) rfl) ⟨?_, ?_, ?_, ?_, ?_, ?_, ?_, ?_, ?_⟩ (fun h' g1 g2 => ⟨rfl, hf.trans g1, g2⟩)⟩
  · rw [sN_upd rfl (last + 1) 0 (Nat.zero_le _) (by omega), sN_0 (last + 1) 0 (fun g _ _ => if_neg (show ¬ (false = true) by decide))]
  · intro j hj
    have : j = 0 := by omega
    subst this
    rw [va_up_eq, va_up_eq, va_up_eq]
    exact ⟨Nat.le_refl _, rfl, Nat.le_refl _⟩
  · intro s hs hv
    refine ⟨0, by omega, ?_⟩
    rw [va_up_eq]
    refine Decidable.byContradiction (fun c => ?_)
    rw [va_up_of _ _ (fun e => c e.symm)] at hv
    cases hv
  · intro s hs hv
    have : s = last := by
      refine Decidable.byContradiction (fun c => ?_)
      rw [va_up_of _ _ c] at hv
      cases hv
    subst this
    rw [va_up_eq]; rfl
  · intro j1 j2 k1 k2
    have e1 : j1 = 0 := by omega
    have e2 : j2 = 0 := by omega
    rw [e1, e2]; exact Nat.le_refl _
  · intro j hj _
    have : j = 0 := by omega
    rw [this]; omega
  · intro j hj; exact absurd hj (Nat.not_lt_zero _)
  · intro s hs; exact absurd hs (Nat.not_lt_zero _)
  · exact ⟨va_up_eq _ _ _, va_up_eq _ _ _⟩
