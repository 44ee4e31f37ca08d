/-! WAYS: the search onward, its loops -/
theorem s_X8_reach_old (n : Nat) (h : XH) (hw : xWay (xP h)) (hn : 43 ≤ n) (s : Nat) (hs : s ≤ 100) (m : Int32) (hne : ¬ xI h 41 s = -1) : XSpec mX8_reach 2 0 0 n n [.ref 39, .int (nI s), .int m] h (xq none h) xno := by
  refine XSpec.of rfl (by decide) (Nat.le_of_ble_eq_true rfl) rfl (v_X8_reach_0 n hw hn (nI s) m ?_)
  have e : rd (xI h 41) 101 (-1) (nI s) = xI h 41 s := by rw [iz_nI, rd_in (by omega) (by show (s : Int) < 101; omega)]; rfl
  rw [e]
  exact ⟨fun _ => ⟨rfl, rfl⟩, fun c => absurd c hne⟩
theorem l_fromIn (n r a : Nat) (hnr : r + 9 ≤ n) (hna : a + 4 ≤ n) (hn : 43 ≤ n) (last lst : Nat) (od : Nat → Nat) (T : Nat → Nat → Nat) (fm i t ei : Nat) {Q : Option Value → XH → Prop} {X : String → XH → Prop} : ∀ (c x k : Nat) (q e d : Nat → Nat) (v : Nat → Bool) (h : XH), x + c = 7 → 1 ≤ x → Geo h r a last lst od T → xWay (xP h) → i < k → q i = t → e i = ei → WAt h last k q d v → Bf1 od T last fm i x k q e d v →
    (∀ h' k' q' e' d' v', wfr h h' → i < k' → WAt h' last k' q' d' v' → Bf1 od T last fm i 7 k' q' e' d' v' → XW (xrm 3 0 0) mX8_findFrom (xE n Q X 0 0) n 0 0 h' 21 [some (.ref 39), some (.ref r), some (.ref a), none, some (.int (nI i + 1)), none, none, none] []) →
    XW (xrm 3 0 0) mX8_findFrom (xE n Q X 0 0) n 0 0 h 71 [some (.ref 39), some (.ref r), some (.ref a), none, some (.int (nI i)), some (.int (nI t)), some (.int (nI (ei + 1))), some (.int (nI x))] [] := by
  intro c
  induction c with
  | zero =>
    intro x k q e d v h hx hx1 hg hw hi ht he hA hB hQ
    have : x = 7 := by omega
    subst this
    exact v_X8_findFrom_71 n hw hn a hg.2.1 hna r hg.1 hnr _ _ _ (nI 7) ⟨fun _ => hQ h k q e d v wfr.rfl hi hA hB, fun c => absurd (by decide) c⟩
  | succ c ih =>
    intro x k q e d v h hx hx1 hg hw hi ht he hA hB hQ
    have hl := hg.2.2.2.2.2.2.1
    have hk : k ≤ last + 2 := by have := sN_full v (last + 1) 0; have := hB.1; omega
    have htl : t ≤ last := by rw [← ht]; exact (hB.2.2.1 i hi).1
    obtain ⟨e1, o9⟩ := geo_od hg hx1 (show x ≤ 6 by omega)
    obtain ⟨e2, tl⟩ := geo_to hg htl (show x ≤ 6 by omega)
    refine v_X8_findFrom_71 n hw hn a hg.2.1 hna r hg.1 hnr _ _ _ (nI x) ⟨fun z => absurd z (nI_nlt (a := 6) (b := x) (by omega) (by omega)), fun _ => ?_⟩
    rw [e1, e2, nI_1]
    refine ⟨fun z => ?_, fun z => ?_⟩
    · have := (nI_leI (a := od x) (b := 0) (by omega) (by omega)).1 z
      exact ih (x + 1) k q e d v h (by omega) (by omega) hg hw hi ht he hA (hB.skip (by omega)) hQ
    · have ho : 0 < od x := Nat.pos_of_ne_zero (fun y => z (by rw [y]; decide))
      have etx : T (q i) x = T t x := by rw [ht]
      by_cases hv : v (T t x) = true
      · have hne : ¬ xI h 41 (T t x) = -1 := by
          rw [hA.2.2 _ tl, if_pos hv]
          obtain ⟨j, j0, j1, j2⟩ := hB.2.2.2.1 _ tl hv
          obtain ⟨-, g2, g3⟩ := hB.2.2.1 j j1
          have := (g3 j0).2.1
          rw [j2] at this
          exact nI_nm1 (by omega)
        refine ⟨_, s_X8_reach_old n h hw hn (T t x) (by omega) (nI (ei + 1)) hne, ?_⟩
        rintro v1 h1 ⟨rfl, e3⟩
        subst h1
        exact ⟨rfl, ih (x + 1) k q e d v h (by omega) (by omega) hg hw hi ht he hA (hB.old hi (by rw [etx]; exact tl) (by rw [etx]; exact hv)) hQ⟩
      · have hv' : v (T t x) = false := by
          cases y : v (T t x) with
          | false => rfl
          | true => exact absurd y hv
        have hlt := sN_lt hv' tl
        have hk2 : k ≤ 101 := by have := hB.1; omega
        refine ⟨_, s_X8_reach n h hw hn k hk2 hA.1 (T t x) (by omega) (nI (ei + 1)), ?_⟩
        rintro v1 h1 ⟨rfl, rfl⟩
        have z1 : xI h 41 (T t x) = -1 := by rw [hA.2.2 _ tl, hv']; rfl
        have hf : wfr h (reached h (T t x) k (nI (ei + 1))) := wfr_reached z1
        have hb := hB.new (t := T t x) hi hx1 (by omega) ho etx tl hv'
        rw [he] at hb
        exact ⟨rfl, ih (x + 1) (k + 1) _ _ _ _ _ (by omega) (by omega) (hg.way hf.1) (by rw [hf.2.2]; exact hw) (by omega) (by rw [va_up_of _ _ (show i ≠ k by omega)]; exact ht) (by rw [va_up_of _ _ (show i ≠ k by omega)]; exact he) (hA.reached (m := ei + 1) tl hv') hb (fun h' k' q' e' d' v' f1 f2 f3 f4 => hQ h' k' q' e' d' v' (hf.trans f1) f2 f3 f4)⟩
theorem l_from (n r a : Nat) (hnr : r + 9 ≤ n) (hna : a + 4 ≤ n) (hn : 43 ≤ n) (last lst : Nat) (od : Nat → Nat) (T : Nat → Nat → Nat) (hT : ∀ s, s ≤ last → ∀ f, f ≤ 6 → T s f ≤ last) (fm : Nat) {Q : Option Value → XH → Prop} {X : String → XH → Prop} : ∀ (c i k : Nat) (q e d : Nat → Nat) (v : Nat → Bool) (h : XH), i + c = last + 2 → Geo h r a last lst od T → xWay (xP h) → i ≤ k → WAt h last k q d v → Bf1 od T last fm i 1 k q e d v →
    (∀ h', wfr h h' → Far1 od T last fm (xI h' 41) → Q none h') →
    XW (xrm 3 0 0) mX8_findFrom (xE n Q X 0 0) n 0 0 h 21 [some (.ref 39), some (.ref r), some (.ref a), none, some (.int (nI i)), none, none, none] [] := by
  intro c
  induction c with
  | zero =>
    intro i k q e d v h hx hg hw hi hA hB hQ
    have hl := hg.2.2.2.2.2.2.1
    have hk : k ≤ last + 2 := by have := sN_full v (last + 1) 0; have := hB.1; omega
    have : i = k := by omega
    subst this
    exact v_X8_findFrom_21 n hw hn a hg.2.1 hna r hg.1 hnr (nI i) ⟨fun _ => hQ h wfr.rfl (hB.far hT hA.2.2), fun c => absurd (by rw [hA.1]; exact nI_le (Nat.le_refl _) (by omega)) c⟩
  | succ c ih =>
    intro i k q e d v h hx hg hw hi hA hB hQ
    have hl := hg.2.2.2.2.2.2.1
    have hk : k ≤ last + 2 := by have := sN_full v (last + 1) 0; have := hB.1; omega
    refine v_X8_findFrom_21 n hw hn a hg.2.1 hna r hg.1 hnr (nI i) ⟨fun z => ?_, fun z => ⟨fun y => absurd y (nI_ge (a := i) (b := 102) (by omega) (by omega)), fun _ => ⟨vp_in_nI (by omega) (by omega), ?_⟩⟩⟩
    · rw [hA.1] at z
      have z' := (nI_leI (by omega) (by omega)).1 z
      have : i = k := by omega
      subst this
      exact hQ h wfr.rfl (hB.far hT hA.2.2)
    · rw [hA.1] at z
      have z' : i < k := Nat.lt_of_not_le (fun y => z (nI_le y (by omega)))
      have go : XW (xrm 3 0 0) mX8_findFrom (xE n Q X 0 0) n 0 0 h 71 [some (.ref 39), some (.ref r), some (.ref a), none, some (.int (nI i)), some (.int (nI (q i))), some (.int (nI (e i + 1))), some (.int (nI 1))] [] := by
        refine l_fromIn n r a hnr hna hn last lst od T fm i (q i) (e i) 6 1 k q e d v h rfl (Nat.le_refl _) hg hw z' rfl rfl hA hB (fun h' k' q' e' d' v' f1 f2 f3 f4 => ?_)
        rw [nI_1]
        exact ih (i + 1) k' q' e' d' v' h' (by omega) (hg.way f1.1) (by rw [f1.2.2]; exact hw) (by omega) f3 (f4.next f2) (fun h'' g1 g2 => hQ h'' (f1.trans g1) g2)
      rw [nI_clamp (by omega), hA.2.1 i z']
      obtain ⟨ql, -, g3⟩ := hB.2.2.1 i z'
      refine ⟨fun y => ?_, fun y => ?_⟩
      · have i1 : 1 ≤ i := Nat.pos_of_ne_zero (fun u => y (by rw [u]; rfl))
        obtain ⟨k1, k2, -⟩ := g3 i1
        have e41 : rd (xI h 41) 101 (-1) (nI (q i)) + 1 = nI (e i + 1) := by
          rw [iz_nI (q i), rd_in (by omega) (by show (q i : Int) < 101; omega)]
          show xI h 41 (q i) + 1 = _
          rw [hA.2.2 _ ql, if_pos k1, k2, nI_1]
        rw [e41]
        exact go
      · have i0 : i = 0 := (nI_eq (a := i) (b := 0) (by omega) (by omega)).1 y
        have e0 : e i = 0 := by rw [i0]; exact hB.2.1.2.1
        rw [e0] at go
        exact go
theorem s_X8_findFrom (n r a : Nat) (hnr : r + 9 ≤ n) (hna : a + 4 ≤ n) (hn : 43 ≤ n) (last lst : Nat) (od : Nat → Nat) (T : Nat → Nat → Nat) (h : XH) (hg : Geo h r a last lst od T) (hw : xWay (xP h)) (fm : Nat) (hfm : fm ≤ last) : XSpec mX8_findFrom 3 0 0 n n [.ref 39, .ref r, .ref a, .int (nI fm)] h (fun v h' => v = none ∧ wfr h h' ∧ Far1 od T last fm (xI h' 41)) xno := by
  have hl := hg.2.2.2.2.2.2.1
  have hT : ∀ s, s ≤ last → ∀ f, f ≤ 6 → T s f ≤ last := fun s hs f hf => (hg.2.2.2.2.2.2.2.2.2 s hs f hf).2
  refine XSpec.of rfl (by decide) (Nat.le_of_ble_eq_true rfl) rfl (v_X8_findFrom_0 n hw hn a hg.2.1 hna r hg.1 hnr (nI fm) ?_)
  have h4 : xI (xSI 39 (va_up (xI h 39) 4 0) (xSI 41 (fl 101 (-1) (xI h 41)) h)) 39 4 = nI 0 := by rw [xI_at, va_up_eq]; rfl
  refine ⟨_, s_X8_enqueue n (xSI 39 (va_up (xI h 39) 4 0) (xSI 41 (fl 101 (-1) (xI h 41)) h)) hw hn 0 (by omega) h4 (nI fm), ?_⟩
  rintro v1 h1 ⟨rfl, e1⟩
  refine ⟨rfl, ?_⟩
  have hf : wfr h h1 := by
    rw [e1]
    refine ⟨((xfs.SI (Or.inr (Or.inl (Eq.refl _)))).trans (xfs.SI (Or.inl (Eq.refl _)))).trans ((xfs.SI (Or.inr (Or.inr (Eq.refl _)))).trans (xfs.SI (Or.inl (Eq.refl _)))), fun j hj => ?_, Eq.refl _⟩
    rw [xI_at, va_up_of _ _ hj, xI_at, va_up_of _ _ hj]
  have hA : WAt h1 last 1 (fun _ => fm) (fun _ => 0) (fun _ => false) := by
    rw [e1]
    refine ⟨by rw [xI_at, va_up_eq], fun j hj => ?_, fun s hs => ?_⟩
    · have : j = 0 := by omega
      rw [xI_ne (show 42 ≠ 39 by decide), xI_at, this, va_up_eq]
    · rw [xI_ne (show 41 ≠ 39 by decide), xI_ne (show 41 ≠ 42 by decide), xI_ne (show 41 ≠ 39 by decide), xI_at]
      unfold fl
      rw [if_pos (by omega), if_neg (show ¬ (false = true) by decide)]
  refine l_from n r a hnr hna hn last lst od T hT fm (last + 2) 0 1 (fun _ => fm) (fun _ => 0) (fun _ => 0) (fun _ => false) h1 (by omega) (hg.way hf.1) (by rw [hf.2.2]; exact hw) (by omega) hA ⟨?_, ⟨rfl, rfl, hfm⟩, ?_, ?_, ?_, ?_, ?_, ?_, ?_⟩ (fun h' g1 g2 => ⟨rfl, hf.trans g1, g2⟩)
  · rw [sN_0 (last + 1) 0 (fun g _ _ => if_neg (show ¬ (false = true) by decide))]
  · intro j hj
    exact ⟨hfm, Nat.zero_le _, fun z => by omega⟩
  · intro s hs z; cases z
  · intro j hj; rfl
  · intro j1 j2 _ _; exact Nat.le_refl _
  · intro j _ _; exact Nat.zero_le _
  · intro j hj; exact absurd hj (Nat.not_lt_zero _)
  · intro f f1 f2; omega
