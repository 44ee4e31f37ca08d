/-! WAYS: the row that is kept -/
def RowK (od : Nat → Nat) (T : Nat → Nat → Nat) (A : Nat → Int32) : Nat → Nat → Nat → (Nat → Int32) → Prop
  | 0, _, _, _ => True
  | c + 1, i, s, R => ∃ f, NearF od T A s f ∧ R i = nI f ∧ RowK od T A c (i + 1) (T s f) R
theorem l_keep (n r a : Nat) (hnr : r + 9 ≤ n) (hna : a + 4 ≤ n) (hn : 43 ≤ n) (last lst : Nat) (od : Nat → Nat) (T : Nat → Nat → Nat) (m : Nat) (hm : m ≤ 100) (A : Nat → Int32) (hA : Far od T last last A) {Q : Option Value → XH → Prop} {X : String → XH → Prop} : ∀ (c i s : Nat) (h : XH), i + c = m → s ≤ last → Geo h r a last lst od T → xWay (xP h) → xI h 41 = A → A s = nI c →
    (∀ R : Nat → Int32, (∀ j, j < i → R j = xI h 40 j) → RowK od T A c i s R → Q (some (.int (nI m))) (xSI 40 R h)) →
    XW (xrm 3 0 0) mX8_keepFewest (xE n Q X 0 0) n 0 0 h 27 [some (.ref 39), some (.ref r), some (.ref a), none, some (.int (nI m)), some (.int (nI s)), some (.int (nI i)), none] [] := by
  intro c
  induction c with
  | zero =>
    intro i s h hx hs hg hw hA1 hd hQ
    have : i = m := by omega
    subst this
    refine v_X8_keepFewest_27 n hw hn a hg.2.1 hna r hg.1 hnr _ _ (nI i) ⟨fun _ => ?_, fun c => absurd (nI_le (Nat.le_refl _) (by omega)) c⟩
    have := hQ (xI h 40) (fun _ _ => rfl) True.intro
    rwa [xSI_self] at this
  | succ c ih =>
    intro i s h hx hs hg hw hA1 hd hQ
    have hl := hg.2.2.2.2.2.2.1
    have hT : ∀ s, s ≤ last → ∀ f, f ≤ 6 → T s f ≤ last := fun s hs f hf => (hg.2.2.2.2.2.2.2.2.2 s hs f hf).2
    obtain ⟨f0, f1, f2, f3, f4⟩ := hA.near hl hT hs hd (by omega)
    have em : A s - 1 = nI c := by
      rw [hd]
      have : nI (c + 1) - 1 = nI (c + 1) - nI 1 := rfl
      rw [this, pk_sub (by omega), Nat.add_sub_cancel]
    refine v_X8_keepFewest_27 n hw hn a hg.2.1 hna r hg.1 hnr _ _ (nI i) ⟨fun z => absurd z (nI_ge (by omega) (by omega)), fun _ => ⟨fun z => absurd z (nI_ge (a := i) (b := 101) (by omega) (by omega)), fun _ => ⟨_, s_X8_faceNearer n r a hnr hna hn last lst od T h hg hw s hs ⟨f0, f1, f2, f3, by rw [hA1, em]; exact f4⟩, ?_⟩⟩⟩
    rintro v1 h1 ⟨e1, f, rfl, hf⟩
    subst h1
    rw [hA1] at hf
    obtain ⟨g1, g2, ⟨g3, g4⟩, g5⟩ := hf
    refine ⟨_, rfl, hw.1, vp_in_nI (by omega) (by omega), ?_⟩
    rw [nI_clamp (by omega)]
    refine ⟨_, s_X3_to n (xSI 40 (va_up (xI h 40) i (nI f)) h) a hg.2.1 hna (nI s) (nI f), ?_⟩
    rintro v2 h2 ⟨rfl, e2⟩
    have c1 := hg.1.1
    have c2 := hg.2.1.1
    have hfs : xfs (fun c => c = 40) h (xSI 40 (va_up (xI h 40) i (nI f)) h) := xfs.SI rfl
    obtain ⟨t1, t2⟩ := geo_to hg hs g2
    have e3 : rd (xI (xSI 40 (va_up (xI h 40) i (nI f)) h) (a + 3)) 707 0 (nI s * 7 + nI f) = nI (T s f) := by
      rw [xI_ne (by omega)]; exact t1
    refine ⟨_, rfl, ?_⟩
    rw [e3, nI_1, e2]
    refine ih (i + 1) (T s f) _ (by omega) t2 (hg.fs hfs (by omega) (by omega) (by omega) (by omega) (by omega)) hw hA1 (by rw [g4]; exact em) (fun R k1 k2 => ?_)
    rw [xSI_SI]
    refine hQ R (fun j hj => ?_) ⟨f, ⟨g1, g2, ⟨g3, g4⟩, g5⟩, ?_, k2⟩
    · rw [k1 j (by omega), xI_at, va_up_of _ _ (by omega)]
    · rw [k1 i (by omega), xI_at, va_up_eq]
theorem s_X8_keepFewest (n r a : Nat) (hnr : r + 9 ≤ n) (hna : a + 4 ≤ n) (hn : 43 ≤ n) (last lst : Nat) (od : Nat → Nat) (T : Nat → Nat → Nat) (h : XH) (hg : Geo h r a last lst od T) (hw : xWay (xP h)) (hA : Far od T last last (xI h 41)) (s : Nat) (hs : s ≤ last) : XSpec mX8_keepFewest 3 0 0 n n [.ref 39, .ref r, .ref a, .int (nI s)] h (fun v h' => (xI h 41 s = -1 ∧ v = some (.int (-1)) ∧ h' = h) ∨ (∃ m R, xI h 41 s = nI m ∧ m ≤ last ∧ v = some (.int (nI m)) ∧ RowK od T (xI h 41) m 0 s R ∧ h' = xSI 40 R (xSI 39 (va_up (xI h 39) 0 (nI m)) h))) xno := by
  have hl := hg.2.2.2.2.2.2.1
  have c1 := hg.1.1
  have c2 := hg.2.1.1
  have e41 : rd (xI h 41) 101 (-1) (nI s) = xI h 41 s := by
    rw [iz_nI, rd_in (by omega) (by show (s : Int) < 101; omega)]; rfl
  refine XSpec.of rfl (by decide) (Nat.le_of_ble_eq_true rfl) rfl (v_X8_keepFewest_0 n hw hn a hg.2.1 hna r hg.1 hnr (nI s) ?_)
  rw [e41]
  refine ⟨fun z => ?_, fun z => Or.inl ⟨z, rfl, rfl⟩⟩
  rcases hA s hs with ⟨m, a1, a2, -, -⟩ | ⟨a1, -⟩
  · rw [a1]
    have hfs : xfs (fun c => c = 39) h (xSI 39 (va_up (xI h 39) 0 (nI m)) h) := xfs.SI rfl
    exact l_keep n r a hnr hna hn last lst od T m (by omega) (xI h 41) hA m 0 s _ (by omega) hs (hg.fs hfs (by omega) (by omega) (by omega) (by omega) (by omega)) hw rfl a1 (fun R _ k2 => Or.inr ⟨m, R, rfl, a2, rfl, k2, rfl⟩)
  · exact absurd a1 z
