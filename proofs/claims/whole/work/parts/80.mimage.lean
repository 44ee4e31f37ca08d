/-! AN IMAGE: image, restore -/
def sImg (s : SG) : SG := (sB s, sG s, (1, sG s), s.2.2.2)
def sRes (s : SG) : SG := if sH s = 1 then sGm s (sI s) else s
theorem c_takeA {h : XH} {r : Nat} {s : SG} (hC : CI h r s) (hg : GoodS s) : XSpec mX7_takeFrom 1 0 0 100 100 [.ref 34, .ref 29] h (fun v h' => v = none ∧ (∀ c, ¬ (34 ≤ c ∧ c ≤ 38) → xI h' c = xI h c) ∧ xP h' = xP h ∧ CGm h' 34 (sB s) (sG s)) xno := by
  have ht := hg.th
  have hn := hg.nn
  obtain ⟨g1, g2, g3, g4, g5, g6, g7, g8⟩ := hC.gm
  refine XSpec.of rfl (by decide) (Nat.le_of_ble_eq_true rfl) rfl (v_X7_takeFroma_0 r hC.bp ⟨rfl, fun c hc => ?_, rfl, ?_⟩)
  · rw [xI_ne (by omega), xI_ne (by omega), xI_ne (by omega), xI_ne (by omega), xI_ne (by omega), xI_ne (by omega), xI_ne (by omega), xI_ne (by omega)]
  · refine ⟨?_, ?_, ?_, ?_, fun p hp => ?_, fun i hi k hk => ?_, fun i hi => ?_, fun i hi => ?_⟩
    · rw [xI_ne (by decide), xI_ne (by decide), xI_ne (by decide), xI_ne (by decide), xI_at, va_up_of _ _ (by decide), va_up_of _ _ (by decide), va_up_of _ _ (by decide), va_up_eq, g1]
    · rw [xI_ne (by decide), xI_ne (by decide), xI_ne (by decide), xI_ne (by decide), xI_at, va_up_of _ _ (by decide), va_up_of _ _ (by decide), va_up_eq, g2]
    · rw [xI_ne (by decide), xI_ne (by decide), xI_ne (by decide), xI_ne (by decide), xI_at, va_up_of _ _ (by decide), va_up_eq, g3]
    · rw [xI_ne (by decide), xI_ne (by decide), xI_ne (by decide), xI_ne (by decide), xI_at, va_up_eq, g4]
    · rw [xI_ne (by decide), xI_ne (by decide), xI_ne (by decide), xI_at]
      unfold cpy0
      rw [if_pos hp, g5 p hp]
    · rw [xI_ne (by decide), xI_ne (by decide), xI_at]
      unfold cpy0
      rw [if_pos (by omega), g6 i hi k hk]
    · rw [xI_ne (by decide), xI_at]
      unfold cpy0
      rw [if_pos (by omega), g7 i hi]
    · rw [xI_at]
      unfold cpy0
      rw [if_pos hi, g8 i hi]
theorem c_takeB {h : XH} {r : Nat} {s : SG} (hC : CI h r s) (hg : GoodS s) (hH : sH s = 1) : XSpec mX7_takeFrom 1 0 0 100 100 [.ref 29, .ref 34] h (fun v h' => v = none ∧ (∀ c, ¬ (29 ≤ c ∧ c ≤ 33) → xI h' c = xI h c) ∧ xP h' = xP h ∧ CGm h' 29 (sB s) (sI s)) xno := by
  have hgi : GoodGD (sB s) (sI s) := by
    rcases hg.2.2.1 with z | z
    · omega
    · exact z.2
  have ht := hgi.2.1
  have hn := hgi.2.2.1
  obtain ⟨g1, g2, g3, g4, g5, g6, g7, g8⟩ := hC.2.2.2.1.2 hH
  refine XSpec.of rfl (by decide) (Nat.le_of_ble_eq_true rfl) rfl (v_X7_takeFromb_0 r hC.bp ⟨rfl, fun c hc => ?_, rfl, ?_⟩)
  · rw [xI_ne (by omega), xI_ne (by omega), xI_ne (by omega), xI_ne (by omega), xI_ne (by omega), xI_ne (by omega), xI_ne (by omega), xI_ne (by omega)]
  · refine ⟨?_, ?_, ?_, ?_, fun p hp => ?_, fun i hi k hk => ?_, fun i hi => ?_, fun i hi => ?_⟩
    · rw [xI_ne (by decide), xI_ne (by decide), xI_ne (by decide), xI_ne (by decide), xI_at, va_up_of _ _ (by decide), va_up_of _ _ (by decide), va_up_of _ _ (by decide), va_up_eq, g1]
    · rw [xI_ne (by decide), xI_ne (by decide), xI_ne (by decide), xI_ne (by decide), xI_at, va_up_of _ _ (by decide), va_up_of _ _ (by decide), va_up_eq, g2]
    · rw [xI_ne (by decide), xI_ne (by decide), xI_ne (by decide), xI_ne (by decide), xI_at, va_up_of _ _ (by decide), va_up_eq, g3]
    · rw [xI_ne (by decide), xI_ne (by decide), xI_ne (by decide), xI_ne (by decide), xI_at, va_up_eq, g4]
    · rw [xI_ne (by decide), xI_ne (by decide), xI_ne (by decide), xI_at]
      unfold cpy0
      rw [if_pos hp, g5 p hp]
    · rw [xI_ne (by decide), xI_ne (by decide), xI_at]
      unfold cpy0
      rw [if_pos (by omega), g6 i hi k hk]
    · rw [xI_ne (by decide), xI_at]
      unfold cpy0
      rw [if_pos (by omega), g7 i hi]
    · rw [xI_at]
      unfold cpy0
      rw [if_pos hi, g8 i hi]
theorem s_X10_image {h : XH} {r : Nat} {s : SG} (hC : CI h r s) (hg : GoodS s) : XSpec mX10_image 2 0 0 100 100 [.ref 0] h (fun v h' => v = none ∧ CI h' r (sImg s) ∧ cch h h') xno := by
  have hr := hC.r
  refine XSpec.of rfl (by decide) (Nat.le_of_ble_eq_true rfl) rfl (v_X10_image_0 r hC.bp ⟨_, c_takeA hC hg, ?_⟩)
  rintro v h1 ⟨rfl, k1, k2, k3⟩
  obtain ⟨c1, c2, c3, ⟨c4, c5⟩, c6, c7, c8⟩ := id hC
  have f : ∀ c, c ≠ 0 → xI (xSI 0 (va_up (xI h1 0) 9 1) h1) c = xI h1 c := fun c q => xI_ne q
  have f0 : ∀ c, c ≠ 0 → ¬ (34 ≤ c ∧ c ≤ 38) → xI (xSI 0 (va_up (xI h1 0) 9 1) h1) c = xI h c := fun c q1 q2 => (f c q1).trans (k1 c q2)
  have f1 : ∀ j, j ≠ 9 → xI (xSI 0 (va_up (xI h1 0) 9 1) h1) 0 j = xI h 0 j := fun j q => by rw [xI_at, va_up_of _ _ q, k1 0 (by omega)]
  have fp : xP (xSI 0 (va_up (xI h1 0) 9 1) h1) = xP h := k2
  refine ⟨rfl, rfl, ⟨by rw [fp]; exact c1, c2.of (h := h) (fun c _ => by rw [fp]) (fun c hc => f0 c (by omega) (by omega)), c3.of (h := h) (fun c q1 q2 => f0 c (by omega) (by omega)), ⟨by rw [xI_at, va_up_eq]; rfl, fun _ => k3.of (h := h1) (fun c q1 q2 => f c (by omega))⟩, ?_, ?_, ?_⟩, fun c q => ⟨f0 c (by omega) (by omega), by rw [fp]⟩⟩
  · unfold CKr at *
    rw [f0 39 (by omega) (by omega), f0 40 (by omega) (by omega)]; exact c6
  · unfold CTp at *
    rw [f1 1 (by omega), f1 2 (by omega), f0 1 (by omega) (by omega)]; exact c7
  · exact c8
theorem s_X10_restore {h : XH} {r : Nat} {s : SG} (hC : CI h r s) (hg : GoodS s) : XSpec mX10_restore 2 0 0 100 100 [.ref 0] h (fun v h' => v = some (.int (nI (sH s))) ∧ CI h' r (sRes s) ∧ cch h h') xno := by
  have hr := hC.r
  have e0 := hC.2.2.2.1.1
  have hH : sH s ≤ 1 := by
    rcases hg.2.2.1 with z | z
    · omega
    · omega
  refine XSpec.of rfl (by decide) (Nat.le_of_ble_eq_true rfl) rfl (v_X10_restore_0 r hC.bp ⟨fun c => ?_, fun c => ?_⟩)
  · rw [e0] at c ⊢
    have z : sH s = 0 := (nI_eq (b := 0) (by omega) (by omega)).1 c
    unfold sRes
    rw [z, if_neg (by decide)]
    exact ⟨rfl, rfl, hC, cch.rfl⟩
  · rw [e0] at c
    have z : sH s = 1 := by
      have : sH s ≠ 0 := fun y => c (by rw [y]; rfl)
      omega
    refine ⟨_, c_takeB hC hg z, ?_⟩
    rintro v h1 ⟨rfl, k1, k2, k3⟩
    have e1 : xI h1 0 9 = 1 := by rw [k1 0 (by omega), e0, z]; rfl
    rw [e1]
    unfold sRes
    rw [if_pos z, z]
    exact ⟨rfl, rfl, rfl, hC.game _ k1 k2 k3, fun c q => ⟨k1 c (by omega), by rw [k2]⟩⟩
/-! the reference -/
theorem m_be {n a9 c9 N9 : Nat} (ha9 : SH a9 = .inl (.int, N9)) (hc9 : SH c9 = .inl (.int, N9)) (han : a9 < n) (hcn : c9 < n) (hac : a9 ≠ c9) (hN : N9 < 2 ^ 31) (h : XH) : XSpec mX11_be 1 0 0 n n [.ref a9, .ref c9] h (fun v h' => v = none ∧ h' = xSI a9 (cpy0 N9 (xI h c9) (xI h a9)) h) xno := by
  refine XSpec.of rfl (by decide) (Nat.le_of_ble_eq_true rfl) rfl (v_X11_be_0 n a9 c9 N9 ha9 hc9 han hcn ?_)
  have key : ∀ (k i : Nat), i + k = N9 → XW (xrm 1 0 0) mX11_be (xE n (fun v h' => v = none ∧ h' = xSI a9 (cpy0 N9 (xI h c9) (xI h a9)) h) xno 0 0) n 0 0 (xSI a9 (cpy0 i (xI h c9) (xI h a9)) h) 2 [some (.ref a9), some (.ref c9), some (.int (nI i))] [] := by
    intro k
    induction k with
    | zero =>
      intro i hi
      have : i = N9 := by omega
      subst this
      refine v_X11_be_2 n a9 c9 i ha9 hc9 han hcn (nI i) ⟨fun _ => ⟨rfl, rfl⟩, fun c => absurd (nI_le (Nat.le_refl _) (by omega)) c⟩
    | succ k ih =>
      intro i hi
      refine v_X11_be_2 n a9 c9 N9 ha9 hc9 han hcn (nI i) ⟨fun c => absurd c (nI_ge (by omega) (by omega)), fun _ => ?_⟩
      rw [nI_clamp (by omega), xI_at, xI_ne (fun z => hac z.symm), xSI_SI, nI_1]
      refine ⟨vp_in_nI (by omega) (by omega), vp_in_nI (by omega) (by omega), ?_⟩
      have e : va_up (cpy0 i (xI h c9) (xI h a9)) i (xI h c9 i) = cpy0 (i + 1) (xI h c9) (xI h a9) := by
        funext j
        unfold cpy0
        by_cases z : j = i
        · rw [z, va_up_eq, if_pos (by omega)]
        · rw [va_up_of _ _ z]
          by_cases y : j < i
          · rw [if_pos y, if_pos (by omega)]
          · rw [if_neg y, if_neg (by omega)]
      rw [e]
      exact ih (i + 1) (by omega)
  have e0 : cpy0 0 (xI h c9) (xI h a9) = xI h a9 := by
    funext j
    exact if_neg (by omega)
  have := key N9 0 (by omega)
  rw [e0, xSI_self] at this
  exact this
