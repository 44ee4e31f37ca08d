/-! AN IMAGE: the reference -/
def cpd (h h' : XH) (dst src len : Nat → Nat) (k : Nat) : Prop := xP h' = xP h ∧ (∀ x, (∀ i, i < k → x ≠ dst i) → xI h' x = xI h x) ∧ ∀ i, i < k → ∀ j, j < len i → xI h' (dst i) j = xI h (src i) j
theorem cpd.step {h h1 h2 : XH} {dst src len : Nat → Nat} {k : Nat} (hc : cpd h h1 dst src len k) (e : h2 = xSI (dst k) (cpy0 (len k) (xI h1 (src k)) (xI h1 (dst k))) h1) (q1 : ∀ i, i < k → dst i ≠ dst k) (q2 : ∀ i, i < k → src k ≠ dst i) : cpd h h2 dst src len (k + 1) := by
  obtain ⟨c1, c2, c3⟩ := hc
  subst e
  refine ⟨c1, fun x hx => ?_, fun i hi j hj => ?_⟩
  · rw [xI_ne (hx k (by omega)), c2 x (fun i hi => hx i (by omega))]
  · by_cases z : i = k
    · subst z
      rw [xI_at]
      unfold cpy0
      rw [if_pos hj, c2 _ q2]
    · rw [xI_ne (q1 i (by omega)), c3 i (by omega) j hj]
def imgA (i : Nat) : Nat := if i = 0 then 71 else if i ≤ 5 then 71 + i else if i = 6 then 78 else if i = 7 then 87 else 65
def imgB (i : Nat) : Nat := 90 + i
def imgN (i : Nat) : Nat := if i = 0 then 4 else if i ≤ 6 then 200 else if i = 7 then 40 else 3
theorem imgA_ne : ∀ k, k < 9 → (∀ i, i < k → imgA i ≠ imgA k) ∧ ∀ i, i < k → imgB k ≠ imgA i := by decide
theorem imgB_ne : ∀ k, k < 9 → (∀ i, i < k → imgB i ≠ imgB k) ∧ ∀ i, i < k → imgA k ≠ imgB i := by decide
theorem imgA_in : ∀ k, k < 9 → 65 ≤ imgA k ∧ imgA k < 90 ∧ imgN k ≤ 200 := by decide
theorem m_be1 (i : Nat) {a9 c9 N9 : Nat} (ha : a9 = imgB i) (hc : c9 = imgA i) (hN : N9 = imgN i) (hi : i < 9) (ha9 : SH a9 = .inl (.int, N9)) (hc9 : SH c9 = .inl (.int, N9)) (h : XH) : XSpec mX11_be 1 0 0 100 100 [.ref a9, .ref c9] h (fun v h' => v = none ∧ h' = xSI (imgB i) (cpy0 (imgN i) (xI h (imgA i)) (xI h (imgB i))) h) xno := by
  subst ha hc hN
  have := imgA_in i hi
  exact m_be ha9 hc9 (by unfold imgB; omega) (by omega) (by unfold imgB; omega) (by omega) h
theorem m_be2 (i : Nat) {a9 c9 N9 : Nat} (ha : a9 = imgA i) (hc : c9 = imgB i) (hN : N9 = imgN i) (hi : i < 9) (ha9 : SH a9 = .inl (.int, N9)) (hc9 : SH c9 = .inl (.int, N9)) (h : XH) : XSpec mX11_be 1 0 0 100 100 [.ref a9, .ref c9] h (fun v h' => v = none ∧ h' = xSI (imgA i) (cpy0 (imgN i) (xI h (imgB i)) (xI h (imgA i))) h) xno := by
  subst ha hc hN
  have := imgA_in i hi
  exact m_be ha9 hc9 (by omega) (by unfold imgB; omega) (by unfold imgB; omega) (by omega) h
theorem s_X11_image {h : XH} {s : SG} (hM : MI h s) (hg : GoodS s) : XSpec mX11_image 2 0 0 100 100 [.ref 56] h (fun v h' => v = none ∧ xI h' 56 2 = 0 ∧ MI h' (sImg s) ∧ mch h h') xno := by
  have ht := hg.th
  have hn := hg.nn
  obtain ⟨M1, M2, M3, M4, ⟨M5, M6⟩, ⟨M7, M8⟩, M9, M10, M11⟩ := id hM
  obtain ⟨g1, g2, g3, g4, g5, g6, g7⟩ := id M4
  refine XSpec.of rfl (by decide) (Nat.le_of_ble_eq_true rfl) rfl (v_X11_image_0 hM.1 ⟨_, m_be1 0 rfl rfl rfl (by decide) rfl rfl _, ?_⟩)
  rw [xSI_SI, xSI_SI, xSI_SI, xSI_SI, va_up_of (j := 33) _ _ (by decide), va_up_of (j := 33) _ _ (by decide), va_up_of (j := 34) _ _ (by decide), va_up_of (j := 34) _ _ (by decide), va_up_of (j := 34) _ _ (by decide), va_up_of (j := 46) _ _ (by decide), va_up_of (j := 46) _ _ (by decide), va_up_of (j := 46) _ _ (by decide), va_up_of (j := 46) _ _ (by decide)]
  obtain ⟨F, hF⟩ : ∃ F, F = (va_up (va_up (va_up (va_up (va_up (xI h 56) 2 0) 50 1) 51 (xI h 56 33)) 52 (xI h 56 34)) 53 (xI h 56 46)) := ⟨_, rfl⟩
  rw [← hF]
  have F1 : ∀ j, ¬ (50 ≤ j ∧ j ≤ 53) → j ≠ 2 → F j = xI h 56 j := fun j q1 q2 => by rw [hF, va_up_of _ _ (by omega), va_up_of _ _ (by omega), va_up_of _ _ (by omega), va_up_of _ _ (by omega), va_up_of _ _ q2]
  have F2 : F 2 = 0 ∧ F 50 = 1 ∧ F 51 = xI h 56 33 ∧ F 52 = xI h 56 34 ∧ F 53 = xI h 56 46 := by
    rw [hF]; exact ⟨rfl, rfl, rfl, rfl, rfl⟩
  clear hF
  have k0 : cpd (xSI 56 F h) (xSI 56 F h) imgB imgA imgN 0 := ⟨rfl, fun _ _ => rfl, fun i hi => absurd hi (by omega)⟩
  rintro v h1 ⟨rfl, e⟩
  have k1 := k0.step e (imgB_ne 0 (by decide)).1 (imgB_ne 0 (by decide)).2
  refine ⟨rfl, by rw [k1.1]; exact hM.1 (55, 91) (by decide), by rw [k1.1]; exact hM.1 (26, 72) (by decide), _, m_be1 1 rfl rfl rfl (by decide) rfl rfl _, ?_⟩
  rintro v h2 ⟨rfl, e⟩
  have k2 := k1.step e (imgB_ne 1 (by decide)).1 (imgB_ne 1 (by decide)).2
  refine ⟨rfl, by rw [k2.1]; exact hM.1 (56, 92) (by decide), by rw [k2.1]; exact hM.1 (27, 73) (by decide), _, m_be1 2 rfl rfl rfl (by decide) rfl rfl _, ?_⟩
  rintro v h3 ⟨rfl, e⟩
  have k3 := k2.step e (imgB_ne 2 (by decide)).1 (imgB_ne 2 (by decide)).2
  refine ⟨rfl, by rw [k3.1]; exact hM.1 (57, 93) (by decide), by rw [k3.1]; exact hM.1 (28, 74) (by decide), _, m_be1 3 rfl rfl rfl (by decide) rfl rfl _, ?_⟩
  rintro v h4 ⟨rfl, e⟩
  have k4 := k3.step e (imgB_ne 3 (by decide)).1 (imgB_ne 3 (by decide)).2
  refine ⟨rfl, by rw [k4.1]; exact hM.1 (58, 94) (by decide), by rw [k4.1]; exact hM.1 (29, 75) (by decide), _, m_be1 4 rfl rfl rfl (by decide) rfl rfl _, ?_⟩
  rintro v h5 ⟨rfl, e⟩
  have k5 := k4.step e (imgB_ne 4 (by decide)).1 (imgB_ne 4 (by decide)).2
  refine ⟨rfl, by rw [k5.1]; exact hM.1 (59, 95) (by decide), by rw [k5.1]; exact hM.1 (30, 76) (by decide), _, m_be1 5 rfl rfl rfl (by decide) rfl rfl _, ?_⟩
  rintro v h6 ⟨rfl, e⟩
  have k6 := k5.step e (imgB_ne 5 (by decide)).1 (imgB_ne 5 (by decide)).2
  refine ⟨rfl, by rw [k6.1]; exact hM.1 (60, 96) (by decide), by rw [k6.1]; exact hM.1 (32, 78) (by decide), _, m_be1 6 rfl rfl rfl (by decide) rfl rfl _, ?_⟩
  rintro v h7 ⟨rfl, e⟩
  have k7 := k6.step e (imgB_ne 6 (by decide)).1 (imgB_ne 6 (by decide)).2
  refine ⟨rfl, by rw [k7.1]; exact hM.1 (61, 97) (by decide), by rw [k7.1]; exact hM.1 (45, 87) (by decide), _, m_be1 7 rfl rfl rfl (by decide) rfl rfl _, ?_⟩
  rintro v h8 ⟨rfl, e⟩
  have k8 := k7.step e (imgB_ne 7 (by decide)).1 (imgB_ne 7 (by decide)).2
  refine ⟨rfl, by rw [k8.1]; exact hM.1 (62, 98) (by decide), by rw [k8.1]; exact hM.1 (9, 65) (by decide), _, m_be1 8 rfl rfl rfl (by decide) rfl rfl _, ?_⟩
  rintro v h9 ⟨rfl, e⟩
  have k9 := k8.step e (imgB_ne 8 (by decide)).1 (imgB_ne 8 (by decide)).2
  obtain ⟨c1, c2, c3⟩ := k9
  have f : ∀ c, c ≠ 56 → ¬ (90 ≤ c ∧ c ≤ 98) → xI h9 c = xI h c := fun c q1 q2 => by
    rw [c2 c (fun i hi => by unfold imgB; omega), xI_ne q1]
  have f6 : xI h9 56 = F := by
    rw [c2 56 (fun i hi => by unfold imgB; omega), xI_at]
  have fs : ∀ i, i < 9 → ∀ j, j < imgN i → xI h9 (imgB i) j = xI h (imgA i) j := fun i hi j hj => by
    have := imgA_in i hi
    rw [c3 i hi j hj, xI_ne (by omega)]
  have fp : xP h9 = xP h := c1
  refine ⟨rfl, rfl, by rw [f6]; exact F2.1, ⟨by rw [fp]; exact M1, by rw [fp]; exact M2, M3.of (by rw [fp]) (fun c q1 q2 => f c (by omega) (by omega)), M4.of (by rw [f6]; exact F1 33 (by omega) (by omega)) (by rw [f6]; exact F1 34 (by omega) (by omega)) (by rw [f6]; exact F1 46 (by omega) (by omega)) (f _ (by omega) (by omega)) (fun k hk => f _ (by omega) (by omega)) (f _ (by omega) (by omega)) (f _ (by omega) (by omega)) (f _ (by omega) (by omega)), ⟨by rw [f6]; exact F2.2.1, fun _ => ⟨?_, ?_, ?_, ?_, ?_, ?_, ?_⟩⟩, ⟨by rw [f6, F1 38 (by omega) (by omega)]; exact M7, by rw [f 79 (by omega) (by omega)]; exact M8⟩, by rw [f6, F1 11 (by omega) (by omega)]; exact M9, by rw [f6, F1 20 (by omega) (by omega)]; exact M10, by rw [f 66 (by omega) (by omega)]; exact M11⟩, fun c hc => ⟨f c (by omega) (by omega), by rw [fp]⟩⟩
  · rw [f6, F2.2.2.1]; exact g1
  · rw [f6, F2.2.2.2.1]; exact g2
  · rw [f6, F2.2.2.2.2]; exact g3
  · intro q hq
    exact (fs 0 (by decide) q (show q < 4 from hq)).trans (g4 q hq)
  · intro i hi
    have hi' : i < gTh (sG s) := hi
    refine ⟨fun k hk => ?_, ?_⟩
    · have hN : imgN (k + 1) = 200 := by unfold imgN; rw [if_neg (by omega), if_pos (by omega)]
      have hA : imgA (k + 1) = 72 + k := by unfold imgA; rw [if_neg (by omega), if_pos (by omega)]; omega
      have := fs (k + 1) (by omega) i (by omega)
      rw [hA] at this
      have e9 : imgB (k + 1) = 91 + k := by unfold imgB; omega
      rw [e9] at this
      exact this.trans ((g5 i hi').1 k hk)
    · exact (fs 6 (by decide) i (show i < 200 by omega)).trans (g5 i hi').2
  · intro i hi
    have hi' : i < gNn (sG s) := hi
    exact (fs 7 (by decide) i (show i < 40 by omega)).trans (g6 i hi')
  · intro i hi
    exact (fs 8 (by decide) i (show i < 3 from hi)).trans (g7 i hi)
theorem s_X11_restore {h : XH} {s : SG} (hM : MI h s) (hg : GoodS s) : XSpec mX11_restore 2 0 0 100 100 [.ref 56] h (fun v h' => v = some (.int (nI (sH s))) ∧ xI h' 56 2 = 0 ∧ MI h' (sRes s) ∧ mch h h') xno := by
  obtain ⟨M1, M2, M3, M4, ⟨M5, M6⟩, ⟨M7, M8⟩, M9, M10, M11⟩ := id hM
  have hH : sH s ≤ 1 := by
    rcases hg.2.2.1 with z | z
    · omega
    · omega
  refine XSpec.of rfl (by decide) (Nat.le_of_ble_eq_true rfl) rfl (v_X11_restore_0 hM.1 ?_)
  rw [va_up_of (j := 50) _ _ (by decide), M5]
  refine ⟨fun c => ?_, fun c => ?_⟩
  rotate_left
  · have z : sH s = 0 := (nI_eq (b := 0) (by omega) (by omega)).1 c
    obtain ⟨r1, r2, r3⟩ := m_code hM 0
    unfold sRes
    rw [z, if_neg (by decide)]
    exact ⟨rfl, r3, r1, r2⟩
  have z : sH s = 1 := by
    have : sH s ≠ 0 := fun y => c (by rw [y]; rfl)
    omega
  have hgi : GoodGD (sB s) (sI s) := by
    rcases hg.2.2.1 with y | y
    · omega
    · exact y.2
  have ht := hgi.2.1
  have hn := hgi.2.2.1
  obtain ⟨g1, g2, g3, g4, g5, g6, g7⟩ := M6 z
  refine ⟨_, m_be2 0 rfl rfl rfl (by decide) rfl rfl _, ?_⟩
  rw [xSI_SI, xSI_SI, xSI_SI, va_up_of (j := 51) _ _ (by decide), va_up_of (j := 52) _ _ (by decide), va_up_of (j := 52) _ _ (by decide), va_up_of (j := 53) _ _ (by decide), va_up_of (j := 53) _ _ (by decide), va_up_of (j := 53) _ _ (by decide)]
  obtain ⟨F, hF⟩ : ∃ F, F = (va_up (va_up (va_up (va_up (xI h 56) 2 0) 33 (xI h 56 51)) 34 (xI h 56 52)) 46 (xI h 56 53)) := ⟨_, rfl⟩
  rw [← hF]
  have F1 : ∀ j, j ≠ 33 → j ≠ 34 → j ≠ 46 → j ≠ 2 → F j = xI h 56 j := fun j q1 q2 q3 q4 => by rw [hF, va_up_of _ _ q3, va_up_of _ _ q2, va_up_of _ _ q1, va_up_of _ _ q4]
  have F2 : F 2 = 0 ∧ F 33 = xI h 56 51 ∧ F 34 = xI h 56 52 ∧ F 46 = xI h 56 53 := by
    rw [hF]; exact ⟨rfl, rfl, rfl, rfl⟩
  clear hF
  have k0 : cpd (xSI 56 F h) (xSI 56 F h) imgA imgB imgN 0 := ⟨rfl, fun _ _ => rfl, fun i hi => absurd hi (by omega)⟩
  rintro v h1 ⟨rfl, e⟩
  have k1 := k0.step e (imgA_ne 0 (by decide)).1 (imgA_ne 0 (by decide)).2
  refine ⟨rfl, by rw [k1.1]; exact hM.1 (26, 72) (by decide), by rw [k1.1]; exact hM.1 (55, 91) (by decide), _, m_be2 1 rfl rfl rfl (by decide) rfl rfl _, ?_⟩
  rintro v h2 ⟨rfl, e⟩
  have k2 := k1.step e (imgA_ne 1 (by decide)).1 (imgA_ne 1 (by decide)).2
  refine ⟨rfl, by rw [k2.1]; exact hM.1 (27, 73) (by decide), by rw [k2.1]; exact hM.1 (56, 92) (by decide), _, m_be2 2 rfl rfl rfl (by decide) rfl rfl _, ?_⟩
  rintro v h3 ⟨rfl, e⟩
  have k3 := k2.step e (imgA_ne 2 (by decide)).1 (imgA_ne 2 (by decide)).2
  refine ⟨rfl, by rw [k3.1]; exact hM.1 (28, 74) (by decide), by rw [k3.1]; exact hM.1 (57, 93) (by decide), _, m_be2 3 rfl rfl rfl (by decide) rfl rfl _, ?_⟩
  rintro v h4 ⟨rfl, e⟩
  have k4 := k3.step e (imgA_ne 3 (by decide)).1 (imgA_ne 3 (by decide)).2
  refine ⟨rfl, by rw [k4.1]; exact hM.1 (29, 75) (by decide), by rw [k4.1]; exact hM.1 (58, 94) (by decide), _, m_be2 4 rfl rfl rfl (by decide) rfl rfl _, ?_⟩
  rintro v h5 ⟨rfl, e⟩
  have k5 := k4.step e (imgA_ne 4 (by decide)).1 (imgA_ne 4 (by decide)).2
  refine ⟨rfl, by rw [k5.1]; exact hM.1 (30, 76) (by decide), by rw [k5.1]; exact hM.1 (59, 95) (by decide), _, m_be2 5 rfl rfl rfl (by decide) rfl rfl _, ?_⟩
  rintro v h6 ⟨rfl, e⟩
  have k6 := k5.step e (imgA_ne 5 (by decide)).1 (imgA_ne 5 (by decide)).2
  refine ⟨rfl, by rw [k6.1]; exact hM.1 (32, 78) (by decide), by rw [k6.1]; exact hM.1 (60, 96) (by decide), _, m_be2 6 rfl rfl rfl (by decide) rfl rfl _, ?_⟩
  rintro v h7 ⟨rfl, e⟩
  have k7 := k6.step e (imgA_ne 6 (by decide)).1 (imgA_ne 6 (by decide)).2
  refine ⟨rfl, by rw [k7.1]; exact hM.1 (45, 87) (by decide), by rw [k7.1]; exact hM.1 (61, 97) (by decide), _, m_be2 7 rfl rfl rfl (by decide) rfl rfl _, ?_⟩
  rintro v h8 ⟨rfl, e⟩
  have k8 := k7.step e (imgA_ne 7 (by decide)).1 (imgA_ne 7 (by decide)).2
  refine ⟨rfl, by rw [k8.1]; exact hM.1 (9, 65) (by decide), by rw [k8.1]; exact hM.1 (62, 98) (by decide), _, m_be2 8 rfl rfl rfl (by decide) rfl rfl _, ?_⟩
  rintro v h9 ⟨rfl, e⟩
  have k9 := k8.step e (imgA_ne 8 (by decide)).1 (imgA_ne 8 (by decide)).2
  obtain ⟨c1, c2, c3⟩ := k9
  have hA9 : ∀ c, ¬ (71 ≤ c ∧ c ≤ 78) → c ≠ 87 → c ≠ 65 → ∀ i, i < 9 → c ≠ imgA i := fun c q1 q2 q3 i hi => by
    have : ∀ i, i < 9 → (71 ≤ imgA i ∧ imgA i ≤ 78) ∨ imgA i = 87 ∨ imgA i = 65 := by decide
    have := this i hi
    omega
  have f : ∀ c, c ≠ 56 → ¬ (71 ≤ c ∧ c ≤ 78) → c ≠ 87 → c ≠ 65 → xI h9 c = xI h c := fun c q1 q2 q3 q4 => by
    rw [c2 c (hA9 c q2 q3 q4), xI_ne q1]
  have f6 : xI h9 56 = F := by
    rw [c2 56 (hA9 56 (by omega) (by omega) (by omega)), xI_at]
  have fs : ∀ i, i < 9 → ∀ j, j < imgN i → xI h9 (imgA i) j = xI h (imgB i) j := fun i hi j hj => by
    rw [c3 i hi j hj, xI_ne (by unfold imgB; omega)]
  have fp : xP h9 = xP h := c1
  unfold sRes
  rw [if_pos z, z]
  refine ⟨rfl, rfl, by rw [f6]; exact F2.1, hM.game _ (fun c q1 q2 q3 q4 _ => f c q1 q2 q3 q4) (fun j q1 q2 q3 q4 => by rw [f6]; exact F1 j q2 q3 q4 (fun y => q1 (Or.inl y))) (fun c _ => by rw [fp]) ⟨?_, ?_, ?_, ?_, ?_, ?_, ?_⟩, fun c hc => ⟨f c (by omega) (by omega) (by omega) (by omega), by rw [fp]⟩⟩
  · rw [f6, F2.2.1]; exact g1
  · rw [f6, F2.2.2.1]; exact g2
  · rw [f6, F2.2.2.2]; exact g3
  · intro q hq
    exact (fs 0 (by decide) q (show q < 4 from hq)).trans (g4 q hq)
  · intro i hi
    have hi' : i < gTh (sI s) := hi
    refine ⟨fun k hk => ?_, ?_⟩
    · have hN : imgN (k + 1) = 200 := by unfold imgN; rw [if_neg (by omega), if_pos (by omega)]
      have hA : imgA (k + 1) = 72 + k := by unfold imgA; rw [if_neg (by omega), if_pos (by omega)]; omega
      have := fs (k + 1) (by omega) i (by omega)
      rw [hA] at this
      have e9 : imgB (k + 1) = 91 + k := by unfold imgB; omega
      rw [e9] at this
      exact this.trans ((g5 i hi').1 k hk)
    · exact (fs 6 (by decide) i (show i < 200 by omega)).trans (g5 i hi').2
  · intro i hi
    have hi' : i < gNn (sI s) := hi
    exact (fs 7 (by decide) i (show i < 40 by omega)).trans (g6 i hi')
  · intro i hi
    exact (fs 8 (by decide) i (show i < 3 from hi)).trans (g7 i hi)
theorem sImg_good {s : SG} (h : GoodS s) : GoodS (sImg s) := ⟨h.1, h.2.1, Or.inr ⟨rfl, h.2.1⟩, h.2.2.2⟩
theorem sRes_good {s : SG} (h : GoodS s) : GoodS (sRes s) := by
  unfold sRes
  split
  · rename_i z
    rcases h.2.2.1 with y | y
    · omega
    · exact sGm_good h y.2
  · exact h
