/-! THE REFERENCE: grains -/
def GeoM (h : XH) (last lst : Nat) (od : Nat → Nat) (T : Nat → Nat → Nat) : Prop :=
  xMod (xP h) ∧ xI h 59 0 = nI last ∧ 10 ≤ last ∧ last ≤ 100 ∧ Die od lst ∧ (∀ f, 1 ≤ f → f ≤ 6 → xI h 60 (f - 1) = nI (od f)) ∧ (∀ s, s ≤ last → ∀ f, f ≤ 6 → xI h 67 (101 * f + s) = nI (T s f) ∧ T s f ≤ last)
def PileM (h : XH) (last : Nat) (m : Nat → Nat) : Prop := ∀ j, j ≤ last → xL h 81 j = lN (m j)
theorem sN_od6 (od : Nat → Nat) : sN od 1 6 = od6 od := by
  simp [sN, od6]
  omega
theorem l_allOdds (od : Nat → Nat) (ho : ∀ f, 1 ≤ f → f ≤ 6 → od f ≤ 9) (h : XH) (hM : xMod (xP h)) (hod : ∀ f, 1 ≤ f → f ≤ 6 → xI h 60 (f - 1) = nI (od f)) {X : String → XH → Prop} : ∀ (k x : Nat), x + k = 6 → XW (xrm 1 0 0) mX11_allOdds (xE 100 (xq (some (.int (nI (od6 od)))) h) X 0 0) 100 0 0 h 4 [some (.ref 56), some (.int (nI (sN od 1 x))), some (.int (nI x))] [] := by
  intro k
  induction k with
  | zero =>
    intro x hx
    have : x = 6 := by omega
    subst this
    refine v_X11_allOdds_4 hM _ (nI 6) ⟨fun _ => ⟨?_, rfl⟩, fun c => absurd (show (6 : Int32) ≤ nI 6 by decide) c⟩
    rw [sN_od6]
  | succ k ih =>
    intro x hx
    refine v_X11_allOdds_4 hM _ (nI x) ⟨fun c => absurd c (nI_ge (a := x) (b := 6) (by omega) (by omega)), fun _ => ⟨vp_in_nI (by omega) (by omega), ?_⟩⟩
    have e := hod (x + 1) (by omega) (by omega)
    rw [Nat.add_sub_cancel] at e
    rw [nI_clamp (by omega), e, nI_add, nI_1]
    have e2 : sN od 1 x + od (x + 1) = sN od 1 (x + 1) := by rw [sN_last, Nat.add_comm 1 x]
    rw [e2]
    exact ih (x + 1) (by omega)
theorem s_X11_allOdds (od : Nat → Nat) (ho : ∀ f, 1 ≤ f → f ≤ 6 → od f ≤ 9) (h : XH) (hM : xMod (xP h)) (hod : ∀ f, 1 ≤ f → f ≤ 6 → xI h 60 (f - 1) = nI (od f)) : XSpec mX11_allOdds 1 0 0 100 100 [.ref 56] h (xq (some (.int (nI (od6 od)))) h) xno :=
  XSpec.of rfl (by decide) (Nat.le_of_ble_eq_true rfl) rfl (v_X11_allOdds_0 hM (l_allOdds od ho h hM hod 6 0 rfl))
theorem xfr1 {lo hi : Nat} {h h' : XH} (hf : xfr lo hi h h') {c : Nat} (hc : c < lo ∨ hi ≤ c) : xI h' c = xI h c := (hf c hc).1
theorem xMod.fr {lo hi : Nat} {h h' : XH} (hf : xfr lo hi h h') (hd : 56 < lo ∨ hi ≤ 56) (hM : xMod (xP h)) : xMod (xP h') := fun q hq => by rw [(hf 56 (by omega)).2.2]; exact hM q hq
theorem GeoM.fr {lo hi last lst : Nat} {od : Nat → Nat} {T : Nat → Nat → Nat} {h h' : XH} (hf : xfr lo hi h h') (hd : 68 ≤ lo ∨ hi ≤ 56) (hg : GeoM h last lst od T) : GeoM h' last lst od T := by
  obtain ⟨hM, g1, g4, g5, g6, g7, g8⟩ := hg
  have e1 := xfr1 hf (c := 59) (by omega)
  have e2 := xfr1 hf (c := 60) (by omega)
  have e3 := xfr1 hf (c := 67) (by omega)
  exact ⟨hM.fr hf (by omega), by rw [e1]; exact g1, g4, g5, g6, by rw [e2]; exact g7, by rw [e3]; exact g8⟩
theorem l_mpour (q : Nat) (hq : q ≤ 100) {Q : Option Value → XH → Prop} {X : String → XH → Prop} : ∀ (k x : Nat) (h : XH), x + k = 101 → xMod (xP h) → (∀ F : Nat → Int64, (∀ j, j < 101 → F j = if x ≤ j then lN (if q = j then 1000000000 else 0) else xL h 81 j) → Q none (xSL 81 F h)) → XW (xrm 1 0 0) mX11_pour (xE 100 Q X 0 0) 100 0 0 h 2 [some (.ref 56), some (.int (nI q)), some (.int (nI x))] [] := by
  intro k
  induction k with
  | zero =>
    intro x h hx hM hQ
    have : x = 101 := by omega
    subst this
    refine v_X11_pour_2 hM (nI q) (nI 101) ⟨fun _ => ?_, fun c => absurd (show (101 : Int32) ≤ nI 101 by decide) c⟩
    have := hQ (xL h 81) (fun j hj => by rw [if_neg (by omega)])
    rwa [xSL_self] at this
  | succ k ih =>
    intro x h hx hM hQ
    refine v_X11_pour_2 hM (nI q) (nI x) ⟨fun c => absurd c (nI_ge (a := x) (b := 101) (by omega) (by omega)), fun _ => ?_⟩
    have key : ∀ v : Int64, v = lN (if q = x then 1000000000 else 0) → XW (xrm 1 0 0) mX11_pour (xE 100 Q X 0 0) 100 0 0 (xSL 81 (va_up (xL h 81) (nI x).toNatClampNeg v) h) 2 [some (.ref 56), some (.int (nI q)), some (.int (nI x + 1))] [] := by
      intro v hv
      rw [nI_clamp (by omega), nI_1]
      refine ih (x + 1) _ (by omega) hM (fun F hF => ?_)
      rw [xSL_SL]
      refine hQ F (fun j hj => ?_)
      rw [hF j hj, xL_SL, if_pos rfl]
      unfold va_up
      by_cases c1 : j = x
      · subst c1
        rw [if_neg (by omega), if_pos rfl, if_pos (Nat.le_refl _), hv]
      · by_cases c2 : x ≤ j
        · rw [if_pos (by omega), if_pos c2]
        · rw [if_neg (by omega), if_neg c2, if_neg c1]
    refine ⟨fun c => ⟨vp_in_nI (by omega) (by omega), key 0 ?_⟩, fun c => ⟨vp_in_nI (by omega) (by omega), key 1000000000 ?_⟩⟩
    · rw [nI_eq (by omega) (by omega)] at c
      rw [if_neg (Ne.symm c)]
      rfl
    · rw [nI_eq (by omega) (by omega)] at c
      rw [if_pos c.symm]
      rfl
theorem s_X11_pour (last lst q : Nat) (h : XH) (od : Nat → Nat) (T : Nat → Nat → Nat) (hg : GeoM h last lst od T) (hq : q ≤ last) : XSpec mX11_pour 1 0 0 100 100 [.ref 56, .int (nI q)] h (fun v h' => v = none ∧ PileM h' last (mass last lst od T q 0) ∧ xfr 81 83 h h') xno := by
  obtain ⟨hM, g1, g4, g5, g6, g7, g8⟩ := hg
  refine XSpec.of rfl (by decide) (Nat.le_of_ble_eq_true rfl) rfl (v_X11_pour_0 hM (nI q) ?_)
  refine l_mpour q (by omega) 101 0 h rfl hM (fun F hF => ⟨rfl, fun j hj => ?_, xfr.SL (by omega) (by omega)⟩)
  rw [xL_SL, if_pos rfl, hF j (by omega), if_pos (Nat.zero_le _)]
  rfl
theorem s_X11_out (last lst : Nat) (h : XH) (od : Nat → Nat) (T : Nat → Nat → Nat) (m : Nat → Nat) (hg : GeoM h last lst od T) (hp : PileM h last m) (hm : m last ≤ 1000000000) : XSpec mX11_out 1 0 0 100 100 [.ref 56] h (xq (some (.long (lN (1000000000 - m last)))) h) xno := by
  obtain ⟨hM, g1, g4, g5, g6, g7, g8⟩ := hg
  refine XSpec.of rfl (by decide) (Nat.le_of_ble_eq_true rfl) rfl (v_X11_out_0 hM ?_)
  rw [g1]
  refine ⟨vp_in_nI (by omega) (by omega), ?_, rfl⟩
  rw [nI_clamp (by omega), hp last (Nat.le_refl _)]
  have e : (1000000000 : Int64) - lN (m last) = lN (1000000000 - m last) := lN_sub (a := 1000000000) hm
  rw [e]
