/-! THE REFERENCE: a throw of all grains -/
/-- what a square gives, as the reference shares it out: by all faces, and what is left -/
theorem shcN_all {T p : Nat → Nat} {lst here j : Nat} (h1 : 1 ≤ lst) (h2 : lst ≤ 6) (h0 : ∀ g, 1 ≤ g → g < lst → p g = 0) (hle : sN p 1 6 ≤ here) : sN (fun g => if T g = j then p g else 0) 1 6 + (if T lst = j then here - sN p 1 6 else 0) = shcN T p lst here j := by
  have split : ∀ f : Nat → Nat, (∀ g, 1 ≤ g → g < lst → f g = 0) → sN f 1 6 = f lst + sN f (lst + 1) (6 - lst) := by
    intro f hf
    rcases (show lst = 1 ∨ lst = 2 ∨ lst = 3 ∨ lst = 4 ∨ lst = 5 ∨ lst = 6 by omega) with rfl | rfl | rfl | rfl | rfl | rfl
    · simp [sN]
    · simp [sN, hf 1 (by omega) (by omega)]
    · simp [sN, hf 1 (by omega) (by omega), hf 2 (by omega) (by omega)]
    · simp [sN, hf 1 (by omega) (by omega), hf 2 (by omega) (by omega), hf 3 (by omega) (by omega)]
    · simp [sN, hf 1 (by omega) (by omega), hf 2 (by omega) (by omega), hf 3 (by omega) (by omega), hf 4 (by omega) (by omega)]
    · simp [sN, hf 1 (by omega) (by omega), hf 2 (by omega) (by omega), hf 3 (by omega) (by omega), hf 4 (by omega) (by omega), hf 5 (by omega) (by omega)]
  have e1 := split p h0
  have e2 := split (fun g => if T g = j then p g else 0) (fun g g1 g2 => by rw [h0 g g1 g2]; split <;> rfl)
  unfold shcN
  rw [e2, e1]
  rw [e1] at hle
  by_cases c : T lst = j
  · rw [if_pos c, if_pos c, if_pos c]
    omega
  · rw [if_neg c, if_neg c, if_neg c]
    omega
theorem xL_at {a : Nat} {f : Nat → Int64} {h : XH} : xL (xSL a f h) a = f := va_up_eq _ _ _
theorem xL_ne {a b : Nat} {f : Nat → Int64} {h : XH} (hb : b ≠ a) : xL (xSL a f h) b = xL h b := va_up_of _ _ hb
theorem xI_at {a : Nat} {f : Nat → Int32} {h : XH} : xI (xSI a f h) a = f := va_up_eq _ _ _
theorem xI_ne {a b : Nat} {f : Nat → Int32} {h : XH} (hb : b ≠ a) : xI (xSI a f h) b = xI h b := va_up_of _ _ hb
theorem m67 (f s : Nat) : (101 : Int32) * nI f + nI s = nI (101 * f + s) := by
  have : (101 : Int32) = nI 101 := rfl
  rw [this, pk_mul, nI_add]
theorem l_mclear {last : Nat} (hl1 : last ≤ 100) (all : Int32) (lst : Nat) {Q : Option Value → XH → Prop} {X : String → XH → Prop} : ∀ (k x : Nat) (h : XH), x + k = last + 1 → xMod (xP h) → xI h 59 0 = nI last →
    (∀ F : Nat → Int64, (∀ j, j ≤ last → F j = if j = last then xL h 81 last else if x ≤ j then 0 else xL h 82 j) → XW (xrm 2 0 0) mX11_share (xE 100 Q X 0 0) 100 0 0 (xSL 82 F h) 73 [some (.ref 56), some (.int all), some (.int (nI lst)), some (.int 0), none, none, none, none, none] []) →
    XW (xrm 2 0 0) mX11_share (xE 100 Q X 0 0) 100 0 0 h 26 [some (.ref 56), some (.int all), some (.int (nI lst)), some (.int (nI x)), none, none, none, none, none] [] := by
  intro k
  induction k with
  | zero =>
    intro x h hx hM hl hQ
    have : x = last + 1 := by omega
    subst this
    refine v_X11_share_26 hM all (nI lst) (nI (last + 1)) ⟨fun _ => ?_, fun c => absurd (by rw [hl]; exact nI_lt (by omega) (by omega)) c⟩
    rw [hl, nI_clamp (by omega)]
    refine ⟨vp_in_nI (by omega) (by omega), vp_in_nI (by omega) (by omega), hQ _ (fun j hj => ?_)⟩
    unfold va_up
    by_cases c : j = last
    · subst c
      rw [if_pos rfl, if_pos rfl]
    · rw [if_neg c, if_neg c, if_neg (by omega)]
  | succ k ih =>
    intro x h hx hM hl hQ
    refine v_X11_share_26 hM all (nI lst) (nI x) ⟨fun c => absurd c (by rw [hl]; exact nI_nlt (by omega) (by omega)), fun _ => ⟨vp_in_nI (by omega) (by omega), ?_⟩⟩
    rw [nI_clamp (by omega), nI_1]
    refine ih (x + 1) _ (by omega) hM hl (fun F hF => ?_)
    rw [xSL_SL]
    refine hQ F (fun j hj => ?_)
    rw [hF j hj, xL_ne (show 81 ≠ 82 by decide), xL_at]
    by_cases c : j = last
    · rw [if_pos c, if_pos c]
    · rw [if_neg c, if_neg c]
      unfold va_up
      by_cases c1 : j = x
      · subst c1; rw [if_neg (by omega), if_pos rfl, if_pos (Nat.le_refl _)]
      · by_cases c2 : x ≤ j
        · rw [if_pos (by omega), if_pos c2]
        · rw [if_neg (by omega), if_neg c1, if_neg c2]
theorem l_mfaces {last lst s : Nat} (hl1 : last ≤ 100) (hs : s ≤ last) (od : Nat → Nat) (T : Nat → Nat) (m : Nat) (hl : 1 ≤ lst ∧ lst ≤ 6) (ha : 0 < od6 od ∧ od6 od ≤ 54) (ho : ∀ f, 1 ≤ f → f ≤ 6 → od f ≤ 9) (hm : m ≤ 1000000000) {Q : Option Value → XH → Prop} {X : String → XH → Prop} : ∀ (k x : Nat) (h : XH) (left : Int64), x + k = 7 → 1 ≤ x → xMod (xP h) → (∀ f, 1 ≤ f → f ≤ 6 → xI h 60 (f - 1) = nI (od f)) → (∀ f, f ≤ 6 → xI h 67 (101 * f + s) = nI (T f) ∧ T f ≤ last) → xL h 81 s = lN m →
    (∀ F : Nat → Int64, (∀ j, j ≤ last → F j = xL h 82 j + (lN (sN (fun g => if T g = j then pwN od (od6 od) m g else 0) x k) + (if T lst = j then left - lN (sN (pwN od (od6 od) m) x k) else 0))) → XW (xrm 2 0 0) mX11_share (xE 100 Q X 0 0) 100 0 0 (xSL 82 F h) 73 [some (.ref 56), some (.int (nI (od6 od))), some (.int (nI lst)), some (.int (nI (s + 1))), none, none, none, none, none] []) →
    XW (xrm 2 0 0) mX11_share (xE 100 Q X 0 0) 100 0 0 h 94 [some (.ref 56), some (.int (nI (od6 od))), some (.int (nI lst)), some (.int (nI s)), some (.long left), none, some (.int (nI x)), none, none] [] := by
  intro k
  induction k with
  | zero =>
    intro x h left hx hx1 hM hod hT hL hQ
    have : x = 7 := by omega
    subst this
    obtain ⟨t1, t2⟩ := hT lst hl.2
    refine v_X11_share_94 hM _ (nI lst) (nI s) left (nI 7) ⟨fun _ => ?_, fun c => absurd (show (6 : Int32) < nI 7 by decide) c⟩
    rw [m67, nI_clamp (n := 101 * lst + s) (by omega), t1, nI_clamp (n := T lst) (by omega), nI_1]
    refine ⟨vp_in_nI (by omega) (by omega), vp_in_nI (by omega) (by omega), vp_in_nI (by omega) (by omega), hQ _ (fun j hj => ?_)⟩
    have z : ∀ f : Nat → Nat, lN (sN f 7 0) = 0 := fun _ => rfl
    rw [z, z, Int64.zero_add, Int64.sub_zero]
    unfold va_up
    by_cases c : j = T lst
    · subst c; rw [if_pos rfl, if_pos rfl]
    · rw [if_neg c, if_neg (Ne.symm c), Int64.add_zero]
  | succ k ih =>
    intro x h left hx hx1 hM hod hT hL hQ
    obtain ⟨t1, t2⟩ := hT x (by omega)
    have e6 : nI x - 1 = nI (x - 1) := pk_sub (b := 1) (by omega)
    have eo := hod x hx1 (by omega)
    have e5 : (nI (od6 od)).toInt64 = lN (od6 od) := nI_l (by omega)
    have ep : lN m * (nI (od x)).toInt64 / (nI (od6 od)).toInt64 = lN (pwN od (od6 od) m x) := by
      rw [e5, nI_l (by have := ho x hx1 (by omega); omega)]
      exact pw_lN ha.1 ha.2 hm (ho x hx1 (by omega))
    refine v_X11_share_94 hM _ (nI lst) (nI s) left (nI x) ⟨fun c => absurd c (nI_nlt (a := 6) (b := x) (by omega) (by omega)), fun _ => ?_⟩
    rw [m67, e6, nI_clamp (n := x - 1) (by omega), nI_clamp (n := 101 * x + s) (by omega), t1, nI_clamp (n := T x) (by omega), nI_clamp (n := s) (by omega), eo, hL, ep, nI_1]
    refine ⟨vp_in_nI (by omega) (by omega), vp_in_nI (by omega) (by omega), ?_, vp_in_nI (by omega) (by omega), vp_in_nI (by omega) (by omega), vp_in_nI (by omega) (by omega), ?_⟩
    · rw [e5]
      intro q
      have : (0 : Int64) = lN 0 := rfl
      rw [this, pk_lEQ (by omega) (by omega)] at q
      omega
    · refine ih (x + 1) _ _ (by omega) (by omega) hM hod hT hL (fun F hF => ?_)
      rw [xSL_SL]
      refine hQ F (fun j hj => ?_)
      rw [hF j hj, xL_SL, if_pos rfl]
      simp only [sN]
      rw [← lN_add, ← lN_add]
      unfold va_up
      by_cases c : j = T x
      · subst c
        rw [if_pos rfl, if_pos rfl]
        split <;> grind
      · rw [if_neg c, if_neg (Ne.symm c)]
        have : lN 0 = 0 := rfl
        rw [this]
        split <;> grind
theorem l_msquares {last lst : Nat} (hl1 : last ≤ 100) (od : Nat → Nat) (T : Nat → Nat → Nat) (m : Nat → Nat) (hd : Die od lst) (hm : ∀ s, s ≤ last → m s ≤ 1000000000) {Q : Option Value → XH → Prop} {X : String → XH → Prop} : ∀ (k s : Nat) (h : XH), s + k = last → GeoM h last lst od T → PileM h last m →
    (∀ F : Nat → Int64, (∀ j, j ≤ last → F j = xL h 82 j + lN (sN (fun s => shcN (T s) (pwN od (od6 od) (m s)) lst (m s) j) s k)) → XW (xrm 2 0 0) mX11_share (xE 100 Q X 0 0) 100 0 0 (xSL 82 F h) 187 [some (.ref 56), none, none, some (.int 0), none, none, none, none, none] []) →
    XW (xrm 2 0 0) mX11_share (xE 100 Q X 0 0) 100 0 0 h 73 [some (.ref 56), some (.int (nI (od6 od))), some (.int (nI lst)), some (.int (nI s)), none, none, none, none, none] [] := by
  intro k
  induction k with
  | zero =>
    intro s h hs hg hp hQ
    have : s = last := by omega
    subst this
    obtain ⟨hM, g1, g4, g5, g6, g7, g8⟩ := hg
    refine v_X11_share_73 hM _ (nI lst) (nI s) ⟨fun _ => ?_, fun c => absurd (by rw [g1]; exact nI_le (Nat.le_refl _) (by omega)) c⟩
    have := hQ (xL h 82) (fun j hj => by show _ = _ + lN 0; show _ = _ + 0; rw [Int64.add_zero])
    rwa [xSL_self] at this
  | succ k ih =>
    intro s h hs hg hp hQ
    obtain ⟨hM, g1, g4, g5, g6, g7, g8⟩ := id hg
    obtain ⟨d0, d1, d2, d3, d4⟩ := id hd
    have ha := hd.all
    refine v_X11_share_73 hM _ (nI lst) (nI s) ⟨fun c => absurd c (by rw [g1]; exact nI_ge (by omega) (by omega)), fun _ => ⟨vp_in_nI (by omega) (by omega), ?_⟩⟩
    rw [nI_clamp (by omega), hp s (by omega)]
    refine l_mfaces hl1 (by omega) od (T s) (m s) ⟨d1, d2⟩ ha d0 (hm s (by omega)) 6 1 h (lN (m s)) rfl (Nat.le_refl _) hM g7 (fun f hf => g8 s (by omega) f hf) (hp s (by omega)) (fun F hF => ?_)
    have hle : sN (pwN od (od6 od) (m s)) 1 6 ≤ m s := pwN_le ha.1 (by rw [sN_od6]; exact Nat.le_refl _)
    have eF : ∀ j, j ≤ last → F j = xL h 82 j + lN (shcN (T s) (pwN od (od6 od) (m s)) lst (m s) j) := by
      intro j hj
      rw [hF j hj, ← shcN_all d1 d2 (fun g q1 q2 => by unfold pwN; rw [d4 g q1 q2]; simp) hle]
      by_cases c : T s lst = j
      · rw [if_pos c, if_pos c, lN_sub hle, lN_add]
      · rw [if_neg c, if_neg c, Nat.add_zero, Int64.add_zero]
    have hf : xfr 81 83 h (xSL 82 F h) := xfr.SL (by omega) (by omega)
    refine ih (s + 1) _ (by omega) (hg.fr hf (by omega)) (fun j hj => hp j hj) (fun F2 hF2 => ?_)
    rw [xSL_SL]
    refine hQ F2 (fun j hj => ?_)
    rw [hF2 j hj, xL_SL, if_pos rfl, eF j hj, sN, ← lN_add, Int64.add_assoc]
theorem l_mcopy {last : Nat} (hl1 : last ≤ 100) {Q : Option Value → XH → Prop} {X : String → XH → Prop} : ∀ (k x : Nat) (h : XH), x + k = last + 1 → xMod (xP h) → xI h 59 0 = nI last →
    (∀ F : Nat → Int64, (∀ j, j ≤ last → F j = if x ≤ j then xL h 82 j else xL h 81 j) → Q none (xSL 81 F h)) →
    XW (xrm 2 0 0) mX11_share (xE 100 Q X 0 0) 100 0 0 h 187 [some (.ref 56), none, none, some (.int (nI x)), none, none, none, none, none] [] := by
  intro k
  induction k with
  | zero =>
    intro x h hx hM hl hQ
    have : x = last + 1 := by omega
    subst this
    refine v_X11_share_187 hM (nI (last + 1)) ⟨fun _ => ?_, fun c => absurd (by rw [hl]; exact nI_lt (by omega) (by omega)) c⟩
    have := hQ (xL h 81) (fun j hj => by rw [if_neg (by omega)])
    rwa [xSL_self] at this
  | succ k ih =>
    intro x h hx hM hl hQ
    refine v_X11_share_187 hM (nI x) ⟨fun c => absurd c (by rw [hl]; exact nI_nlt (by omega) (by omega)), fun _ => ⟨vp_in_nI (by omega) (by omega), vp_in_nI (by omega) (by omega), ?_⟩⟩
    rw [nI_clamp (by omega), nI_1]
    refine ih (x + 1) _ (by omega) hM hl (fun F hF => ?_)
    rw [xSL_SL]
    refine hQ F (fun j hj => ?_)
    rw [hF j hj, xL_ne (show 82 ≠ 81 by decide), xL_at]
    unfold va_up
    by_cases c1 : j = x
    · subst c1; rw [if_neg (by omega), if_pos rfl, if_pos (Nat.le_refl _)]
    · by_cases c2 : x ≤ j
      · rw [if_pos (by omega), if_pos c2]
      · rw [if_neg (by omega), if_neg c1, if_neg c2]
theorem l_mleast {last lst : Nat} (od : Nat → Nat) (hd : Die od lst) (all : Int32) {Q : Option Value → XH → Prop} {X : String → XH → Prop} (h : XH) (hM : xMod (xP h)) (hod : ∀ f, 1 ≤ f → f ≤ 6 → xI h 60 (f - 1) = nI (od f))
    (hQ : XW (xrm 2 0 0) mX11_share (xE 100 Q X 0 0) 100 0 0 h 26 [some (.ref 56), some (.int all), some (.int (nI lst)), some (.int 0), none, none, none, none, none] []) : ∀ (k x : Nat), x + k = lst → 1 ≤ x →
    XW (xrm 2 0 0) mX11_share (xE 100 Q X 0 0) 100 0 0 h 7 [some (.ref 56), some (.int all), some (.int (nI x)), none, none, none, none, none, none] [] := by
  obtain ⟨d0, d1, d2, d3, d4⟩ := hd
  intro k
  induction k with
  | zero =>
    intro x hx hx1
    have : x = lst := by omega
    subst this
    have e6 : nI x - 1 = nI (x - 1) := pk_sub (b := 1) (by omega)
    refine v_X11_share_7 hM all (nI x) ?_
    rw [e6, nI_clamp (by omega), hod x d1 d2]
    refine ⟨vp_in_nI (by omega) (by omega), fun _ => hQ, fun c => ?_⟩
    have := d0 x d1 d2
    rw [show (0 : Int32) = nI 0 from rfl, nI_eq (by omega) (by omega)] at c
    omega
  | succ k ih =>
    intro x hx hx1
    have e6 : nI x - 1 = nI (x - 1) := pk_sub (b := 1) (by omega)
    refine v_X11_share_7 hM all (nI x) ?_
    rw [e6, nI_clamp (by omega), hod x hx1 (by omega), d4 x hx1 (by omega)]
    refine ⟨vp_in_nI (by omega) (by omega), fun c => absurd rfl c, fun _ => ?_⟩
    rw [nI_1]
    exact ih (x + 1) (by omega) (by omega)
theorem s_X11_share (last lst : Nat) (h : XH) (od : Nat → Nat) (T : Nat → Nat → Nat) (m : Nat → Nat) (hg : GeoM h last lst od T) (hp : PileM h last m) (hm : ∀ s, s ≤ last → m s ≤ 1000000000) : XSpec mX11_share 2 0 0 100 100 [.ref 56] h (fun v h' => v = none ∧ PileM h' last (shM last lst od T m) ∧ xfr 81 83 h h') xno := by
  obtain ⟨hM, g1, g4, g5, g6, g7, g8⟩ := id hg
  refine XSpec.of rfl (by decide) (Nat.le_of_ble_eq_true rfl) rfl (v_X11_share_0 hM ⟨_, s_X11_allOdds od g6.1 h hM g7, ?_⟩)
  rintro v h1 ⟨rfl, rfl⟩
  refine ⟨_, rfl, ?_⟩
  refine l_mleast (last := last) od g6 _ h1 hM g7 ?_ (lst - 1) 1 (by have := g6.2.1; omega) (Nat.le_refl _)
  refine l_mclear g5 _ lst (last + 1) 0 h1 (by omega) hM g1 (fun F hF => ?_)
  have hf : xfr 81 83 h1 (xSL 82 F h1) := xfr.SL (by omega) (by omega)
  refine l_msquares g5 od T m g6 hm last 0 _ (by omega) (hg.fr hf (by omega)) (fun j hj => hp j hj) (fun F2 hF2 => ?_)
  rw [xSL_SL]
  refine l_mcopy g5 (last + 1) 0 _ (by omega) hM g1 (fun F3 hF3 => ⟨rfl, fun j hj => ?_, ?_⟩)
  · rw [xL_SL, if_pos rfl, hF3 j hj, if_pos (Nat.zero_le _), xL_SL, if_pos rfl, hF2 j hj, xL_SL, if_pos rfl, hF j hj]
    unfold shM
    by_cases c : j = last
    · rw [if_pos c, if_pos c, hp last (Nat.le_refl _), lN_add, Nat.add_comm]
    · rw [if_neg c, if_neg c, if_pos (Nat.zero_le _), Int64.zero_add, Nat.add_zero]
  · exact (xfr.SL (by omega) (by omega)).trans (xfr.SL (by omega) (by omega))
theorem l_longBy {last lst q k0 : Nat} (od : Nat → Nat) (T : Nat → Nat → Nat) {Q : Option Value → XH → Prop} {X : String → XH → Prop} (hq : q ≤ last) (hk0 : k0 ≤ 400) (h0 : XH)
    (hQ : ∀ h', xfr 81 83 h0 h' → Q (some (.long (lN (longK last lst od T q k0)))) h') :
    ∀ (k i : Nat) (h : XH), i + k = k0 → PileM h last (mass last lst od T q i) → GeoM h last lst od T → xfr 81 83 h0 h →
      XW (xrm 3 0 0) mX11_longBy (xE 100 Q X 0 0) 100 0 0 h 10 [some (.ref 56), none, some (.int (nI k0)), some (.long (lN (longK last lst od T q i))), none, some (.int (nI i))] [] := by
  intro k
  induction k with
  | zero =>
    intro i h hi hp hg hf
    have : i = k0 := by omega
    subst this
    exact v_X11_longBy_10 hg.1 (nI i) _ (nI i) ⟨fun _ => hQ h hf, fun c => absurd (nI_le (Nat.le_refl _) (by omega)) c⟩
  | succ k ih =>
    intro i h hi hp hg hf
    obtain ⟨hM, g1, g4, g5, g6, g7, g8⟩ := id hg
    have hT : ∀ s, s ≤ last → ∀ f, f ≤ 6 → T s f ≤ last := fun s hs f hf => (g8 s hs f hf).2
    have hml : ∀ i j, j ≤ last → mass last lst od T q i j ≤ 1000000000 := fun i j hj => mass_le g6 hT hq hj
    refine v_X11_longBy_10 hM (nI k0) _ (nI i) ⟨fun c => absurd c (nI_ge (by omega) (by omega)), fun _ => ⟨_, s_X11_out last lst h od T _ hg hp (hml _ _ (Nat.le_refl _)), ?_⟩⟩
    rintro v h1 ⟨rfl, rfl⟩
    refine ⟨_, rfl, _, s_X11_share last lst h1 od T _ hg hp (fun s hs => hml _ s hs), ?_⟩
    rintro v h2 ⟨rfl, hp2, hf2⟩
    refine ⟨rfl, ?_⟩
    rw [nI_1, lN_add]
    have e : longK last lst od T q i + (1000000000 - mass last lst od T q i last) = longK last lst od T q (i + 1) := by
      unfold longK
      rw [sN_last, Nat.zero_add]
      rfl
    rw [e]
    exact ih (i + 1) h2 (by omega) hp2 (hg.fr hf2 (by omega)) (hf.trans hf2)
theorem s_X11_longBy (last lst q k0 : Nat) (h : XH) (od : Nat → Nat) (T : Nat → Nat → Nat) (hg : GeoM h last lst od T) (hq : q ≤ last) (hk : k0 ≤ 400) : XSpec mX11_longBy 3 0 0 100 100 [.ref 56, .int (nI q), .int (nI k0)] h (fun v h' => v = some (.long (lN (longK last lst od T q k0))) ∧ xfr 81 83 h h') xno := by
  refine XSpec.of rfl (by decide) (Nat.le_of_ble_eq_true rfl) rfl (v_X11_longBy_0 hg.1 (nI q) (nI k0) ⟨_, s_X11_pour last lst q h od T hg hq, ?_⟩)
  rintro v h1 ⟨rfl, hp, hf⟩
  exact ⟨rfl, l_longBy od T hq hk h (fun h' hf' => ⟨rfl, hf'⟩) k0 0 h1 (by omega) hp (hg.fr hf (by omega)) hf⟩
