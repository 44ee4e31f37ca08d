/-! THE REFERENCE: how far away, its loops -/
theorem l_awayIn (last lst : Nat) (od : Nat → Nat) (T : Nat → Nat → Nat) (goal n : Nat) (hn : 1 ≤ n) (hnb : n ≤ 102) {Q : Option Value → XH → Prop} {X : String → XH → Prop} : ∀ (c x : Nat) (w : Int32) (h : XH), x + c = last + 1 → GeoM h last lst od T → Lv od T last goal n x w (xI h 80) → n + (if w = 0 then 0 else 1) ≤ seen (xI h 80) last →
    (∀ (h' : XH) (w' : Int32), xfr 80 81 h h' → Lv od T last goal n (last + 1) w' (xI h' 80) → n + (if w' = 0 then 0 else 1) ≤ seen (xI h' 80) last → XW (xrm 2 0 0) mX11_tellAway (xE 100 Q X 0 0) 100 0 0 h' 38 [some (.ref 56), none, some (.int w'), some (.int (nI n + 1)), none] []) →
    XW (xrm 2 0 0) mX11_tellAway (xE 100 Q X 0 0) 100 0 0 h 47 [some (.ref 56), none, some (.int w), some (.int (nI n)), some (.int (nI x))] [] := by
  intro c
  induction c with
  | zero =>
    intro x w h hx hg hv hs hQ
    have : x = last + 1 := by omega
    subst this
    have hl := hg.2.2.2.1
    exact v_X11_tellAway_47 hg.1 w _ (nI (last + 1)) ⟨fun _ => hQ h w xfr.rfl hv hs, fun c => absurd (by rw [hg.2.1]; exact nI_lt (by omega) (by omega)) c⟩
  | succ c ih =>
    intro x w h hx hg hv hs hQ
    have hl := hg.2.2.2.1
    have hT : ∀ s, s ≤ last → ∀ f, f ≤ 6 → T s f ≤ last := fun s hs f hf => (hg.2.2.2.2.2.2 s hs f hf).2
    have e1 : nI n - 1 = nI (n - 1) := by
      have : nI n - 1 = nI n - nI 1 := rfl
      rw [this, pk_sub (by omega)]
    refine v_X11_tellAway_47 hg.1 w _ (nI x) ⟨fun z => absurd z (by rw [hg.2.1]; exact nI_nlt (by omega) (by omega)), fun _ => ⟨vp_in_nI (by omega) (by omega), ?_⟩⟩
    rw [nI_clamp (by omega), nI_1 x, e1]
    refine ⟨fun z => ih (x + 1) w h (by omega) hg (hv.skip z) hs hQ, fun z => ⟨_, s_X11_comes last lst od T h hg x (by omega) (nI (n - 1)), ?_⟩⟩
    rintro v1 h1 ⟨e2, w1, rfl, hw1⟩
    subst h1
    refine ⟨w1, rfl, fun y => ⟨mp_away hg.1, vp_in_nI (by omega) (by omega), ?_⟩, fun y => ?_⟩
    · have hf : xfr 80 81 h (xSI 80 (va_up (xI h 80) x (nI n)) h) := xfr.SI (by omega) (by omega)
      refine ih (x + 1) 1 _ (by omega) (hg.fr hf (by omega)) ?_ ?_ (fun h' w' f1 f2 f3 => hQ h' w' (hf.trans f1) f2 f3)
      · rw [xI_at]
        exact hv.found hT hn hnb (by omega) z (Classical.byContradiction (fun u => y (hw1.2 u)))
      · rw [xI_at, seen_up (by omega) z (nI_nm1 (by omega)), if_neg (by decide)]
        omega
    · exact ih (x + 1) w h (by omega) hg (hv.miss hT hn hnb (by omega) z (hw1.1 y)) hs hQ
theorem l_away (last lst : Nat) (od : Nat → Nat) (T : Nat → Nat → Nat) (goal : Nat) {Q : Option Value → XH → Prop} {X : String → XH → Prop} : ∀ (c p : Nat) (w : Int32) (h : XH), p + c = last + 2 → GeoM h last lst od T → Lv od T last goal p (last + 1) w (xI h 80) → p + (if w = 0 then 0 else 1) ≤ seen (xI h 80) last →
    (∀ h' : XH, xfr 80 81 h h' → Far od T last goal (xI h' 80) → Q none h') →
    XW (xrm 2 0 0) mX11_tellAway (xE 100 Q X 0 0) 100 0 0 h 38 [some (.ref 56), none, some (.int w), some (.int (nI (p + 1))), none] [] := by
  intro c
  induction c with
  | zero =>
    intro p w h hx hg hv hs hQ
    have := seen_le (xI h 80) last
    omega
  | succ c ih =>
    intro p w h hx hg hv hs hQ
    have hl := hg.2.2.2.1
    have hb := seen_le (xI h 80) last
    have hT : ∀ s, s ≤ last → ∀ f, f ≤ 6 → T s f ≤ last := fun s hs f hf => (hg.2.2.2.2.2.2 s hs f hf).2
    refine v_X11_tellAway_38 hg.1 w _ ⟨fun z => ?_, fun z => ?_⟩
    · subst z
      exact hQ h xfr.rfl (hv.far hT (by omega) hl)
    · rw [if_neg z] at hs
      refine l_awayIn last lst od T goal (p + 1) (by omega) (by omega) (last + 1) 0 0 h (by omega) hg hv.start (by rw [if_pos rfl]; exact hs) (fun h' w' f1 f2 f3 => ?_)
      rw [nI_1]
      exact ih (p + 1) w' h' (by omega) (hg.fr f1 (by omega)) f2 f3 (fun h'' k1 k2 => hQ h'' (f1.trans k1) k2)
theorem l_away0 (last lst : Nat) (od : Nat → Nat) (T : Nat → Nat → Nat) (goal : Nat) (hgl : goal ≤ last) {Q : Option Value → XH → Prop} {X : String → XH → Prop} : ∀ (c x : Nat) (h : XH), x + c = last + 1 → GeoM h last lst od T →
    (∀ F : Nat → Int32, (∀ s, s ≤ last → F s = if x ≤ s then (if s = goal then 0 else -1) else xI h 80 s) → XW (xrm 2 0 0) mX11_tellAway (xE 100 Q X 0 0) 100 0 0 (xSI 80 F h) 38 [some (.ref 56), none, some (.int 1), some (.int 1), none] []) →
    XW (xrm 2 0 0) mX11_tellAway (xE 100 Q X 0 0) 100 0 0 h 2 [some (.ref 56), some (.int (nI goal)), some (.int (nI x)), none, none] [] := by
  intro c
  induction c with
  | zero =>
    intro x h hx hg hQ
    have : x = last + 1 := by omega
    subst this
    have hl := hg.2.2.2.1
    refine v_X11_tellAway_2 hg.1 _ (nI (last + 1)) ⟨fun _ => ?_, fun c => absurd (by rw [hg.2.1]; exact nI_lt (by omega) (by omega)) c⟩
    have := hQ (xI h 80) (fun s hs => by rw [if_neg (by omega)])
    rwa [xSI_self] at this
  | succ c ih =>
    intro x h hx hg hQ
    have hl := hg.2.2.2.1
    refine v_X11_tellAway_2 hg.1 _ (nI x) ⟨fun z => absurd z (by rw [hg.2.1]; exact nI_nlt (by omega) (by omega)), fun _ => ?_⟩
    rw [nI_clamp (by omega), nI_1]
    have key : ∀ y : Int32, y = (if x = goal then 0 else -1) → XW (xrm 2 0 0) mX11_tellAway (xE 100 Q X 0 0) 100 0 0 (xSI 80 (va_up (xI h 80) x y) h) 2 [some (.ref 56), some (.int (nI goal)), some (.int (nI (x + 1))), none, none] [] := by
      intro y hy
      have hf : xfr 80 81 h (xSI 80 (va_up (xI h 80) x y) h) := xfr.SI (by omega) (by omega)
      refine ih (x + 1) _ (by omega) (hg.fr hf (by omega)) (fun F hF => ?_)
      rw [xSI_SI]
      refine hQ F (fun s hs => ?_)
      rw [hF s hs, xI_at]
      unfold va_up
      by_cases e : s = x
      · subst e
        rw [if_neg (by omega), if_pos rfl, if_pos (Nat.le_refl _), hy]
      · by_cases e2 : x + 1 ≤ s
        · rw [if_pos e2, if_pos (show x ≤ s by omega)]
        · rw [if_neg e2, if_neg e, if_neg (show ¬ x ≤ s by omega)]
    refine ⟨fun z => ⟨vp_in_nI (by omega) (by omega), key _ ?_⟩, fun z => ⟨vp_in_nI (by omega) (by omega), key _ ?_⟩⟩
    · rw [if_neg (fun u => z (by rw [u]))]
    · rw [if_pos ((nI_eq (by omega) (by omega)).1 z)]
theorem s_X11_tellAway (last lst : Nat) (od : Nat → Nat) (T : Nat → Nat → Nat) (goal : Nat) (hgl : goal ≤ last) (h : XH) (hg : GeoM h last lst od T) : XSpec mX11_tellAway 2 0 0 100 100 [.ref 56, .int (nI goal)] h (fun v h' => v = none ∧ Far od T last goal (xI h' 80) ∧ xfr 80 81 h h') xno := by
  have hl := hg.2.2.2.1
  refine XSpec.of rfl (by decide) (Nat.le_of_ble_eq_true rfl) rfl (v_X11_tellAway_0 hg.1 (nI goal) ?_)
  refine l_away0 last lst od T goal hgl (last + 1) 0 h (by omega) hg (fun F hF => ?_)
  have hf : xfr 80 81 h (xSI 80 F h) := xfr.SI (by omega) (by omega)
  have hF' : ∀ s, s ≤ last → F s = if s = goal then 0 else -1 := fun s hs => by rw [hF s hs, if_pos (Nat.zero_le _)]
  refine l_away last lst od T goal (last + 2) 0 1 _ (by omega) (hg.fr hf (by omega)) ?_ ?_ (fun h' g1 g2 => ⟨rfl, g2, hf.trans g1⟩)
  · rw [xI_at]
    intro s hs
    by_cases e : s = goal
    · exact Or.inl ⟨0, by rw [if_pos (by omega)]; omega, fun z => absurd z (by decide), by rw [hF' s hs, if_pos e]; rfl, e, fun m' _ => Nat.zero_le _⟩
    · refine Or.inr ⟨by rw [hF' s hs, if_neg e], fun m' hm hw => ?_⟩
      rw [if_pos (by omega)] at hm
      have : m' = 0 := by omega
      subst this
      exact e hw
  · rw [xI_at, if_neg (by decide), Nat.zero_add]
    unfold seen
    refine Nat.le_trans ?_ (sN_ge (f := fun s => if (decide (F s ≠ -1)) = true then 1 else 0) (last + 1) 0 goal (Nat.zero_le _) (by omega))
    show 1 ≤ (if (decide (F goal ≠ -1)) = true then 1 else 0)
    rw [hF' goal hgl, if_pos rfl, if_pos (by decide)]
    exact Nat.le_refl _
