/-! HOPES OF TWO: the reference -/
theorem lN_nm1 {k : Nat} (hk : k < 2 ^ 63) : ¬ lN k = -1 := fun z => by
  have e1 : (-1 : Int64).toInt = -1 := by decide
  have := pk_lT hk
  rw [z, e1] at this
  omega
theorem m41 (a b : Nat) : (41 : Int32) * nI a + nI b = nI (41 * a + b) := by
  have : (41 : Int32) = nI 41 := rfl
  rw [this, pk_mul, nI_add]
def BothM (h : XH) (c : Nat) (b : BD) (B : Nat → Nat → Nat) : Prop := ∀ x y, x ≤ bLast b → y ≤ bLast b → xL h c (41 * x + y) = lN (B x y)
theorem m_lessBy {s : SG} (hg : GoodS s) {h0 h : XH} (hR : mT h0 h s (bT (sB s))) (hL : bLast (sB s) ≤ 40) {B : Nat → Nat → Nat} (hv : BothM h 85 (sB s) B) (hB : ∀ a b, B a b ≤ 100000000000) {f x y : Nat} (f2 : f ≤ 6) (hx : x ≤ bLast (sB s)) (hy : y ≤ bLast (sB s)) (hno : ¬ (x = bLast (sB s) ∧ y = bLast (sB s))) : XSpec mX11_lessBy 2 0 0 100 100 [.ref 56, .int (nI f), .int (nI x), .int (nI y)] h (xq (some (.long (lN (lsV (sB s) B x y f)))) h) xno := by
  obtain ⟨hM, g1, g4, g5, g6, g7, g8⟩ := id hR.1
  obtain ⟨t1, t2⟩ := g8 x hx f f2
  obtain ⟨u1, u2⟩ := g8 y hy f f2
  have b1 := hB (bT (sB s) x f) y
  have b2 := hB x (bT (sB s) y f)
  have v1 := hv _ _ t2 hy
  have v2 := hv _ _ hx u2
  have e1 : lg_cmp (-1) (-1) = 0 := by rw [lg_cmp_eq]
  refine XSpec.of rfl (by decide) (Nat.le_of_ble_eq_true rfl) rfl (v_X11_lessBy_0 hM (nI f) (nI x) (nI y) ?_)
  rw [g1, m67, m67, nI_clamp (show 101 * f + x < 2 ^ 31 by omega), nI_clamp (show 101 * f + y < 2 ^ 31 by omega), t1, u1, m41, m41, nI_clamp (show 41 * bT (sB s) x f + y < 2 ^ 31 by omega), nI_clamp (show 41 * x + bT (sB s) y f < 2 ^ 31 by omega), v1, v2, lN_min (by omega) (by omega), lg_cmp_eq, lg_cmp_eq]
  have n1 : ¬ lN (B (bT (sB s) x f) y) = -1 := lN_nm1 (by omega)
  have n2 : ¬ lN (B x (bT (sB s) y f)) = -1 := lN_nm1 (by omega)
  unfold lsV
  refine ⟨fun c => ⟨vp_in_nI (by omega) (by omega), vp_in_nI (by omega) (by omega), fun c2 => ⟨vp_in_nI (by omega) (by omega), vp_in_nI (by omega) (by omega), fun _ => ⟨fun _ => ?_, fun z => absurd z n2⟩, fun z => absurd z n1⟩, fun c2 => ⟨fun _ => ⟨fun z => absurd e1 z, fun _ => ?_⟩, fun z => absurd z n1⟩⟩, fun c => ⟨fun c2 => ⟨vp_in_nI (by omega) (by omega), vp_in_nI (by omega) (by omega), fun z => absurd e1 z, fun _ => ?_⟩, fun c2 => absurd ⟨(nI_eq (by omega) (by omega)).1 c, (nI_eq (by omega) (by omega)).1 c2⟩ hno⟩⟩
  · rw [if_neg (fun z => c (by rw [z])), if_neg (fun z => c2 (by rw [z]))]
    exact ⟨rfl, rfl⟩
  · rw [if_neg (fun z => c (by rw [z])), if_pos ((nI_eq (by omega) (by omega)).1 c2)]
    exact ⟨rfl, rfl⟩
  · rw [if_pos ((nI_eq (by omega) (by omega)).1 c)]
    exact ⟨rfl, rfl⟩
/-- rows of the pairs, up to one -/
def BothP (h : XH) (b : BD) (B : Nat → Nat → Nat) (x y : Nat) : Prop := ∀ p q, p ≤ bLast b → q ≤ bLast b → (p < x ∨ (p = x ∧ q < y)) → xL h 86 (41 * p + q) = lN (B p q)
theorem l_mbF {s : SG} (hg : GoodS s) {h0 h : XH} (hR : mT h0 h s (bT (sB s))) (hL : bLast (sB s) ≤ 40) {n i x y : Nat} (hi : i ≤ 100) (hv : BothM h 85 (sB s) (bA (sB s) i)) (hx : x ≤ bLast (sB s)) (hy : y ≤ bLast (sB s)) {Q : Option Value → XH → Prop} {X : String → XH → Prop}
    (hQ : XW (xrm 3 0 0) mX11_tellBoth (xE 100 Q X 0 0) 100 0 0 (xSL 86 (va_up (xL h 86) (41 * x + y) (lN (bA (sB s) (i + 1) x y))) h) 53 [some (.ref 56), some (.int (nI n)), some (.int (nI (od6 (bOd (sB s))))), some (.int (nI i)), some (.int (nI x)), some (.int (nI (y + 1))), none, none, none, none] []) (hno : ¬ (x = bLast (sB s) ∧ y = bLast (sB s))) : ∀ (k f : Nat), f + k = 6 →
    XW (xrm 3 0 0) mX11_tellBoth (xE 100 Q X 0 0) 100 0 0 h 99 [some (.ref 56), some (.int (nI n)), some (.int (nI (od6 (bOd (sB s))))), some (.int (nI i)), some (.int (nI x)), some (.int (nI y)), some (.long (lN (bS (sB s) (bA (sB s) i) x y f))), none, some (.int 0), some (.int (nI (f + 1)))] [] := by
  have hl := hg.l
  have ha := hg.die.all
  obtain ⟨hM, g1, g4, g5, g6, g7, g8⟩ := id hR.1
  have hB : ∀ a b, bA (sB s) i a b ≤ 100000000000 := fun a b => by have := bA_le (sB s) i a b; omega
  intro k
  induction k with
  | zero =>
    intro f hf
    have : f = 6 := by omega
    subst this
    refine v_X11_tellBoth_99 hM _ _ _ _ _ _ _ (nI 7) ⟨fun _ => ⟨fun _ => ?_, fun c => absurd rfl c⟩, fun c => absurd (by decide) c⟩
    have hS := bS_le (b := sB s) (B := bA (sB s) i) (x := x) (y := y) (M := 100000000000) hB
    have h54 := Nat.mul_le_mul ha.2 (show 100000000000 ≤ 100000000000 from Nat.le_refl _)
    have e9 : (1000000000 : Int64) = lN 1000000000 := rfl
    have e0 : (0 : Int64) = lN 0 := rfl
    rw [m41, nI_clamp (show 41 * x + y < 2 ^ 31 by omega), nI_l (by omega), e9, pk_lDiv (by omega) ha.1 (by omega), lN_add, nI_1]
    have e : bA (sB s) (i + 1) x y = 1000000000 + bS (sB s) (bA (sB s) i) x y 6 / od6 (bOd (sB s)) := by
      show (if x = bLast (sB s) ∧ y = bLast (sB s) then 0 else _) = _
      rw [if_neg hno]
    rw [e] at hQ
    refine ⟨?_, vp_in_nI (by omega) (by omega), hQ⟩
    intro q
    rw [e0, lN_eq (by omega) (by omega)] at q
    omega
  | succ k ih =>
    intro f hf
    have o9 := hg.die.1 (f + 1) (by omega) (by omega)
    have hI := ih (f + 1) (by omega)
    rw [bS_s] at hI
    refine v_X11_tellBoth_99 hM _ _ _ _ _ _ _ (nI (f + 1)) ⟨fun c => absurd c (nI_nlt (a := 6) (by omega) (by omega)), fun _ => ⟨fun c => absurd rfl c, fun _ => ?_⟩⟩
    rw [nI_pred, nI_clamp (show f < 2 ^ 31 by omega)]
    have g7' := g7 (f + 1) (by omega) (by omega)
    rw [Nat.add_sub_cancel] at g7'
    rw [g7']
    refine ⟨vp_in_nI (by omega) (by omega), fun c => ⟨vp_in_nI (by omega) (by omega), _, m_lessBy hg hR hL hv hB (show f + 1 ≤ 6 by omega) hx hy hno, ?_⟩, fun c => ?_⟩
    · rintro v h2 ⟨rfl, rfl⟩
      refine ⟨_, rfl, ?_⟩
      rw [nI_l (by omega), lN_mul, lN_add, nI_1]
      exact hI
    · have c' : bOd (sB s) (f + 1) = 0 := (nI_eq (b := 0) (by omega) (by omega)).1 c
      rw [c', Nat.zero_mul, Nat.add_zero] at hI
      rw [nI_1, Int64.add_zero]
      exact hI
theorem l_mbY {s : SG} (hg : GoodS s) (hL : bLast (sB s) ≤ 40) {h0 : XH} {n i x : Nat} (hi : i ≤ 100) (hx : x ≤ bLast (sB s)) {Q : Option Value → XH → Prop} {X : String → XH → Prop} : ∀ (k y : Nat) (h : XH), y + k = bLast (sB s) + 1 → mT h0 h s (bT (sB s)) → BothM h 85 (sB s) (bA (sB s) i) → BothP h (sB s) (bA (sB s) (i + 1)) x y →
    (∀ h', mT h0 h' s (bT (sB s)) → BothM h' 85 (sB s) (bA (sB s) i) → BothP h' (sB s) (bA (sB s) (i + 1)) (x + 1) 0 → XW (xrm 3 0 0) mX11_tellBoth (xE 100 Q X 0 0) 100 0 0 h' 39 [some (.ref 56), some (.int (nI n)), some (.int (nI (od6 (bOd (sB s))))), some (.int (nI i)), some (.int (nI (x + 1))), none, none, none, none, none] []) →
    XW (xrm 3 0 0) mX11_tellBoth (xE 100 Q X 0 0) 100 0 0 h 53 [some (.ref 56), some (.int (nI n)), some (.int (nI (od6 (bOd (sB s))))), some (.int (nI i)), some (.int (nI x)), some (.int (nI y)), none, none, none, none] [] := by
  have hl := hg.l
  intro k
  induction k with
  | zero =>
    intro y h hy hR hv hz hQ
    have : y = bLast (sB s) + 1 := by omega
    subst this
    refine v_X11_tellBoth_53 hR.1.1 _ _ _ _ (nI _) ⟨fun _ => ?_, fun c => absurd ?_ c⟩
    · rw [nI_1]
      exact hQ h hR hv (fun p q hp hq hF => hz p q hp hq (by omega))
    · rw [hR.1.2.1]; exact nI_lt (by omega) (by omega)
  | succ k ih =>
    intro y h hy hR hv hz hQ
    have hf : xfr 86 87 h (xSL 86 (va_up (xL h 86) (41 * x + y) (lN (bA (sB s) (i + 1) x y))) h) := xfr.SL (by omega) (by omega)
    have hnext := ih (y + 1) _ (by omega) (hR.fr hf (by omega)) (fun p q hp hq => by rw [xL_ne (by decide)]; exact hv p q hp hq) (fun p q hp hq hF => by
      rw [xL_at]
      by_cases e : p = x ∧ q = y
      · rw [e.1, e.2, va_up_eq]
      · rw [va_up_of _ _ (show 41 * p + q ≠ 41 * x + y by omega)]
        exact hz p q hp hq (by omega)) hQ
    refine v_X11_tellBoth_53 hR.1.1 _ _ _ _ (nI _) ⟨fun c => absurd c ?_, fun _ => ?_⟩
    · rw [hR.1.2.1]; exact nI_nlt (by omega) (by omega)
    rw [hR.1.2.1]
    refine ⟨fun c => l_mbF hg hR hL hi hv hx (by omega) hnext (fun z => c (by rw [z.1])) 6 0 rfl, fun c => ⟨fun c2 => l_mbF hg hR hL hi hv hx (by omega) hnext (fun z => c2 (by rw [z.2])) 6 0 rfl, fun c2 => ?_⟩⟩
    have c' := (nI_eq (by omega) (by omega)).1 c
    have c2' := (nI_eq (by omega) (by omega)).1 c2
    have e : bA (sB s) (i + 1) x y = 0 := by
      show (if x = bLast (sB s) ∧ y = bLast (sB s) then 0 else _) = _
      rw [if_pos ⟨c', c2'⟩]
    rw [e] at hnext
    refine v_X11_tellBoth_99 hR.1.1 _ _ _ _ _ _ _ 1 ⟨fun z => absurd z (by decide), fun _ => ⟨fun _ => ⟨fun z => absurd z (by decide), fun _ => ?_⟩, fun z => absurd z (by decide)⟩⟩
    rw [m41, nI_clamp (show 41 * x + y < 2 ^ 31 by omega), nI_1]
    exact ⟨vp_in_nI (by omega) (by omega), hnext⟩
theorem l_mbX {s : SG} (hg : GoodS s) (hL : bLast (sB s) ≤ 40) {h0 : XH} {n i : Nat} (hi : i ≤ 100) {Q : Option Value → XH → Prop} {X : String → XH → Prop} : ∀ (k x : Nat) (h : XH), x + k = bLast (sB s) + 1 → mT h0 h s (bT (sB s)) → BothM h 85 (sB s) (bA (sB s) i) → BothP h (sB s) (bA (sB s) (i + 1)) x 0 →
    (∀ h', mT h0 h' s (bT (sB s)) → BothM h' 86 (sB s) (bA (sB s) (i + 1)) → XW (xrm 3 0 0) mX11_tellBoth (xE 100 Q X 0 0) 100 0 0 h' 205 [some (.ref 56), some (.int (nI n)), some (.int (nI (od6 (bOd (sB s))))), some (.int (nI i)), some (.int (nI 0)), none, none, none, none, none] []) →
    XW (xrm 3 0 0) mX11_tellBoth (xE 100 Q X 0 0) 100 0 0 h 39 [some (.ref 56), some (.int (nI n)), some (.int (nI (od6 (bOd (sB s))))), some (.int (nI i)), some (.int (nI x)), none, none, none, none, none] [] := by
  have hl := hg.l
  intro k
  induction k with
  | zero =>
    intro x h hx hR hv hz hQ
    have : x = bLast (sB s) + 1 := by omega
    subst this
    refine v_X11_tellBoth_39 hR.1.1 _ _ _ (nI _) ⟨fun _ => hQ h hR (fun p q hp hq => hz p q hp hq (by omega)), fun c => absurd ?_ c⟩
    rw [hR.1.2.1]; exact nI_lt (by omega) (by omega)
  | succ k ih =>
    intro x h hx hR hv hz hQ
    refine v_X11_tellBoth_39 hR.1.1 _ _ _ (nI _) ⟨fun c => absurd c ?_, fun _ => l_mbY hg hL hi (by omega) (bLast (sB s) + 1) 0 h (by omega) hR hv hz (fun h' k1 k2 k3 => ih (x + 1) h' (by omega) k1 k2 k3 hQ)⟩
    rw [hR.1.2.1]; exact nI_nlt (by omega) (by omega)
theorem l_mbC {s : SG} {h0 : XH} {n i all : Int32} {Q : Option Value → XH → Prop} {X : String → XH → Prop} : ∀ (k x : Nat) (h : XH), x + k = 1681 → mT h0 h s (bT (sB s)) → (∀ j, j < x → xL h 85 j = xL h 86 j) →
    (∀ h', mT h0 h' s (bT (sB s)) → (∀ j, j < 1681 → xL h' 85 j = xL h 86 j) → XW (xrm 3 0 0) mX11_tellBoth (xE 100 Q X 0 0) 100 0 0 h' 31 [some (.ref 56), some (.int n), some (.int all), some (.int (i + 1)), none, none, none, none, none, none] []) →
    XW (xrm 3 0 0) mX11_tellBoth (xE 100 Q X 0 0) 100 0 0 h 205 [some (.ref 56), some (.int n), some (.int all), some (.int i), some (.int (nI x)), none, none, none, none, none] [] := by
  intro k
  induction k with
  | zero =>
    intro x h hx hR hz hQ
    have : x = 1681 := by omega
    subst this
    exact v_X11_tellBoth_205 hR.1.1 _ _ _ (nI 1681) ⟨fun _ => hQ h hR hz, fun c => absurd (by decide) c⟩
  | succ k ih =>
    intro x h hx hR hz hQ
    refine v_X11_tellBoth_205 hR.1.1 _ _ _ (nI x) ⟨fun c => absurd c (nI_ge (b := 1681) (by omega) (by omega)), fun _ => ⟨vp_in_nI (by omega) (by omega), vp_in_nI (by omega) (by omega), ?_⟩⟩
    rw [nI_clamp (by omega), nI_1]
    have hf : xfr 85 86 h (xSL 85 (va_up (xL h 85) x (xL h 86 x)) h) := xfr.SL (by omega) (by omega)
    refine ih (x + 1) _ (by omega) (hR.fr hf (by omega)) (fun j hj => ?_) (fun h' k1 k2 => hQ h' k1 (fun j hj => by rw [k2 j hj, xL_ne (by decide)]))
    rw [xL_at, xL_ne (show (86 : Nat) ≠ 85 by decide)]
    by_cases e : j = x
    · rw [e, va_up_eq]
    · rw [va_up_of _ _ e]; exact hz j (by omega)
theorem l_mbI {s : SG} (hg : GoodS s) (hL : bLast (sB s) ≤ 40) {h0 : XH} {n : Nat} (hn : n ≤ 100) {Q : Option Value → XH → Prop} {X : String → XH → Prop} (hQ : ∀ h', mT h0 h' s (bT (sB s)) → BothM h' 85 (sB s) (bA (sB s) n) → Q none h') : ∀ (k i : Nat) (h : XH), i + k = n → mT h0 h s (bT (sB s)) → BothM h 85 (sB s) (bA (sB s) i) →
    XW (xrm 3 0 0) mX11_tellBoth (xE 100 Q X 0 0) 100 0 0 h 31 [some (.ref 56), some (.int (nI n)), some (.int (nI (od6 (bOd (sB s))))), some (.int (nI i)), none, none, none, none, none, none] [] := by
  intro k
  induction k with
  | zero =>
    intro i h hi hR hv
    have : i = n := by omega
    subst this
    exact v_X11_tellBoth_31 hR.1.1 _ _ (nI i) ⟨fun _ => hQ h hR hv, fun c => absurd (nI_le (Nat.le_refl _) (by omega)) c⟩
  | succ k ih =>
    intro i h hi hR hv
    refine v_X11_tellBoth_31 hR.1.1 _ _ (nI i) ⟨fun c => absurd c (nI_ge (by omega) (by omega)), fun _ => l_mbX hg hL (by omega) (bLast (sB s) + 1) 0 h (by omega) hR hv (fun p q _ _ hF => by omega) (fun h' k1 k2 => l_mbC 1681 0 h' (by omega) k1 (fun j hj => by omega) (fun h2 q1 q2 => ?_))⟩
    rw [nI_1]
    exact ih (i + 1) h2 (by omega) q1 (fun p q hp hq => by rw [q2 _ (by omega)]; exact k2 p q hp hq)
theorem l_mb0 {s : SG} {h0 : XH} {n all : Int32} {Q : Option Value → XH → Prop} {X : String → XH → Prop} : ∀ (k x : Nat) (h : XH), x + k = 1681 → mT h0 h s (bT (sB s)) → (∀ j, j < x → xL h 85 j = 0) →
    (∀ h', mT h0 h' s (bT (sB s)) → (∀ j, j < 1681 → xL h' 85 j = 0) → XW (xrm 3 0 0) mX11_tellBoth (xE 100 Q X 0 0) 100 0 0 h' 31 [some (.ref 56), some (.int n), some (.int all), some (.int (nI 0)), none, none, none, none, none, none] []) →
    XW (xrm 3 0 0) mX11_tellBoth (xE 100 Q X 0 0) 100 0 0 h 7 [some (.ref 56), some (.int n), some (.int all), some (.int (nI x)), none, none, none, none, none, none] [] := by
  intro k
  induction k with
  | zero =>
    intro x h hx hR hz hQ
    have : x = 1681 := by omega
    subst this
    exact v_X11_tellBoth_7 hR.1.1 _ _ (nI 1681) ⟨fun _ => hQ h hR hz, fun c => absurd (by decide) c⟩
  | succ k ih =>
    intro x h hx hR hz hQ
    refine v_X11_tellBoth_7 hR.1.1 _ _ (nI x) ⟨fun c => absurd c (nI_ge (b := 1681) (by omega) (by omega)), fun _ => ⟨vp_in_nI (by omega) (by omega), ?_⟩⟩
    rw [nI_clamp (by omega), nI_1]
    have hf : xfr 85 86 h (xSL 85 (va_up (xL h 85) x 0) h) := xfr.SL (by omega) (by omega)
    refine ih (x + 1) _ (by omega) (hR.fr hf (by omega)) (fun j hj => ?_) hQ
    rw [xL_at]
    by_cases e : j = x
    · rw [e, va_up_eq]
    · rw [va_up_of _ _ e]; exact hz j (by omega)
theorem m_both {s : SG} (hg : GoodS s) {h0 h : XH} (hR : mT h0 h s (bT (sB s))) (hL : bLast (sB s) ≤ 40) {n : Nat} (hn : n ≤ 100) : XSpec mX11_tellBoth 3 0 0 100 100 [.ref 56, .int (nI n)] h (fun v h' => v = none ∧ mT h0 h' s (bT (sB s)) ∧ BothM h' 85 (sB s) (bA (sB s) n)) xno := by
  refine XSpec.of rfl (by decide) (Nat.le_of_ble_eq_true rfl) rfl (v_X11_tellBoth_0 hR.1.1 (nI n) ⟨_, s_X11_allOdds _ hg.die.1 h hR.1.1 hR.1.2.2.2.2.2.1, ?_⟩)
  rintro v h1 ⟨rfl, rfl⟩
  exact ⟨_, rfl, l_mb0 1681 0 h1 (by omega) hR (fun j hj => by omega) (fun h' k1 k2 => l_mbI hg hL hn (fun h2 q1 q2 => ⟨rfl, q1, q2⟩) n 0 h' (by omega) k1 (fun p q hp hq => by rw [k2 _ (by omega)]; rfl))⟩
theorem s_X11_together {h : XH} {s : SG} (hM : MI h s) (hg : GoodS s) (o t n : Int32) : XSpec mX11_together 6 0 0 100 100 [.ref 56, .int o, .int t, .int n] h (mEndL h s (kd2 (inR o 0 (bLast (sB s)) && inR t 0 (bLast (sB s))) (inR n 0 100)) (fun z => z = toA (sB s) o.toNatClampNeg t.toNatClampNeg n)) xno := by
  have hl := hg.l
  have hR := m3.code hM
  refine XSpec.of rfl (by decide) (Nat.le_of_ble_eq_true rfl) rfl (v_X11_together_0 hM.1 o t n ⟨_, m_isSquare hR.1 hl.2.1 o, ?_⟩)
  rintro v h1 ⟨rfl, rfl⟩
  refine ⟨_, rfl, fun c => m_failL hR.1 hR.2.1 1 (kd2_1 (by rw [bI_0.1 c]; rfl)) (by decide) 1 rfl, fun c => ⟨_, m_isSquare hR.1 hl.2.1 t, ?_⟩⟩
  have ho := bI_n0.1 c
  rintro v h2 ⟨rfl, rfl⟩
  refine ⟨_, rfl, fun c2 => ⟨_, m_isIn0 n 100 100 100 (by decide) (by decide), ?_⟩, fun c2 => m_failL hR.1 hR.2.1 1 (kd2_1 (by rw [ho]; exact bI_0.1 c2)) (by decide) 1 rfl⟩
  have ht := bI_n0.1 c2
  have hot : (inR o 0 (bLast (sB s)) && inR t 0 (bLast (sB s))) = true := by rw [ho]; exact ht
  rintro v h3 ⟨rfl, rfl⟩
  refine ⟨_, rfl, fun c3 => ⟨mp_told hR.1.1, ?_⟩, fun c3 => m_failL hR.1 hR.2.1 2 (kd2_2 hot (bI_0.1 c3)) (by decide) 2 rfl⟩
  have hn := bI_n0.1 c3
  have hk := kd2_t hot (show inR n 0 100 = true from hn)
  have e40 : (40 : Int32).toInt = 40 := by decide
  have e60 : (60 : Int32).toInt = 60 := by decide
  rw [hk, hR.1.2.2.1.1.2.1, i32_lt, i32_le, nI_toInt (by omega), e40, e60]
  refine ⟨fun c4 => ⟨_, rfl, fun _ => ?_, hR.2.2, hR.1, hR.2.1⟩, fun c4 => ⟨fun c5 => ?_, fun c5 => ⟨_, rfl, fun _ => ?_, hR.2.2, hR.1, hR.2.1⟩⟩⟩
  · unfold toA spB; rw [decide_eq_true (by omega)]; rfl
  · have ew : toA (sB s) o.toNatClampNeg t.toNatClampNeg n = lN (bA (sB s) n.toNatClampNeg o.toNatClampNeg t.toNatClampNeg) := by unfold toA spB; rw [decide_eq_false (by omega)]; rfl
    rw [ew]
    obtain ⟨o, ho', rfl⟩ := inR_nI ho
    obtain ⟨t, ht', rfl⟩ := inR_nI ht
    obtain ⟨n, hn', rfl⟩ := inR_nI hn
    rw [nI_clamp (show o < 2 ^ 31 by omega), nI_clamp (show t < 2 ^ 31 by omega), nI_clamp (show n < 2 ^ 31 by omega)]
    refine ⟨_, m_tellT hg hR, ?_⟩
    rintro v h5 ⟨rfl, hR5⟩
    refine ⟨rfl, _, m_both hg hR5 (by omega) hn', ?_⟩
    rintro v h6 ⟨rfl, hR6, hv⟩
    rw [m41, nI_clamp (show 41 * o + t < 2 ^ 31 by omega)]
    exact ⟨rfl, mp_both hR6.1.1, vp_in_nI (by omega) (by omega), _, rfl, fun _ => hv o t ho' ht', hR6.2.2.2, hR6.2.1, hR6.2.2.1⟩
  · unfold toA spB; rw [decide_eq_true (by omega)]; rfl
theorem s_X11_whom {h : XH} {s : SG} (hM : MI h s) (hg : GoodS s) (o t f n : Int32) : XSpec mX11_whom 6 0 0 100 100 [.ref 56, .int o, .int t, .int f, .int n] h (mEndI h s (kd2 (inR o 0 (bLast (sB s)) && inR t 0 (bLast (sB s)) && inR f 1 6) (inR n 1 100)) (fun z => z = whA (sB s) o.toNatClampNeg t.toNatClampNeg f.toNatClampNeg n)) xno := by
  have hl := hg.l
  have hR := m3.code hM
  refine XSpec.of rfl (by decide) (Nat.le_of_ble_eq_true rfl) rfl (v_X11_whom_0 hM.1 o t f n ⟨_, m_isSquare hR.1 hl.2.1 o, ?_⟩)
  rintro v h1 ⟨rfl, rfl⟩
  refine ⟨_, rfl, fun c => m_failI hR.1 hR.2.1 1 (kd2_1 (by rw [bI_0.1 c]; rfl)) (by decide) 1 rfl, fun c => ⟨_, m_isSquare hR.1 hl.2.1 t, ?_⟩⟩
  have ho := bI_n0.1 c
  rintro v h2 ⟨rfl, rfl⟩
  refine ⟨_, rfl, fun c2 => m_failI hR.1 hR.2.1 1 (kd2_1 (by rw [ho, bI_0.1 c2]; rfl)) (by decide) 1 rfl, fun c2 => ⟨_, m_isFace 100 _ f, ?_⟩⟩
  have ht := bI_n0.1 c2
  rintro v h3 ⟨rfl, rfl⟩
  refine ⟨_, rfl, fun c3 => ⟨_, m_isIn1 n 100 100 100 (by decide) (by decide), ?_⟩, fun c3 => m_failI hR.1 hR.2.1 1 (kd2_1 (by rw [ho, ht]; exact bI_0.1 c3)) (by decide) 1 rfl⟩
  have hf := bI_n0.1 c3
  have hotf : (inR o 0 (bLast (sB s)) && inR t 0 (bLast (sB s)) && inR f 1 6) = true := by rw [ho, ht]; exact hf
  rintro v h4 ⟨rfl, rfl⟩
  refine ⟨_, rfl, fun c4 => ⟨mp_told hR.1.1, ?_⟩, fun c4 => m_failI hR.1 hR.2.1 2 (kd2_2 hotf (bI_0.1 c4)) (by decide) 2 rfl⟩
  have hn := bI_n0.1 c4
  have hk := kd2_t hotf (show inR n 1 100 = true from hn)
  have e40 : (40 : Int32).toInt = 40 := by decide
  have e60 : (60 : Int32).toInt = 60 := by decide
  rw [hk, hR.1.2.2.1.1.2.1, i32_lt, i32_le, nI_toInt (by omega), e40, e60]
  refine ⟨fun c5 => ⟨_, rfl, fun _ => ?_, hR.2.2, hR.1, hR.2.1⟩, fun c5 => ⟨fun c6 => ⟨mp_told hR.1.1, ?_⟩, fun c6 => ⟨_, rfl, fun _ => ?_, hR.2.2, hR.1, hR.2.1⟩⟩⟩
  · unfold whA spB; rw [decide_eq_true (by omega)]; rfl
  · have hsp : spB (sB s) n = false := by unfold spB; rw [decide_eq_false (by omega)]
    unfold whA
    rw [hsp, if_neg (by decide)]
    obtain ⟨o, ho', rfl⟩ := inR_nI ho
    obtain ⟨t, ht', rfl⟩ := inR_nI ht
    obtain ⟨f, f1, f2, rfl⟩ := inR_1 (n := 6) hf
    obtain ⟨n, n1, n2, rfl⟩ := inR_1 hn
    rw [nI_clamp (show o < 2 ^ 31 by omega), nI_clamp (show t < 2 ^ 31 by omega), nI_clamp (show n < 2 ^ 31 by omega), nI_clamp (show f < 2 ^ 31 by omega), nI_p1 n1]
    refine ⟨fun c1 => ⟨mp_told hR.1.1, fun c2 => ⟨_, m_tellT hg hR, ?_⟩, fun c2 => ?_⟩, fun c1 => ⟨mp_told hR.1.1, fun c2 => ?_, fun c2 => ?_⟩⟩
    · have h1 : ¬ o = bLast (sB s) := fun z => c1 (by rw [z])
      have h2 : ¬ t = bLast (sB s) := fun z => c2 (by rw [z])
      rw [if_neg h1, if_neg h2]
      rintro v h5 ⟨rfl, hR5⟩
      refine ⟨rfl, _, m_both hg hR5 (by omega) (show n - 1 ≤ 100 by omega), ?_⟩
      rintro v h6 ⟨rfl, hR6, hv⟩
      obtain ⟨hM6, g1, g4, g5, g6, g7, g8⟩ := id hR6.1
      obtain ⟨e1, tt⟩ := g8 t ht' f f2
      obtain ⟨e2, to⟩ := g8 o ho' f f2
      have b1 := bA_le (sB s) (n - 1) (bT (sB s) o f) t
      have b2 := bA_le (sB s) (n - 1) o (bT (sB s) t f)
      rw [m67, m67, nI_clamp (show 101 * f + t < 2 ^ 31 by omega), nI_clamp (show 101 * f + o < 2 ^ 31 by omega), e1, e2, m41, m41, nI_clamp (show 41 * o + bT (sB s) t f < 2 ^ 31 by omega), nI_clamp (show 41 * bT (sB s) o f + t < 2 ^ 31 by omega), hv _ _ ho' tt, hv _ _ to ht', lg_cmp_ge, pk_lLE (by omega) (by omega)]
      refine ⟨rfl, mp_both hM6, mp_to hM6, vp_in_nI (by omega) (by omega), vp_in_nI (by omega) (by omega), mp_both hM6, mp_to hM6, vp_in_nI (by omega) (by omega), vp_in_nI (by omega) (by omega), fun c3 => ⟨_, rfl, fun _ => ?_, hR6.2.2.2, hR6.2.1, hR6.2.2.1⟩, fun c3 => ⟨_, rfl, fun _ => ?_, hR6.2.2.2, hR6.2.1, hR6.2.2.1⟩⟩
      · rw [if_neg (by omega)]
      · rw [if_pos (by omega)]
    · have h1 : ¬ o = bLast (sB s) := fun z => c1 (by rw [z])
      have h2 : t = bLast (sB s) := (nI_eq (by omega) (by omega)).1 c2
      rw [if_neg h1, if_pos h2]
      exact ⟨_, rfl, fun _ => rfl, hR.2.2, hR.1, hR.2.1⟩
    · have h1 : o = bLast (sB s) := (nI_eq (by omega) (by omega)).1 c1
      have h2 : ¬ t = bLast (sB s) := fun z => c2 (by rw [z])
      rw [if_pos h1, if_neg h2]
      exact ⟨_, rfl, fun _ => rfl, hR.2.2, hR.1, hR.2.1⟩
    · have h1 : o = bLast (sB s) := (nI_eq (by omega) (by omega)).1 c1
      have h2 : t = bLast (sB s) := (nI_eq (by omega) (by omega)).1 c2
      rw [if_pos h1, if_pos h2]
      exact ⟨_, rfl, fun _ => rfl, hR.2.2, hR.1, hR.2.1⟩
  · unfold whA spB; rw [decide_eq_true (by omega)]; rfl
