/-! HOPES OF ONE: the reference -/
theorem mT.fr {h0 h h' : XH} {s : SG} {T : Nat → Nat → Nat} (hR : mT h0 h s T) {lo hi : Nat} (hf : xfr lo hi h h') (hd : (80 ≤ lo ∧ hi ≤ 87) ∨ (88 ≤ lo ∧ hi ≤ 90)) : mT h0 h' s T := ⟨hR.1.fr hf (by omega), hR.2.fr hf (by omega)⟩
theorem nI_p1 {x : Nat} (h : 1 ≤ x) : nI x - 1 = nI (x - 1) := pk_sub (b := 1) h
theorem l_mah2 {s : SG} (hg : GoodS s) {h0 h : XH} (hR : mT h0 h s (bT (sB s))) {p : Nat → Nat} {q n i : Nat} (hq : q < bLast (sB s)) (hv : ∀ j, j ≤ bLast (sB s) → xL h 81 j = lN (p j)) (hb : ∀ j, p j ≤ 100000000000) {f : Nat} (f1 : 1 ≤ f) (f2 : f ≤ 6) {Q : Option Value → XH → Prop} {X : String → XH → Prop} : ∀ (k x A : Nat), x + k = 7 → 1 ≤ x →
    XW (xrm 2 0 0) mX11_tellAhead (xE 100 Q X 0 0) 100 0 0 h 53 [some (.ref 56), some (.int (nI n)), some (.int (nI (od6 (bOd (sB s))))), some (.int (nI i)), some (.int (nI q)), some (.long (lN (A + sN (fun g => bOd (sB s) f * bOd (sB s) g * min (p (bT (sB s) q f)) (p (bT (sB s) q g))) x k))), none, some (.int (nI (f + 1))), none] [] →
    XW (xrm 2 0 0) mX11_tellAhead (xE 100 Q X 0 0) 100 0 0 h 63 [some (.ref 56), some (.int (nI n)), some (.int (nI (od6 (bOd (sB s))))), some (.int (nI i)), some (.int (nI q)), some (.long (lN A)), none, some (.int (nI f)), some (.int (nI x))] [] := by
  have hl := hg.l
  obtain ⟨hM, g1, g4, g5, g6, g7, g8⟩ := id hR.1
  intro k
  induction k with
  | zero =>
    intro x A hx x1 hQ
    refine v_X11_tellAhead_63 hM _ _ _ _ _ _ (nI x) ⟨fun _ => ?_, fun c => absurd (nI_lt (a := 6) (by omega) (by omega)) c⟩
    rw [nI_1]
    exact hQ
  | succ k ih =>
    intro x A hx x1 hQ
    obtain ⟨t1, t2⟩ := g8 q (by omega) x (by omega)
    obtain ⟨u1, u2⟩ := g8 q (by omega) f (by omega)
    have o9 := hg.die.1 x x1 (by omega)
    have o8 := hg.die.1 f f1 f2
    have b1 := hb (bT (sB s) q x)
    have b2 := hb (bT (sB s) q f)
    refine v_X11_tellAhead_63 hM _ _ _ _ _ _ (nI x) ⟨fun c => absurd c (nI_nlt (a := 6) (by omega) (by omega)), fun _ => ?_⟩
    rw [nI_p1 x1, nI_p1 f1, m67, m67, nI_clamp (show f - 1 < 2 ^ 31 by omega), nI_clamp (show x - 1 < 2 ^ 31 by omega), nI_clamp (show 101 * f + q < 2 ^ 31 by omega), nI_clamp (show 101 * x + q < 2 ^ 31 by omega), t1, u1, nI_clamp (show bT (sB s) q x < 2 ^ 31 by omega), nI_clamp (show bT (sB s) q f < 2 ^ 31 by omega), g7 f f1 f2, g7 x x1 (by omega), hv _ t2, hv _ u2, lN_min (by omega) (by omega), nI_l (by omega), nI_l (by omega), lN_mul, lN_mul, lN_add, nI_1]
    refine ⟨vp_in_nI (by omega) (by omega), vp_in_nI (by omega) (by omega), vp_in_nI (by omega) (by omega), vp_in_nI (by omega) (by omega), vp_in_nI (by omega) (by omega), vp_in_nI (by omega) (by omega), ih (x + 1) _ (by omega) (by omega) ?_⟩
    rw [sN, ← Nat.add_assoc] at hQ
    exact hQ
theorem l_mah1 {s : SG} (hg : GoodS s) {h0 h : XH} (hR : mT h0 h s (bT (sB s))) {q n i : Nat} (hi : i ≤ 100) (hq : q < bLast (sB s)) (hv : ∀ j, j ≤ bLast (sB s) → xL h 81 j = lN (hA (sB s) i j)) {Q : Option Value → XH → Prop} {X : String → XH → Prop}
    (hQ : XW (xrm 2 0 0) mX11_tellAhead (xE 100 Q X 0 0) 100 0 0 (xSL 82 (va_up (xL h 82) q (lN (hA (sB s) (i + 1) q))) h) 36 [some (.ref 56), some (.int (nI n)), some (.int (nI (od6 (bOd (sB s))))), some (.int (nI i)), some (.int (nI (q + 1))), none, none, none, none] []) : ∀ (k f : Nat), f + k = 6 →
    XW (xrm 2 0 0) mX11_tellAhead (xE 100 Q X 0 0) 100 0 0 h 53 [some (.ref 56), some (.int (nI n)), some (.int (nI (od6 (bOd (sB s))))), some (.int (nI i)), some (.int (nI q)), some (.long (lN (sN (fun f => sN (fun g => bOd (sB s) f * bOd (sB s) g * min (hA (sB s) i (bT (sB s) q f)) (hA (sB s) i (bT (sB s) q g))) 1 6) 1 f))), none, some (.int (nI (f + 1))), none] [] := by
  have hl := hg.l
  have ha := hg.die.all
  have h54 : od6 (bOd (sB s)) * od6 (bOd (sB s)) ≤ 54 * 54 := Nat.mul_le_mul ha.2 ha.2
  have hp : 0 < od6 (bOd (sB s)) * od6 (bOd (sB s)) := Nat.mul_pos ha.1 ha.1
  obtain ⟨hM, g1, g4, g5, g6, g7, g8⟩ := id hR.1
  intro k
  induction k with
  | zero =>
    intro f hf
    have : f = 6 := by omega
    subst this
    have hS := S2_le (od := bOd (sB s)) (p := fun f => hA (sB s) i (bT (sB s) q f)) (M := i * 1000000000) (fun f _ _ => hA_le hg _ _)
    have hS2 : S2 (bOd (sB s)) (fun f => hA (sB s) i (bT (sB s) q f)) < 2 ^ 63 := by
      have := Nat.mul_le_mul h54 (show i * 1000000000 ≤ 100000000000 by omega)
      omega
    have e0 : (0 : Int64) = lN 0 := rfl
    have e9 : (1000000000 : Int64) = lN 1000000000 := rfl
    have ev : (1000000000 : Int64) + lN (S2 (bOd (sB s)) (fun f => hA (sB s) i (bT (sB s) q f))) / lN (od6 (bOd (sB s)) * od6 (bOd (sB s))) = lN (hA (sB s) (i + 1) q) := by
      rw [e9, pk_lDiv hS2 hp (by omega), lN_add]
      show _ = lN (if q = bLast (sB s) then 0 else _)
      rw [if_neg (by omega)]
    unfold S2 at ev
    refine v_X11_tellAhead_53 hM _ _ _ _ _ (nI 7) ⟨fun _ => ?_, fun c => absurd (by decide) c⟩
    rw [nI_l (by omega), lN_mul, ev, nI_1, nI_clamp (by omega)]
    refine ⟨?_, vp_in_nI (by omega) (by omega), hQ⟩
    intro z
    rw [e0, lN_eq (by omega) (by omega)] at z
    omega
  | succ k ih =>
    intro f hf
    refine v_X11_tellAhead_53 hM _ _ _ _ _ (nI (f + 1)) ⟨fun c => absurd c (nI_nlt (a := 6) (by omega) (by omega)), fun _ => ?_⟩
    refine l_mah2 hg hR hq hv (fun j => by have := hA_le hg i j; omega) (by omega) (by omega) 6 1 _ rfl (Nat.le_refl _) ?_
    have := ih (f + 1) (by omega)
    rw [sN_last, Nat.add_comm 1 f] at this
    exact this
theorem l_mahS {s : SG} (hg : GoodS s) {h0 : XH} {n i : Nat} (hi : i ≤ 100) {Q : Option Value → XH → Prop} {X : String → XH → Prop} : ∀ (k x : Nat) (h : XH), x + k = bLast (sB s) → mT h0 h s (bT (sB s)) → (∀ j, j ≤ bLast (sB s) → xL h 81 j = lN (hA (sB s) i j)) → (∀ j, j < x → xL h 82 j = lN (hA (sB s) (i + 1) j)) →
    (∀ h', mT h0 h' s (bT (sB s)) → (∀ j, j ≤ bLast (sB s) → xL h' 81 j = lN (hA (sB s) i j)) → (∀ j, j < bLast (sB s) → xL h' 82 j = lN (hA (sB s) (i + 1) j)) → XW (xrm 2 0 0) mX11_tellAhead (xE 100 Q X 0 0) 100 0 0 h' 176 [some (.ref 56), some (.int (nI n)), some (.int (nI (od6 (bOd (sB s))))), some (.int (nI i)), some (.int (nI 0)), none, none, none, none] []) →
    XW (xrm 2 0 0) mX11_tellAhead (xE 100 Q X 0 0) 100 0 0 h 36 [some (.ref 56), some (.int (nI n)), some (.int (nI (od6 (bOd (sB s))))), some (.int (nI i)), some (.int (nI x)), none, none, none, none] [] := by
  have hl := hg.l
  intro k
  induction k with
  | zero =>
    intro x h hx hR hv hz hQ
    have : x = bLast (sB s) := by omega
    subst this
    refine v_X11_tellAhead_36 hR.1.1 _ _ _ (nI _) ⟨fun _ => hQ h hR hv hz, fun c => absurd ?_ c⟩
    rw [hR.1.2.1]; exact nI_le (Nat.le_refl _) (by omega)
  | succ k ih =>
    intro x h hx hR hv hz hQ
    refine v_X11_tellAhead_36 hR.1.1 _ _ _ (nI _) ⟨fun c => absurd c ?_, fun _ => ?_⟩
    · rw [hR.1.2.1]; exact nI_ge (by omega) (by omega)
    have hf : xfr 82 83 h (xSL 82 (va_up (xL h 82) x (lN (hA (sB s) (i + 1) x))) h) := xfr.SL (by omega) (by omega)
    exact l_mah1 hg hR hi (by omega) hv (ih (x + 1) _ (by omega) (hR.fr hf (by omega)) (fun j hj => by rw [xL_ne (by decide)]; exact hv j hj) (fun j hj => by
      rw [xL_at]
      by_cases e : j = x
      · rw [e, va_up_eq]
      · rw [va_up_of _ _ e]; exact hz j (by omega)) hQ) 6 0 rfl
theorem l_mahC {s : SG} (hg : GoodS s) {h0 : XH} {n i : Nat} {Q : Option Value → XH → Prop} {X : String → XH → Prop} : ∀ (k x : Nat) (h : XH), x + k = bLast (sB s) → mT h0 h s (bT (sB s)) → (∀ j, j ≤ bLast (sB s) → xL h 81 j = lN (hA (sB s) (if j < x then i + 1 else i) j)) → (∀ j, j < bLast (sB s) → xL h 82 j = lN (hA (sB s) (i + 1) j)) →
    (∀ h', mT h0 h' s (bT (sB s)) → (∀ j, j ≤ bLast (sB s) → xL h' 81 j = lN (hA (sB s) (i + 1) j)) → XW (xrm 2 0 0) mX11_tellAhead (xE 100 Q X 0 0) 100 0 0 h' 28 [some (.ref 56), some (.int (nI n)), some (.int (nI (od6 (bOd (sB s))))), some (.int (nI (i + 1))), none, none, none, none, none] []) →
    XW (xrm 2 0 0) mX11_tellAhead (xE 100 Q X 0 0) 100 0 0 h 176 [some (.ref 56), some (.int (nI n)), some (.int (nI (od6 (bOd (sB s))))), some (.int (nI i)), some (.int (nI x)), none, none, none, none] [] := by
  have hl := hg.l
  intro k
  induction k with
  | zero =>
    intro x h hx hR hv hz hQ
    have : x = bLast (sB s) := by omega
    subst this
    refine v_X11_tellAhead_176 hR.1.1 _ _ _ (nI _) ⟨fun _ => ?_, fun c => absurd ?_ c⟩
    · rw [nI_1]
      refine hQ h hR (fun j hj => ?_)
      rw [hv j hj]
      by_cases e : j = bLast (sB s)
      · rw [e, hA_last, hA_last]
      · rw [if_pos (by omega)]
    · rw [hR.1.2.1]; exact nI_le (Nat.le_refl _) (by omega)
  | succ k ih =>
    intro x h hx hR hv hz hQ
    refine v_X11_tellAhead_176 hR.1.1 _ _ _ (nI _) ⟨fun c => absurd c ?_, fun _ => ⟨vp_in_nI (by omega) (by omega), vp_in_nI (by omega) (by omega), ?_⟩⟩
    · rw [hR.1.2.1]; exact nI_ge (by omega) (by omega)
    rw [nI_clamp (by omega), nI_1, hz x (by omega)]
    have hf : xfr 81 82 h (xSL 81 (va_up (xL h 81) x (lN (hA (sB s) (i + 1) x))) h) := xfr.SL (by omega) (by omega)
    refine ih (x + 1) _ (by omega) (hR.fr hf (by omega)) (fun j hj => ?_) (fun j hj => by rw [xL_ne (by decide)]; exact hz j hj) hQ
    rw [xL_at]
    by_cases e : j = x
    · rw [e, va_up_eq, if_pos (by omega)]
    · rw [va_up_of _ _ e, hv j hj]
      by_cases e2 : j < x
      · rw [if_pos e2, if_pos (by omega)]
      · rw [if_neg e2, if_neg (by omega)]
theorem l_mah {s : SG} (hg : GoodS s) {h0 : XH} {n : Nat} (hn : n ≤ 100) {Q : Option Value → XH → Prop} {X : String → XH → Prop} (hQ : ∀ h', mT h0 h' s (bT (sB s)) → (∀ j, j ≤ bLast (sB s) → xL h' 81 j = lN (hA (sB s) n j)) → Q none h') : ∀ (k i : Nat) (h : XH), i + k = n → mT h0 h s (bT (sB s)) → (∀ j, j ≤ bLast (sB s) → xL h 81 j = lN (hA (sB s) i j)) →
    XW (xrm 2 0 0) mX11_tellAhead (xE 100 Q X 0 0) 100 0 0 h 28 [some (.ref 56), some (.int (nI n)), some (.int (nI (od6 (bOd (sB s))))), some (.int (nI i)), none, none, none, none, none] [] := by
  intro k
  induction k with
  | zero =>
    intro i h hi hR hv
    have : i = n := by omega
    subst this
    exact v_X11_tellAhead_28 hR.1.1 _ _ (nI i) ⟨fun _ => hQ h hR hv, fun c => absurd (nI_le (Nat.le_refl _) (by omega)) c⟩
  | succ k ih =>
    intro i h hi hR hv
    refine v_X11_tellAhead_28 hR.1.1 _ _ (nI i) ⟨fun c => absurd c (nI_ge (by omega) (by omega)), fun _ => l_mahS hg (by omega) (bLast (sB s)) 0 h (by omega) hR hv (fun j hj => by omega) (fun h' k1 k2 k3 => l_mahC hg (bLast (sB s)) 0 h' (by omega) k1 (fun j hj => by rw [if_neg (by omega)]; exact k2 j hj) k3 (fun h2 q1 q2 => ih (i + 1) h2 (by omega) q1 q2))⟩
theorem l_mah0 {s : SG} {h0 : XH} {n all : Int32} {Q : Option Value → XH → Prop} {X : String → XH → Prop} : ∀ (k x : Nat) (h : XH), x + k = 101 → mT h0 h s (bT (sB s)) → (∀ j, j < x → xL h 81 j = 0) →
    (∀ h', mT h0 h' s (bT (sB s)) → (∀ j, j < 101 → xL h' 81 j = 0) → XW (xrm 2 0 0) mX11_tellAhead (xE 100 Q X 0 0) 100 0 0 h' 28 [some (.ref 56), some (.int n), some (.int all), some (.int (nI 0)), none, none, none, none, none] []) →
    XW (xrm 2 0 0) mX11_tellAhead (xE 100 Q X 0 0) 100 0 0 h 7 [some (.ref 56), some (.int n), some (.int all), some (.int (nI x)), none, none, none, none, none] [] := by
  intro k
  induction k with
  | zero =>
    intro x h hx hR hz hQ
    have : x = 101 := by omega
    subst this
    exact v_X11_tellAhead_7 hR.1.1 _ _ (nI 101) ⟨fun _ => hQ h hR hz, fun c => absurd (by decide) c⟩
  | succ k ih =>
    intro x h hx hR hz hQ
    refine v_X11_tellAhead_7 hR.1.1 _ _ (nI x) ⟨fun c => absurd c (nI_ge (b := 101) (by omega) (by omega)), fun _ => ⟨vp_in_nI (by omega) (by omega), ?_⟩⟩
    rw [nI_clamp (by omega), nI_1]
    have hf : xfr 81 82 h (xSL 81 (va_up (xL h 81) x 0) h) := xfr.SL (by omega) (by omega)
    refine ih (x + 1) _ (by omega) (hR.fr hf (by omega)) (fun j hj => ?_) hQ
    rw [xL_at]
    by_cases e : j = x
    · rw [e, va_up_eq]
    · rw [va_up_of _ _ e]; exact hz j (by omega)
theorem m_ahead {s : SG} (hg : GoodS s) {h0 h : XH} (hR : mT h0 h s (bT (sB s))) {n : Nat} (hn : n ≤ 100) : XSpec mX11_tellAhead 2 0 0 100 100 [.ref 56, .int (nI n)] h (fun v h' => v = none ∧ mT h0 h' s (bT (sB s)) ∧ ∀ j, j ≤ bLast (sB s) → xL h' 81 j = lN (hA (sB s) n j)) xno := by
  have hl := hg.l
  refine XSpec.of rfl (by decide) (Nat.le_of_ble_eq_true rfl) rfl (v_X11_tellAhead_0 hR.1.1 (nI n) ⟨_, s_X11_allOdds _ hg.die.1 h hR.1.1 hR.1.2.2.2.2.2.1, ?_⟩)
  rintro v h1 ⟨rfl, rfl⟩
  exact ⟨_, rfl, l_mah0 101 0 h1 (by omega) hR (fun j hj => by omega) (fun h' k1 k2 => l_mah hg hn (fun h2 q1 q2 => ⟨rfl, q1, q2⟩) n 0 h' (by omega) k1 (fun j hj => by rw [k2 j (by omega)]; rfl))⟩
theorem m_tellT {h0 h : XH} {s : SG} (hg : GoodS s) (hR : m3 h0 h s) : XSpec mX11_tellBoard 5 0 0 100 100 [.ref 56] h (fun v h' => v = none ∧ mT h0 h' s (bT (sB s))) xno := by
  refine (m_tellJ hg hR).mono ?_ (fun _ _ z => z)
  rintro v h' ⟨e, hR, -⟩
  exact ⟨e, hR⟩
theorem s_X11_ahead {h : XH} {s : SG} (hM : MI h s) (hg : GoodS s) (q n : Int32) : XSpec mX11_ahead 6 0 0 100 100 [.ref 56, .int q, .int n] h (mEndL h s (kd2 (inR q 0 (bLast (sB s))) (inR n 0 100)) (fun z => z = ahA (sB s) q.toNatClampNeg n.toNatClampNeg)) xno := by
  have hl := hg.l
  have hR := m3.code hM
  refine XSpec.of rfl (by decide) (Nat.le_of_ble_eq_true rfl) rfl (v_X11_ahead_0 hM.1 q n ⟨_, m_isSquare hR.1 hl.2.1 q, ?_⟩)
  rintro v h1 ⟨rfl, rfl⟩
  refine ⟨_, rfl, fun c => ⟨_, m_isIn0 n 100 100 100 (by decide) (by decide), ?_⟩, fun c => m_failL hR.1 hR.2.1 1 (kd2_1 (bI_0.1 c)) (by decide) 1 rfl⟩
  have hq := bI_n0.1 c
  rintro v h2 ⟨rfl, rfl⟩
  refine ⟨_, rfl, fun c2 => ?_, fun c2 => m_failL hR.1 hR.2.1 2 (kd2_2 hq (bI_0.1 c2)) (by decide) 2 rfl⟩
  have hn := bI_n0.1 c2
  have hk := kd2_t hq (show inR n 0 100 = true from hn)
  obtain ⟨q, hq', rfl⟩ := inR_nI hq
  obtain ⟨n, hn', rfl⟩ := inR_nI hn
  rw [nI_clamp (show q < 2 ^ 31 by omega), nI_clamp (show n < 2 ^ 31 by omega), hk]
  refine ⟨_, m_tellT hg hR, ?_⟩
  rintro v h3 ⟨rfl, hR3⟩
  refine ⟨rfl, _, m_ahead hg hR3 hn', ?_⟩
  rintro v h4 ⟨rfl, hR4, hv⟩
  refine ⟨rfl, mp_lie hR4.1.1, vp_in_nI (by omega) (by omega), _, rfl, fun _ => hv q hq', hR4.2.2.2, hR4.2.1, hR4.2.2.1⟩
theorem m_isIn1 {h : XH} (x : Int32) (m : Int32) (b9 : Int64) (M : Nat) (hM : m.toInt = M) (hb : b9 = Int32.toInt64 m) : XSpec mX11_isIn 1 0 0 100 100 [.long (Int32.toInt64 x), .long 1, .long b9] h (xq (some (.int (bI (inR x 1 M)))) h) xno := by
  have := m_isIn 100 h x 1 b9 1 m (by decide) hb
  rw [hM] at this
  exact this
theorem s_X11_choose {h : XH} {s : SG} (hM : MI h s) (hg : GoodS s) (q o t n : Int32) : XSpec mX11_choose 6 0 0 100 100 [.ref 56, .int q, .int o, .int t, .int n] h (mEndI h s (kd2 (inR q 0 (bLast (sB s)) && inR o 1 6 && inR t 1 6) (inR n 1 100)) (fun z => z = chA (sB s) q.toNatClampNeg o.toNatClampNeg t.toNatClampNeg n.toNatClampNeg)) xno := by
  have hl := hg.l
  have hR := m3.code hM
  refine XSpec.of rfl (by decide) (Nat.le_of_ble_eq_true rfl) rfl (v_X11_choose_0 hM.1 q o t n ⟨_, m_isSquare hR.1 hl.2.1 q, ?_⟩)
  rintro v h1 ⟨rfl, rfl⟩
  refine ⟨_, rfl, fun c => m_failI hR.1 hR.2.1 1 (kd2_1 (by rw [bI_0.1 c]; rfl)) (by decide) 1 rfl, fun c => ⟨_, m_isFace 100 _ o, ?_⟩⟩
  have hq := bI_n0.1 c
  rintro v h2 ⟨rfl, rfl⟩
  refine ⟨_, rfl, fun c2 => m_failI hR.1 hR.2.1 1 (kd2_1 (by rw [hq, bI_0.1 c2]; rfl)) (by decide) 1 rfl, fun c2 => ⟨_, m_isFace 100 _ t, ?_⟩⟩
  have ho := bI_n0.1 c2
  rintro v h3 ⟨rfl, rfl⟩
  refine ⟨_, rfl, fun c3 => ⟨_, m_isIn1 n 100 100 100 (by decide) (by decide), ?_⟩, fun c3 => m_failI hR.1 hR.2.1 1 (kd2_1 (by rw [hq, ho]; exact bI_0.1 c3)) (by decide) 1 rfl⟩
  have ht := bI_n0.1 c3
  have hqot : (inR q 0 (bLast (sB s)) && inR o 1 6 && inR t 1 6) = true := by rw [hq, ho]; exact ht
  rintro v h4 ⟨rfl, rfl⟩
  refine ⟨_, rfl, fun c4 => ?_, fun c4 => m_failI hR.1 hR.2.1 2 (kd2_2 hqot (bI_0.1 c4)) (by decide) 2 rfl⟩
  have hn := bI_n0.1 c4
  have hk := kd2_t hqot (show inR n 1 100 = true from hn)
  obtain ⟨q, hq', rfl⟩ := inR_nI hq
  obtain ⟨o, o1, o2, rfl⟩ := inR_1 (n := 6) ho
  obtain ⟨t, t1, t2, rfl⟩ := inR_1 (n := 6) ht
  obtain ⟨n, n1, n2, rfl⟩ := inR_1 hn
  rw [nI_clamp (show q < 2 ^ 31 by omega), nI_clamp (show n < 2 ^ 31 by omega), nI_clamp (show o < 2 ^ 31 by omega), nI_clamp (show t < 2 ^ 31 by omega), nI_p1 n1, hk]
  refine ⟨_, m_tellT hg hR, ?_⟩
  rintro v h5 ⟨rfl, hR5⟩
  refine ⟨rfl, _, m_ahead hg hR5 (show n - 1 ≤ 100 by omega), ?_⟩
  rintro v h6 ⟨rfl, hR6, hv⟩
  obtain ⟨hM6, g1, g4, g5, g6, g7, g8⟩ := id hR6.1
  obtain ⟨e1, tt⟩ := g8 q hq' t t2
  obtain ⟨e2, to⟩ := g8 q hq' o o2
  have b1 := hA_le hg (n - 1) (bT (sB s) q t)
  have b2 := hA_le hg (n - 1) (bT (sB s) q o)
  rw [m67, m67, nI_clamp (show 101 * t + q < 2 ^ 31 by omega), nI_clamp (show 101 * o + q < 2 ^ 31 by omega), e1, e2, nI_clamp (show bT (sB s) q t < 2 ^ 31 by omega), nI_clamp (show bT (sB s) q o < 2 ^ 31 by omega), hv _ tt, hv _ to, lg_cmp_ge, pk_lLE (by omega) (by omega)]
  unfold chA
  refine ⟨rfl, mp_lie hM6, mp_to hM6, vp_in_nI (by omega) (by omega), vp_in_nI (by omega) (by omega), mp_lie hM6, mp_to hM6, vp_in_nI (by omega) (by omega), vp_in_nI (by omega) (by omega), fun c => ⟨_, rfl, fun _ => ?_, hR6.2.2.2, hR6.2.1, hR6.2.2.1⟩, fun c => ⟨_, rfl, fun _ => ?_, hR6.2.2.2, hR6.2.1, hR6.2.2.1⟩⟩
  · rw [if_neg (by omega)]
  · rw [if_pos (by omega)]
