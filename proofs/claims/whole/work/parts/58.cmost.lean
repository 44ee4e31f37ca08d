/-! THE CLASS: most, wanted -/
def aL (x : Int64) : Int64 := if 0 < x then x else -x
theorem i64_lt (x y : Int64) : x < y ↔ x.toInt < y.toInt := Int64.lt_iff_toInt_lt
theorem aL_nn {a b : Nat} (ha : a < 2 ^ 62) (hb : b < 2 ^ 62) : -1 < aL (lN a - lN b) := by
  have e1 : (-1 : Int64).toInt = -1 := by decide
  have e0 : (0 : Int64).toInt = 0 := by decide
  have nn : ∀ k : Nat, k < 2 ^ 63 → -1 < lN k := fun k hk => by rw [i64_lt, e1, pk_lT hk]; omega
  unfold aL
  by_cases c : 0 < lN a - lN b
  · rw [if_pos c]
    rw [i64_lt, e0] at c
    rw [i64_lt, e1]; omega
  · rw [if_neg c]
    by_cases d : b ≤ a
    · rw [lN_sub d] at c ⊢
      have z : (0 : Int64) = lN 0 := rfl
      rw [z, pk_lLT (by omega) (by omega)] at c
      have : a - b = 0 := by omega
      rw [this]; decide
    · have : lN a - lN b = -(lN (b - a)) := by rw [← lN_sub (by omega), Int64.neg_sub]
      rw [this, Int64.neg_neg]
      exact nn _ (by omega)
theorem longK_le (last lst : Nat) (od : Nat → Nat) (T : Nat → Nat → Nat) (q n : Nat) : longK last lst od T q n ≤ n * 1000000000 := by
  unfold longK
  induction n with
  | zero => exact Nat.zero_le _
  | succ n ih =>
    rw [sN_last]
    have : outK last lst od T q (0 + n) ≤ 1000000000 := Nat.sub_le _ _
    omega
theorem chL_nn (b : BD) (e : Nat) {n : Nat} (hn : n ≤ 400) : -1 < aL (chL b e n) :=
  aL_nn (by have := longK_le (bLast b) (bLst b) (bOd b) (TJ b (bW b e) (bE b)) 0 n; unfold tLong; omega) (by have := longK_le (bLast b) (bLst b) (bOd b) (bT b) 0 n; unfold bLong; omega)
def moF (b : BD) (n : Nat) : Nat → Nat → Int32 → Int64 → Int32
  | 0, _, w, _ => w
  | c + 1, e, w, f => if f < aL (chL b e n) then moF b n c (e + 1) (nI e) (aL (chL b e n)) else moF b n c (e + 1) w f
theorem l_most {r : Nat} {s : SG} (hg : GoodS s) {n : Nat} (hn : n ≤ 400) (h0 : XH) {Q : Option Value → XH → Prop} {X : String → XH → Prop} : ∀ (k e : Nat) (w : Int32) (f : Int64) (h : XH), e + k = bKx (sB s) → CI h r s → cch h0 h → (∀ h', CI h' r s → cch h0 h' → Q (some (.int (moF (sB s) n k e w f))) h') →
    XW (xrm 8 1 6) mX10_most (xE 100 Q X 1 6) 100 0 0 h 34 [some (.ref 0), some (.int (nI n)), some (.long (lN (bLong (sB s) 0 n))), none, some (.int w), some (.long f), none, some (.int (nI e)), none, none] [] := by
  have hl := hg.l
  intro k
  induction k with
  | zero =>
    intro e w f h hi hC hc hQ
    have : e = bKx (sB s) := by omega
    subst this
    refine v_X10_most_34 r hC.bp _ _ _ _ (nI _) ⟨fun _ => hQ h hC hc, fun c => absurd ?_ c⟩
    rw [hC.kx]; exact nI_le (Nat.le_refl _) (by omega)
  | succ k ih =>
    intro e w f h hi hC hc hQ
    refine v_X10_most_34 r hC.bp _ _ _ _ (nI _) ⟨fun c => absurd c ?_, fun _ => ⟨_, s_sumWithout hC hg e n (by omega) hn, ?_⟩⟩
    · rw [hC.kx]; exact nI_ge (by omega) (by omega)
    rintro v h1 ⟨rfl, hC1, hc1⟩
    refine ⟨_, rfl, ?_⟩
    have e1 : (if 0 < lN (tLong (sB s) (bW (sB s) e) (bE (sB s)) n) - lN (bLong (sB s) 0 n) then lN (tLong (sB s) (bW (sB s) e) (bE (sB s)) n) - lN (bLong (sB s) 0 n) else -(lN (tLong (sB s) (bW (sB s) e) (bE (sB s)) n) - lN (bLong (sB s) 0 n))) = aL (chL (sB s) e n) := rfl
    rw [e1, nI_1, lg_cmp_le]
    refine ⟨fun c => ih (e + 1) w f h1 (by omega) hC1 (hc.trans hc1) (fun h' k1 k2 => ?_), fun c => ih (e + 1) _ _ h1 (by omega) hC1 (hc.trans hc1) (fun h' k1 k2 => ?_)⟩
    · have := hQ h' k1 k2
      unfold moF at this
      rw [if_neg (fun z => absurd c (Int64.not_le.2 z))] at this
      exact this
    · have := hQ h' k1 k2
      unfold moF at this
      rw [if_pos (Int64.not_le.1 c)] at this
      exact this
def mostA (b : BD) (n : Nat) : Int32 := moF b n (bKx b) 0 (-1) (-1)
theorem s_X10_most {h : XH} {r : Nat} {s : SG} (hC : CI h r s) (hg : GoodS s) (n : Int32) : XSpec mX10_most 8 1 6 100 100 [.ref 0, .int n] h (cEndI h r s (kd1 (inR n 0 400)) (fun z => z = mostA (sB s) n.toNatClampNeg)) (cThr h (kd1 (inR n 0 400)) eA eA) := by
  have hl := hg.l
  refine XSpec.of rfl (by decide) (Nat.le_of_ble_eq_true rfl) rfl (v_X10_most_0 r hC.bp n ⟨_, _, s_needThrows hC n, fun E9 h9 z => ⟨z.1, Or.inl ⟨kd1_f z.2.2, z.2.1⟩⟩, ?_⟩)
  rintro v h1 ⟨rfl, rfl, hn⟩
  have hk := kd1_t hn
  obtain ⟨n, hn', rfl⟩ := inR_nI (n := 400) hn
  rw [nI_clamp (show n < 2 ^ 31 by omega)]
  refine ⟨rfl, hC.p11, hC.p3, hC.p5, _, c_sumOut hC 21 (Or.inl rfl) _ hC.geo n hn', ?_⟩
  rintro v h2 ⟨rfl, hC2, hc2, -⟩
  exact ⟨_, rfl, l_most hg hn' h1 (bKx (sB s)) 0 (-1) (-1) h2 (by omega) hC2 hc2 (fun h' k1 k2 => ⟨hk, _, rfl, rfl, k1, k2⟩)⟩
/-! what one more exit changes -/
def gW (b : BD) (w : Int64) (n f t : Nat) : Int64 := aL (lN (tLong b (va_up (bJ b) f t) (bE b) n) - w)
def wStep (b : BD) (w : Int64) (n f x : Nat) (p : Int32 × Int64) : Int32 × Int64 := if x = f then p else if p.1 = -1 ∨ gW b w n f x < p.2 then ((nI (bLast b) + 1) * nI f + nI x, gW b w n f x) else p
def wIn (b : BD) (w : Int64) (n f : Nat) : Nat → Nat → Int32 × Int64 → Int32 × Int64
  | 0, _, p => p
  | c + 1, x, p => wIn b w n f c (x + 1) (wStep b w n f x p)
def wOut (b : BD) (w : Int64) (n : Nat) : Nat → Nat → Int32 × Int64 → Int32
  | 0, _, p => p.1
  | c + 1, f, p => wOut b w n c (f + 1) (if bJ b f = 0 then wIn b w n f (bLast b) 1 p else p)
def wantA (b : BD) (w : Int64) (n : Nat) : Int32 := if 24 ≤ bKx b then -1 else wOut b w n (bLast b - 1) 1 (-1, 0)
theorem wOut_s (b : BD) (w : Int64) (n c f : Nat) (p : Int32 × Int64) : wOut b w n (c + 1) f p = wOut b w n c (f + 1) (if bJ b f = 0 then wIn b w n f (bLast b) 1 p else p) := rfl
theorem wIn_s (b : BD) (w : Int64) (n f c x : Nat) (p : Int32 × Int64) : wIn b w n f (c + 1) x p = wIn b w n f c (x + 1) (wStep b w n f x p) := rfl
def OJx (h : XH) (J : Nat → Nat) (f : Nat) : Prop := ∀ j, j < 101 → j ≠ f → xI h 26 j = nI (J j)
theorem OJ.x {h : XH} {J : Nat → Nat} {f t : Nat} (hO : OJ h (va_up J f t)) : OJx h J f := fun j hj hn => by rw [hO j hj, va_up_of _ _ hn]
theorem OJx.put {h : XH} {J : Nat → Nat} {f t : Nat} (hO : OJx h J f) (hf : f ≤ 100) : OJ (xSI 26 (wr (xI h 26) 101 (nI f) (nI t)) h) (va_up J f t) := fun j hj => by
  rw [xI_at, iz_wr (M := 101) rfl (by omega)]
  unfold va_up
  by_cases z : j = f
  · rw [if_pos z, if_pos z]
  · rw [if_neg z, if_neg z]; exact hO j hj z
theorem farAt_up {C : Nat → Int32} {len last : Nat} {J : Nat → Nat} {f t1 t2 : Nat} (h1 : t1 ≠ 0) (h2 : t2 ≠ 0) (s g : Nat) : farAt C len last (va_up J f t1) s g = farAt C len last (va_up J f t2) s g := by
  have : jab (va_up J f t1) last s = jab (va_up J f t2) last s := by
    unfold jab
    refine sN_congr _ _ (fun j _ _ => ?_)
    unfold va_up
    by_cases z : j = f
    · rw [if_pos z, if_pos z, if_neg h1, if_neg h2]
    · rw [if_neg z, if_neg z]
  unfold farAt
  rw [this]
theorem CI.ft {h : XH} {r : Nat} {s : SG} (hC : CI h r s) : ∀ q, q < 101 → xI h (r + 8) q = if bJ (sB s) q = 0 then 0 else 1 := hC.2.1.2.2.2.2.2.2.2.1
theorem l_wIn {r : Nat} {s : SG} (hg : GoodS s) {w : Int64} {n f : Nat} (hn : n ≤ 400) (h1 : 1 ≤ f) (hf : f < bLast (sB s)) (hJ : bJ (sB s) f = 0) (h0 : XH) {Q : Option Value → XH → Prop} {X : String → XH → Prop} : ∀ (k x : Nat) (p : Int32 × Int64) (h : XH), x + k = bLast (sB s) + 1 → 1 ≤ x → CI h r s → cch h0 h → OJx h (bJ (sB s)) f → OF h (sB s) (va_up (bJ (sB s)) f (bLast (sB s))) →
    (∀ h', CI h' r s → cch h0 h' → OJ h' (bJ (sB s)) → XW (xrm 6 0 0) mX10_nearest (xE 100 Q X 0 0) 100 0 0 h' 20 [some (.ref 0), some (.long w), none, some (.int (nI n)), some (.int (wIn (sB s) w n f k x p).1), some (.long (wIn (sB s) w n f k x p).2), none, some (.int (nI (f + 1))), none, none, none] []) →
    XW (xrm 6 0 0) mX10_nearest (xE 100 Q X 0 0) 100 0 0 h 77 [some (.ref 0), some (.long w), none, some (.int (nI n)), some (.int p.1), some (.long p.2), none, some (.int (nI f)), some (.int (nI x)), none, none] [] := by
  have hl := hg.l
  intro k
  induction k with
  | zero =>
    intro x p h hi hx hC hc hO hF hQ
    have hr := hC.r
    have : x = bLast (sB s) + 1 := by omega
    subst this
    refine v_X10_nearest_77 r hC.bp _ _ _ _ _ (nI _) ⟨fun _ => ?_, fun c => absurd ?_ c⟩
    · have hs := csc.put (h := h) (f := wr (xI h 26) 101 (nI f) (nI 0)) hr
      have hO' := hO.put (t := 0) (by omega)
      have e : va_up (bJ (sB s)) f 0 = bJ (sB s) := by rw [← hJ, va_up_id]
      rw [e] at hO'
      rw [nI_1]
      exact hQ _ (hC.csc hs) (hc.trans (hs.cch hr)) hO'
    · rw [hC.last]; exact nI_lt (by omega) (by omega)
  | succ k ih =>
    intro x p h hi hx hC hc hO hF hQ
    have hr := hC.r
    rw [wIn_s] at hQ
    refine v_X10_nearest_77 r hC.bp _ _ _ _ _ (nI _) ⟨fun c => absurd c ?_, fun _ => ⟨fun c => ?_, fun c => ?_⟩⟩
    · rw [hC.last]; exact nI_nlt (by omega) (by omega)
    · have hxf : ¬ x = f := fun z => c (by rw [z])
      have hs := csc.put (h := h) (f := wr (xI h 26) 101 (nI f) (nI x)) hr
      have hC1 := hC.csc hs
      have hO1 := hO.put (t := x) (by omega)
      have hF1 : OF (xSI 26 (wr (xI h 26) 101 (nI f) (nI x)) h) (sB s) (va_up (bJ (sB s)) f (bLast (sB s))) := hF.put
      rw [hC.e]
      refine ⟨_, c_lay hC1 hg _ _ _ hl.2.2.2 (hg.bj.set hf (by omega)) hO1 hF1 (fun s' g => farAt_up (by omega) (by omega) s' g), ?_⟩
      rintro v h2 ⟨rfl, hG2, hO2, hF2, hC2, hc2⟩
      refine ⟨rfl, hC2.p11, hC2.p3, hC2.p6, _, c_sumOut hC2 25 (Or.inr rfl) _ hG2 n hn, ?_⟩
      rintro v h3 ⟨rfl, hC3, hc3, hf3⟩
      have hO3 := (hO2.fr hf3 (by omega)).x
      have hF3 := hF2.fr hf3 (by omega)
      have hc4 := ((hc.trans (hs.cch hr)).trans hc2).trans hc3
      refine ⟨_, rfl, ?_⟩
      have eg : (if 0 < lN (longK (bLast (sB s)) (bLst (sB s)) (bOd (sB s)) (TJ (sB s) (va_up (bJ (sB s)) f x) (bE (sB s))) 0 n) - w then lN (longK (bLast (sB s)) (bLst (sB s)) (bOd (sB s)) (TJ (sB s) (va_up (bJ (sB s)) f x) (bE (sB s))) 0 n) - w else -(lN (longK (bLast (sB s)) (bLst (sB s)) (bOd (sB s)) (TJ (sB s) (va_up (bJ (sB s)) f x) (bE (sB s))) 0 n) - w)) = gW (sB s) w n f x := rfl
      rw [eg, hC3.last, nI_1 x, lg_cmp_ge]
      unfold wStep at hQ
      rw [if_neg hxf] at hQ
      refine ⟨fun c1 => ⟨hC3.p3, ?_⟩, fun c1 => ⟨fun c2 => ?_, fun c2 => ⟨hC3.p3, ?_⟩⟩⟩
      · rw [if_pos (Or.inl c1)] at hQ
        exact ih (x + 1) (_, _) h3 (by omega) (by omega) hC3 hc4 hO3 hF3 hQ
      · rw [if_neg (fun z => z.elim c1 (fun y => absurd c2 (Int64.not_le.2 y)))] at hQ
        exact ih (x + 1) p h3 (by omega) (by omega) hC3 hc4 hO3 hF3 hQ
      · rw [if_pos (Or.inr (Int64.not_le.1 c2))] at hQ
        exact ih (x + 1) (_, _) h3 (by omega) (by omega) hC3 hc4 hO3 hF3 hQ
    · have hxf : x = f := (nI_eq (by omega) (by omega)).1 c
      rw [nI_1 x]
      unfold wStep at hQ
      rw [if_pos hxf] at hQ
      exact ih (x + 1) p h (by omega) (by omega) hC hc hO hF hQ
theorem l_wOut {r : Nat} {s : SG} (hg : GoodS s) {w : Int64} {n : Nat} (hn : n ≤ 400) (h0 : XH) {Q : Option Value → XH → Prop} {X : String → XH → Prop} : ∀ (k f : Nat) (p : Int32 × Int64) (h : XH), f + k = bLast (sB s) → 1 ≤ f → CI h r s → cch h0 h → OJ h (bJ (sB s)) →
    (∀ h', CI h' r s → cch h0 h' → Q (some (.int (wOut (sB s) w n k f p))) h') →
    XW (xrm 6 0 0) mX10_nearest (xE 100 Q X 0 0) 100 0 0 h 20 [some (.ref 0), some (.long w), none, some (.int (nI n)), some (.int p.1), some (.long p.2), none, some (.int (nI f)), none, none, none] [] := by
  have hl := hg.l
  intro k
  induction k with
  | zero =>
    intro f p h hi hx hC hc hO hQ
    have : f = bLast (sB s) := by omega
    subst this
    refine v_X10_nearest_20 r hC.bp _ _ _ _ (nI _) ⟨fun _ => hQ h hC hc, fun c => absurd ?_ c⟩
    rw [hC.last]; exact nI_le (by omega) (by omega)
  | succ k ih =>
    intro f p h hi hx hC hc hO hQ
    have hr := hC.r
    rw [wOut_s] at hQ
    have e8 : (if nI f < 0 then (0 : Int32) else if 101 ≤ nI f then 0 else if xI h (r + 8) (nI f).toNatClampNeg = 0 then 0 else 1) = if bJ (sB s) f = 0 then 0 else 1 := by
      rw [if_neg (nI_pos (by omega)), if_neg (show ¬ (101 : Int32) ≤ nI f from nI_ge (b := 101) (by omega) (by omega)), nI_clamp (by omega), hC.ft f (by omega)]
      by_cases z : bJ (sB s) f = 0
      · rw [if_pos z, if_pos rfl]
      · rw [if_neg z, if_neg (by decide)]
    refine v_X10_nearest_20 r hC.bp _ _ _ _ (nI _) ⟨fun c => absurd c ?_, fun _ => ?_⟩
    · rw [hC.last]; exact nI_ge (by omega) (by omega)
    rw [e8]
    refine ⟨fun c => ?_, fun c => ?_⟩
    · have hJ : bJ (sB s) f = 0 := by
        by_cases z : bJ (sB s) f = 0
        · exact z
        · rw [if_neg z] at c; exact absurd c (by decide)
      rw [if_pos hJ] at hQ
      have hs := csc.put (h := h) (f := wr (xI h 26) 101 (nI f) (nI (bLast (sB s)))) hr
      have hO1 := hO.put (f := f) (t := bLast (sB s)) (by omega)
      rw [hC.last]
      refine ⟨_, c_measure (hC.csc hs) hg _ (hg.bj.set (by omega) (Nat.le_refl _)) hO1, ?_⟩
      rintro v h2 ⟨rfl, hO2, hF2, hC2, hc2⟩
      refine ⟨rfl, l_wIn hg hn hx (by omega) hJ h0 (bLast (sB s)) 1 p h2 (by omega) (Nat.le_refl _) hC2 ((hc.trans (hs.cch hr)).trans hc2) hO2.x hF2 (fun h' k1 k2 k3 => ih (f + 1) _ h' (by omega) (by omega) k1 k2 k3 hQ)⟩
    · have hJ : ¬ bJ (sB s) f = 0 := fun z => c (by rw [if_pos z])
      rw [if_neg hJ] at hQ
      rw [nI_1]
      exact ih (f + 1) p h (by omega) (by omega) hC hc hO hQ
def spB (b : BD) (n : Int32) : Bool := decide (40 < bLast b ∨ 60 < n.toInt)
theorem s_isSpent {h : XH} {r : Nat} {s : SG} (hC : CI h r s) (hg : GoodS s) (n : Int32) : XSpec mX10_isSpent 1 0 0 100 100 [.ref 0, .int n] h (xq (some (.int (bI (spB (sB s) n)))) h) xno := by
  have hl := hg.l
  refine XSpec.of rfl (by decide) (Nat.le_of_ble_eq_true rfl) rfl (v_X10_isSpent_0 r hC.bp n ?_)
  have e40 : (40 : Int32).toInt = 40 := by decide
  have e60 : (60 : Int32).toInt = 60 := by decide
  rw [hC.last, i32_lt, i32_le, nI_toInt (by omega), e40, e60]
  unfold spB
  refine ⟨fun c => ⟨?_, rfl⟩, fun c => ⟨fun c2 => ⟨?_, rfl⟩, fun c2 => ⟨?_, rfl⟩⟩⟩
  · rw [decide_eq_true (by omega)]; rfl
  · rw [decide_eq_false (by omega)]; rfl
  · rw [decide_eq_true (by omega)]; rfl
def wnA (b : BD) (w : Int64) (n : Int32) : Int32 := if spB b n = true then -2 else wantA b w n.toNatClampNeg
theorem s_X10_wanted {h : XH} {r : Nat} {s : SG} (hC : CI h r s) (hg : GoodS s) (w : Int64) (n : Int32) : XSpec mX10_wanted 8 2 12 100 100 [.ref 0, .long w, .int n] h (cEndI h r s (kd1 (inR n 0 400 && decide (0 ≤ w))) (fun z => z = wnA (sB s) w n)) (cThr h (kd1 (inR n 0 400 && decide (0 ≤ w))) eA eA) := by
  have hl := hg.l
  refine XSpec.of rfl (by decide) (Nat.le_of_ble_eq_true rfl) rfl (v_X10_wanted_0 r hC.bp w n ⟨_, _, s_needThrows hC n, fun E9 h9 z => ⟨z.1, Or.inl ⟨kd1_f (by rw [z.2.2]; rfl), z.2.1⟩⟩, ?_⟩)
  rintro v h1 ⟨rfl, rfl, hn⟩
  refine ⟨rfl, ?_⟩
  rw [lg_cmp_ge]
  refine ⟨fun c => ⟨_, s_isSpent hC hg n, ?_⟩, fun c => ⟨rfl, Or.inl ⟨kd1_f (by rw [hn, decide_eq_false c]; rfl), rfl⟩⟩⟩
  have hk : kd1 (inR n 0 400 && decide (0 ≤ w)) = 0 := kd1_t (by rw [hn, decide_eq_true c]; rfl)
  rintro v h2 ⟨rfl, rfl⟩
  refine ⟨_, rfl, fun c2 => ⟨hC.p3, ?_⟩, fun c2 => ⟨hk, _, rfl, ?_, hC, cch.rfl⟩⟩
  · have c2' := bI_0.1 c2
    rw [hC.kx]
    have ew : wnA (sB s) w n = wantA (sB s) w n.toNatClampNeg := by unfold wnA; rw [c2']; rfl
    rw [ew]
    obtain ⟨n, hn', rfl⟩ := inR_nI (n := 400) hn
    rw [nI_clamp (show n < 2 ^ 31 by omega)]
    have e24 : (24 : Int32) = nI 24 := rfl
    rw [e24, nI_ltI (by omega) (by omega)]
    refine ⟨fun c3 => ?_, fun c3 => ⟨hk, _, rfl, ?_, hC, cch.rfl⟩⟩
    · have e : wantA (sB s) w n = wOut (sB s) w n (bLast (sB s) - 1) 1 (-1, 0) := by unfold wantA; rw [if_neg (by omega)]
      rw [e]
      refine ⟨fun v h' => v = some (.int (wOut (sB s) w n (bLast (sB s) - 1) 1 (-1, 0))) ∧ CI h' r s ∧ cch h2 h', XSpec.of rfl (by decide) (Nat.le_of_ble_eq_true rfl) rfl (v_X10_nearest_0 r hC.bp w (nI n) ⟨_, c_takeFeet hC hg, ?_⟩), ?_⟩
      · rintro v h3 ⟨rfl, hO3, hC3, hc3⟩
        exact ⟨rfl, l_wOut hg hn' h2 (bLast (sB s) - 1) 1 (-1, 0) h3 (by omega) (Nat.le_refl _) hC3 hc3 hO3 (fun h' k1 k2 => ⟨rfl, k1, k2⟩)⟩
      · rintro v h3 ⟨rfl, hC3, hc3⟩
        exact ⟨_, rfl, hk, _, rfl, rfl, hC3, hc3⟩
    · unfold wantA; rw [if_pos (by omega)]
  · unfold wnA; rw [if_pos (bI_n0.1 c2)]
