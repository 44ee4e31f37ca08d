/-! HOPES OF TWO: the class -/
/-- the place of a pair: the greater one leads -/
def tri : Nat → Nat
  | 0 => 0
  | n + 1 => tri n + (n + 1)
def pq (a b : Nat) : Nat := tri (max a b) + min a b
theorem tri_2 (n : Nat) : 2 * tri n = n * (n + 1) := by
  induction n with
  | zero => rfl
  | succ n ih =>
    have e : 2 * tri (n + 1) = 2 * (tri n + (n + 1)) := Eq.refl _
    rw [e, Nat.mul_add, ih, ← Nat.add_mul, Nat.mul_comm]
theorem tri_div (n : Nat) : n * (n + 1) / 2 = tri n := by
  rw [← tri_2]
  exact Nat.mul_div_cancel_left _ (by decide)
theorem tri_le {a b : Nat} (h : a ≤ b) : tri a ≤ tri b := by
  induction h with
  | refl => exact Nat.le_refl _
  | step _ ih => exact Nat.le_trans ih (Nat.le_add_right _ _)
theorem tri_lt {a b : Nat} (h : a < b) : tri a + a < tri b := by
  have h1 : tri (a + 1) ≤ tri b := tri_le h
  have h2 : tri (a + 1) = tri a + (a + 1) := Eq.refl _
  omega
theorem pq_sym (a b : Nat) : pq a b = pq b a := by
  unfold pq
  rw [Nat.max_comm, Nat.min_comm]
theorem pq_lt {L a b : Nat} (hL : L ≤ 40) (ha : a ≤ L) (hb : b ≤ L) : pq a b < 861 := by
  have h1 := tri_le (show max a b ≤ 40 by omega)
  have h2 : tri 40 = 820 := by decide
  unfold pq
  omega
theorem pq_inj {a b c d : Nat} (e : pq a b = pq c d) : (a = c ∧ b = d) ∨ (a = d ∧ b = c) := by
  unfold pq at e
  have key : max a b = max c d := by
    rcases Nat.lt_trichotomy (max a b) (max c d) with h | h | h
    · have := tri_lt h; omega
    · exact h
    · have := tri_lt h; omega
  rw [key] at e
  omega
theorem nI_mx {a b : Nat} (ha : a < 2 ^ 31) (hb : b < 2 ^ 31) : (if nI a < nI b then nI b else nI a) = nI (max a b) := by
  by_cases c : a < b
  · rw [if_pos ((nI_ltI ha hb).2 c), Nat.max_eq_right (by omega)]
  · rw [if_neg (fun z => c ((nI_ltI ha hb).1 z)), Nat.max_eq_left (by omega)]
theorem nI_mn {a b : Nat} (ha : a < 2 ^ 31) (hb : b < 2 ^ 31) : (if nI b < nI a then nI b else nI a) = nI (min a b) := by
  by_cases c : b < a
  · rw [if_pos ((nI_ltI hb ha).2 c), Nat.min_eq_right (by omega)]
  · rw [if_neg (fun z => c ((nI_ltI hb ha).1 z)), Nat.min_eq_left (by omega)]
theorem s_pair (n : Nat) (h : XH) {a b : Nat} (ha : a ≤ 100) (hb : b ≤ 100) : XSpec mX1_pair 2 0 0 n n [.int (nI a), .int (nI b)] h (xq (some (.int (nI (pq a b)))) h) xno := by
  have hm : max a b * (max a b + 1) ≤ 100 * 101 := Nat.mul_le_mul (by omega) (by omega)
  have e2 : (2 : Int32) = nI 2 := rfl
  refine XSpec.of rfl (by decide) (Nat.le_of_ble_eq_true rfl) rfl (v_X1_pair_0 n (nI a) (nI b) ?_)
  rw [nI_mx (by omega) (by omega), nI_mn (by omega) (by omega), nI_1, pk_mul, e2, pk_div (by omega) (by decide) (by decide), tri_div, nI_add]
  exact ⟨rfl, rfl⟩
theorem c_put1 {h : XH} {r : Nat} {s : SG} (hC : CI h r s) {y z : Nat} (hh : xHop y z (xP h)) {L x w : Nat} (hx : x ≤ L) (hw : w ≤ L) (hL : L ≤ 40) (v : Int64) {P : XH → Prop} (k : ∀ h2, CI h2 r s → cch h h2 → xHop y z (xP h2) → xL h2 y = xL h y → (∀ a b, a ≤ L → b ≤ L → xL h2 z (pq a b) = if (a = x ∧ b = w) ∨ (a = w ∧ b = x) then v else xL h z (pq a b)) → P h2) : ∃ Q1, XSpec mX1_putNext 1 0 0 100 100 [.ref 49, .int (nI (pq x w)), .long v] h Q1 xno ∧ ∀ v' h1, Q1 v' h1 → v' = none ∧ P h1 := by
  have hn := hh.ne
  refine ⟨_, s_X1_putNext h y z hh _ v, ?_⟩
  rintro v' h1 ⟨rfl, e1⟩
  rw [iz_wr (M := 861) rfl (pq_lt hL hx hw)] at e1
  subst e1
  obtain ⟨hC1, hc1⟩ := hopL hC hh (F := va_up (xL h z) (pq x w) v) z
  refine ⟨rfl, k _ hC1 hc1 hh (xL_ne hn.1) (fun a b ha hb => ?_)⟩
  rw [xL_at]
  by_cases c : (a = x ∧ b = w) ∨ (a = w ∧ b = x)
  · have e : pq a b = pq x w := by
      rcases c with ⟨c1, c2⟩ | ⟨c1, c2⟩
      · rw [c1, c2]
      · rw [c1, c2, pq_sym]
    rw [if_pos c, e, va_up_eq]
  · rw [if_neg c, va_up_of _ _ (fun q => c (pq_inj q))]
theorem c_atBoth {h : XH} {r : Nat} {s : SG} (_hC : CI h r s) {y z : Nat} (hh : xHop y z (xP h)) (hL : bLast (sB s) ≤ 40) {B : Nat → Nat → Nat} (hv : ∀ a b, a ≤ bLast (sB s) → b ≤ bLast (sB s) → xL h y (pq a b) = lN (B a b)) {a b : Nat} (ha : a ≤ bLast (sB s)) (hb : b ≤ bLast (sB s)) : XSpec mX1_atBoth 3 0 0 100 100 [.ref 49, .int (nI a), .int (nI b)] h (xq (some (.long (lN (B a b)))) h) xno := by
  refine XSpec.of rfl (by decide) (Nat.le_of_ble_eq_true rfl) rfl (v_X1_atBoth_0 100 y z hh (by omega) (nI a) (nI b) ⟨_, s_pair 100 h (by omega) (by omega), ?_⟩)
  rintro v h1 ⟨rfl, rfl⟩
  refine ⟨_, rfl, _, c_at hh (pq_lt hL ha hb) (hv a b ha hb), ?_⟩
  rintro v h2 ⟨rfl, e⟩
  exact ⟨_, rfl, rfl, e⟩
theorem bS_s (b : BD) (B : Nat → Nat → Nat) (x y f : Nat) : bS b B x y (f + 1) = bS b B x y f + bOd b (f + 1) * lsV b B x y (f + 1) := by
  unfold bS
  rw [sN_last, Nat.add_comm 1 f]
theorem l_sumBoth {r : Nat} {s : SG} (hg : GoodS s) {h : XH} (hC : CI h r s) {y z : Nat} (hh : xHop y z (xP h)) (hL : bLast (sB s) ≤ 40) {B : Nat → Nat → Nat} (hv : ∀ a b, a ≤ bLast (sB s) → b ≤ bLast (sB s) → xL h y (pq a b) = lN (B a b)) (hB : ∀ a b, B a b ≤ 100000000000) {o t : Nat} (hot : o ≤ t) (ht : t ≤ bLast (sB s)) (ho : o < bLast (sB s)) {Q : Option Value → XH → Prop} {X : String → XH → Prop} (hQ : Q (some (.long (lN (bS (sB s) B o t 6)))) h) : ∀ (k f : Nat), f + k = 6 →
    XW (xrm 4 0 0) mX1_sumOfBoth (xE 100 Q X 0 0) 100 0 0 h 6 [some (.ref 49), some (.ref r), some (.ref 21), some (.int (nI o)), some (.int (nI t)), some (.long (lN (bS (sB s) B o t f))), none, some (.int (nI (f + 1))), none, none, none, none, none] [] := by
  have hl := hg.l
  intro k
  induction k with
  | zero =>
    intro f hf
    have : f = 6 := by omega
    subst this
    exact v_X1_sumOfBoth_6 100 y z hh (by omega) r hC.rul hC.nr 21 hC.geo.2.1 (by omega) _ _ _ (nI 7) ⟨fun _ => hQ, fun c => absurd (by decide) c⟩
  | succ k ih =>
    intro f hf
    have tt := hg.tl t ht (f + 1) (by omega)
    have to := hg.tl o (by omega) (f + 1) (by omega)
    have o9 := hg.die.1 (f + 1) (by omega) (by omega)
    have hI := ih (f + 1) (by omega)
    rw [bS_s] at hI
    refine v_X1_sumOfBoth_6 100 y z hh (by omega) r hC.rul hC.nr 21 hC.geo.2.1 (by omega) _ _ _ (nI (f + 1)) ⟨fun c => absurd c (nI_nlt (a := 6) (by omega) (by omega)), fun _ => ⟨_, c_odds hC (by omega) (by omega), ?_⟩⟩
    rintro v h1 ⟨rfl, rfl⟩
    refine ⟨_, rfl, fun c => ⟨_, c_to hC (show o ≤ _ by omega) (by omega), ?_⟩, fun c => ?_⟩
    · rintro v h2 ⟨rfl, rfl⟩
      refine ⟨_, rfl, _, c_atBoth hC hh hL hv to ht, ?_⟩
      rintro v h3 ⟨rfl, rfl⟩
      refine ⟨_, rfl, _, c_to hC ht (by omega), ?_⟩
      rintro v h4 ⟨rfl, rfl⟩
      refine ⟨_, rfl, _, c_atBoth hC hh hL hv (show o ≤ _ by omega) tt, ?_⟩
      rintro v h5 ⟨rfl, rfl⟩
      refine ⟨_, rfl, ?_⟩
      have b1 := hB (bT (sB s) o (f + 1)) t
      have b2 := hB o (bT (sB s) t (f + 1))
      rw [lN_min (by omega) (by omega), nI_l (by omega), lN_mul, lN_mul, lN_add, lN_add, nI_1, hC.last]
      have hno : ¬ o = bLast (sB s) := by omega
      unfold lsV at hI
      rw [if_neg hno] at hI
      refine ⟨fun c2 => ?_, fun c2 => ?_⟩
      · rw [if_neg (fun z => c2 (by rw [z]))] at hI
        exact hI
      · rw [if_pos ((nI_eq (by omega) (by omega)).1 c2)] at hI
        exact hI
    · have c' : bOd (sB s) (f + 1) = 0 := (nI_eq (b := 0) (by omega) (by omega)).1 c
      rw [c', Nat.zero_mul, Nat.add_zero] at hI
      rw [nI_1]
      exact hI
theorem s_sumOfBoth {r : Nat} {s : SG} (hg : GoodS s) {h : XH} (hC : CI h r s) {y z : Nat} (hh : xHop y z (xP h)) (hL : bLast (sB s) ≤ 40) {B : Nat → Nat → Nat} (hv : ∀ a b, a ≤ bLast (sB s) → b ≤ bLast (sB s) → xL h y (pq a b) = lN (B a b)) (hB : ∀ a b, B a b ≤ 100000000000) {o t : Nat} (hot : o ≤ t) (ht : t ≤ bLast (sB s)) (ho : o < bLast (sB s)) : XSpec mX1_sumOfBoth 4 0 0 100 100 [.ref 49, .ref r, .ref 21, .int (nI o), .int (nI t)] h (xq (some (.long (lN (bS (sB s) B o t 6)))) h) xno :=
  XSpec.of rfl (by decide) (Nat.le_of_ble_eq_true rfl) rfl (v_X1_sumOfBoth_0 100 y z hh (by omega) r hC.rul hC.nr 21 hC.geo.2.1 (by omega) (nI o) (nI t) (l_sumBoth hg hC hh hL hv hB hot ht ho ⟨rfl, rfl⟩ 6 0 (by omega)))
/-- what is already filled in -/
def Fil (x y a b : Nat) : Prop := (a < x ∨ b < x) ∨ (a = x ∧ x ≤ b ∧ b < y) ∨ (b = x ∧ x ≤ a ∧ a < y)
theorem l_tog2 {r : Nat} {s : SG} (hg : GoodS s) (hL : bLast (sB s) ≤ 40) {m i o : Nat} (hi : i ≤ 100) (ho : o ≤ bLast (sB s)) (h0 : XH) {y z : Nat} {Q : Option Value → XH → Prop} {X : String → XH → Prop} : ∀ (k x : Nat) (h : XH), x + k = bLast (sB s) + 1 → o ≤ x → CI h r s → cch h0 h → xHop y z (xP h) → (∀ a b, a ≤ bLast (sB s) → b ≤ bLast (sB s) → xL h y (pq a b) = lN (bA (sB s) i a b)) → (∀ a b, a ≤ bLast (sB s) → b ≤ bLast (sB s) → Fil o x a b → xL h z (pq a b) = lN (bA (sB s) (i + 1) a b)) →
    (∀ h', CI h' r s → cch h0 h' → xHop y z (xP h') → (∀ a b, a ≤ bLast (sB s) → b ≤ bLast (sB s) → xL h' y (pq a b) = lN (bA (sB s) i a b)) → (∀ a b, a ≤ bLast (sB s) → b ≤ bLast (sB s) → Fil (o + 1) (o + 1) a b → xL h' z (pq a b) = lN (bA (sB s) (i + 1) a b)) → XW (xrm 5 0 0) mX1_lookTogether (xE 100 Q X 0 0) 100 0 0 h' 38 [some (.ref 49), some (.ref r), some (.ref 21), some (.int (nI m)), some (.int (nI (od6 (bOd (sB s))))), some (.int (nI (bLast (sB s)))), some (.int (nI i)), some (.int (nI (o + 1))), none, none] []) →
    XW (xrm 5 0 0) mX1_lookTogether (xE 100 Q X 0 0) 100 0 0 h 49 [some (.ref 49), some (.ref r), some (.ref 21), some (.int (nI m)), some (.int (nI (od6 (bOd (sB s))))), some (.int (nI (bLast (sB s)))), some (.int (nI i)), some (.int (nI o)), some (.int (nI x)), none] [] := by
  have hl := hg.l
  have ha := hg.die.all
  intro k
  induction k with
  | zero =>
    intro x h hx hox hC hc hh hv hz hQ
    have : x = bLast (sB s) + 1 := by omega
    subst this
    refine v_X1_lookTogether_49 100 y z hh (by omega) r hC.rul hC.nr 21 hC.geo.2.1 (by omega) _ _ _ _ _ (nI _) ⟨fun _ => ?_, fun c => absurd (nI_lt (by omega) (by omega)) c⟩
    rw [nI_1]
    exact hQ h hC hc hh hv (fun a b ha hb hF => hz a b ha hb (by unfold Fil at *; omega))
  | succ k ih =>
    intro x h hx hox hC hc hh hv hz hQ
    have hstep : ∀ (v : Int64) (h2 : XH), CI h2 r s → cch h h2 → xHop y z (xP h2) → xL h2 y = xL h y → v = lN (bA (sB s) (i + 1) o x) → (∀ a b, a ≤ bLast (sB s) → b ≤ bLast (sB s) → xL h2 z (pq a b) = if (a = o ∧ b = x) ∨ (a = x ∧ b = o) then v else xL h z (pq a b)) → XW (xrm 5 0 0) mX1_lookTogether (xE 100 Q X 0 0) 100 0 0 h2 49 [some (.ref 49), some (.ref r), some (.ref 21), some (.int (nI m)), some (.int (nI (od6 (bOd (sB s))))), some (.int (nI (bLast (sB s)))), some (.int (nI i)), some (.int (nI o)), some (.int (nI x + 1)), none] [] := by
      intro v h2 k1 k2 k3 k4 k5 k6
      rw [nI_1]
      refine ih (x + 1) h2 (by omega) (by omega) k1 (hc.trans k2) k3 (fun a b ha hb => by rw [k4]; exact hv a b ha hb) (fun a b ha hb hF => ?_) hQ
      rw [k6 a b ha hb]
      by_cases c : (a = o ∧ b = x) ∨ (a = x ∧ b = o)
      · rw [if_pos c, k5]
        rcases c with ⟨c1, c2⟩ | ⟨c1, c2⟩
        · rw [c1, c2]
        · rw [c1, c2, bA_sym]
      · rw [if_neg c]
        exact hz a b ha hb (by unfold Fil at *; omega)
    have hB : ∀ a b, bA (sB s) i a b ≤ 100000000000 := fun a b => by have := bA_le (sB s) i a b; omega
    have hval : ¬ (o = bLast (sB s) ∧ x = bLast (sB s)) → (1000000000 : Int64) + lN (bS (sB s) (bA (sB s) i) o x 6) / Int32.toInt64 (nI (od6 (bOd (sB s)))) = lN (bA (sB s) (i + 1) o x) := by
      intro hno
      have hS := bS_le (b := sB s) (B := bA (sB s) i) (x := o) (y := x) (M := 100000000000) hB
      have h54 := Nat.mul_le_mul ha.2 (show 100000000000 ≤ 100000000000 from Nat.le_refl _)
      have e9 : (1000000000 : Int64) = lN 1000000000 := rfl
      rw [nI_l (by omega), e9, pk_lDiv (by omega) ha.1 (by omega), lN_add]
      show _ = lN (if o = bLast (sB s) ∧ x = bLast (sB s) then 0 else _)
      rw [if_neg hno]
    have hne : ¬ Int32.toInt64 (nI (od6 (bOd (sB s)))) = 0 := by
      intro q
      have e0 : (0 : Int64) = lN 0 := rfl
      rw [nI_l (by omega), e0, lN_eq (by omega) (by omega)] at q
      omega
    refine v_X1_lookTogether_49 100 y z hh (by omega) r hC.rul hC.nr 21 hC.geo.2.1 (by omega) _ _ _ _ _ (nI _) ⟨fun c => absurd c (nI_nlt (by omega) (by omega)), fun _ => ⟨fun c => ⟨_, s_pair 100 h (by omega) (by omega), ?_⟩, fun c => ⟨fun c2 => ?_, fun c2 => ⟨_, s_pair 100 h (by omega) (by omega), ?_⟩⟩⟩⟩
    · have hno : ¬ o = bLast (sB s) := fun z => c (by rw [z])
      rintro v h1 ⟨rfl, rfl⟩
      refine ⟨_, rfl, _, s_sumOfBoth hg hC hh hL hv hB hox (by omega) (show o < bLast (sB s) by omega), ?_⟩
      rintro v h2 ⟨rfl, rfl⟩
      refine ⟨_, rfl, hne, ?_⟩
      rw [hval (fun z => hno z.1)]
      exact c_put1 hC hh ho (by omega) hL _ (fun h2 k1 k2 k3 k4 k5 => hstep _ h2 k1 k2 k3 k4 rfl k5)
    · have ho' : o = bLast (sB s) := (nI_eq (by omega) (by omega)).1 c
      have hx' : ¬ x = bLast (sB s) := fun z => c2 (by rw [z])
      omega
    · have ho' : o = bLast (sB s) := (nI_eq (by omega) (by omega)).1 c
      have hx' : x = bLast (sB s) := (nI_eq (by omega) (by omega)).1 c2
      have e0 : (0 : Int64) = lN (bA (sB s) (i + 1) o x) := by
        show _ = lN (if o = bLast (sB s) ∧ x = bLast (sB s) then 0 else _)
        rw [if_pos ⟨ho', hx'⟩]; rfl
      rintro v h1 ⟨rfl, rfl⟩
      exact ⟨_, rfl, c_put1 hC hh ho (by omega) hL _ (fun h2 k1 k2 k3 k4 k5 => hstep _ h2 k1 k2 k3 k4 e0 k5)⟩
theorem l_tog1 {r : Nat} {s : SG} (hg : GoodS s) (hL : bLast (sB s) ≤ 40) {m i : Nat} (hi : i ≤ 100) (h0 : XH) {y z : Nat} {Q : Option Value → XH → Prop} {X : String → XH → Prop} : ∀ (k o : Nat) (h : XH), o + k = bLast (sB s) + 1 → CI h r s → cch h0 h → xHop y z (xP h) → (∀ a b, a ≤ bLast (sB s) → b ≤ bLast (sB s) → xL h y (pq a b) = lN (bA (sB s) i a b)) → (∀ a b, a ≤ bLast (sB s) → b ≤ bLast (sB s) → Fil o o a b → xL h z (pq a b) = lN (bA (sB s) (i + 1) a b)) →
    (∀ h', CI h' r s → cch h0 h' → xHop z y (xP h') → (∀ a b, a ≤ bLast (sB s) → b ≤ bLast (sB s) → xL h' z (pq a b) = lN (bA (sB s) (i + 1) a b)) → XW (xrm 5 0 0) mX1_lookTogether (xE 100 Q X 0 0) 100 0 0 h' 29 [some (.ref 49), some (.ref r), some (.ref 21), some (.int (nI m)), some (.int (nI (od6 (bOd (sB s))))), some (.int (nI (bLast (sB s)))), some (.int (nI (i + 1))), none, none, none] []) →
    XW (xrm 5 0 0) mX1_lookTogether (xE 100 Q X 0 0) 100 0 0 h 38 [some (.ref 49), some (.ref r), some (.ref 21), some (.int (nI m)), some (.int (nI (od6 (bOd (sB s))))), some (.int (nI (bLast (sB s)))), some (.int (nI i)), some (.int (nI o)), none, none] [] := by
  have hl := hg.l
  intro k
  induction k with
  | zero =>
    intro o h hx hC hc hh hv hz hQ
    have : o = bLast (sB s) + 1 := by omega
    subst this
    refine v_X1_lookTogether_38 100 y z hh (by omega) r hC.rul hC.nr 21 hC.geo.2.1 (by omega) _ _ _ _ (nI _) ⟨fun _ => ⟨_, s_X1_swap h y z hh, ?_⟩, fun c => absurd (nI_lt (by omega) (by omega)) c⟩
    rintro v h2 ⟨rfl, hs, q1, q2⟩
    have hs2 : csc r h h2 := csc.hop (fun c => (q1 c).1) q2 ⟨z, y, hs⟩
    refine ⟨rfl, ?_⟩
    rw [nI_1]
    exact hQ h2 (hC.csc hs2) (hc.trans (hs2.cch hC.r)) hs (fun a b ha hb => by rw [(q1 z).2]; exact hz a b ha hb (by unfold Fil; omega))
  | succ k ih =>
    intro o h hx hC hc hh hv hz hQ
    exact v_X1_lookTogether_38 100 y z hh (by omega) r hC.rul hC.nr 21 hC.geo.2.1 (by omega) _ _ _ _ (nI _) ⟨fun c => absurd c (nI_nlt (by omega) (by omega)), fun _ => l_tog2 hg hL hi (by omega) h0 (bLast (sB s) + 1 - o) o h (by omega) (Nat.le_refl _) hC hc hh hv hz (fun h' k1 k2 k3 k4 k5 => ih (o + 1) h' (by omega) k1 k2 k3 k4 k5 hQ)⟩
def HopB (h : XH) (b : BD) (k : Nat) : Prop := ∃ y z, xHop y z (xP h) ∧ ∀ p q, p ≤ bLast b → q ≤ bLast b → xL h y (pq p q) = lN (bA b k p q)
theorem l_tog {r : Nat} {s : SG} (hg : GoodS s) (hL : bLast (sB s) ≤ 40) {m : Nat} (hm : m ≤ 100) (h0 : XH) {Q : Option Value → XH → Prop} {X : String → XH → Prop} (hQ : ∀ h', CI h' r s → cch h0 h' → HopB h' (sB s) m → Q none h') : ∀ (k i : Nat) (h : XH), i + k = m → CI h r s → cch h0 h → HopB h (sB s) i →
    XW (xrm 5 0 0) mX1_lookTogether (xE 100 Q X 0 0) 100 0 0 h 29 [some (.ref 49), some (.ref r), some (.ref 21), some (.int (nI m)), some (.int (nI (od6 (bOd (sB s))))), some (.int (nI (bLast (sB s)))), some (.int (nI i)), none, none, none] [] := by
  intro k
  induction k with
  | zero =>
    intro i h hi hC hc hH
    obtain ⟨y, z, hh, hv⟩ := id hH
    have : i = m := by omega
    subst this
    exact v_X1_lookTogether_29 100 y z hh (by omega) r hC.rul hC.nr 21 hC.geo.2.1 (by omega) _ _ _ (nI i) ⟨fun _ => hQ h hC hc hH, fun c => absurd (nI_le (Nat.le_refl _) (by omega)) c⟩
  | succ k ih =>
    intro i h hi hC hc hH
    obtain ⟨y, z, hh, hv⟩ := hH
    exact v_X1_lookTogether_29 100 y z hh (by omega) r hC.rul hC.nr 21 hC.geo.2.1 (by omega) _ _ _ (nI i) ⟨fun c => absurd c (nI_ge (by omega) (by omega)), fun _ => l_tog1 hg hL (by omega) h0 (bLast (sB s) + 1) 0 h (by omega) hC hc hh hv (fun a b _ _ hF => by unfold Fil at hF; omega) (fun h' k1 k2 k3 k4 => ih (i + 1) h' (by omega) k1 k2 ⟨z, y, k3, k4⟩)⟩
theorem s_lookTogether {h : XH} {r : Nat} {s : SG} (hC : CI h r s) (hg : GoodS s) (hL : bLast (sB s) ≤ 40) {m : Nat} (hm : m ≤ 100) : XSpec mX1_lookTogether 5 0 0 100 100 [.ref 49, .ref r, .ref 21, .int (nI m)] h (fun v h' => v = none ∧ CI h' r s ∧ cch h h' ∧ HopB h' (sB s) m) xno := by
  have hl := hg.l
  have ha := hg.die.all
  obtain ⟨y, z, hh⟩ := hC.hop
  refine XSpec.of rfl (by decide) (Nat.le_of_ble_eq_true rfl) rfl (v_X1_lookTogether_0 100 y z hh (by omega) r hC.rul hC.nr 21 hC.geo.2.1 (by omega) (nI m) ?_)
  rw [hC.all, hC.last]
  obtain ⟨hC1, hc1⟩ := hopL hC hh (F := fl 861 0 (xL h y)) y
  refine ⟨fun _ => l_tog hg hL hm h (fun h' k1 k2 k3 => ⟨rfl, k1, k2, k3⟩) m 0 _ (by omega) hC1 hc1 ⟨y, z, hh, fun p q hp hq => ?_⟩, fun c => absurd (nI_lt (a := 0) ha.1 (by omega)) c⟩
  rw [xL_at]; unfold fl; rw [if_pos (pq_lt hL hp hq)]; rfl
theorem spB_f {b : BD} {n : Int32} (h : spB b n = false) : bLast b ≤ 40 ∧ n.toInt ≤ 60 := by
  unfold spB at h
  have := of_decide_eq_false h
  omega
def toA (b : BD) (o t : Nat) (n : Int32) : Int64 := if spB b n = true then -2 else lN (bA b n.toNatClampNeg o t)
theorem s_X10_together {h : XH} {r : Nat} {s : SG} (hC : CI h r s) (hg : GoodS s) (o t n : Int32) : XSpec mX10_together 8 3 18 100 100 [.ref 0, .int o, .int t, .int n] h (cEndL h r s (kd2 (inR o 0 (bLast (sB s)) && inR t 0 (bLast (sB s))) (inR n 0 100)) (fun z => z = toA (sB s) o.toNatClampNeg t.toNatClampNeg n)) (cThr h (kd2 (inR o 0 (bLast (sB s)) && inR t 0 (bLast (sB s))) (inR n 0 100)) eN eA) := by
  have hl := hg.l
  refine XSpec.of rfl (by decide) (Nat.le_of_ble_eq_true rfl) rfl (v_X10_together_0 r hC.bp o t n ⟨_, _, s_needSquare hC hl.2.1 o, fun E9 h9 z => ⟨z.1, Or.inl ⟨kd2_1 (by rw [z.2.2]; rfl), z.2.1⟩⟩, ?_⟩)
  rintro v h1 ⟨rfl, rfl, ho⟩
  refine ⟨rfl, _, _, s_needSquare hC hl.2.1 t, fun E9 h9 z => ⟨z.1, Or.inl ⟨kd2_1 (by rw [ho]; exact z.2.2), z.2.1⟩⟩, ?_⟩
  rintro v h2 ⟨rfl, rfl, ht⟩
  have hot : (inR o 0 (bLast (sB s)) && inR t 0 (bLast (sB s))) = true := by rw [ho]; exact ht
  refine ⟨rfl, _, _, s_needToCome hC n 0 0 (by decide), fun E9 h9 z => ⟨z.1, Or.inr ⟨kd2_2 hot z.2.2, z.2.1⟩⟩, ?_⟩
  rintro v h3 ⟨rfl, rfl, hn⟩
  have hk := kd2_t hot (show inR n 0 100 = true from hn)
  refine ⟨rfl, _, s_isSpent hC hg n, ?_⟩
  rintro v h4 ⟨rfl, rfl⟩
  refine ⟨_, rfl, fun c => ?_, fun c => ⟨hk, _, rfl, ?_, hC, cch.rfl⟩⟩
  · have c' := bI_0.1 c
    have hL := (spB_f c').1
    unfold toA
    rw [c', if_neg (by decide)]
    obtain ⟨o, ho', rfl⟩ := inR_nI ho
    obtain ⟨t, ht', rfl⟩ := inR_nI ht
    obtain ⟨n, hn', rfl⟩ := inR_nI (n := 100) hn
    rw [nI_clamp (show o < 2 ^ 31 by omega), nI_clamp (show t < 2 ^ 31 by omega), nI_clamp (show n < 2 ^ 31 by omega)]
    refine ⟨hC.p13, hC.p3, hC.p5, _, s_lookTogether hC hg hL hn', ?_⟩
    rintro v h5 ⟨rfl, hC5, hc5, y, z, hh, hv⟩
    refine ⟨rfl, hC5.p13, _, c_atBoth hC5 hh hL hv ho' ht', ?_⟩
    rintro v h6 ⟨rfl, rfl⟩
    exact ⟨_, rfl, hk, _, rfl, rfl, hC5, hc5⟩
  · unfold toA
    rw [if_pos (bI_n0.1 c)]
def whA (b : BD) (o t f : Nat) (n : Int32) : Int32 := if spB b n = true then -2 else if o = bLast b then (if t = bLast b then -1 else 1) else if t = bLast b then 0 else if bA b (n.toNatClampNeg - 1) o (bT b t f) < bA b (n.toNatClampNeg - 1) (bT b o f) t then 1 else 0
theorem s_X10_whom {h : XH} {r : Nat} {s : SG} (hC : CI h r s) (hg : GoodS s) (o t f n : Int32) : XSpec mX10_whom 8 4 24 100 100 [.ref 0, .int o, .int t, .int f, .int n] h (cEndI h r s (kd2 (inR o 0 (bLast (sB s)) && inR t 0 (bLast (sB s)) && inR f 1 6) (inR n 1 100)) (fun z => z = whA (sB s) o.toNatClampNeg t.toNatClampNeg f.toNatClampNeg n)) (cThr h (kd2 (inR o 0 (bLast (sB s)) && inR t 0 (bLast (sB s)) && inR f 1 6) (inR n 1 100)) eN eA) := by
  have hl := hg.l
  refine XSpec.of rfl (by decide) (Nat.le_of_ble_eq_true rfl) rfl (v_X10_whom_0 r hC.bp o t f n ⟨_, _, s_needSquare hC hl.2.1 o, fun E9 h9 z => ⟨z.1, Or.inl ⟨kd2_1 (by rw [z.2.2]; rfl), z.2.1⟩⟩, ?_⟩)
  rintro v h1 ⟨rfl, rfl, ho⟩
  refine ⟨rfl, _, _, s_needSquare hC hl.2.1 t, fun E9 h9 z => ⟨z.1, Or.inl ⟨kd2_1 (by rw [ho, z.2.2]; rfl), z.2.1⟩⟩, ?_⟩
  rintro v h2 ⟨rfl, rfl, ht⟩
  refine ⟨rfl, _, _, s_needFace hC f, fun E9 h9 z => ⟨z.1, Or.inl ⟨kd2_1 (by rw [ho, ht]; exact z.2.2), z.2.1⟩⟩, ?_⟩
  rintro v h3 ⟨rfl, rfl, hf⟩
  have hotf : (inR o 0 (bLast (sB s)) && inR t 0 (bLast (sB s)) && inR f 1 6) = true := by rw [ho, ht]; exact hf
  refine ⟨rfl, _, _, s_needToCome hC n 1 1 (by decide), fun E9 h9 z => ⟨z.1, Or.inr ⟨kd2_2 hotf z.2.2, z.2.1⟩⟩, ?_⟩
  rintro v h4 ⟨rfl, rfl, hn⟩
  have hk := kd2_t hotf (show inR n 1 100 = true from hn)
  refine ⟨rfl, _, s_isSpent hC hg n, ?_⟩
  rintro v h5 ⟨rfl, rfl⟩
  refine ⟨_, rfl, fun c => ?_, fun c => ⟨hk, _, rfl, ?_, hC, cch.rfl⟩⟩
  · have c' := bI_0.1 c
    have hL := (spB_f c').1
    unfold whA
    rw [c', if_neg (by decide)]
    obtain ⟨o, ho', rfl⟩ := inR_nI ho
    obtain ⟨t, ht', rfl⟩ := inR_nI ht
    obtain ⟨f, f1, f2, rfl⟩ := inR_1 (n := 6) hf
    obtain ⟨n, n1, n2, rfl⟩ := inR_1 (n := 100) hn
    rw [nI_clamp (show o < 2 ^ 31 by omega), nI_clamp (show t < 2 ^ 31 by omega), nI_clamp (show n < 2 ^ 31 by omega), nI_clamp (show f < 2 ^ 31 by omega), nI_p1 n1, hC.last]
    refine ⟨hC.p3, fun c1 => ⟨hC.p3, fun c2 => ⟨hC.p13, hC.p3, hC.p5, _, s_lookTogether hC hg hL (show n - 1 ≤ 100 by omega), ?_⟩, fun c2 => ?_⟩, fun c1 => ⟨hC.p3, fun c2 => ?_, fun c2 => ?_⟩⟩
    · have h1 : ¬ o = bLast (sB s) := fun z => c1 (by rw [z])
      have h2 : ¬ t = bLast (sB s) := fun z => c2 (by rw [z])
      rw [if_neg h1, if_neg h2]
      rintro v h6 ⟨rfl, hC6, hc6, y, z, hh, hv⟩
      have to := hg.tl o ho' f f2
      have tt := hg.tl t ht' f f2
      refine ⟨rfl, hC6.p13, hC6.p5, _, c_to hC6 ho' f2, ?_⟩
      rintro v h7 ⟨rfl, rfl⟩
      refine ⟨_, rfl, _, c_atBoth hC6 hh hL hv to ht', ?_⟩
      rintro v h8 ⟨rfl, rfl⟩
      refine ⟨_, rfl, hC6.p13, hC6.p5, _, c_to hC6 ht' f2, ?_⟩
      rintro v h9 ⟨rfl, rfl⟩
      refine ⟨_, rfl, _, c_atBoth hC6 hh hL hv ho' tt, ?_⟩
      rintro v h10 ⟨rfl, rfl⟩
      refine ⟨_, rfl, ?_⟩
      have b1 := bA_le (sB s) (n - 1) (bT (sB s) o f) t
      have b2 := bA_le (sB s) (n - 1) o (bT (sB s) t f)
      rw [lg_cmp_ge, pk_lLE (by omega) (by omega)]
      refine ⟨fun c3 => ⟨hk, _, rfl, ?_, hC6, hc6⟩, fun c3 => ⟨hk, _, rfl, ?_, hC6, hc6⟩⟩
      · rw [if_neg (by omega)]
      · rw [if_pos (by omega)]
    · have h1 : ¬ o = bLast (sB s) := fun z => c1 (by rw [z])
      have h2 : t = bLast (sB s) := (nI_eq (by omega) (by omega)).1 c2
      rw [if_neg h1, if_pos h2]
      exact ⟨hk, _, rfl, rfl, hC, cch.rfl⟩
    · have h1 : o = bLast (sB s) := (nI_eq (by omega) (by omega)).1 c1
      have h2 : ¬ t = bLast (sB s) := fun z => c2 (by rw [z])
      rw [if_pos h1, if_neg h2]
      exact ⟨hk, _, rfl, rfl, hC, cch.rfl⟩
    · have h1 : o = bLast (sB s) := (nI_eq (by omega) (by omega)).1 c1
      have h2 : t = bLast (sB s) := (nI_eq (by omega) (by omega)).1 c2
      rw [if_pos h1, if_pos h2]
      exact ⟨hk, _, rfl, rfl, hC, cch.rfl⟩
  · unfold whA
    rw [if_pos (bI_n0.1 c)]
