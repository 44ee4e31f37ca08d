/-! UNLIKE, WORN -/
/-- how much more often, by all odds -/
def tmL (s : SG) (f : Nat) : Int64 := lN (oft (sG s) f (gTh (sG s))) * lN (od6 (bOd (sB s))) - lN (gTh (sG s)) * lN (bOd (sB s) f)
def tmN (s : SG) (f : Nat) : Nat := (oft (sG s) f (gTh (sG s)) * od6 (bOd (sB s)) - gTh (sG s) * bOd (sB s) f) + (gTh (sG s) * bOd (sB s) f - oft (sG s) f (gTh (sG s)) * od6 (bOd (sB s)))
theorem tmL_sq (s : SG) (f : Nat) : tmL s f * tmL s f = lN (tmN s f * tmN s f) := by
  unfold tmL tmN
  rw [lN_mul, lN_mul]
  generalize oft (sG s) f (gTh (sG s)) * od6 (bOd (sB s)) = a
  generalize gTh (sG s) * bOd (sB s) f = b
  by_cases c : b ≤ a
  · rw [lN_sub c, lN_mul, Nat.sub_eq_zero_of_le c, Nat.add_zero]
  · have c' : a ≤ b := by omega
    rw [Nat.sub_eq_zero_of_le c', Nat.zero_add, ← Int64.neg_sub, Int64.neg_mul, Int64.mul_neg, Int64.neg_neg, lN_sub c', lN_mul]
def unT (s : SG) (f : Nat) : Nat := if bOd (sB s) f = 0 then 0 else tmN s f * tmN s f * (2520 / bOd (sB s) f)
def unU (s : SG) : Nat := sN (unT s) 1 6
def unL (s : SG) : Nat := 2520 * gTh (sG s) * od6 (bOd (sB s))
def unG (s : SG) : Nat := Nat.gcd (unU s) (unL s)
def unV (s : SG) (w : Nat) : Int64 := if gTh (sG s) = 0 then lN w else if w = 0 then lN (unU s / unG s) else lN (unL s / unG s)
theorem tmN_le {s : SG} (hg : GoodS s) {f : Nat} (f1 : 1 ≤ f) (f2 : f ≤ 6) : tmN s f ≤ 10800 := by
  have ha := hg.die.all
  have ht := hg.th
  have o9 := hg.die.1 f f1 f2
  have h1 : oft (sG s) f (gTh (sG s)) * od6 (bOd (sB s)) ≤ 200 * 54 := Nat.mul_le_mul (Nat.le_trans (oft_le _ _ _) ht) ha.2
  have h2 : gTh (sG s) * bOd (sB s) f ≤ 200 * 9 := Nat.mul_le_mul ht o9
  unfold tmN
  omega
theorem unT_le {s : SG} (hg : GoodS s) {f : Nat} (f1 : 1 ≤ f) (f2 : f ≤ 6) : unT s f ≤ 293932800000 := by
  have h1 := tmN_le hg f1 f2
  unfold unT
  split
  · omega
  · have h2 : tmN s f * tmN s f ≤ 10800 * 10800 := Nat.mul_le_mul h1 h1
    have h3 : 2520 / bOd (sB s) f ≤ 2520 := Nat.div_le_self _ _
    exact Nat.mul_le_mul h2 h3
theorem unU_le {s : SG} (hg : GoodS s) : unU s ≤ 6 * 293932800000 := by
  unfold unU
  have := unT_le hg (f := 1) (by omega) (by omega)
  have := unT_le hg (f := 2) (by omega) (by omega)
  have := unT_le hg (f := 3) (by omega) (by omega)
  have := unT_le hg (f := 4) (by omega) (by omega)
  have := unT_le hg (f := 5) (by omega) (by omega)
  have := unT_le hg (f := 6) (by omega) (by omega)
  show unT s 1 + (unT s 2 + (unT s 3 + (unT s 4 + (unT s 5 + (unT s 6 + 0))))) ≤ _
  omega
theorem unL_le {s : SG} (hg : GoodS s) : unL s ≤ 27216000 := by
  have ha := hg.die.all
  have ht := hg.th
  unfold unL
  exact Nat.mul_le_mul (Nat.mul_le_mul (Nat.le_refl 2520) ht) ha.2
theorem unU_zero {s : SG} (h : gTh (sG s) = 0) : unU s = 0 := by
  have e : ∀ f, unT s f = 0 := fun f => by
    have : tmN s f = 0 := by
      unfold tmN
      rw [h]
      have : oft (sG s) f 0 = 0 := rfl
      rw [this]
      omega
    unfold unT
    rw [this]
    split
    · rfl
    · omega
  unfold unU
  exact sN_0 _ _ (fun f _ _ => e f)
/-! the common divisor -/
theorem lN_rest {a b : Nat} (ha : a < 2 ^ 63) (h0 : 0 < b) (hb : b < 2 ^ 63) : lN a - lN a / lN b * lN b = lN (a % b) := by
  rw [pk_lDiv ha h0 hb, lN_mul, lN_sub (Nat.div_mul_le_self a b)]
  congr 1
  have := Nat.div_add_mod' a b
  omega
theorem lN_ne0 {b : Nat} (h0 : 0 < b) (hb : b < 2 ^ 63) : ¬ lN b = 0 := fun z => by
  have := (pk_lEQ (b := 0) hb (by omega)).1 z
  omega
theorem lg_c0 {b : Nat} (hb : b < 2 ^ 63) : lg_cmp (lN b) 0 = 0 ↔ b = 0 := by
  rw [lg_cmp0]
  exact pk_lEQ (b := 0) hb (by omega)
theorem lg_p0 {b : Nat} (hb : b < 2 ^ 63) : 0 < lg_cmp (lN b) 0 ↔ 0 < b := by
  have e : (0 : Int64) = lN 0 := rfl
  have h1 : (lN b > 0) ↔ 0 < b := by rw [e]; exact pk_lLT (by omega) hb
  have h2 : (lN b = 0) ↔ b = 0 := by rw [e]; exact pk_lEQ hb (by omega)
  unfold lg_cmp
  by_cases c : 0 < b
  · rw [if_pos (h1.mpr c)]
    exact ⟨fun _ => c, fun _ => by decide⟩
  · rw [if_neg (fun z => c (h1.mp z)), if_pos (h2.mpr (by omega))]
    exact ⟨fun q => absurd q (by decide), fun q => absurd q c⟩
theorem l_cgcd {h : XH} {Q : Option Value → XH → Prop} {X : String → XH → Prop} : ∀ (k i a b : Nat), a < 2 ^ 63 → b < 2 ^ 63 → b < 2 ^ k → i + 2 * k ≤ 199 → Q (some (.long (lN (Nat.gcd a b)))) h →
    XW (xrm 1 0 0) mX10_commonDivisor (xE 100 Q X 0 0) 100 0 0 h 9 [none, none, none, none, some (.long (lN a)), none, some (.long (lN b)), none, some (.int (nI i)), none, none] [] := by
  have fin : ∀ (i a : Nat), i < 2 ^ 31 → a < 2 ^ 63 → Q (some (.long (lN a))) h → XW (xrm 1 0 0) mX10_commonDivisor (xE 100 Q X 0 0) 100 0 0 h 9 [none, none, none, none, some (.long (lN a)), none, some (.long (lN 0)), none, some (.int (nI i)), none, none] [] := fun i a hi ha hQ =>
    v_X10_commonDivisor_9 100 (lN a) (lN 0) (nI i) ⟨fun _ => hQ, fun _ => ⟨fun _ => hQ, fun c => absurd ((lg_c0 (by omega)).2 rfl) c⟩⟩
  have one : ∀ (i a b : Nat), i < 200 → a < 2 ^ 63 → b < 2 ^ 63 → 0 < b → XW (xrm 1 0 0) mX10_commonDivisor (xE 100 Q X 0 0) 100 0 0 h 9 [none, none, none, none, some (.long (lN b)), none, some (.long (lN (a % b))), none, some (.int (nI (i + 1))), none, none] [] → XW (xrm 1 0 0) mX10_commonDivisor (xE 100 Q X 0 0) 100 0 0 h 9 [none, none, none, none, some (.long (lN a)), none, some (.long (lN b)), none, some (.int (nI i)), none, none] [] := fun i a b hi ha hb h0 hN => by
    refine v_X10_commonDivisor_9 100 (lN a) (lN b) (nI i) ⟨fun c => absurd c (nI_ge (b := 200) hi (by omega)), fun _ => ⟨fun c => absurd ((lg_c0 hb).1 c) (by omega), fun _ => ⟨lN_ne0 h0 hb, ?_⟩⟩⟩
    rw [lN_rest ha h0 hb, nI_1]
    exact hN
  intro k
  induction k with
  | zero =>
    intro i a b ha hb hk hi hQ
    have : b = 0 := by omega
    subst this
    rw [Nat.gcd_zero_right] at hQ
    exact fin i a (by omega) ha hQ
  | succ k ih =>
    intro i a b ha hb hk hi hQ
    by_cases z : b = 0
    · subst z
      rw [Nat.gcd_zero_right] at hQ
      exact fin i a (by omega) ha hQ
    have hr : a % b < b := Nat.mod_lt _ (by omega)
    have e1 : Nat.gcd a b = Nat.gcd b (a % b) := by rw [Nat.gcd_comm, Nat.gcd_rec, Nat.gcd_comm]
    refine one i a b (by omega) ha hb (by omega) ?_
    rw [e1] at hQ
    by_cases y : a % b = 0
    · rw [y] at hQ ⊢
      rw [Nat.gcd_zero_right] at hQ
      exact fin (i + 1) b (by omega) hb hQ
    have hr2 : b % (a % b) < a % b := Nat.mod_lt _ (by omega)
    have e2 : Nat.gcd b (a % b) = Nat.gcd (a % b) (b % (a % b)) := by rw [Nat.gcd_comm, Nat.gcd_rec, Nat.gcd_comm]
    refine one (i + 1) b (a % b) (by omega) hb (by omega) (by omega) ?_
    rw [e2] at hQ
    refine ih (i + 1 + 1) (a % b) (b % (a % b)) (by omega) (by omega) ?_ (by omega) hQ
    have h3 : b % (a % b) ≤ b - a % b := by
      rw [Nat.mod_eq_sub_mod (by omega)]
      exact Nat.mod_le _ _
    rw [Nat.pow_succ] at hk
    omega
theorem c_gcd (h : XH) {a b : Nat} (ha : a < 2 ^ 63) (hb : b < 2 ^ 63) : XSpec mX10_commonDivisor 1 0 0 100 100 [.long (lN a), .long (lN b)] h (xq (some (.long (lN (Nat.gcd a b)))) h) xno :=
  XSpec.of rfl (by decide) (Nat.le_of_ble_eq_true rfl) rfl (v_X10_commonDivisor_0 100 (lN a) (lN b) (l_cgcd 63 0 a b ha hb hb (by omega) ⟨rfl, rfl⟩))
theorem l_mgcd {h : XH} {Q : Option Value → XH → Prop} {X : String → XH → Prop} : ∀ (k a b : Nat), b ≤ k → a < 2 ^ 63 → b < 2 ^ 63 → Q (some (.long (lN (Nat.gcd a b)))) h →
    XW (xrm 1 0 0) mX11_common (xE 100 Q X 0 0) 100 0 0 h 6 [none, none, none, none, some (.long (lN a)), none, some (.long (lN b)), none, none, none] [] := by
  have fin : ∀ (a : Nat), Q (some (.long (lN a))) h → XW (xrm 1 0 0) mX11_common (xE 100 Q X 0 0) 100 0 0 h 6 [none, none, none, none, some (.long (lN a)), none, some (.long (lN 0)), none, none, none] [] := fun a hQ =>
    v_X11_common_6 100 (lN a) (lN 0) ⟨fun _ => hQ, fun c => absurd ((lg_c0 (by omega)).2 rfl) c⟩
  intro k
  induction k with
  | zero =>
    intro a b hk ha hb hQ
    have : b = 0 := by omega
    subst this
    rw [Nat.gcd_zero_right] at hQ
    exact fin a hQ
  | succ k ih =>
    intro a b hk ha hb hQ
    by_cases z : b = 0
    · subst z
      rw [Nat.gcd_zero_right] at hQ
      exact fin a hQ
    have hr : a % b < b := Nat.mod_lt _ (by omega)
    have e1 : Nat.gcd a b = Nat.gcd b (a % b) := by rw [Nat.gcd_comm, Nat.gcd_rec, Nat.gcd_comm]
    rw [e1] at hQ
    refine v_X11_common_6 100 (lN a) (lN b) ⟨fun c => absurd ((lg_c0 hb).1 c) z, fun _ => ⟨lN_ne0 (by omega) hb, ?_⟩⟩
    rw [lN_rest ha (by omega) hb]
    exact ih b (a % b) (by omega) hb (by omega) hQ
theorem m_gcd (h : XH) {a b : Nat} (ha : a < 2 ^ 63) (hb : b < 2 ^ 63) : XSpec mX11_common 1 0 0 100 100 [.long (lN a), .long (lN b)] h (xq (some (.long (lN (Nat.gcd a b)))) h) xno :=
  XSpec.of rfl (by decide) (Nat.le_of_ble_eq_true rfl) rfl (v_X11_common_0 100 (lN a) (lN b) (l_mgcd b a b (Nat.le_refl _) ha hb ⟨rfl, rfl⟩))
/-! the class -/
theorem c_timesMore {h : XH} {r : Nat} {s : SG} (hC : CI h r s) (hg : GoodS s) {f : Nat} (f1 : 1 ≤ f) (f2 : f ≤ 6) : XSpec mX10_timesMore 3 0 0 100 100 [.ref 0, .int (nI f)] h (xq (some (.long (tmL s f))) h) xno := by
  have ha := hg.die.all
  have ht := hg.th
  have o9 := hg.die.1 f f1 f2
  have ho := oft_le (sG s) f (gTh (sG s))
  refine XSpec.of rfl (by decide) (Nat.le_of_ble_eq_true rfl) rfl (v_X10_timesMore_0 r hC.bp (nI f) ⟨_, c_times hC hg f2, ?_⟩)
  rintro v h1 ⟨rfl, rfl⟩
  refine ⟨_, rfl, hC.p3, hC.p7, hC.p3, _, c_odds hC f1 f2, ?_⟩
  rintro v h2 ⟨rfl, rfl⟩
  refine ⟨_, rfl, ?_⟩
  rw [hC.th, hC.all, nI_l (by omega), nI_l (by omega), nI_l (by omega), nI_l (by omega)]
  exact ⟨rfl, rfl⟩
theorem l_cunl {h : XH} {r : Nat} {s : SG} (hC : CI h r s) (hg : GoodS s) {w : Nat} (hw : w ≤ 1) {Q : Option Value → XH → Prop} {X : String → XH → Prop} (hQ : Q (some (.long (unV s w))) h) : ∀ (c i : Nat), i + c = 6 →
    XW (xrm 8 1 6) mX10_unlike (xE 100 Q X 1 6) 100 0 0 h 11 [some (.ref 0), some (.int (nI w)), some (.long (lN (sN (unT s) 1 i))), none, some (.int (nI (i + 1))), none, none, none] [] := by
  have ha := hg.die.all
  have ht := hg.th
  have hL := unL_le hg
  have hU := unU_le hg
  intro c
  induction c with
  | zero =>
    intro i hi
    have : i = 6 := by omega
    subst this
    refine v_X10_unlike_11 r hC.bp (nI w) _ (nI 7) ⟨fun _ => ?_, fun c => absurd (by decide) c⟩
    have e : (2520 : Int64) = lN 2520 := rfl
    rw [hC.th, hC.all, nI_l (by omega), nI_l (by omega), e, lN_mul, lN_mul, show 2520 * gTh (sG s) * od6 (bOd (sB s)) = unL s from rfl, show sN (unT s) 1 6 = unU s from rfl]
    have hc : XSpec mX10_commonDivisor 1 0 0 100 100 [.long (lN (unU s)), .long (lN (unL s))] h (xq (some (.long (lN (unG s)))) h) xno := c_gcd h (by omega) (by omega)
    refine ⟨_, hc, ?_⟩
    rintro v h2 ⟨rfl, e2⟩
    subst e2
    have hG : unG s ≤ 27216000 ∨ unL s = 0 := by
      by_cases z : unL s = 0
      · exact Or.inr z
      · exact Or.inl (Nat.le_trans (Nat.le_of_dvd (by omega) (Nat.gcd_dvd_right _ _)) hL)
    refine ⟨_, rfl, ?_⟩
    by_cases z : gTh (sG s) = 0
    · have e0 : unG s = 0 := by
        unfold unG unL
        rw [unU_zero z, z, Nat.mul_zero, Nat.zero_mul]; rfl
      rw [e0]
      refine ⟨fun c => absurd ((lg_p0 (by omega)).1 c) (by omega), fun _ => ?_⟩
      rw [nI_l (by omega)]
      unfold unV at hQ
      rw [if_pos z] at hQ
      exact hQ
    · have hl0 : 0 < unL s := by
        unfold unL
        exact Nat.mul_pos (Nat.mul_pos (by omega) (by omega)) ha.1
      have hg0 : 0 < unG s := Nat.gcd_pos_of_pos_right _ hl0
      have hg1 : unG s ≤ 27216000 := by omega
      unfold unV at hQ
      rw [if_neg z] at hQ
      refine ⟨fun _ => ⟨fun c => ⟨lN_ne0 hg0 (by omega), ?_⟩, fun c => ⟨lN_ne0 hg0 (by omega), ?_⟩⟩, fun c => absurd ((lg_p0 (by omega)).2 hg0) c⟩
      · rw [if_neg (fun y => c (by rw [y]; rfl))] at hQ
        rw [pk_lDiv (a := unL s) (b := unG s) (by omega) hg0 (by omega)]
        exact hQ
      · rw [if_pos ((nI_eq (b := 0) (by omega) (by omega)).1 c)] at hQ
        rw [pk_lDiv (a := unU s) (b := unG s) (by omega) hg0 (by omega)]
        exact hQ
  | succ c ih =>
    intro i hi
    have o9 := hg.die.1 (i + 1) (by omega) (by omega)
    have hI := ih (i + 1) (by omega)
    rw [sN_last, Nat.add_comm 1 i] at hI
    refine v_X10_unlike_11 r hC.bp (nI w) _ (nI (i + 1)) ⟨fun c => absurd c (fun c => ?_), fun _ => ⟨_, c_odds hC (f := i + 1) (by omega) (by omega), ?_⟩⟩
    · have := (nI_ltI (a := 6) (by omega) (by omega)).1 c
      omega
    rintro v h3 ⟨rfl, e3⟩
    subst e3
    refine ⟨_, rfl, fun c => ?_, fun c => ⟨_, c_timesMore hC hg (f := i + 1) (by omega) (by omega), ?_⟩⟩
    · have z : bOd (sB s) (i + 1) = 0 := by
        have := (nI_leI (b := 0) (by omega) (by omega)).1 c
        omega
      unfold unT at hI
      rw [if_pos z] at hI
      rw [nI_1]; exact hI
    · have z : ¬ bOd (sB s) (i + 1) = 0 := fun z => c ((nI_leI (b := 0) (by omega) (by omega)).2 (by omega))
      rintro v h4 ⟨rfl, e4⟩
      subst e4
      refine ⟨_, rfl, fun y => z ((nI_eq (b := 0) (by omega) (by omega)).1 y), ?_⟩
      have e5 : (2520 : Int32) / nI (bOd (sB s) (i + 1)) = nI (2520 / bOd (sB s) (i + 1)) := pk_div (a := 2520) (by omega) (by omega) (by omega)
      have h6 : 2520 / bOd (sB s) (i + 1) ≤ 2520 := Nat.div_le_self _ _
      rw [tmL_sq, e5, nI_l (by omega), lN_mul, lN_add, nI_1]
      unfold unT at hI
      rw [if_neg z] at hI
      exact hI
theorem s_X10_unlike {h : XH} {r : Nat} {s : SG} (hC : CI h r s) (hg : GoodS s) (w : Int32) : XSpec mX10_unlike 8 1 6 100 100 [.ref 0, .int w] h (cEndL h r s (kd1 (inR w 0 1)) (fun z => z = unV s w.toNatClampNeg)) (cThr h (kd1 (inR w 0 1)) eN eA) := by
  refine XSpec.of rfl (by decide) (Nat.le_of_ble_eq_true rfl) rfl (v_X10_unlike_0 r hC.bp w ⟨_, _, s_needWhat hC w 1 1 rfl, fun E9 h9 z => ⟨z.1, Or.inl ⟨kd1_f z.2.2, z.2.1⟩⟩, ?_⟩)
  rintro v h1 ⟨rfl, rfl, hw⟩
  have hk := kd1_t hw
  obtain ⟨w, hw', rfl⟩ := inR_nI (n := 1) hw
  rw [nI_clamp (show w < 2 ^ 31 by omega)]
  exact ⟨rfl, l_cunl hC hg hw' ⟨hk, _, rfl, rfl, hC, cch.rfl⟩ 6 0 rfl⟩
/-- the face that comes too often -/
def wrn (s : SG) : Nat → Nat → Nat → Nat
  | 0, _, cur => cur
  | c + 1, x, cur => if lg_cmp (tmL s x) (tmL s cur) ≤ 0 then wrn s c (x + 1) cur else wrn s c (x + 1) x
def wrA (s : SG) : Int32 := if gTh (sG s) = 0 then -1 else nI (wrn s 5 2 1)
theorem l_cworn {h : XH} {r : Nat} {s : SG} (hC : CI h r s) (hg : GoodS s) {Q : Option Value → XH → Prop} {X : String → XH → Prop} : ∀ (c x cur : Nat), x + c = 7 → 1 ≤ x → 1 ≤ cur → cur ≤ 6 → Q (some (.int (nI (wrn s c x cur)))) h →
    XW (xrm 4 0 0) mX10_worn (xE 100 Q X 0 0) 100 0 0 h 16 [some (.ref 0), some (.int (nI cur)), some (.int (nI x))] [] := by
  intro c
  induction c with
  | zero =>
    intro x cur hx x1 c1 c2 hQ
    have : x = 7 := by omega
    subst this
    exact v_X10_worn_16 r hC.bp (nI cur) (nI 7) ⟨fun _ => hQ, fun c => absurd (by decide) c⟩
  | succ c ih =>
    intro x cur hx x1 c1 c2 hQ
    refine v_X10_worn_16 r hC.bp (nI cur) (nI x) ⟨fun c => absurd c (fun c => ?_), fun _ => ⟨_, c_timesMore hC hg (f := x) x1 (by omega), ?_⟩⟩
    · have := (nI_ltI (a := 6) (by omega) (by omega)).1 c
      omega
    rintro v h1 ⟨rfl, rfl⟩
    refine ⟨_, rfl, _, c_timesMore hC hg (f := cur) c1 c2, ?_⟩
    rintro v h2 ⟨rfl, rfl⟩
    unfold wrn at hQ
    rw [nI_1]
    refine ⟨_, rfl, fun c => ?_, fun c => ?_⟩
    · rw [if_pos c] at hQ
      exact ih (x + 1) cur (by omega) (by omega) c1 c2 hQ
    · rw [if_neg c] at hQ
      exact ih (x + 1) x (by omega) (by omega) (by omega) (by omega) hQ
theorem s_X10_worn {h : XH} {r : Nat} {s : SG} (hC : CI h r s) (hg : GoodS s) : XSpec mX10_worn 4 0 0 100 100 [.ref 0] h (fun v h' => v = some (.int (wrA s)) ∧ CI h' r s ∧ cch h h') xno := by
  have ht := hg.th
  refine XSpec.of rfl (by decide) (Nat.le_of_ble_eq_true rfl) rfl (v_X10_worn_0 r hC.bp ?_)
  rw [hC.th]
  unfold wrA
  refine ⟨fun c => l_cworn hC hg 5 2 1 rfl (by omega) (by omega) (by omega) ?_, fun c => ?_⟩
  · rw [if_neg (fun y => c (by rw [y]; rfl))]
    exact ⟨rfl, hC, cch.rfl⟩
  · rw [if_pos ((nI_eq (b := 0) (by omega) (by omega)).1 c)]
    exact ⟨rfl, hC, cch.rfl⟩
