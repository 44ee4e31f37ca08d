/-! GRAINS as natural numbers: what is shared out is kept -/
def sN (f : Nat → Nat) : Nat → Nat → Nat
  | _, 0 => 0
  | x, k + 1 => f x + sN f (x + 1) k
theorem sN_congr {f f' : Nat → Nat} (k : Nat) : ∀ x, (∀ g, x ≤ g → g < x + k → f g = f' g) → sN f x k = sN f' x k := by
  induction k with
  | zero => intro x _; rfl
  | succ k ih =>
    intro x h
    rw [sN, sN, h x (Nat.le_refl _) (by omega), ih (x + 1) (fun g g1 g2 => h g (by omega) (by omega))]
theorem sN_0 {f : Nat → Nat} (k : Nat) : ∀ x, (∀ g, x ≤ g → g < x + k → f g = 0) → sN f x k = 0 := by
  induction k with
  | zero => intro x _; rfl
  | succ k ih =>
    intro x h
    rw [sN, h x (Nat.le_refl _) (by omega), ih (x + 1) (fun g g1 g2 => h g (by omega) (by omega))]
theorem sN_add {f f' : Nat → Nat} (k : Nat) : ∀ x, sN (fun g => f g + f' g) x k = sN f x k + sN f' x k := by
  induction k with
  | zero => intro x; rfl
  | succ k ih =>
    intro x
    rw [sN, sN, sN, ih (x + 1)]
    omega
theorem sN_mul {f : Nat → Nat} (c k : Nat) : ∀ x, sN (fun g => c * f g) x k = c * sN f x k := by
  induction k with
  | zero => intro x; rfl
  | succ k ih =>
    intro x
    rw [sN, sN, ih (x + 1), Nat.mul_add]
theorem sN_le {f f' : Nat → Nat} (k : Nat) : ∀ x, (∀ g, x ≤ g → g < x + k → f g ≤ f' g) → sN f x k ≤ sN f' x k := by
  induction k with
  | zero => intro x _; exact Nat.le_refl _
  | succ k ih =>
    intro x h
    rw [sN, sN]
    exact Nat.add_le_add (h x (Nat.le_refl _) (by omega)) (ih (x + 1) (fun g g1 g2 => h g (by omega) (by omega)))
theorem sN_ge {f : Nat → Nat} (k : Nat) : ∀ x t, x ≤ t → t < x + k → f t ≤ sN f x k := by
  induction k with
  | zero => intro x t h1 h2; omega
  | succ k ih =>
    intro x t h1 h2
    rw [sN]
    by_cases c : t = x
    · subst c; exact Nat.le_add_right _ _
    · exact Nat.le_trans (ih (x + 1) t (by omega) (by omega)) (Nat.le_add_left _ _)
theorem sN_swap {F : Nat → Nat → Nat} (l y : Nat) (k : Nat) : ∀ x, sN (fun j => sN (fun s => F s j) x k) y l = sN (fun s => sN (fun j => F s j) y l) x k := by
  induction k with
  | zero => intro x; exact sN_0 _ _ (fun _ _ _ => rfl)
  | succ k ih =>
    intro x
    rw [sN, ← ih (x + 1), ← sN_add]
    rfl
theorem sN_pick (v t : Nat) (k : Nat) : ∀ x, x ≤ t → t < x + k → sN (fun j => if t = j then v else 0) x k = v := by
  induction k with
  | zero => intro x h1 h2; omega
  | succ k ih =>
    intro x h1 h2
    rw [sN]
    by_cases c : t = x
    · rw [if_pos c, sN_0 _ _ (fun g g1 g2 => if_neg (by omega))]
      omega
    · rw [if_neg c, ih (x + 1) (by omega) (by omega)]
      omega
theorem sN_last {f : Nat → Nat} (k : Nat) : ∀ x, sN f x (k + 1) = sN f x k + f (x + k) := by
  induction k with
  | zero => intro x; simp [sN]
  | succ k ih =>
    intro x
    rw [sN, ih (x + 1), sN, show x + 1 + k = x + (k + 1) by omega]
    omega
theorem sR_lN {f : Nat → Int64} {f' : Nat → Nat} (k : Nat) : ∀ x, (∀ g, x ≤ g → g < x + k → f g = lN (f' g)) → sR f x k = lN (sN f' x k) := by
  induction k with
  | zero => intro x _; rfl
  | succ k ih =>
    intro x h
    rw [sR, sN, h x (Nat.le_refl _) (by omega), ih (x + 1) (fun g g1 g2 => h g (by omega) (by omega)), lN_add]
def pwN (od : Nat → Nat) (all here f : Nat) : Nat := here * od f / all
def shcN (T : Nat → Nat) (p : Nat → Nat) (lst here j : Nat) : Nat := sN (fun g => if T g = j then p g else 0) (lst + 1) (6 - lst) + (if T lst = j then here - sN p (lst + 1) (6 - lst) else 0)
/-- the grains behind a throw -/
def shM (last lst : Nat) (od : Nat → Nat) (T : Nat → Nat → Nat) (m : Nat → Nat) (j : Nat) : Nat := sN (fun s => shcN (T s) (pwN od (od6 od) (m s)) lst (m s) j) 0 last + (if j = last then m last else 0)
theorem od_rest {od : Nat → Nat} {lst : Nat} (h1 : 1 ≤ lst) (h2 : lst ≤ 6) : sN od (lst + 1) (6 - lst) ≤ od6 od := by
  unfold od6
  rcases (show lst = 1 ∨ lst = 2 ∨ lst = 3 ∨ lst = 4 ∨ lst = 5 ∨ lst = 6 by omega) with rfl | rfl | rfl | rfl | rfl | rfl <;> simp [sN] <;> omega
theorem pwN_le {od : Nat → Nat} {all here x k : Nat} (ha : 0 < all) (ho : sN od x k ≤ all) : sN (pwN od all here) x k ≤ here := by
  have h1 : sN (fun g => all * pwN od all here g) x k ≤ sN (fun g => here * od g) x k := sN_le _ _ (fun g _ _ => by
    unfold pwN
    rw [Nat.mul_comm]
    exact Nat.div_mul_le_self _ _)
  rw [sN_mul, sN_mul] at h1
  have h2 : all * sN (pwN od all here) x k ≤ all * here := Nat.le_trans h1 (by rw [Nat.mul_comm all here]; exact Nat.mul_le_mul_left _ ho)
  exact Nat.le_of_mul_le_mul_left h2 ha
theorem pw_lN {od : Nat → Nat} {all m f : Nat} (ha : 0 < all) (ha2 : all ≤ 54) (hm : m ≤ 1000000000) (ho : od f ≤ 9) : pw od all (lN m) f = lN (pwN od all m f) := by
  have : m * od f ≤ 1000000000 * 9 := Nat.mul_le_mul hm ho
  unfold pw pwN
  rw [lN_mul, pk_lDiv (by omega) ha (by omega)]
theorem shc_lN {T : Nat → Nat} {od : Nat → Nat} {lst m j : Nat} (hd : Die od lst) (hm : m ≤ 1000000000) : shc T (pw od (od6 od) (lN m)) lst (lN m) j = lN (shcN T (pwN od (od6 od) m) lst m j) := by
  obtain ⟨a0, a1⟩ := hd.all
  obtain ⟨d0, d1, d2, -, -⟩ := hd
  have e : ∀ g, lst + 1 ≤ g → g < lst + 1 + (6 - lst) → pw od (od6 od) (lN m) g = lN (pwN od (od6 od) m g) := fun g g1 g2 => pw_lN a0 a1 hm (d0 g (by omega) (by omega))
  have e1 : sR (pw od (od6 od) (lN m)) (lst + 1) (6 - lst) = lN (sN (pwN od (od6 od) m) (lst + 1) (6 - lst)) := sR_lN _ _ e
  have e2 : sR (fun g => if T g = j then pw od (od6 od) (lN m) g else 0) (lst + 1) (6 - lst) = lN (sN (fun g => if T g = j then pwN od (od6 od) m g else 0) (lst + 1) (6 - lst)) := sR_lN _ _ (fun g g1 g2 => by
    by_cases c : T g = j
    · rw [if_pos c, if_pos c, e g g1 g2]
    · rw [if_neg c, if_neg c]; rfl)
  have hle := pwN_le (here := m) a0 (od_rest (od := od) d1 d2)
  unfold shc shcN
  rw [e1, e2]
  by_cases c : T lst = j
  · rw [if_pos c, if_pos c, lN_sub hle, lN_add]
  · rw [if_neg c, if_neg c]
    show lN _ + lN 0 = _
    rw [lN_add]
theorem shN_lN {last lst : Nat} {od : Nat → Nat} {T : Nat → Nat → Nat} {m : Nat → Nat} {L : Nat → Int64} (hd : Die od lst) (hm : ∀ s, s ≤ last → m s ≤ 1000000000) (hL : ∀ s, s ≤ last → L s = lN (m s)) (j : Nat) : shN last lst od T L j = lN (shM last lst od T m j) := by
  unfold shN shM
  rw [sR_lN (f' := fun s => shcN (T s) (pwN od (od6 od) (m s)) lst (m s) j) _ _ (fun s _ s2 => by rw [hL s (by omega)]; exact shc_lN hd (hm s (by omega)))]
  by_cases c : j = last
  · rw [if_pos c, if_pos c, hL last (Nat.le_refl _), lN_add]
  · rw [if_neg c, if_neg c]
    show lN _ + lN 0 = _
    rw [lN_add]
theorem shcN_sum {T : Nat → Nat} {od : Nat → Nat} {lst m last : Nat} (hd : Die od lst) (hT : ∀ f, f ≤ 6 → T f ≤ last) : sN (fun j => shcN T (pwN od (od6 od) m) lst m j) 0 (last + 1) = m := by
  obtain ⟨a0, a1⟩ := hd.all
  obtain ⟨d0, d1, d2, -, -⟩ := hd
  have hle := pwN_le (here := m) a0 (od_rest (od := od) d1 d2)
  unfold shcN
  rw [sN_add, sN_swap, sN_congr (f' := pwN od (od6 od) m) _ _ (fun g g1 g2 => sN_pick _ (T g) _ 0 (Nat.zero_le _) (by have := hT g (by omega); omega)), sN_pick _ (T lst) _ 0 (Nat.zero_le _) (by have := hT lst d2; omega)]
  omega
/-- all grains stay -/
theorem shM_sum {last lst : Nat} {od : Nat → Nat} {T : Nat → Nat → Nat} {m : Nat → Nat} (hd : Die od lst) (hT : ∀ s, s ≤ last → ∀ f, f ≤ 6 → T s f ≤ last) : sN (shM last lst od T m) 0 (last + 1) = sN m 0 (last + 1) := by
  have e : shM last lst od T m = fun j => sN (fun s => shcN (T s) (pwN od (od6 od) (m s)) lst (m s) j) 0 last + (if last = j then m last else 0) := by
    funext j
    unfold shM
    by_cases c : j = last
    · rw [if_pos c, if_pos c.symm]
    · rw [if_neg c, if_neg (Ne.symm c)]
  rw [e, sN_add, sN_swap, sN_congr (f' := m) _ _ (fun s _ s2 => shcN_sum hd (hT s (by omega))), sN_pick _ last _ 0 (Nat.zero_le _) (by omega), sN_last]
  simp
/-- the grains behind k throws from square q -/
def mass (last lst : Nat) (od : Nat → Nat) (T : Nat → Nat → Nat) (q : Nat) : Nat → Nat → Nat
  | 0 => fun j => if q = j then 1000000000 else 0
  | k + 1 => shM last lst od T (mass last lst od T q k)
theorem mass_sum {last lst : Nat} {od : Nat → Nat} {T : Nat → Nat → Nat} {q : Nat} (hd : Die od lst) (hT : ∀ s, s ≤ last → ∀ f, f ≤ 6 → T s f ≤ last) (hq : q ≤ last) : ∀ k, sN (mass last lst od T q k) 0 (last + 1) = 1000000000 := by
  intro k
  induction k with
  | zero => exact sN_pick _ q _ 0 (Nat.zero_le _) (by omega)
  | succ k ih => rw [mass, shM_sum hd hT, ih]
theorem mass_le {last lst : Nat} {od : Nat → Nat} {T : Nat → Nat → Nat} {q k j : Nat} (hd : Die od lst) (hT : ∀ s, s ≤ last → ∀ f, f ≤ 6 → T s f ≤ last) (hq : q ≤ last) (hj : j ≤ last) : mass last lst od T q k j ≤ 1000000000 := by
  rw [← mass_sum hd hT hq k]
  exact sN_ge _ _ _ (Nat.zero_le _) (by omega)
/-- who is out behind k throws -/
def outK (last lst : Nat) (od : Nat → Nat) (T : Nat → Nat → Nat) (q k : Nat) : Nat := 1000000000 - mass last lst od T q k last
theorem out_stays {last lst : Nat} {od : Nat → Nat} {T : Nat → Nat → Nat} {q k : Nat} (hd : Die od lst) (hT : ∀ s, s ≤ last → ∀ f, f ≤ 6 → T s f ≤ last) (hq : q ≤ last) (h0 : outK last lst od T q k = 0) : outK last lst od T q (k + 1) = 0 := by
  have h1 : mass last lst od T q k last = 1000000000 := by
    have := mass_le (k := k) hd hT hq (Nat.le_refl last)
    unfold outK at h0
    omega
  have h2 := mass_sum hd hT hq k
  rw [sN_last, Nat.zero_add, h1] at h2
  have h3 : ∀ s, s < last → mass last lst od T q k s = 0 := fun s hs => by
    have := sN_ge (f := mass last lst od T q k) last 0 s (Nat.zero_le _) (by omega)
    omega
  have h4 : mass last lst od T q (k + 1) last = 1000000000 := by
    rw [mass]
    unfold shM
    rw [if_pos rfl, h1, sN_0 _ _ (fun s _ s2 => ?_)]
    rw [h3 s (by omega)]
    unfold shcN
    rw [sN_0 _ _ (fun g _ _ => by unfold pwN; simp)]
    simp
  unfold outK
  omega
theorem out_stay {last lst : Nat} {od : Nat → Nat} {T : Nat → Nat → Nat} {q k : Nat} (hd : Die od lst) (hT : ∀ s, s ≤ last → ∀ f, f ≤ 6 → T s f ≤ last) (hq : q ≤ last) (h0 : outK last lst od T q k = 0) : ∀ d, outK last lst od T q (k + d) = 0 := by
  intro d
  induction d with
  | zero => exact h0
  | succ d ih => exact out_stays hd hT hq ih
/-- LONG by k throws -/
def longK (last lst : Nat) (od : Nat → Nat) (T : Nat → Nat → Nat) (q k : Nat) : Nat := sN (outK last lst od T q) 0 k
