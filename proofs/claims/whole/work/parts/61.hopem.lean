/-! HOPES in natural numbers -/
def S2 (od p : Nat → Nat) : Nat := sN (fun f => sN (fun g => od f * od g * min (p f) (p g)) 1 6) 1 6
/-- what a row of faces from x on gives, with another one -/
def c2T (od p : Nat → Nat) (f x k : Nat) : Nat := sN (fun g => 2 * od f * od g * min (p f) (p g)) x k
def c2S (od p : Nat → Nat) (k : Nat) : Nat := sN (fun f => od f * od f * p f + c2T od p f (f + 1) (6 - f)) 1 k
theorem S2_c (od p : Nat → Nat) : c2S od p 6 = S2 od p := by
  have sy : ∀ f g, od f * od g * min (p f) (p g) = od g * od f * min (p g) (p f) := fun f g => by rw [Nat.mul_comm (od f), Nat.min_comm]
  have di : ∀ f, od f * od f * p f = od f * od f * min (p f) (p f) := fun f => by rw [Nat.min_self]
  have tw : ∀ f g, 2 * od f * od g * min (p f) (p g) = 2 * (od f * od g * min (p f) (p g)) := fun f g => by simp only [Nat.mul_assoc]
  unfold c2S S2 c2T
  simp only [tw, di]
  generalize ht : (fun f g => od f * od g * min (p f) (p g)) = t
  have e : ∀ f g, od f * od g * min (p f) (p g) = t f g := fun f g => by rw [← ht]
  have s' : ∀ f g, t f g = t g f := fun f g => by rw [← e, ← e]; exact sy f g
  simp only [e]
  simp only [sN, Nat.reduceAdd, Nat.reduceSub]
  have a1 := s' 2 1
  have a2 := s' 3 1
  have a3 := s' 4 1
  have a4 := s' 5 1
  have a5 := s' 6 1
  have a6 := s' 3 2
  have a7 := s' 4 2
  have a8 := s' 5 2
  have a9 := s' 6 2
  have b1 := s' 4 3
  have b2 := s' 5 3
  have b3 := s' 6 3
  have b4 := s' 5 4
  have b5 := s' 6 4
  have b6 := s' 6 5
  omega
theorem sN_mulR {f : Nat → Nat} (c k x : Nat) : sN (fun g => f g * c) x k = sN f x k * c := by
  rw [Nat.mul_comm, ← sN_mul]
  exact sN_congr _ _ (fun g _ _ => Nat.mul_comm _ _)
theorem S2_le {od p : Nat → Nat} {M : Nat} (h : ∀ f, 1 ≤ f → f ≤ 6 → p f ≤ M) : S2 od p ≤ od6 od * od6 od * M := by
  have e : sN (fun f => sN (fun g => od f * od g * M) 1 6) 1 6 = od6 od * od6 od * M := by
    have e1 : ∀ f, sN (fun g => od f * od g * M) 1 6 = od f * od6 od * M := fun f => by
      rw [sN_mulR, sN_mul, sN_od6]
    simp only [e1]
    rw [sN_mulR, sN_mulR, sN_od6]
  rw [← e]
  refine sN_le _ _ (fun f f1 f2 => sN_le _ _ (fun g g1 g2 => ?_))
  exact Nat.mul_le_mul_left _ (Nat.le_trans (Nat.min_le_left _ _) (h f f1 (by omega)))
/-- what is ahead of one -/
def hA (b : BD) : Nat → Nat → Nat
  | 0, _ => 0
  | k + 1, s => if s = bLast b then 0 else 1000000000 + S2 (bOd b) (fun f => hA b k (bT b s f)) / (od6 (bOd b) * od6 (bOd b))
theorem hA_le {s : SG} (hg : GoodS s) : ∀ k q, hA (sB s) k q ≤ k * 1000000000 := by
  have ha := hg.die.all
  intro k
  induction k with
  | zero => intro q; exact Nat.le_refl _
  | succ k ih =>
    intro q
    unfold hA
    split
    · omega
    · have h1 := S2_le (od := bOd (sB s)) (p := fun f => hA (sB s) k (bT (sB s) q f)) (M := k * 1000000000) (fun f _ _ => ih _)
      have hp : 0 < od6 (bOd (sB s)) * od6 (bOd (sB s)) := Nat.mul_pos ha.1 ha.1
      have h2 := Nat.div_le_of_le_mul h1
      omega
theorem hA_last (b : BD) (k : Nat) : hA b k (bLast b) = 0 := by
  cases k with
  | zero => rfl
  | succ k => unfold hA; rw [if_pos rfl]
/-- of two together -/
def lsV (b : BD) (B : Nat → Nat → Nat) (x y f : Nat) : Nat := if x = bLast b then B x (bT b y f) else if y = bLast b then B (bT b x f) y else min (B (bT b x f) y) (B x (bT b y f))
def bS (b : BD) (B : Nat → Nat → Nat) (x y k : Nat) : Nat := sN (fun f => bOd b f * lsV b B x y f) 1 k
def bA (b : BD) : Nat → Nat → Nat → Nat
  | 0, _, _ => 0
  | k + 1, x, y => if x = bLast b ∧ y = bLast b then 0 else 1000000000 + bS b (bA b k) x y 6 / od6 (bOd b)
theorem bA_sym (b : BD) : ∀ k x y, bA b k x y = bA b k y x := by
  intro k
  induction k with
  | zero => intro x y; rfl
  | succ k ih =>
    intro x y
    unfold bA
    by_cases c : x = bLast b ∧ y = bLast b
    · rw [if_pos c, if_pos ⟨c.2, c.1⟩]
    · rw [if_neg c, if_neg (fun z => c ⟨z.2, z.1⟩)]
      have : bS b (bA b k) x y 6 = bS b (bA b k) y x 6 := by
        unfold bS
        refine sN_congr _ _ (fun f _ _ => ?_)
        have : lsV b (bA b k) x y f = lsV b (bA b k) y x f := by
          unfold lsV
          by_cases c1 : x = bLast b
          · have c2 : ¬ y = bLast b := fun z => c ⟨c1, z⟩
            rw [if_pos c1, if_neg c2, if_pos c1]; exact ih _ _
          · rw [if_neg c1]
            by_cases c2 : y = bLast b
            · rw [if_pos c2, if_pos c2]; exact ih _ _
            · rw [if_neg c2, if_neg c2, if_neg c1, Nat.min_comm, ih x, ih _ y]
        rw [this]
      rw [this]
theorem bS_le {b : BD} {B : Nat → Nat → Nat} {x y M : Nat} (h : ∀ x y, B x y ≤ M) : bS b B x y 6 ≤ od6 (bOd b) * M := by
  rw [← sN_od6, ← sN_mulR]
  refine sN_le _ _ (fun f f1 f2 => Nat.mul_le_mul_left _ ?_)
  unfold lsV
  split
  · exact h _ _
  · split
    · exact h _ _
    · exact Nat.le_trans (Nat.min_le_left _ _) (h _ _)
theorem bA_le (b : BD) : ∀ k x y, bA b k x y ≤ k * 1000000000 := by
  intro k
  induction k with
  | zero => intro x y; exact Nat.le_refl _
  | succ k ih =>
    intro x y
    unfold bA
    split
    · omega
    · have h1 := bS_le (b := b) (B := bA b k) (x := x) (y := y) (M := k * 1000000000) ih
      have h2 := Nat.div_le_of_le_mul h1
      omega
theorem lN_min {a b : Nat} (ha : a < 2 ^ 63) (hb : b < 2 ^ 63) : (if lN b < lN a then lN b else lN a) = lN (min a b) := by
  by_cases c : b < a
  · rw [if_pos ((pk_lLT hb ha).2 c), Nat.min_eq_right (by omega)]
  · rw [if_neg (fun z => c ((pk_lLT hb ha).1 z)), Nat.min_eq_left (by omega)]
