/-! OBJECTS: which cells belong together -/
theorem xw_drop {R : Room} {M : XM} {E : XE} {n b bs : Nat} {h : XH} {pc : Nat} {ls ls' : List (Option Value)} {st : List Value} (i : Nat) (hs : ls.set i none = ls') (k : XW R M E n b bs h pc ls' st) : XW R M E n b bs h pc ls st := by
  subst hs
  refine xw_ls (fun j v q => ?_) k
  by_cases e : j = i
  · subst e
    have hl := (List.getElem?_eq_some_iff.mp q).1
    rw [List.length_set] at hl
    rw [List.getElem?_set_self hl] at q
    cases q
  · rwa [List.getElem?_set_ne (Ne.symm e)] at q
theorem x_tabcases {x : Int32} {lo hi : Int} (h1 : -2 ^ 31 ≤ lo) (h2 : hi < 2 ^ 31) (c : ¬ (x.toInt < lo ∨ hi < x.toInt)) : ∃ j : Nat, (j : Int) ≤ hi - lo ∧ x = Int32.ofInt (lo + j) := by
  refine ⟨(x.toInt - lo).toNat, by omega, ?_⟩
  rw [show lo + ((x.toInt - lo).toNat : Int) = x.toInt by omega, Int32.ofInt_toInt]
def xFor (f : Nat) (P : Nat → Nat → Option Nat) : Prop := (f = 3 ∨ f = 13) ∧ P f 2 = some (f + 1) ∧ P f 4 = some (f + 2) ∧ P f 5 = some (f + 3)
def xRul (r : Nat) (P : Nat → Nat → Option Nat) : Prop := (r = 2 ∨ r = 12) ∧ P r 8 = some (r + 1) ∧ P r 9 = some (r + 5) ∧ P r 10 = some (r + 6) ∧ P r 11 = some (r + 7) ∧ P r 12 = some (r + 8) ∧ xFor (r + 1) P
def xPth (a : Nat) (P : Nat → Nat → Option Nat) : Prop := (a = 21 ∨ a = 25) ∧ P a 0 = some (a + 1) ∧ P a 1 = some (a + 2) ∧ P a 2 = some (a + 3)
def xSta (u : Nat) (P : Nat → Nat → Option Nat) : Prop := (u = 29 ∨ u = 34) ∧ P u 4 = some (u + 1) ∧ P u 5 = some (u + 2) ∧ P u 6 = some (u + 3) ∧ P u 7 = some (u + 4)
def xSnd (s y z : Nat) (P : Nat → Nat → Option Nat) : Prop := ((s = 43 ∧ y = 44 ∧ z = 45) ∨ (s = 43 ∧ y = 45 ∧ z = 44) ∨ (s = 46 ∧ y = 47 ∧ z = 48) ∨ (s = 46 ∧ y = 48 ∧ z = 47)) ∧ P s 1 = some y ∧ P s 2 = some z
def xWay (P : Nat → Nat → Option Nat) : Prop := P 39 1 = some 40 ∧ P 39 2 = some 41 ∧ P 39 3 = some 42
def xHop (hy hz : Nat) (P : Nat → Nat → Option Nat) : Prop := ((hy = 50 ∧ hz = 51) ∨ (hy = 51 ∧ hz = 50)) ∧ P 49 0 = some hy ∧ P 49 1 = some hz
def xNot (na nb : Nat) (P : Nat → Nat → Option Nat) : Prop := ((na = 53 ∧ nb = 54) ∨ (na = 54 ∧ nb = 53)) ∧ P 52 0 = some na ∧ P 52 1 = some nb ∧ P 52 2 = some 100
/-- nothing is asked of where the writer points: its cell holds ints alone -/
def xWri (_P : Nat → Nat → Option Nat) : Prop := True
def xRdr (r2 : Nat) (P : Nat → Nat → Option Nat) : Prop := P 11 1 = some 1 ∧ P 11 7 = some r2
def xBrd (r : Nat) (P : Nat → Nat → Option Nat) : Prop := P 0 0 = some 1 ∧ P 0 3 = some r ∧ P 0 4 = some 11 ∧ P 0 5 = some 21 ∧ P 0 6 = some 25 ∧ P 0 7 = some 29 ∧ P 0 8 = some 34 ∧ P 0 10 = some 39 ∧ P 0 11 = some 43 ∧ P 0 12 = some 46 ∧ P 0 13 = some 49 ∧ P 0 14 = some 52 ∧ P 0 15 = some 55
theorem xRul_s0 {r : Nat} {P : Nat → Nat → Option Nat} (h : xRul r P) : SH r = .inr 5 := by
  rcases h.1 with rfl | rfl <;> rfl
theorem xRul_s1 {r : Nat} {P : Nat → Nat → Option Nat} (h : xRul r P) : SH (r + 1) = .inr 0 := by
  rcases h.1 with rfl | rfl <;> rfl
theorem xRul_s2 {r : Nat} {P : Nat → Nat → Option Nat} (h : xRul r P) : SH (r + 2) = .inl (.char, 1000) := by
  rcases h.1 with rfl | rfl <;> rfl
theorem xRul_s3 {r : Nat} {P : Nat → Nat → Option Nat} (h : xRul r P) : SH (r + 3) = .inl (.int, 500) := by
  rcases h.1 with rfl | rfl <;> rfl
theorem xRul_s4 {r : Nat} {P : Nat → Nat → Option Nat} (h : xRul r P) : SH (r + 4) = .inl (.int, 64) := by
  rcases h.1 with rfl | rfl <;> rfl
theorem xRul_s5 {r : Nat} {P : Nat → Nat → Option Nat} (h : xRul r P) : SH (r + 5) = .inl (.int, 7) := by
  rcases h.1 with rfl | rfl <;> rfl
theorem xRul_s6 {r : Nat} {P : Nat → Nat → Option Nat} (h : xRul r P) : SH (r + 6) = .inl (.int, 24) := by
  rcases h.1 with rfl | rfl <;> rfl
theorem xRul_s7 {r : Nat} {P : Nat → Nat → Option Nat} (h : xRul r P) : SH (r + 7) = .inl (.int, 24) := by
  rcases h.1 with rfl | rfl <;> rfl
theorem xRul_s8 {r : Nat} {P : Nat → Nat → Option Nat} (h : xRul r P) : SH (r + 8) = .inl (.boolean, 101) := by
  rcases h.1 with rfl | rfl <;> rfl
theorem xPth_s0 {r : Nat} {P : Nat → Nat → Option Nat} (h : xPth r P) : SH r = .inr 3 := by
  rcases h.1 with rfl | rfl <;> rfl
theorem xPth_s1 {r : Nat} {P : Nat → Nat → Option Nat} (h : xPth r P) : SH (r + 1) = .inl (.int, 101) := by
  rcases h.1 with rfl | rfl <;> rfl
theorem xPth_s2 {r : Nat} {P : Nat → Nat → Option Nat} (h : xPth r P) : SH (r + 2) = .inl (.int, 707) := by
  rcases h.1 with rfl | rfl <;> rfl
theorem xPth_s3 {r : Nat} {P : Nat → Nat → Option Nat} (h : xPth r P) : SH (r + 3) = .inl (.int, 707) := by
  rcases h.1 with rfl | rfl <;> rfl
theorem xSta_s0 {r : Nat} {P : Nat → Nat → Option Nat} (h : xSta r P) : SH r = .inr 7 := by
  rcases h.1 with rfl | rfl <;> rfl
theorem xSta_s1 {r : Nat} {P : Nat → Nat → Option Nat} (h : xSta r P) : SH (r + 1) = .inl (.int, 4) := by
  rcases h.1 with rfl | rfl <;> rfl
theorem xSta_s2 {r : Nat} {P : Nat → Nat → Option Nat} (h : xSta r P) : SH (r + 2) = .inl (.int, 1000) := by
  rcases h.1 with rfl | rfl <;> rfl
theorem xSta_s3 {r : Nat} {P : Nat → Nat → Option Nat} (h : xSta r P) : SH (r + 3) = .inl (.int, 40) := by
  rcases h.1 with rfl | rfl <;> rfl
theorem xSta_s4 {r : Nat} {P : Nat → Nat → Option Nat} (h : xSta r P) : SH (r + 4) = .inl (.int, 3) := by
  rcases h.1 with rfl | rfl <;> rfl
