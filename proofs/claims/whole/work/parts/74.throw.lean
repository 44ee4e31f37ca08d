/-! A THROW, in words of its own -/
def tTo (b : BD) (g : GD) (f : Nat) : Nat := bT b (gPl g (gT g)) f
def tPl1 (b : BD) (g : GD) (f : Nat) : Nat → Nat := va_up (gPl g) (gT g) (tTo b g f)
/-- whom one meets -/
def tMet (b : BD) (g : GD) (f p : Nat) : Bool := decide (bMt b = 1 ∧ tTo b g f ≠ 0 ∧ tTo b g f ≠ bLast b) && decide (p ≠ gT g ∧ tPl1 b g f p = tTo b g f)
def tMsk (b : BD) (g : GD) (f : Nat) : Nat → Nat
  | 0 => 0
  | k + 1 => if tMet b g f k = true then tMsk b g f k ||| (1 <<< k) else tMsk b g f k
def tPl (b : BD) (g : GD) (f k p : Nat) : Nat := if p < k ∧ tMet b g f p = true then 0 else tPl1 b g f p
/-- the next one: c are left to be looked at -/
def nxt (last pc t : Nat) (pl : Nat → Nat) : Nat → Option Nat
  | 0 => none
  | c + 1 => if pl ((t + (pc - c)) % pc) = last then nxt last pc t pl c else some ((t + (pc - c)) % pc)
def tNx (b : BD) (t f : Nat) (pl : Nat → Nat) : Option Nat := if bAg b = f ∧ pl t ≠ bLast b then some t else nxt (bLast b) (bPc b) t pl (bPc b)
def gThr (b : BD) (g : GD) (f : Nat) : GD := (((tNx b (gT g) f (tPl b g f (bPc b))).getD (gT g), gTh g + 1, gNn g), tPl b g f (bPc b), va_up (gLg g) (gTh g) (fun k => if k = 0 then gT g else if k = 1 then f else if k = 2 then gPl g (gT g) else if k = 3 then tTo b g f else tMsk b g f (bPc b)), gNr g, gSt g)
theorem nxt_lt {last pc t : Nat} {pl : Nat → Nat} (hp : 0 < pc) : ∀ c p, nxt last pc t pl c = some p → p < pc ∧ pl p ≠ last := by
  intro c
  induction c with
  | zero => intro p h; cases h
  | succ c ih =>
    intro p h
    unfold nxt at h
    by_cases z : pl ((t + (pc - c)) % pc) = last
    · rw [if_pos z] at h; exact ih p h
    · rw [if_neg z] at h
      cases h
      exact ⟨Nat.mod_lt _ hp, z⟩
theorem mod_add {t j pc : Nat} (ht : t < pc) (hj : j ≤ pc) : (t + j) % pc = if t + j < pc then t + j else t + j - pc := by
  by_cases z : t + j < pc
  · rw [if_pos z, Nat.mod_eq_of_lt z]
  · rw [if_neg z, Nat.mod_eq_sub_mod (by omega)]
    by_cases y : t + j - pc < pc
    · exact Nat.mod_eq_of_lt y
    · omega
theorem nxt_none {last pc t : Nat} {pl : Nat → Nat} (ht : t < pc) : ∀ c, c ≤ pc → nxt last pc t pl c = none → ∀ j, pc - c < j → j ≤ pc → pl ((t + j) % pc) = last := by
  intro c
  induction c with
  | zero => intro _ _ j h1 h2; omega
  | succ c ih =>
    intro hc h j h1 h2
    unfold nxt at h
    by_cases z : pl ((t + (pc - c)) % pc) = last
    · rw [if_pos z] at h
      by_cases y : j = pc - c
      · rw [y]; exact z
      · exact ih (by omega) h j (by omega) h2
    · rw [if_neg z] at h; cases h
theorem nxt_over {last pc t : Nat} {pl : Nat → Nat} (ht : t < pc) (h : nxt last pc t pl pc = none) : isOv last pc pl = true := by
  refine isOv_t.2 (fun p hp => ?_)
  have key := nxt_none ht pc (Nat.le_refl _) h
  by_cases z : t < p
  · have := key (p - t) (by omega) (by omega)
    rw [mod_add ht (by omega), if_pos (by omega)] at this
    rw [show t + (p - t) = p by omega] at this
    exact this
  · have := key (p + pc - t) (by omega) (by omega)
    rw [mod_add ht (by omega), if_neg (by omega)] at this
    rw [show t + (p + pc - t) - pc = p by omega] at this
    exact this
theorem tNx_some {b : BD} {t f : Nat} {pl : Nat → Nat} (ht : t < bPc b) {p : Nat} (h : tNx b t f pl = some p) : p < bPc b ∧ pl p ≠ bLast b := by
  unfold tNx at h
  by_cases c : bAg b = f ∧ pl t ≠ bLast b
  · rw [if_pos c] at h; cases h; exact ⟨ht, c.2⟩
  · rw [if_neg c] at h; exact nxt_lt (by omega) _ _ h
theorem tNx_none {b : BD} {t f : Nat} {pl : Nat → Nat} (ht : t < bPc b) (h : tNx b t f pl = none) : isOv (bLast b) (bPc b) pl = true := by
  unfold tNx at h
  by_cases c : bAg b = f ∧ pl t ≠ bLast b
  · rw [if_pos c] at h; cases h
  · rw [if_neg c] at h; exact nxt_over ht h
theorem tMet_t {b : BD} {g : GD} {f : Nat} : tMet b g f (gT g) = false := by
  unfold tMet
  rw [decide_eq_false (p := gT g ≠ gT g ∧ _) (fun z => z.1 rfl), Bool.and_false]
theorem tMsk_bit {b : BD} {g : GD} {f : Nat} : ∀ k p, (tMsk b g f k).testBit p = (decide (p < k) && tMet b g f p) := by
  intro k
  induction k with
  | zero => intro p; unfold tMsk; simp
  | succ k ih =>
    intro p
    unfold tMsk
    by_cases c : tMet b g f k = true
    · rw [if_pos c, Nat.testBit_or, ih p, Nat.one_shiftLeft, Nat.testBit_two_pow]
      by_cases z : k = p
      · subst z; simp [c]
      · have e : decide (p < k) = decide (p < k + 1) := by
          by_cases y : p < k
          · simp [y]; omega
          · simp [y]; omega
        rw [e, decide_eq_false z, Bool.or_false]
    · rw [if_neg c, ih p]
      by_cases z : k = p
      · subst z
        rw [Bool.eq_false_iff.mpr c, Bool.and_false, Bool.and_false]
      · have e : decide (p < k) = decide (p < k + 1) := by
          by_cases y : p < k
          · simp [y]; omega
          · simp [y]; omega
        rw [e]
theorem tMsk_lt {b : BD} {g : GD} {f : Nat} : ∀ k, tMsk b g f k < 2 ^ k := by
  intro k
  refine Nat.lt_pow_two_of_testBit _ (fun i hi => ?_)
  rw [tMsk_bit, decide_eq_false (by omega), Bool.false_and]
theorem gThr_good {s : SG} (hg : GoodS s) {f : Nat} (f1 : 1 ≤ f) (f2 : f ≤ 6) (ht : gTh (sG s) < 200) (hov : isOv (bLast (sB s)) (bPc (sB s)) (gPl (sG s)) = false) : GoodGD (sB s) (gThr (sB s) (sG s) f) := by
  have hl := hg.l
  have hp := hg.pc
  obtain ⟨h1, h2, h3, h4, h5, h6, h7⟩ := hg.2.1
  have hto : tTo (sB s) (sG s) f ≤ bLast (sB s) := hg.tl _ (h4 _ (by omega)) f f2
  have hfr := h7 hov
  have hpl : ∀ p, p < 4 → tPl (sB s) (sG s) f (bPc (sB s)) p ≤ bLast (sB s) := by
    intro p hp4
    unfold tPl
    split
    · exact Nat.zero_le _
    · unfold tPl1 va_up
      split
      · exact hto
      · exact h4 p hp4
  refine ⟨?_, ?_, h3, hpl, ?_, h6, ?_⟩
  · show (tNx (sB s) (gT (sG s)) f (tPl (sB s) (sG s) f (bPc (sB s)))).getD (gT (sG s)) < _
    cases e : tNx (sB s) (gT (sG s)) f (tPl (sB s) (sG s) f (bPc (sB s))) with
    | none => exact h1
    | some p => exact (tNx_some h1 e).1
  · show gTh (sG s) + 1 ≤ 200
    omega
  · intro i hi
    have hi' : i < gTh (sG s) + 1 := hi
    show va_up (gLg (sG s)) (gTh (sG s)) _ i 0 < _ ∧ 1 ≤ va_up (gLg (sG s)) (gTh (sG s)) _ i 1 ∧ va_up (gLg (sG s)) (gTh (sG s)) _ i 1 ≤ 6 ∧ va_up (gLg (sG s)) (gTh (sG s)) _ i 2 < _ ∧ va_up (gLg (sG s)) (gTh (sG s)) _ i 3 ≤ _ ∧ va_up (gLg (sG s)) (gTh (sG s)) _ i 4 < 16 ∧ (va_up (gLg (sG s)) (gTh (sG s)) _ i 4).testBit (va_up (gLg (sG s)) (gTh (sG s)) _ i 0) = false
    by_cases z : i = gTh (sG s)
    · rw [z, va_up_eq]
      refine ⟨h1, f1, f2, ?_, hto, ?_, ?_⟩
      · show gPl (sG s) (gT (sG s)) < bLast (sB s)
        have := h4 (gT (sG s)) (by omega)
        omega
      · show tMsk (sB s) (sG s) f (bPc (sB s)) < 16
        have := tMsk_lt (b := sB s) (g := sG s) (f := f) (bPc (sB s))
        have : 2 ^ bPc (sB s) ≤ 2 ^ 4 := Nat.pow_le_pow_right (by omega) hp.2
        omega
      · show (tMsk (sB s) (sG s) f (bPc (sB s))).testBit (gT (sG s)) = false
        rw [tMsk_bit, tMet_t, Bool.and_false]
    · rw [va_up_of _ _ z]
      exact h5 i (by omega)
  · intro ho
    show tPl (sB s) (sG s) f (bPc (sB s)) ((tNx (sB s) (gT (sG s)) f (tPl (sB s) (sG s) f (bPc (sB s)))).getD (gT (sG s))) ≠ _
    cases e : tNx (sB s) (gT (sG s)) f (tPl (sB s) (sG s) f (bPc (sB s))) with
    | none =>
      have := tNx_none h1 e
      have ho' : isOv (bLast (sB s)) (bPc (sB s)) (tPl (sB s) (sG s) f (bPc (sB s))) = false := ho
      rw [this] at ho'; cases ho'
    | some p => exact (tNx_some h1 e).2
/-- a throw is taken back -/
def uPl (g : GD) (k p : Nat) : Nat := if p = gLg g (gTh g - 1) 0 then gLg g (gTh g - 1) 2 else if p < k ∧ (gLg g (gTh g - 1) 4).testBit p = true then gLg g (gTh g - 1) 3 else gPl g p
def gUnd (b : BD) (g : GD) : GD := ((gLg g (gTh g - 1) 0, gTh g - 1, gNn g), uPl g (bPc b), gLg g, gNr g, gSt g)
theorem gUnd_turn {s : SG} (hg : GoodS s) (ht : 0 < gTh (sG s)) : isOv (bLast (sB s)) (bPc (sB s)) (uPl (sG s) (bPc (sB s))) = false := by
  rw [← Bool.not_eq_true]
  intro z
  have h5 := hg.2.1.2.2.2.2.1 (gTh (sG s) - 1) (by omega)
  have := isOv_t.1 z _ h5.1
  unfold uPl at this
  rw [if_pos rfl] at this
  omega
theorem gUnd_good {s : SG} (hg : GoodS s) (ht : 0 < gTh (sG s)) : GoodGD (sB s) (gUnd (sB s) (sG s)) := by
  obtain ⟨h1, h2, h3, h4, h5, h6, h7⟩ := hg.2.1
  have hl := h5 (gTh (sG s) - 1) (by omega)
  refine ⟨hl.1, ?_, h3, fun p hp => ?_, fun i hi => ?_, h6, fun _ => ?_⟩
  · show gTh (sG s) - 1 ≤ 200
    omega
  · show uPl (sG s) (bPc (sB s)) p ≤ _
    unfold uPl
    split
    · omega
    · split
      · omega
      · exact h4 p hp
  · have hi' : i < gTh (sG s) - 1 := hi
    exact h5 i (by omega)
  · show uPl (sG s) (bPc (sB s)) (gLg (sG s) (gTh (sG s) - 1) 0) ≠ _
    unfold uPl
    rw [if_pos rfl]
    omega
theorem gRef_good {b : BD} {g : GD} (h : GoodGD b g) (k : Nat) : GoodGD b (gRef g k) := h
theorem gForg_good {b : BD} {g : GD} (h : GoodGD b g) : GoodGD b (gForg g) := by
  obtain ⟨h1, h2, h3, h4, h5, h6, h7⟩ := h
  refine ⟨h1, h2, ?_, h4, h5, fun i hi => ?_, h7⟩
  · show gNn g - 1 ≤ 40
    omega
  · have hi' : i < gNn g - 1 := hi
    exact h6 i (by omega)
theorem gNote_good {b : BD} {g : GD} (h : GoodGD b g) {q : Int32} (hn : gNn g < 40) (hq : inR q (-1) (bLast b) = true) : GoodGD b (gNote g q) := by
  obtain ⟨h1, h2, h3, h4, h5, h6, h7⟩ := h
  refine ⟨h1, h2, ?_, h4, h5, fun i hi => ?_, h7⟩
  · show gNn g + 1 ≤ 40
    omega
  · have hi' : i < gNn g + 1 := hi
    show va_up (gNr g) (gNn g) q i = -1 ∨ ∃ w, w ≤ bLast b ∧ va_up (gNr g) (gNn g) q i = nI w
    by_cases z : i = gNn g
    · rw [z, va_up_eq]
      obtain ⟨q1, q2⟩ := inR_t.1 hq
      by_cases y : q.toInt = -1
      · refine Or.inl ?_
        rw [iz_of q, y]; rfl
      · exact Or.inr (inR_nI (inR_t.2 (by omega)))
    · rw [va_up_of _ _ z]; exact h6 i (by omega)
/-! bits of four -/
theorem or4 : ∀ a, a < 16 → ∀ k, k < 4 → nI a ||| (1 <<< (nI k &&& 31)) = nI (a ||| (1 <<< k)) := by decide
theorem and4 : ∀ a, a < 16 → ∀ k, k < 4 → ((nI a &&& (1 <<< (nI k &&& 31)) = 0) ↔ a.testBit k = false) := by decide
theorem shr4 : ∀ a, a < 16 → ∀ k, k < 4 → (((nI a >>> (nI k &&& 31)) &&& 1 = 1) ↔ a.testBit k = true) := by decide
