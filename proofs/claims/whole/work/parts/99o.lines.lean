/-! READ: lines, the whole text -/
abbrev QR : Type := (Nat × Nat) ⊕ (Nat × BD)
def qbd {α β : Type} (x : (Nat × Nat) ⊕ (Nat × α)) (f : Nat → α → (Nat × Nat) ⊕ (Nat × β)) : (Nat × Nat) ⊕ (Nat × β) := match x with
  | .inl e => .inl e
  | .inr y => f y.1 y.2
theorem qbd_r {α β : Type} {x : (Nat × Nat) ⊕ (Nat × α)} {f : Nat → α → (Nat × Nat) ⊕ (Nat × β)} {y : Nat × β} (h : qbd x f = .inr y) : ∃ s c, x = .inr (s, c) ∧ f s c = .inr y := by
  rcases x with e | ⟨s, c⟩
  · exact absurd h (fun z => by cases z)
  · exact ⟨s, c, rfl, h⟩
def wExit : List Nat := [101, 120, 105, 116]
def wDie : List Nat := [100, 105, 101]
def wEnd : List Nat := [101, 110, 100]
def wAgain : List Nat := [97, 103, 97, 105, 110]
def wMeet : List Nat := [109, 101, 101, 116]
def wPieces : List Nat := [112, 105, 101, 99, 101, 115]
def wGoes : List Nat := [103, 111, 101, 115]
def wStay : List Nat := [115, 116, 97, 121]
def wBack : List Nat := [98, 97, 99, 107]
def wInn : List Nat := [105, 110]
/-- what a line changes of the board -/
def dLa (b : BD) (v : Nat) : BD := ((v, bKx b, bE b, bLen b, bLst b, bAg b, bPc b, bMt b, bTd b, bTl b), b.2)
def dE (b : BD) (v : Nat) : BD := ((bLast b, bKx b, v, bLen b, bLst b, bAg b, bPc b, bMt b, bTd b, bTl b), b.2)
def dAg (b : BD) (v : Nat) : BD := ((bLast b, bKx b, bE b, bLen b, bLst b, v, bPc b, bMt b, bTd b, bTl b), b.2)
def dPc (b : BD) (v : Nat) : BD := ((bLast b, bKx b, bE b, bLen b, bLst b, bAg b, v, bMt b, bTd b, bTl b), b.2)
def dMt (b : BD) : BD := ((bLast b, bKx b, bE b, bLen b, bLst b, bAg b, bPc b, 1, bTd b, bTl b), b.2)
def lfc (od : Nat → Nat) : Nat := if 0 < od 1 then 1 else if 0 < od 2 then 2 else if 0 < od 3 then 3 else if 0 < od 4 then 4 else if 0 < od 5 then 5 else if 0 < od 6 then 6 else 0
def dOd (b : BD) (f v : Nat) : BD := ((bLast b, bKx b, bE b, bLen b, lfc (va_up (bOd b) f v), bAg b, bPc b, bMt b, bTd b, bTl b), (bFt b, bHd b, va_up (bOd b) f v, bTx b), bC b)
def dGo (b : BD) (c : List Int32) (L : List Nat) : BD := ((bLast b, bKx b, bE b, c.length, bLst b, bAg b, bPc b, bMt b, 1, L.length), (bFt b, bHd b, bOd b, fun k => L.getD k 0), fun k => c.getD k 0)
def b0T : BD := dB0 (fun _ => 1) 1 36 (fun _ => 0) (fun _ => 0) (fun _ => 0) (fun _ => -1)
/-- the rule's tokens as they are written -/
def inWd (c : Nat) : Bool := isLt c || isDg c
def kpS (w c : Nat) (ap : Bool) : List Nat := if (inWd w && inWd c && (ap || (isLt w != isLt c))) = true then [32, c] else [c]
def kpT (T : Nat → Nat) : Nat → Nat → Nat → Bool → List Nat → List Nat
  | 0, _, _, _, L => L
  | f + 1, i, w, ap, L => if isBk (T i) = true then kpT T f (i + 1) w true L else kpT T f (i + 1) (T i) false (L ++ kpS w (T i) ap)
section LINES
variable (T : Nat → Nat) (n : Nat)
def lExit (s : Nat) (b : BD) : QR := match num T n 1 (bLast b - 1) s with
  | .inl f => .inl (f, s)
  | .inr a => if dFt b a = true then .inl (4, s) else match num T n 1 (bLast b) (nx T n s) with
    | .inl f => .inl (f, nx T n s)
    | .inr t => if t = a then .inl (2, nx T n s) else .inr (nx T n (nx T n s), dAdd b a t)
def lDie : Nat → Nat → BD → QR
  | 0, s, b => .inr (s, b)
  | k + 1, s, b => match num T n 0 9 s with
    | .inl f => .inl (f, s)
    | .inr v => if k = 0 ∧ od6 (bOd (dOd b (6 - k) v)) = 0 then .inl (2, s) else lDie k (nx T n s) (dOd b (6 - k) v)
def lEnd (s : Nat) (b : BD) : QR := if isW T n wStay s = true then .inr (nx T n s, dE b 0) else if isW T n wBack s = true then .inr (nx T n s, dE b 1) else if isW T n wInn s = true then .inr (nx T n s, dE b 2) else .inl (1, s)
def lNum (hi : Nat) (g : BD → Nat → BD) (s : Nat) (b : BD) : QR := match num T n 1 hi s with
  | .inl f => .inl (f, s)
  | .inr v => .inr (nx T n s, g b v)
def lGoes (s : Nat) (b : BD) : QR := match pE T n 6 s [] with
  | .inl e => .inl e
  | .inr y => .inr (y.1, dGo b y.2 (kpT T (y.1 - s) s 59 false []))
/-- which line begins: 1 exit, 2 die, 3 end, 4 again, 5 meet, 6 pieces, 7 goes -/
def lnO (s : Nat) : Nat := if isW T n wExit s = true then 1 else if isW T n wDie s = true then 2 else if isW T n wEnd s = true then 3 else if isW T n wAgain s = true then 4 else if isW T n wMeet s = true then 5 else if isW T n wPieces s = true then 6 else if isW T n wGoes s = true then 7 else 0
def lBody (k s : Nat) (b : BD) : QR := if k = 1 then lExit T n s b else if k = 2 then lDie T n 6 s b else if k = 3 then lEnd T n s b else if k = 4 then lNum T n 6 dAg s b else if k = 5 then .inr (s, dMt b) else if k = 6 then lNum T n 4 dPc s b else lGoes T n s b
abbrev RR : Type := (Nat × Nat) ⊕ (Nat × (BD × Nat))
def lSem (s : Nat) (b : BD) : QR := if isS T n 59 s = true then .inr (nx T n s, b) else .inl (1, s)
def lBad (s : Nat) (b : BD) (t : Nat) : Option Nat := if lnO T n s = 0 then some 1 else if lnO T n s = 1 ∧ 24 ≤ bKx b then some 2 else if lnO T n s ≠ 1 ∧ t.testBit (lnO T n s) = true then some 5 else none
def lLine (s : Nat) (b : BD) (t : Nat) : RR := match lBad T n s b t with
  | some f => .inl (f, s)
  | none => qbd (qbd (lBody T n (lnO T n s) (nx T n s) b) (lSem T n)) (fun s' b' => .inr (s', (b', t ||| 2 ^ lnO T n s)))
def lAll : Nat → Nat → BD → Nat → RR
  | 0, s, b, t => .inr (s, (b, t))
  | f + 1, s, b, t => if kd T n s = 0 then .inr (s, (b, t)) else qbd (lLine T n s b t) (fun s' y => lAll f s' y.1 y.2)
def lLast (s : Nat) (b : BD) : QR := match num T n 10 100 s with
  | .inl f => .inl (f, s)
  | .inr v => lSem T n (nx T n s) (dLa b v)
def s0T : Nat := sc isBk T n 0
def lHead : QR := if isW T n wLast (s0T T n) = true then lLast T n (nx T n (s0T T n)) b0T else .inr (s0T T n, b0T)
def lText : RR := qbd (lHead T n) (fun s b => lAll T n 501 s b 0)
end LINES
/-! what is read is a good board -/
theorem lfc_die {od : Nat → Nat} (h9 : ∀ f, 1 ≤ f → f ≤ 6 → od f ≤ 9) (h0 : od6 od ≠ 0) : Die od (lfc od) := by
  unfold od6 at h0
  refine ⟨h9, ?_⟩
  unfold lfc
  split
  · exact ⟨by omega, by omega, by omega, fun f f1 f2 => by omega⟩
  · split
    · exact ⟨by omega, by omega, by omega, fun f f1 f2 => by have : f = 1 := by omega
                                                             subst this; omega⟩
    · split
      · exact ⟨by omega, by omega, by omega, fun f f1 f2 => by
          rcases (show f = 1 ∨ f = 2 by omega) with z | z <;> subst z <;> omega⟩
      · split
        · exact ⟨by omega, by omega, by omega, fun f f1 f2 => by
            rcases (show f = 1 ∨ f = 2 ∨ f = 3 by omega) with z | z | z <;> subst z <;> omega⟩
        · split
          · exact ⟨by omega, by omega, by omega, fun f f1 f2 => by
              rcases (show f = 1 ∨ f = 2 ∨ f = 3 ∨ f = 4 by omega) with z | z | z | z <;> subst z <;> omega⟩
          · split
            · exact ⟨by omega, by omega, by omega, fun f f1 f2 => by
                rcases (show f = 1 ∨ f = 2 ∨ f = 3 ∨ f = 4 ∨ f = 5 by omega) with z | z | z | z | z <;> subst z <;> omega⟩
            · exact absurd (by omega) h0
theorem b0T_good : GoodBD b0T := by
  have hd : Die (fun _ => 1) 1 := ⟨fun _ _ _ => by show (1 : Nat) ≤ 9; omega, by omega, by omega, by show 0 < 1; omega, fun f f1 f2 => by omega⟩
  have e : (fun _ => -1 : Nat → Int32) = va_up (fun _ => -1) 0 (-1) := by
    funext j
    unfold va_up
    split <;> rfl
  unfold b0T
  rw [e]
  exact dB0_good _ hd (by omega) (by omega)
theorem kpS_len (w c : Nat) (ap : Bool) : (kpS w c ap).length ≤ 2 := by
  unfold kpS
  split <;> simp
theorem kpS_b {w c : Nat} {ap : Bool} (hc : c < 256) : ∀ x ∈ kpS w c ap, x < 256 := by
  unfold kpS
  intro x hx
  split at hx
  · simp at hx; omega
  · simp at hx; omega
theorem kpT_g {T : Nat → Nat} {n : Nat} (ht : ∀ i, i < n → T i < 256) : ∀ (f i w : Nat) (ap : Bool) (L : List Nat), i + f ≤ n → (∀ x ∈ L, x < 256) → (kpT T f i w ap L).length ≤ L.length + 2 * f ∧ ∀ x ∈ kpT T f i w ap L, x < 256 := by
  intro f
  induction f with
  | zero => intro i w ap L _ hL; exact ⟨Nat.le_refl _, hL⟩
  | succ f ih =>
    intro i w ap L hi hL
    unfold kpT
    split
    · obtain ⟨h1, h2⟩ := ih (i + 1) w true L (by omega) hL
      exact ⟨by omega, h2⟩
    · have hk := kpS_len w (T i) ap
      obtain ⟨h1, h2⟩ := ih (i + 1) (T i) false (L ++ kpS w (T i) ap) (by omega) (fun x hx => by
        rcases List.mem_append.1 hx with z | z
        · exact hL x z
        · exact kpS_b (ht i (by omega)) x z)
      rw [List.length_append] at h1
      exact ⟨by omega, h2⟩
theorem mem_getD {L : List Nat} (h : ∀ x ∈ L, x < 256) (i : Nat) (hi : i < L.length) : L.getD i 0 < 256 := by
  rw [List.getD_eq_getElem?_getD, List.getElem?_eq_getElem hi]
  exact h _ (List.getElem_mem hi)
def Good9 (b : BD) : Prop := ∀ f, 1 ≤ f → f ≤ 6 → bOd b f ≤ 9
/-- all of a good board but its die -/
def GoodX (b : BD) : Prop := Good9 b ∧ (10 ≤ bLast b ∧ bLast b ≤ 100 ∧ bKx b ≤ 24 ∧ bE b ≤ 2 ∧ CodeOK (bC b) (bLen b) ∧ (∀ i, i < bKx b → 1 ≤ bFt b i ∧ bFt b i < bLast b ∧ 1 ≤ bHd b i ∧ bHd b i ≤ bLast b) ∧ (∀ i j, i < bKx b → j < bKx b → bFt b i = bFt b j → i = j)) ∧ bAg b ≤ 6 ∧ (1 ≤ bPc b ∧ bPc b ≤ 4) ∧ bMt b ≤ 1 ∧ bTd b ≤ 1 ∧ bTl b ≤ 1000 ∧ (bTd b = 0 → bLen b = 1 ∧ bC b 0 = -1 ∧ bTl b = 0) ∧ (∀ i, i < bTl b → bTx b i < 256)
theorem GoodBD.x {b : BD} (h : GoodBD b) : GoodX b := by
  obtain ⟨⟨h1, h2, h3, h4, h5, h6, h7, h8⟩, r⟩ := h
  exact ⟨h5.1, ⟨h1, h2, h3, h4, h6, h7, h8⟩, r⟩
theorem GoodX.bd {b : BD} (h : GoodX b) (hd : Die (bOd b) (bLst b)) : GoodBD b := by
  obtain ⟨-, ⟨h1, h2, h3, h4, h6, h7, h8⟩, r⟩ := h
  exact ⟨⟨h1, h2, h3, h4, hd, h6, h7, h8⟩, r⟩
section LGOOD
variable {T : Nat → Nat} {n : Nat}
theorem num_lt {lo hi v s : Nat} (h : num T n lo hi s = .inr v) : s < n := kd_lt (T := T) (by rw [(num_r h).1]; decide)
theorem lExit_g {s : Nat} {b : BD} {y : Nat × BD} (hb : GoodBD b) (hk : bKx b < 24) (h : lExit T n s b = .inr y) : s < y.1 ∧ y.1 ≤ n ∧ GoodBD y.2 := by
  unfold lExit at h
  cases h1 : num T n 1 (bLast b - 1) s with
  | inl f => rw [h1] at h; cases h
  | inr a =>
    rw [h1] at h
    have h' : (if dFt b a = true then (.inl (4, s) : QR) else match num T n 1 (bLast b) (nx T n s) with | .inl f => .inl (f, nx T n s) | .inr t => if t = a then .inl (2, nx T n s) else .inr (nx T n (nx T n s), dAdd b a t)) = .inr y := h
    split at h'
    · cases h'
    · rename_i hf
      cases h2 : num T n 1 (bLast b) (nx T n s) with
      | inl f => rw [h2] at h'; cases h'
      | inr t =>
        rw [h2] at h'
        have h'' : (if t = a then (.inl (2, nx T n s) : QR) else .inr (nx T n (nx T n s), dAdd b a t)) = .inr y := h'
        split at h''
        · cases h''
        · cases h''
          have a1 := num_r h1
          have t1 := num_r h2
          have l1 := num_lt h1
          have l2 := num_lt h2
          have x1 := nx_lt (T := T) l1
          have x2 := nx_lt (T := T) l2
          have l10 := hb.1.1
          exact ⟨by show s < nx T n (nx T n s); omega, (nx_b (by omega)).2, dAdd_good hb hk a1.2.1 (by omega) t1.2.1 t1.2.2 (by cases z : dFt b a; rfl; exact absurd z hf)⟩
theorem dOd_x {b : BD} {f v : Nat} (h : GoodX b) (hv : v ≤ 9) : GoodX (dOd b f v) := by
  refine ⟨fun g g1 g2 => ?_, h.2⟩
  show va_up (bOd b) f v g ≤ 9
  by_cases z : g = f
  · rw [z, va_up_eq]; exact hv
  · rw [va_up_of _ _ z]; exact h.1 g g1 g2
theorem lDie_g : ∀ (k s : Nat) (b : BD) (y : Nat × BD), GoodX b → s ≤ n → lDie T n (k + 1) s b = .inr y → s < y.1 ∧ y.1 ≤ n ∧ GoodBD y.2 := by
  intro k
  induction k with
  | zero =>
    intro s b y hb hs h
    unfold lDie at h
    cases h1 : num T n 0 9 s with
    | inl f => rw [h1] at h; cases h
    | inr v =>
      rw [h1] at h
      have h' : (if 0 = 0 ∧ od6 (bOd (dOd b 6 v)) = 0 then (.inl (2, s) : QR) else .inr (nx T n s, dOd b 6 v)) = .inr y := h
      split at h'
      · cases h'
      · rename_i z
        cases h'
        have v1 := num_r h1
        have l1 := num_lt h1
        have hx := dOd_x (f := 6) hb v1.2.2
        exact ⟨nx_lt (T := T) l1, (nx_b hs).2, hx.bd (lfc_die hx.1 (fun w => z ⟨rfl, w⟩))⟩
  | succ k ih =>
    intro s b y hb hs h
    unfold lDie at h
    cases h1 : num T n 0 9 s with
    | inl f => rw [h1] at h; cases h
    | inr v =>
      rw [h1] at h
      have h' : (if k + 1 = 0 ∧ od6 (bOd (dOd b (6 - (k + 1)) v)) = 0 then (.inl (2, s) : QR) else lDie T n (k + 1) (nx T n s) (dOd b (6 - (k + 1)) v)) = .inr y := h
      rw [if_neg (fun z => absurd z.1 (by omega))] at h'
      have v1 := num_r h1
      have l1 := num_lt h1
      have x1 := nx_lt (T := T) l1
      obtain ⟨r1, r2, r3⟩ := ih _ _ y (dOd_x hb v1.2.2) (nx_b hs).2 h'
      exact ⟨by omega, r2, r3⟩
theorem lEnd_g {s : Nat} {b : BD} {y : Nat × BD} (hb : GoodBD b) (h : lEnd T n s b = .inr y) : s < y.1 ∧ y.1 ≤ n ∧ GoodBD y.2 := by
  have key : ∀ v, v ≤ 2 → s < n → GoodBD (dE b v) ∧ s < nx T n s ∧ nx T n s ≤ n := fun v hv hl => by
    obtain ⟨⟨h1, h2, h3, h4, r⟩, r2⟩ := hb
    exact ⟨⟨⟨h1, h2, h3, hv, r⟩, r2⟩, nx_lt (T := T) hl, (nx_b (by omega)).2⟩
  unfold lEnd at h
  split at h
  · rename_i z
    have k := key 0 (by omega) (isW_lt z)
    cases h
    exact ⟨k.2.1, k.2.2, k.1⟩
  · split at h
    · rename_i z
      have k := key 1 (by omega) (isW_lt z)
      cases h
      exact ⟨k.2.1, k.2.2, k.1⟩
    · split at h
      · rename_i z
        have k := key 2 (by omega) (isW_lt z)
        cases h
        exact ⟨k.2.1, k.2.2, k.1⟩
      · cases h
theorem lNum_g {hi s : Nat} {b : BD} {y : Nat × BD} {g : BD → Nat → BD} (hg : ∀ v, 1 ≤ v → v ≤ hi → GoodBD (g b v)) (h : lNum T n hi g s b = .inr y) : s < y.1 ∧ y.1 ≤ n ∧ GoodBD y.2 := by
  unfold lNum at h
  cases h1 : num T n 1 hi s with
  | inl f => rw [h1] at h; cases h
  | inr v =>
    rw [h1] at h
    cases h
    have v1 := num_r h1
    have l1 := num_lt h1
    exact ⟨nx_lt (T := T) l1, (nx_b (by omega)).2, hg v v1.2.1 v1.2.2⟩
theorem code_ok {c : List Int32} (h : GC c 1) (hl : c.length ≤ 500) : CodeOK (fun k => c.getD k 0) c.length := ⟨hl, h.1, h.2⟩
theorem GC_0 : GC [] 0 := ⟨rfl, fun k hk => absurd hk (Nat.not_lt_zero k)⟩
theorem lGoes_g {s : Nat} {b : BD} {y : Nat × BD} (hb : GoodBD b) (hs : s ≤ n) (hn : n ≤ 500) (ht : ∀ i, i < n → T i < 256) (h : lGoes T n s b = .inr y) : s < y.1 ∧ y.1 ≤ n ∧ GoodBD y.2 := by
  unfold lGoes at h
  cases h1 : pE T n 6 s [] with
  | inl f => rw [h1] at h; cases h
  | inr w =>
    rw [h1] at h
    obtain ⟨g1, g2, g3, g4⟩ := pE_g (T := T) (n := n) 6 s [] w.1 w.2 hs h1
    have g5 := g4 0 (by omega) GC_0
    have hl : w.2.length ≤ 500 := by
      have : ([] : List Int32).length = 0 := rfl
      omega
    obtain ⟨k1, k2⟩ := kpT_g (T := T) (n := n) ht (w.1 - s) s 59 false [] (by omega) (fun x hx => by cases hx)
    have e0 : ([] : List Nat).length = 0 := rfl
    cases h
    obtain ⟨⟨h1, h2, h3, h4, h5, h6, h7, h8⟩, c1, c2, c3, c4, c5, c6, c7⟩ := hb
    exact ⟨g1, g2, ⟨h1, h2, h3, h4, h5, code_ok g5 hl, h7, h8⟩, c1, c2, c3, Nat.le_refl 1, by show (kpT T (w.1 - s) s 59 false []).length ≤ 1000; omega, fun z => absurd (show (1 : Nat) = 0 from z) (by omega), fun i hi => mem_getD k2 i hi⟩
theorem lBody_g {k s : Nat} {b : BD} {y : Nat × BD} (hb : GoodBD b) (hk1 : k = 1 → bKx b < 24) (hs : s ≤ n) (hn : n ≤ 500) (ht : ∀ i, i < n → T i < 256) (h : lBody T n k s b = .inr y) : s ≤ y.1 ∧ y.1 ≤ n ∧ GoodBD y.2 := by
  have w : ∀ {y : Nat × BD}, (s < y.1 ∧ y.1 ≤ n ∧ GoodBD y.2) → s ≤ y.1 ∧ y.1 ≤ n ∧ GoodBD y.2 := fun z => ⟨Nat.le_of_lt z.1, z.2⟩
  have hb' := hb
  obtain ⟨h0, c1, c2, c3, c4⟩ := hb'
  unfold lBody at h
  split at h
  · rename_i z; exact w (lExit_g hb (hk1 z) h)
  · split at h
    · exact w (lDie_g 5 s b y hb.x hs h)
    · split at h
      · exact w (lEnd_g hb h)
      · split at h
        · exact w (lNum_g (g := dAg) (fun v v1 v2 => ⟨h0, v2, c2, c3, c4⟩) h)
        · split at h
          · cases h
            exact ⟨Nat.le_refl _, hs, h0, c1, c2, Nat.le_refl 1, c4⟩
          · split at h
            · exact w (lNum_g (g := dPc) (fun v v1 v2 => ⟨h0, c1, ⟨v1, v2⟩, c3, c4⟩) h)
            · exact w (lGoes_g hb hs hn ht h)
theorem lnO_lt {s : Nat} (h : lnO T n s ≠ 0) : s < n ∧ lnO T n s ≤ 7 := by
  unfold lnO at h ⊢
  repeat' split at h
  all_goals first | exact absurd rfl h | (rename_i z; simp_all; exact isW_lt (by assumption))
theorem lSem_g {s : Nat} {b : BD} {y : Nat × BD} (h : lSem T n s b = .inr y) : s < n ∧ y = (nx T n s, b) := by
  unfold lSem at h
  split at h
  · rename_i z
    cases h
    exact ⟨isS_lt z, rfl⟩
  · cases h
theorem lBad_n {s : Nat} {b : BD} {t : Nat} (h : lBad T n s b t = none) : lnO T n s ≠ 0 ∧ (lnO T n s = 1 → bKx b < 24) ∧ (lnO T n s ≠ 1 → t.testBit (lnO T n s) = false) := by
  unfold lBad at h
  split at h
  · cases h
  · rename_i z1
    split at h
    · cases h
    · rename_i z2
      split at h
      · cases h
      · rename_i z3
        exact ⟨z1, fun w => by omega, fun w => by cases q : t.testBit (lnO T n s); rfl; exact absurd ⟨w, q⟩ z3⟩
theorem or_lt {t k : Nat} (ht : t < 256) (hk : k ≤ 7) : t ||| 2 ^ k < 256 := by
  have h1 : 2 ^ k < 2 ^ 8 := Nat.pow_lt_pow_right (by omega) (by omega)
  exact Nat.or_lt_two_pow (n := 8) ht h1
theorem lLine_g {s t : Nat} {b : BD} {y : Nat × (BD × Nat)} (hb : GoodBD b) (hs : s ≤ n) (hn : n ≤ 500) (ht : ∀ i, i < n → T i < 256) (h8 : t < 256) (h : lLine T n s b t = .inr y) : s < y.1 ∧ y.1 ≤ n ∧ GoodBD y.2.1 ∧ y.2.2 < 256 := by
  unfold lLine at h
  cases hz : lBad T n s b t with
  | some f => rw [hz] at h; cases h
  | none =>
    rw [hz] at h
    obtain ⟨l0, l1, -⟩ := lBad_n hz
    obtain ⟨l2, l3⟩ := lnO_lt l0
    obtain ⟨s1, b1, e1, e2⟩ := qbd_r h
    obtain ⟨s2, b2, e3, e4⟩ := qbd_r e1
    have x1 := nx_lt (T := T) l2
    obtain ⟨g1, g2, g3⟩ := lBody_g (T := T) hb l1 (nx_b hs).2 hn ht e3
    obtain ⟨m1, m2⟩ := lSem_g e4
    have g1' : nx T n s ≤ s2 := g1
    have x2 := nx_lt (T := T) m1
    cases m2
    cases e2
    exact ⟨by show s < nx T n s2; omega, (nx_b g2).2, g3, or_lt h8 l3⟩
theorem lAll_g (hn : n ≤ 500) (ht : ∀ i, i < n → T i < 256) : ∀ (f s : Nat) (b : BD) (t : Nat) (y : Nat × (BD × Nat)), GoodBD b → s ≤ n → t < 256 → lAll T n f s b t = .inr y → GoodBD y.2.1 := by
  intro f
  induction f with
  | zero => intro s b t y hb hs h8 h; cases h; exact hb
  | succ f ih =>
    intro s b t y hb hs h8 h
    unfold lAll at h
    split at h
    · cases h; exact hb
    · obtain ⟨s1, c1, e1, e2⟩ := qbd_r h
      obtain ⟨g1, g2, g3, g4⟩ := lLine_g hb hs hn ht h8 e1
      exact ih s1 c1.1 c1.2 y g3 g2 g4 e2
theorem dLa_good {b : BD} {v : Nat} (hb : GoodBD b) (hk : bKx b = 0) (h1 : 10 ≤ v) (h2 : v ≤ 100) : GoodBD (dLa b v) := by
  obtain ⟨⟨a1, a2, a3, a4, a5, a6, a7, a8⟩, r⟩ := hb
  exact ⟨⟨h1, h2, a3, a4, a5, a6, fun i hi => by have hi' : i < bKx b := hi; omega, fun i j hi => by have hi' : i < bKx b := hi; omega⟩, r⟩
theorem s0T_le : s0T T n ≤ n := (sc_b (Nat.zero_le n)).2
theorem lHead_g {y : Nat × BD} (h : lHead T n = .inr y) : y.1 ≤ n ∧ GoodBD y.2 := by
  unfold lHead at h
  split at h
  · rename_i z
    unfold lLast at h
    cases h1 : num T n 10 100 (nx T n (s0T T n)) with
    | inl f => rw [h1] at h; cases h
    | inr v =>
      rw [h1] at h
      obtain ⟨m1, m2⟩ := lSem_g h
      have v1 := num_r h1
      cases m2
      exact ⟨(nx_b (by omega)).2, dLa_good b0T_good rfl v1.2.1 v1.2.2⟩
  · cases h
    exact ⟨s0T_le, b0T_good⟩
theorem lText_g {y : Nat × (BD × Nat)} (hn : n ≤ 500) (ht : ∀ i, i < n → T i < 256) (h : lText T n = .inr y) : GoodBD y.2.1 := by
  obtain ⟨s1, b1, e1, e2⟩ := qbd_r h
  obtain ⟨g1, g2⟩ := lHead_g e1
  exact lAll_g hn ht 501 s1 b1 0 y g2 g1 (by omega) e2
end LGOOD
