/-! READ: the text as it is to be read -/
abbrev PR : Type := (Nat × Nat) ⊕ (Nat × List Int32)
def pbd (x : PR) (f : Nat → List Int32 → PR) : PR := match x with
  | .inl e => .inl e
  | .inr y => f y.1 y.2
theorem pbd_r {x : PR} {f : Nat → List Int32 → PR} {s' : Nat} {c' : List Int32} (h : pbd x f = .inr (s', c')) : ∃ s c, x = .inr (s, c) ∧ f s c = .inr (s', c') := by
  rcases x with e | ⟨s, c⟩
  · exact absurd h (fun z => by cases z)
  · exact ⟨s, c, rfl, h⟩
theorem pbd_a {x : PR} {f g : Nat → List Int32 → PR} : pbd (pbd x f) g = pbd x (fun s c => pbd (f s c) g) := by
  rcases x with e | ⟨s, c⟩ <;> rfl
def isBk (c : Nat) : Bool := decide (c = 32 ∨ c = 10)
def isLt (c : Nat) : Bool := decide (97 ≤ c ∧ c ≤ 122)
def isDg (c : Nat) : Bool := decide (48 ≤ c ∧ c ≤ 57)
def isMk (c : Nat) : Bool := decide (c = 59 ∨ c = 40 ∨ c = 41 ∨ c = 43 ∨ c = 45 ∨ c = 42 ∨ c = 47 ∨ c = 60 ∨ c = 61)
def scF (p : Nat → Bool) (T : Nat → Nat) (n : Nat) : Nat → Nat → Nat
  | 0, i => i
  | f + 1, i => if i < n ∧ p (T i) = true then scF p T n f (i + 1) else i
/-- the first place from i on that p doesn't hold of, or the end -/
def sc (p : Nat → Bool) (T : Nat → Nat) (n i : Nat) : Nat := scF p T n (n - i) i
section TOK
variable {p : Nat → Bool} {T : Nat → Nat} {n i s : Nat}
theorem sc_s (h1 : i < n) (h2 : p (T i) = true) : sc p T n i = sc p T n (i + 1) := by
  unfold sc
  rw [show n - i = (n - (i + 1)) + 1 by omega]
  exact if_pos ⟨h1, h2⟩
theorem sc_e (h : ¬ (i < n ∧ p (T i) = true)) : sc p T n i = i := by
  unfold sc
  cases n - i with
  | zero => rfl
  | succ f => exact if_neg h
theorem scF_b : ∀ (f i : Nat), i ≤ n → i ≤ scF p T n f i ∧ scF p T n f i ≤ n := by
  intro f
  induction f with
  | zero => intro i h; exact ⟨Nat.le_refl _, h⟩
  | succ f ih =>
    intro i h
    unfold scF
    split
    · rename_i z
      have := ih (i + 1) (by omega)
      omega
    · exact ⟨Nat.le_refl _, h⟩
theorem sc_b (h : i ≤ n) : i ≤ sc p T n i ∧ sc p T n i ≤ n := scF_b _ _ h
/-- what kind of token begins at s, where it stops, where the next one begins -/
def kd (T : Nat → Nat) (n s : Nat) : Nat := if n ≤ s then 0 else if isLt (T s) = true then 1 else if isDg (T s) = true then 2 else if isMk (T s) = true then 3 else 4
def sp (T : Nat → Nat) (n s : Nat) : Nat := if n ≤ s then s else if isLt (T s) = true then sc isLt T n s else if isDg (T s) = true then sc isDg T n s else s + 1
def nx (T : Nat → Nat) (n s : Nat) : Nat := sc isBk T n (sp T n s)
theorem sp_b (h : s ≤ n) : s ≤ sp T n s ∧ sp T n s ≤ n := by
  unfold sp
  split
  · omega
  · split
    · exact sc_b h
    · split
      · exact sc_b h
      · omega
theorem sp_lt (h : s < n) : s < sp T n s := by
  unfold sp
  rw [if_neg (by omega)]
  split
  · rename_i z
    rw [sc_s h z]
    have := (sc_b (p := isLt) (T := T) (n := n) (i := s + 1) (by omega)).1
    omega
  · split
    · rename_i z
      rw [sc_s h z]
      have := (sc_b (p := isDg) (T := T) (n := n) (i := s + 1) (by omega)).1
      omega
    · omega
theorem nx_b (h : s ≤ n) : s ≤ nx T n s ∧ nx T n s ≤ n := by
  have h1 := sp_b (T := T) h
  have h2 := sc_b (p := isBk) (T := T) h1.2
  unfold nx
  omega
theorem nx_lt (h : s < n) : s < nx T n s := by
  have h1 := sp_lt (T := T) h
  have h2 := sc_b (p := isBk) (T := T) (sp_b (T := T) (Nat.le_of_lt h)).2
  unfold nx
  omega
theorem kd_lt (h : kd T n s ≠ 0) : s < n := by
  unfold kd at h
  split at h
  · exact absurd rfl h
  · omega
theorem kd_le : kd T n s ≤ 4 := by
  unfold kd
  repeat' split
  all_goals omega
/-- the word W, the sign c -/
def isW (T : Nat → Nat) (n : Nat) (W : List Nat) (s : Nat) : Bool := decide (kd T n s = 1 ∧ sp T n s = s + W.length ∧ ∀ k, k < W.length → T (s + k) = W.getD k 0)
def isS (T : Nat → Nat) (n c s : Nat) : Bool := decide (kd T n s = 3 ∧ T s = c)
theorem isW_t {W : List Nat} (h : isW T n W s = true) : kd T n s = 1 ∧ sp T n s = s + W.length ∧ ∀ k, k < W.length → T (s + k) = W.getD k 0 := of_decide_eq_true h
theorem isS_t {c : Nat} (h : isS T n c s = true) : kd T n s = 3 ∧ T s = c := of_decide_eq_true h
theorem isW_lt {W : List Nat} (h : isW T n W s = true) : s < n := kd_lt (by rw [(isW_t h).1]; decide)
theorem isS_lt {c : Nat} (h : isS T n c s = true) : s < n := kd_lt (by rw [(isS_t h).1]; decide)
/-- the number whose digits begin at s, its first k -/
def vl (T : Nat → Nat) (s : Nat) : Nat → Nat
  | 0 => 0
  | k + 1 => vl T s k * 10 + (T (s + k) - 48)
def num (T : Nat → Nat) (n lo hi s : Nat) : Nat ⊕ Nat := if kd T n s ≠ 2 then .inl 1 else if 4 < sp T n s - s then .inl 2 else if vl T s (sp T n s - s) < lo ∨ hi < vl T s (sp T n s - s) then .inl 2 else .inr (vl T s (sp T n s - s))
theorem num_r {lo hi v : Nat} (h : num T n lo hi s = .inr v) : kd T n s = 2 ∧ lo ≤ v ∧ v ≤ hi := by
  unfold num at h
  split at h
  · cases h
  · rename_i z
    split at h
    · cases h
    · split at h
      · cases h
      · rename_i z2
        cases h
        exact ⟨Classical.byContradiction z, by omega, by omega⟩
theorem num_l {lo hi f : Nat} (h : num T n lo hi s = .inl f) : f = 1 ∨ f = 2 := by
  unfold num at h
  split at h
  · cases h; exact Or.inl rfl
  · split at h
    · cases h; exact Or.inr rfl
    · split at h
      · cases h; exact Or.inr rfl
      · cases h
end TOK
def pLoop (op : Nat → Option Int32) (nxt : Nat → Nat) (p : Nat → List Int32 → PR) : Nat → Nat → List Int32 → PR
  | 0, s, c => .inr (s, c)
  | f + 1, s, c => match op s with
    | none => .inr (s, c)
    | some z => pbd (p (nxt s) c) (fun s c => pLoop op nxt p f s (c ++ [z]))
def pBin (op : Nat → Option Int32) (nxt : Nat → Nat) (p : Nat → List Int32 → PR) (s : Nat) (c : List Int32) : PR := pbd (p s c) (pLoop op nxt p 500)
def pTst (op : Nat → Option Int32) (nxt : Nat → Nat) (p : Nat → List Int32 → PR) (s : Nat) (c : List Int32) : PR := pbd (p s c) (fun s c => match op s with
  | none => .inr (s, c)
  | some z => pbd (p (nxt s) c) (fun s c => .inr (s, c ++ [z])))
def nts (w : Nat → Bool) (nxt : Nat → Nat) : Nat → Nat → Nat → Nat × Nat
  | 0, k, s => (k, s)
  | f + 1, k, s => if w s = true then nts w nxt f (k + 1) (nxt s) else (k, s)
def pNot (w : Nat → Bool) (nxt : Nat → Nat) (p : Nat → List Int32 → PR) (s : Nat) (c : List Int32) : PR := if w (nts w nxt 6 0 s).2 = true then .inl (2, (nts w nxt 6 0 s).2) else pbd (p (nts w nxt 6 0 s).2 c) (fun s' c' => .inr (s', c' ++ List.replicate (nts w nxt 6 0 s).1 (-5)))
def wLast : List Nat := [108, 97, 115, 116]
def wThrow : List Nat := [116, 104, 114, 111, 119]
def wAt : List Nat := [97, 116]
def wExits : List Nat := [101, 120, 105, 116, 115]
def wNot : List Nat := [110, 111, 116]
def wAnd : List Nat := [97, 110, 100]
def wOr : List Nat := [111, 114]
section PARSE
variable (T : Nat → Nat) (n : Nat)
def opM (s : Nat) : Option Int32 := if isS T n 42 s = true then some (-12) else if isS T n 47 s = true then some (-13) else none
def opP (s : Nat) : Option Int32 := if isS T n 43 s = true then some (-10) else if isS T n 45 s = true then some (-11) else none
def opC (s : Nat) : Option Int32 := if isS T n 60 s = true then some (-8) else if isS T n 61 s = true then some (-9) else none
def opA (s : Nat) : Option Int32 := if isW T n wAnd s = true then some (-6) else none
def opO (s : Nat) : Option Int32 := if isW T n wOr s = true then some (-7) else none
def pVal (s : Nat) : Option Int32 := if isW T n wThrow s = true then some (-1) else if isW T n wAt s = true then some (-2) else if isW T n wLast s = true then some (-3) else if isW T n wExits s = true then some (-4) else none
def pPart (ex : Nat → List Int32 → PR) (s : Nat) (c : List Int32) : PR :=
  if isS T n 40 s = true then pbd (ex (nx T n s) c) (fun s c => if isS T n 41 s = true then .inr (nx T n s, c) else .inl (1, s))
  else if kd T n s = 1 then (match pVal T n s with
    | none => .inl (3, s)
    | some z => .inr (nx T n s, c ++ [z]))
  else match num T n 0 9999 s with
    | .inl f => .inl (f, s)
    | .inr v => .inr (nx T n s, c ++ [nI v])
def pM (ex : Nat → List Int32 → PR) : Nat → List Int32 → PR := pBin (opM T n) (nx T n) (pPart T n ex)
def pP (ex : Nat → List Int32 → PR) : Nat → List Int32 → PR := pBin (opP T n) (nx T n) (pM T n ex)
def pC (ex : Nat → List Int32 → PR) : Nat → List Int32 → PR := pTst (opC T n) (nx T n) (pP T n ex)
def pN (ex : Nat → List Int32 → PR) : Nat → List Int32 → PR := pNot (isW T n wNot) (nx T n) (pC T n ex)
def pA (ex : Nat → List Int32 → PR) : Nat → List Int32 → PR := pBin (opA T n) (nx T n) (pN T n ex)
def mayE (s : Nat) : Bool := decide (kd T n s = 2 ∨ kd T n s = 1) || isS T n 40 s
def pE : Nat → Nat → List Int32 → PR
  | 0, s, _ => .inl (if mayE T n s = true then 2 else 1, s)
  | d + 1, s, c => pBin (opO T n) (nx T n) (pA T n (pE d)) s c
end PARSE
theorem pE_s (T : Nat → Nat) (n d : Nat) : pE T n (d + 1) = pBin (opO T n) (nx T n) (pA T n (pE T n d)) := rfl
/-! what is read makes good code -/
def GC (c : List Int32) (e : Nat) : Prop := dep (fun k => c.getD k 0) c.length = e ∧ ∀ k, k < c.length → -13 ≤ c.getD k 0 ∧ (-5 < c.getD k 0 → dep (fun k => c.getD k 0) k < 64) ∧ (c.getD k 0 = -5 → 1 ≤ dep (fun k => c.getD k 0) k) ∧ (¬ -5 < c.getD k 0 → ¬ c.getD k 0 = -5 → 2 ≤ dep (fun k => c.getD k 0) k)
theorem dep_congr {C C' : Nat → Int32} : ∀ k, (∀ i, i < k → C' i = C i) → dep C' k = dep C k := by
  intro k
  induction k with
  | zero => intro _; rfl
  | succ k ih =>
    intro h
    unfold dep
    rw [h k (by omega), ih (fun i hi => h i (by omega))]
theorem sn_in {c : List Int32} {z : Int32} {k : Nat} (h : k < c.length) : (c ++ [z]).getD k 0 = c.getD k 0 := by
  rw [List.getD_eq_getElem?_getD, List.getD_eq_getElem?_getD, List.getElem?_append_left h]
theorem sn_at {c : List Int32} {z : Int32} : (c ++ [z]).getD c.length 0 = z := by
  rw [List.getD_eq_getElem?_getD, List.getElem?_append_right (Nat.le_refl _), Nat.sub_self]
  rfl
theorem GC.sn {c : List Int32} {e e' : Nat} {z : Int32} (h : GC c e) (h1 : -13 ≤ z) (h2 : (-5 < z ∧ e < 64 ∧ e' = e + 1) ∨ (z = -5 ∧ 1 ≤ e ∧ e' = e) ∨ (¬ -5 < z ∧ ¬ z = -5 ∧ 2 ≤ e ∧ e' = e - 1)) : GC (c ++ [z]) e' := by
  obtain ⟨g1, g2⟩ := h
  have hd : ∀ k, k ≤ c.length → dep (fun k => (c ++ [z]).getD k 0) k = dep (fun k => c.getD k 0) k := fun k hk => dep_congr k (fun i hi => sn_in (by omega))
  have hl : (c ++ [z]).length = c.length + 1 := by rw [List.length_append]; rfl
  have e5 : ¬ (-5 : Int32) < -5 := by decide
  refine ⟨?_, fun k hk => ?_⟩
  · rw [hl]
    unfold dep
    rw [hd _ (Nat.le_refl _), sn_at, g1]
    rcases h2 with ⟨a1, -, a3⟩ | ⟨a1, -, a3⟩ | ⟨a1, a2, -, a3⟩
    · rw [if_pos a1, a3]
    · rw [a1, if_neg e5, if_pos rfl, a3]
    · rw [if_neg a1, if_neg a2, a3]
  · rw [hl] at hk
    rw [hd k (by omega)]
    by_cases y : k = c.length
    · rw [y, sn_at, g1]
      rcases h2 with ⟨a1, a2, -⟩ | ⟨a1, a2, -⟩ | ⟨a1, a2, a3, -⟩
      · exact ⟨h1, fun _ => a2, fun w => absurd a1 (by rw [w]; exact e5), fun w => absurd a1 w⟩
      · exact ⟨h1, fun w => absurd w (by rw [a1]; exact e5), fun _ => a2, fun _ w => absurd a1 w⟩
      · exact ⟨h1, fun w => absurd w a1, fun w => absurd w a2, fun _ _ => a3⟩
    · rw [sn_in (by omega)]
      exact g2 k (by omega)
def PG (n b : Nat) (p : Nat → List Int32 → PR) : Prop := ∀ s c s' c', s ≤ n → p s c = .inr (s', c') → s < s' ∧ s' ≤ n ∧ c'.length + s ≤ c.length + s' ∧ ∀ e, e + b ≤ 64 → GC c e → GC c' (e + 1)
/-- an operator's places and its sign -/
def OPg (n : Nat) (op : Nat → Option Int32) (nxt : Nat → Nat) : Prop := ∀ s z, op s = some z → s < nxt s ∧ nxt s ≤ n ∧ -13 ≤ z ∧ ¬ -5 < z ∧ ¬ z = -5
theorem pLoop_g {n b : Nat} {op : Nat → Option Int32} {nxt : Nat → Nat} {p : Nat → List Int32 → PR} (hp : PG n b p) (ho : OPg n op nxt) : ∀ (f s : Nat) (c : List Int32) (s' : Nat) (c' : List Int32), s ≤ n → pLoop op nxt p f s c = .inr (s', c') → s ≤ s' ∧ s' ≤ n ∧ c'.length + s ≤ c.length + s' ∧ ∀ e, e + (b + 1) ≤ 64 → GC c (e + 1) → GC c' (e + 1) := by
  intro f
  induction f with
  | zero =>
    intro s c s' c' hs h
    cases h
    exact ⟨Nat.le_refl _, hs, Nat.le_refl _, fun _ _ z => z⟩
  | succ f ih =>
    intro s c s' c' hs h
    unfold pLoop at h
    cases hz : op s with
    | none =>
      rw [hz] at h
      cases h
      exact ⟨Nat.le_refl _, hs, Nat.le_refl _, fun _ _ z => z⟩
    | some z =>
      rw [hz] at h
      obtain ⟨o1, o2, o3, o4, o5⟩ := ho s z hz
      obtain ⟨s1, c1, e1, e2⟩ := pbd_r h
      obtain ⟨q1, q2, q3, q4⟩ := hp _ _ _ _ o2 e1
      obtain ⟨r1, r2, r3, r4⟩ := ih s1 (c1 ++ [z]) s' c' q2 e2
      have hl : (c1 ++ [z]).length = c1.length + 1 := by rw [List.length_append]; rfl
      refine ⟨by omega, r2, by omega, fun e he hg => r4 e he (GC.sn (q4 (e + 1) (by omega) hg) o3 (Or.inr (Or.inr ⟨o4, o5, by omega, by omega⟩)))⟩
theorem pBin_g {n b : Nat} {op : Nat → Option Int32} {nxt : Nat → Nat} {p : Nat → List Int32 → PR} (hp : PG n b p) (ho : OPg n op nxt) : PG n (b + 1) (pBin op nxt p) := by
  intro s c s' c' hs h
  obtain ⟨s1, c1, e1, e2⟩ := pbd_r h
  obtain ⟨q1, q2, q3, q4⟩ := hp _ _ _ _ hs e1
  obtain ⟨r1, r2, r3, r4⟩ := pLoop_g hp ho 500 s1 c1 s' c' q2 e2
  exact ⟨by omega, r2, by omega, fun e he hg => r4 e he (q4 e (by omega) hg)⟩
theorem pTst_g {n b : Nat} {op : Nat → Option Int32} {nxt : Nat → Nat} {p : Nat → List Int32 → PR} (hp : PG n b p) (ho : OPg n op nxt) : PG n (b + 1) (pTst op nxt p) := by
  intro s c s' c' hs h
  obtain ⟨s1, c1, e1, e2⟩ := pbd_r h
  obtain ⟨q1, q2, q3, q4⟩ := hp _ _ _ _ hs e1
  cases hz : op s1 with
  | none =>
    rw [hz] at e2
    cases e2
    exact ⟨q1, q2, q3, fun e he hg => q4 e (by omega) hg⟩
  | some z =>
    rw [hz] at e2
    obtain ⟨o1, o2, o3, o4, o5⟩ := ho s1 z hz
    obtain ⟨s2, c2, e3, e4⟩ := pbd_r e2
    obtain ⟨r1, r2, r3, r4⟩ := hp _ _ _ _ o2 e3
    cases e4
    have hl : (c2 ++ [z]).length = c2.length + 1 := by rw [List.length_append]; rfl
    exact ⟨by omega, r2, by omega, fun e he hg => GC.sn (r4 (e + 1) (by omega) (q4 e (by omega) hg)) o3 (Or.inr (Or.inr ⟨o4, o5, by omega, by omega⟩))⟩
theorem nts_g {n : Nat} {w : Nat → Bool} {nxt : Nat → Nat} (hw : ∀ s, w s = true → s < nxt s ∧ nxt s ≤ n) : ∀ (f k s : Nat), s ≤ n → (nts w nxt f k s).2 ≤ n ∧ k ≤ (nts w nxt f k s).1 ∧ (nts w nxt f k s).1 + s ≤ k + (nts w nxt f k s).2 ∧ (nts w nxt f k s).1 ≤ k + f := by
  intro f
  induction f with
  | zero => intro k s hs; exact ⟨hs, Nat.le_refl _, Nat.le_refl _, Nat.le_refl _⟩
  | succ f ih =>
    intro k s hs
    unfold nts
    split
    · rename_i z
      have := hw s z
      have := ih (k + 1) (nxt s) (by omega)
      omega
    · exact ⟨hs, Nat.le_refl _, Nat.le_refl _, by show k ≤ k + (f + 1); omega⟩
theorem GC.rep {e : Nat} : ∀ (k : Nat) (c : List Int32), GC c (e + 1) → GC (c ++ List.replicate k (-5)) (e + 1) := by
  intro k
  induction k with
  | zero => intro c h; rw [List.replicate_zero, List.append_nil]; exact h
  | succ k ih =>
    intro c h
    have := ih (c ++ [-5]) (h.sn (by decide) (Or.inr (Or.inl ⟨rfl, by omega, rfl⟩)))
    rw [List.append_assoc] at this
    exact this
theorem pNot_g {n b : Nat} {w : Nat → Bool} {nxt : Nat → Nat} {p : Nat → List Int32 → PR} (hp : PG n b p) (hw : ∀ s, w s = true → s < nxt s ∧ nxt s ≤ n) : PG n b (pNot w nxt p) := by
  intro s c s' c' hs h
  unfold pNot at h
  split at h
  · cases h
  · obtain ⟨n1, n2, n3, n4⟩ := nts_g hw 6 0 s hs
    obtain ⟨s1, c1, e1, e2⟩ := pbd_r h
    obtain ⟨q1, q2, q3, q4⟩ := hp _ _ _ _ n1 e1
    cases e2
    have hl : (c1 ++ List.replicate (nts w nxt 6 0 s).1 (-5 : Int32)).length = c1.length + (nts w nxt 6 0 s).1 := by rw [List.length_append, List.length_replicate]
    exact ⟨by omega, q2, by omega, fun e he hg => GC.rep _ _ (q4 e he hg)⟩
section PARSE2
variable {T : Nat → Nat} {n : Nat}
theorem opS_g {a b : Nat} {x y : Int32} (hx : -13 ≤ x ∧ ¬ -5 < x ∧ ¬ x = -5) (hy : -13 ≤ y ∧ ¬ -5 < y ∧ ¬ y = -5) : OPg n (fun s => if isS T n a s = true then some x else if isS T n b s = true then some y else none) (nx T n) := by
  intro s z h
  have h' : (if isS T n a s = true then some x else if isS T n b s = true then some y else none) = some z := h
  split at h'
  · rename_i q
    have := isS_lt q
    cases h'
    exact ⟨nx_lt this, (nx_b (by omega)).2, hx⟩
  · split at h'
    · rename_i q
      have := isS_lt q
      cases h'
      exact ⟨nx_lt this, (nx_b (by omega)).2, hy⟩
    · cases h'
theorem opW_g {W : List Nat} {x : Int32} (hx : -13 ≤ x ∧ ¬ -5 < x ∧ ¬ x = -5) : OPg n (fun s => if isW T n W s = true then some x else none) (nx T n) := by
  intro s z h
  have h' : (if isW T n W s = true then some x else none) = some z := h
  split at h'
  · rename_i q
    have := isW_lt q
    cases h'
    exact ⟨nx_lt this, (nx_b (by omega)).2, hx⟩
  · cases h'
theorem pVal_g {s : Nat} {z : Int32} (h : pVal T n s = some z) : s < n ∧ -13 ≤ z ∧ -5 < z := by
  unfold pVal at h
  split at h
  · rename_i q; cases h; exact ⟨isW_lt q, by decide, by decide⟩
  · split at h
    · rename_i q; cases h; exact ⟨isW_lt q, by decide, by decide⟩
    · split at h
      · rename_i q; cases h; exact ⟨isW_lt q, by decide, by decide⟩
      · split at h
        · rename_i q; cases h; exact ⟨isW_lt q, by decide, by decide⟩
        · cases h
theorem nI_gt5 {v : Nat} (h : v ≤ 9999) : -13 ≤ nI v ∧ -5 < nI v := by
  have e := nI_toInt (show v < 2 ^ 31 by omega)
  constructor
  · rw [Int32.le_iff_toInt_le, e, show (-13 : Int32).toInt = -13 by decide]; omega
  · rw [Int32.lt_iff_toInt_lt, e, show (-5 : Int32).toInt = -5 by decide]; omega
theorem pPart_g {b : Nat} {ex : Nat → List Int32 → PR} (hb : 1 ≤ b) (hx : PG n b ex) : PG n b (pPart T n ex) := by
  intro s c s' c' hs h
  unfold pPart at h
  have hl : ∀ (c1 : List Int32) (z : Int32), (c1 ++ [z]).length = c1.length + 1 := fun c1 z => by rw [List.length_append]; rfl
  split at h
  · rename_i q
    have hq := isS_lt q
    obtain ⟨s1, c1, e1, e2⟩ := pbd_r h
    have h1 := nx_lt (T := T) hq
    obtain ⟨q1, q2, q3, q4⟩ := hx _ _ _ _ (nx_b hs).2 e1
    split at e2
    · rename_i q'
      have hq' := isS_lt q'
      cases e2
      have h2 := nx_lt (T := T) hq'
      have h3 := (nx_b (T := T) q2).2
      exact ⟨by omega, h3, by omega, q4⟩
    · cases e2
  · split at h
    · cases hz : pVal T n s with
      | none => rw [hz] at h; cases h
      | some z =>
        rw [hz] at h
        obtain ⟨v1, v2, v3⟩ := pVal_g hz
        cases h
        have h1 := nx_lt (T := T) v1
        have h3 := (nx_b (T := T) hs).2
        exact ⟨h1, h3, by rw [hl]; omega, fun e he hg => hg.sn v2 (Or.inl ⟨v3, by omega, rfl⟩)⟩
    · cases hz : num T n 0 9999 s with
      | inl f => rw [hz] at h; cases h
      | inr v =>
        rw [hz] at h
        obtain ⟨v1, v2, v3⟩ := num_r hz
        cases h
        have hq := kd_lt (T := T) (n := n) (s := s) (by rw [v1]; decide)
        have h1 := nx_lt (T := T) hq
        have h3 := (nx_b (T := T) hs).2
        obtain ⟨w1, w2⟩ := nI_gt5 v3
        exact ⟨h1, h3, by rw [hl]; omega, fun e he hg => hg.sn w1 (Or.inl ⟨w2, by omega, rfl⟩)⟩
theorem pA_g {b : Nat} {ex : Nat → List Int32 → PR} (hb : 1 ≤ b) (hx : PG n b ex) : PG n b (pPart T n ex) ∧ PG n (b + 1) (pM T n ex) ∧ PG n (b + 2) (pP T n ex) ∧ PG n (b + 3) (pC T n ex) ∧ PG n (b + 3) (pN T n ex) ∧ PG n (b + 4) (pA T n ex) := by
  have h0 := pPart_g (T := T) hb hx
  have h1 : PG n (b + 1) (pM T n ex) := pBin_g h0 (opS_g (by decide) (by decide))
  have h2 : PG n (b + 2) (pP T n ex) := pBin_g h1 (opS_g (by decide) (by decide))
  have h3 : PG n (b + 3) (pC T n ex) := pTst_g h2 (opS_g (by decide) (by decide))
  have h4 : PG n (b + 3) (pN T n ex) := pNot_g h3 (fun s q => ⟨nx_lt (isW_lt q), (nx_b (by have := isW_lt q; omega)).2⟩)
  exact ⟨h0, h1, h2, h3, h4, pBin_g h4 (opW_g (by decide))⟩
theorem pE_g : ∀ d, PG n (5 * d + 1) (pE T n d) := by
  intro d
  induction d with
  | zero => intro s c s' c' _ h; cases h
  | succ d ih =>
    rw [pE_s]
    exact pBin_g (pA_g (by omega) ih).2.2.2.2.2 (opW_g (by decide))
end PARSE2
/-- where no part can begin, the fault is one of form -/
theorem pE_no {T : Nat → Nat} {n s : Nat} (h : mayE T n s = false) (c : List Int32) (d : Nat) : pE T n (d + 1) s c = .inl (1, s) := by
  unfold mayE at h
  rw [Bool.or_eq_false_iff] at h
  obtain ⟨h1, h2⟩ := h
  have h1' := of_decide_eq_false h1
  have k1 : ¬ kd T n s = 1 := fun z => h1' (Or.inr z)
  have k2 : ¬ kd T n s = 2 := fun z => h1' (Or.inl z)
  have w : isW T n wNot s = false := decide_eq_false (fun z => k1 z.1)
  have e0 : pPart T n (pE T n d) s c = .inl (1, s) := by
    unfold pPart
    rw [if_neg (by rw [h2]; decide), if_neg k1]
    unfold num
    rw [if_pos k2]
  have e1 : nts (isW T n wNot) (nx T n) 6 0 s = (0, s) := by
    unfold nts
    rw [if_neg (by rw [w]; decide)]
  have e2 : pN T n (pE T n d) s c = .inl (1, s) := by
    unfold pN pNot
    rw [e1, if_neg (by rw [w]; decide)]
    unfold pC pTst pP pBin pM pBin
    rw [e0]
    rfl
  rw [pE_s]
  unfold pBin pA pBin
  rw [e2]
  rfl
