/-! THE ABSTRACT HEAP: what the hundred cells hold that class and reference make: ints (chars, booleans), longs, references, by cell and place -/
abbrev XH : Type := (Nat → Nat → Int32) × (Nat → Nat → Int64) × (Nat → Nat → Option Nat)
abbrev xI (h : XH) : Nat → Nat → Int32 := h.1
abbrev xL (h : XH) : Nat → Nat → Int64 := h.2.1
abbrev xP (h : XH) : Nat → Nat → Option Nat := h.2.2
def xSI (a : Nat) (f : Nat → Int32) (h : XH) : XH := (va_up h.1 a f, h.2.1, h.2.2)
def xSL (a : Nat) (f : Nat → Int64) (h : XH) : XH := (h.1, va_up h.2.1 a f, h.2.2)
def xSP (a : Nat) (f : Nat → Option Nat) (h : XH) : XH := (h.1, h.2.1, va_up h.2.2 a f)
/-- a new cell, the n-th: all is 0 and null -/
def xSN (n : Nat) (h : XH) : XH := (va_up h.1 n (fun _ => 0), va_up h.2.1 n (fun _ => 0), va_up h.2.2 n (fun _ => none))
/-- where all lies: the classes' numbers and slots, the arrays' classes, the first cell of ours, the String constants and their bytes, the script -/
abbrev XG : Type := va_G × (FieldType → ClassId) × Nat × (Nat → Nat) × (Nat → Nat) × Nat × Nat × (Nat → Int32) × Option Int64
abbrev gD (G : XG) : va_G := G.1
abbrev gA (G : XG) : FieldType → ClassId := G.2.1
abbrev gB (G : XG) : Nat := G.2.2.1
abbrev gK (G : XG) : Nat → Nat := G.2.2.2.1
abbrev gV (G : XG) : Nat → Nat := G.2.2.2.2.1
abbrev gS (G : XG) : Nat := G.2.2.2.2.2.1
abbrev gN (G : XG) : Nat := G.2.2.2.2.2.2.1
abbrev gX (G : XG) : Nat → Int32 := G.2.2.2.2.2.2.2.1
/-- what the last cell holds, where it is looked at -/
abbrev gO (G : XG) : Option Int64 := G.2.2.2.2.2.2.2.2
/-- is the special cell made (a row of longs; told by a place of its own that no row has) -/
def xfl (h : XH) : Nat := if xI h 100 0 = 0 then 0 else 1
/-- the place of a cell in the order of making: the special one, 100, is the 56th -/
def xta (k : Nat) : Nat := if k < 55 then k else if k = 100 then 55 else k + 1
def xsg (i : Nat) : Nat := if i < 55 then i else if i = 55 then 100 else i - 1
/-- of n cells and the special one: is it one of them -/
abbrev xin (n a : Nat) : Prop := a < n ∨ (a = 100 ∧ n = 100)
abbrev xfc (n : Nat) (h : XH) : Prop := (xfl h = 0 ∧ n ≤ 55) ∨ (xfl h = 1 ∧ 55 ≤ n)
theorem xta_lt {n a : Nat} {h : XH} (hn : n ≤ 100) (hf : xfc n h) (ha : xin n a) : xta a < n + xfl h := by
  unfold xta
  split
  · omega
  · split <;> omega
theorem xsg_ta {a : Nat} (ha : a ≤ 100) : xsg (xta a) = a := by
  unfold xsg xta
  by_cases h1 : a < 55
  · rw [if_pos h1, if_pos h1]
  · rw [if_neg h1]
    by_cases h2 : a = 100
    · subst h2; rfl
    · rw [if_neg h2, if_neg (by omega), if_neg (by omega)]; omega
theorem xta_sg {i : Nat} (hi : i ≤ 100) : xta (xsg i) = i := by
  unfold xsg xta
  by_cases h1 : i < 55
  · rw [if_pos h1, if_pos h1]
  · rw [if_neg h1]
    by_cases h2 : i = 55
    · subst h2; rfl
    · rw [if_neg h2, if_neg (by omega), if_neg (by omega)]; omega
theorem xin_le {n a : Nat} (hn : n ≤ 100) (ha : xin n a) : a ≤ 100 := by omega
def xad (G : XG) (k : Nat) : Nat := if k < 1000 then gB G + xta k else if k < 2000 then gK G (k - 1000) else if k < 3000 then gV G (k - 2000) else gS G
def xv (G : XG) : Value → Value
  | .ref k => .ref (xad G k)
  | v => v
def xaf (G : XG) : Nat → Prop := fun q => gB G ≤ q
theorem xad_own {G : XG} {k : Nat} (h : k < 1000) : xad G k = gB G + xta k := if_pos h
/-- what each of the hundred cells is: an array (of what, how long), or an object (its class by its place in vwCl) -/
def xsh : List ((FieldType × Nat) ⊕ Nat) := [.inr 10, .inl (.char, 500), .inr 5, .inr 0, .inl (.char, 1000), .inl (.int, 500), .inl (.int, 64), .inl (.int, 7), .inl (.int, 24), .inl (.int, 24), .inl (.boolean, 101), .inr 4, .inr 5, .inr 0, .inl (.char, 1000), .inl (.int, 500), .inl (.int, 64), .inl (.int, 7), .inl (.int, 24), .inl (.int, 24), .inl (.boolean, 101), .inr 3, .inl (.int, 101), .inl (.int, 707), .inl (.int, 707), .inr 3, .inl (.int, 101), .inl (.int, 707), .inl (.int, 707), .inr 7, .inl (.int, 4), .inl (.int, 1000), .inl (.int, 40), .inl (.int, 3), .inr 7, .inl (.int, 4), .inl (.int, 1000), .inl (.int, 40), .inl (.int, 3), .inr 8, .inl (.int, 101), .inl (.int, 101), .inl (.int, 102), .inr 6, .inl (.long, 101), .inl (.long, 101), .inr 6, .inl (.long, 101), .inl (.long, 101), .inr 1, .inl (.long, 861), .inl (.long, 861), .inr 2, .inl (.long, 101), .inl (.long, 101), .inr 9, .inr 11, .inl (.object "java/lang/String", 3), .inl (.object "java/lang/String", 4), .inl (.int, 16), .inl (.int, 12), .inl (.int, 48), .inl (.int, 48), .inl (.int, 1000), .inl (.int, 2000), .inl (.int, 3), .inl (.int, 500), .inl (.int, 707), .inl (.int, 101), .inl (.int, 64), .inl (.int, 4), .inl (.int, 4), .inl (.int, 200), .inl (.int, 200), .inl (.int, 200), .inl (.int, 200), .inl (.int, 200), .inl (.int, 200), .inl (.int, 200), .inl (.int, 101), .inl (.int, 101), .inl (.long, 101), .inl (.long, 101), .inl (.long, 401), .inl (.long, 401), .inl (.long, 1681), .inl (.long, 1681), .inl (.int, 40), .inl (.long, 4141), .inl (.int, 1700), .inl (.int, 4), .inl (.int, 200), .inl (.int, 200), .inl (.int, 200), .inl (.int, 200), .inl (.int, 200), .inl (.int, 200), .inl (.int, 40), .inl (.int, 3), .inl (.long, 1), .inl (.long, 82)]
def SH (k : Nat) : (FieldType × Nat) ⊕ Nat := xsh.getD k (.inr 99)
def xnf (ci : Nat) : Nat := [6, 2, 3, 3, 8, 13, 3, 8, 5, 3, 16, 63].getD ci 0
def xfty (ci : Nat) : Nat → FieldType := match ci with
  | 0 => tyX0
  | 1 => tyX1
  | 2 => tyX2
  | 3 => tyX3
  | 4 => tyX4
  | 5 => tyX5
  | 6 => tyX6
  | 7 => tyX7
  | 8 => tyX8
  | 9 => tyX9
  | 10 => tyX10
  | _ => tyX11
def xfv (G : XG) (h : XH) (a k : Nat) : FieldType → Value
  | .object _ => va_rf ((xP h a k).map (xad G))
  | .array _ => va_rf ((xP h a k).map (xad G))
  | _ => .int (xI h a k)
def xobj (G : XG) (h : XH) (a ci : Nat) : List Value := (List.range (xnf ci)).map (fun k => xfv G h a k (xfty ci k))
def xarr (G : XG) (h : XH) (a n : Nat) : FieldType → vp_A
  | .long => (n, .inr (.inl (xL h a)))
  | .object _ => (n, .inr (.inr (.inr (.inr (fun j => (xP h a j).map (xad G))))))
  | _ => (n, .inl (xI h a))
def xcell (G : XG) (h : XH) (k : Nat) : va_E := match SH k with
  | .inl (ty, n) => .inl (gA G ty, xarr G h k n ty)
  | .inr ci => .inr (ci, xobj G h k ci)
def xws (G : XG) (n : Nat) (h : XH) : va_W := (List.range (n + xfl h)).map (fun i => (gB G + i, xcell G h (xsg i)))
theorem xws_ix {G : XG} {n : Nat} {h : XH} {i : Nat} (hi : i < n + xfl h) : (xws G n h)[i]? = some (gB G + i, xcell G h (xsg i)) := by
  simp [xws, hi]
theorem xws_get {G : XG} {n : Nat} {h : XH} {k : Nat} (hn : n ≤ 100) (hf : xfc n h) (hk : xin n k) : (xws G n h)[xta k]? = some (gB G + xta k, xcell G h k) := by
  rw [xws_ix (xta_lt hn hf hk), xsg_ta (xin_le hn hk)]
theorem xws_len {G : XG} {n : Nat} {h : XH} : (xws G n h).length = n + xfl h := by simp [xws]
theorem xws_in {G : XG} {n : Nat} {h : XH} {k : Nat} {q : Nat × va_E} (hk : (xws G n h)[k]? = some q) : k < n + xfl h ∧ q = (gB G + k, xcell G h (xsg k)) := by
  have hl : k < n + xfl h := by
    have := (List.getElem?_eq_some_iff.mp hk).1
    rwa [xws_len] at this
  rw [xws_ix hl] at hk
  exact ⟨hl, (Option.some.inj hk).symm⟩
theorem xws_D (G : XG) (n : Nat) (h : XH) : va_D (xaf G) (xws G n h) := by
  refine ⟨fun i j p q hi hj e => ?_, fun k q hk => ?_⟩
  · obtain ⟨-, rfl⟩ := xws_in hi
    obtain ⟨-, rfl⟩ := xws_in hj
    dsimp only at e
    omega
  · obtain ⟨-, rfl⟩ := xws_in hk
    exact Nat.le_add_right _ _
theorem xcell_a {G : XG} {h : XH} {k n : Nat} {ty : FieldType} (hs : SH k = .inl (ty, n)) : xcell G h k = .inl (gA G ty, xarr G h k n ty) := by
  simp only [xcell, hs]
theorem xcell_o {G : XG} {h : XH} {k ci : Nat} (hs : SH k = .inr ci) : xcell G h k = .inr (ci, xobj G h k ci) := by
  simp only [xcell, hs]
theorem xcell_eq {G : XG} {h h' : XH} {k : Nat} (h1 : h'.1 k = h.1 k) (h2 : h'.2.1 k = h.2.1 k) (h3 : h'.2.2 k = h.2.2 k) : xcell G h' k = xcell G h k := by
  have e1 : ∀ ty j, xfv G h' k j ty = xfv G h k j ty := by
    intro ty j
    cases ty <;> simp [xfv, xI, xP, h1, h3]
  have e2 : ∀ ty n, xarr G h' k n ty = xarr G h k n ty := by
    intro ty n
    cases ty <;> simp [xarr, xI, xL, xP, h1, h2, h3]
  unfold xcell
  cases SH k with
  | inl q => simp [e2]
  | inr ci => simp [xobj, e1]
theorem xws_set {G : XG} {n : Nat} {h h' : XH} {a : Nat} (hn : n ≤ 100) (hf : xfc n h) (ha : xin n a) (hl : xfl h' = xfl h) (ho : ∀ b, b ≠ a → xcell G h' b = xcell G h b) : (xws G n h).set (xta a) (gB G + xta a, xcell G h' a) = xws G n h' := by
  have hlt := xta_lt hn hf ha
  have h100 := xin_le hn ha
  apply List.ext_getElem?
  intro j
  by_cases hj : j < n + xfl h
  · rw [xws_ix (h := h') (by rw [hl]; exact hj)]
    by_cases e : j = xta a
    · subst e
      rw [List.getElem?_set_self (by rw [xws_len]; exact hlt), xsg_ta h100]
    · rw [List.getElem?_set_ne (Ne.symm e), xws_ix hj, ho (xsg j) (fun z => e (by rw [← z, xta_sg (by omega)]))]
  · rw [List.getElem?_eq_none (by rw [List.length_set, xws_len]; omega), List.getElem?_eq_none (by rw [xws_len]; omega)]
/-- one cell more: an ordinary one (e0, e1), or the special one -/
theorem xws_push {G : XG} {n n' : Nat} {h h' : XH} (e : n' + xfl h' = n + xfl h + 1) (ho : ∀ i, i < n + xfl h → xcell G h' (xsg i) = xcell G h (xsg i)) : xws G n' h' = xws G n h ++ [(gB G + (n + xfl h), xcell G h' (xsg (n + xfl h)))] := by
  unfold xws
  rw [e, List.range_succ, List.map_append]
  congr 1
  apply List.map_congr_left
  intro k hk
  rw [ho k (List.mem_range.mp hk)]
theorem va_up_eq {α : Type} (f : Nat → α) (k : Nat) (v : α) : va_up f k v k = v := if_pos rfl
theorem va_up_of {α : Type} (f : Nat → α) {k j : Nat} (v : α) (h : j ≠ k) : va_up f k v j = f j := if_neg h
theorem xSI_o {G : XG} {h : XH} {a b : Nat} {f : Nat → Int32} (hb : b ≠ a) : xcell G (xSI a f h) b = xcell G h b := xcell_eq (va_up_of _ _ hb) rfl rfl
theorem xSL_o {G : XG} {h : XH} {a b : Nat} {f : Nat → Int64} (hb : b ≠ a) : xcell G (xSL a f h) b = xcell G h b := xcell_eq rfl (va_up_of _ _ hb) rfl
theorem xSP_o {G : XG} {h : XH} {a b : Nat} {f : Nat → Option Nat} (hb : b ≠ a) : xcell G (xSP a f h) b = xcell G h b := xcell_eq rfl rfl (va_up_of _ _ hb)
theorem xSN_o {G : XG} {n : Nat} {h : XH} {b : Nat} (hb : b ≠ n) : xcell G (xSN n h) b = xcell G h b := xcell_eq (va_up_of _ _ hb) (va_up_of _ _ hb) (va_up_of _ _ hb)
theorem xfl_SI {h : XH} {a : Nat} {f : Nat → Int32} (ha : a ≠ 100) : xfl (xSI a f h) = xfl h := by
  unfold xfl
  rw [show xI (xSI a f h) 100 = xI h 100 from va_up_of h.1 _ (Ne.symm ha)]
theorem xfl_SL {h : XH} {a : Nat} {f : Nat → Int64} : xfl (xSL a f h) = xfl h := rfl
theorem xfl_SP {h : XH} {a : Nat} {f : Nat → Option Nat} : xfl (xSP a f h) = xfl h := rfl
theorem xfl_SN {h : XH} {n : Nat} (hn : n ≠ 100) : xfl (xSN n h) = xfl h := by
  unfold xfl
  rw [show xI (xSN n h) 100 = xI h 100 from va_up_of h.1 _ (Ne.symm hn)]
/-- the special cell is made -/
def xSW (h : XH) : XH := (va_up h.1 100 (fun _ => 1), va_up h.2.1 100 (fun _ => 0), va_up h.2.2 100 (fun _ => none))
theorem xfl_SW {h : XH} : xfl (xSW h) = 1 := by
  unfold xfl
  have e : xI (xSW h) 100 = (fun _ => 1) := va_up_eq h.1 100 (fun _ => (1 : Int32))
  rw [e]
  rfl
theorem xSW_o {G : XG} {h : XH} {b : Nat} (hb : b ≠ 100) : xcell G (xSW h) b = xcell G h b := xcell_eq (va_up_of _ _ hb) (va_up_of _ _ hb) (va_up_of _ _ hb)
theorem xws_SI {G : XG} {n : Nat} {h : XH} {a : Nat} {f : Nat → Int32} (hn : n ≤ 100) (hf : xfc n h) (ha : a < n) : (xws G n h).set (xta a) (gB G + xta a, xcell G (xSI a f h) a) = xws G n (xSI a f h) := xws_set hn hf (Or.inl ha) (xfl_SI (by omega)) (fun _ hb => xSI_o hb)
theorem xws_SL {G : XG} {n : Nat} {h : XH} {a : Nat} {f : Nat → Int64} (hn : n ≤ 100) (hf : xfc n h) (ha : xin n a) : (xws G n h).set (xta a) (gB G + xta a, xcell G (xSL a f h) a) = xws G n (xSL a f h) := xws_set hn hf ha xfl_SL (fun _ hb => xSL_o hb)
theorem xws_SP {G : XG} {n : Nat} {h : XH} {a : Nat} {f : Nat → Option Nat} (hn : n ≤ 100) (hf : xfc n h) (ha : a < n) : (xws G n h).set (xta a) (gB G + xta a, xcell G (xSP a f h) a) = xws G n (xSP a f h) := xws_set hn hf (Or.inl ha) xfl_SP (fun _ hb => xSP_o hb)
theorem xsg_n {n : Nat} {h : XH} (hf : xfc n h) (h0 : n ≠ 55 ∨ xfl h = 1) : xsg (n + xfl h) = n := by
  unfold xsg
  rcases hf with ⟨q, r⟩ | ⟨q, r⟩
  · rw [q, if_pos (by omega)]; rfl
  · rw [q, if_neg (by omega), if_neg (by omega)]; omega
theorem xta_n {n : Nat} {h : XH} (hn : n < 100) (hf : xfc n h) (h0 : n ≠ 55 ∨ xfl h = 1) : xta n = n + xfl h := by
  have e := xta_sg (i := n + xfl h) (by omega)
  rwa [xsg_n hf h0] at e
theorem xws_SN {G : XG} {n : Nat} {h : XH} (hn : n < 100) (hf : xfc n h) (h0 : n ≠ 55 ∨ xfl h = 1) : xws G (n + 1) (xSN n h) = xws G n h ++ [(gB G + (n + xfl h), xcell G (xSN n h) n)] := by
  have e := xws_push (G := G) (n := n) (n' := n + 1) (h := h) (h' := xSN n h) (by rw [xfl_SN (by omega)]; omega) (fun i hi => xSN_o (fun z => by
    have e1 := xta_sg (i := i) (by omega)
    rw [z, xta_n hn hf h0] at e1
    omega))
  rwa [xsg_n hf h0] at e
theorem xws_SW {G : XG} {h : XH} (hf : xfl h = 0) : xws G 55 (xSW h) = xws G 55 h ++ [(gB G + 55, xcell G (xSW h) 100)] := by
  have e := xws_push (G := G) (n := 55) (n' := 55) (h := h) (h' := xSW h) (by rw [xfl_SW, hf]) (fun i hi => xSW_o (fun z => by
    have e1 := xta_sg (i := i) (by omega)
    rw [z] at e1
    have e2 : xta 100 = 55 := rfl
    omega))
  rw [hf] at e
  exact e
/-- a field that is no reference -/
def xii (ty : FieldType) : Bool := match ty with
  | .object _ => false
  | .array _ => false
  | _ => true
theorem xfv_i {G : XG} {h : XH} {a k : Nat} {ty : FieldType} (ht : xii ty = true) : xfv G h a k ty = .int (xI h a k) := by
  cases ty <;> first | rfl | cases ht
theorem xfv_r {G : XG} {h : XH} {a k : Nat} {ty : FieldType} (ht : xii ty = false) : xfv G h a k ty = va_rf ((xP h a k).map (xad G)) := by
  cases ty <;> first | rfl | cases ht
theorem xobj_get {G : XG} {h : XH} {a ci k : Nat} (hk : k < xnf ci) : (xobj G h a ci)[k]? = some (xfv G h a k (xfty ci k)) := by
  simp [xobj, hk]
theorem xobj_len {G : XG} {h : XH} {a ci : Nat} : (xobj G h a ci).length = xnf ci := by simp [xobj]
theorem xobj_set {G : XG} {h h' : XH} {a ci k : Nat} (hk : k < xnf ci) (ho : ∀ j, j ≠ k → xfv G h' a j (xfty ci j) = xfv G h a j (xfty ci j)) : (xobj G h a ci).set k (xfv G h' a k (xfty ci k)) = xobj G h' a ci := by
  apply List.ext_getElem?
  intro j
  by_cases hj : j < xnf ci
  · rw [xobj_get hj]
    by_cases e : j = k
    · subst e
      rw [List.getElem?_set_self (by rw [xobj_len]; exact hk)]
    · rw [List.getElem?_set_ne (Ne.symm e), xobj_get hj, ho j e]
  · rw [List.getElem?_eq_none (by rw [List.length_set, xobj_len]; omega), List.getElem?_eq_none (by rw [xobj_len]; omega)]
theorem xobj_SI {G : XG} {h : XH} {a ci k : Nat} {v : Int32} (hk : k < xnf ci) (ht : xii (xfty ci k) = true) : (xobj G h a ci).set k (.int v) = xobj G (xSI a (va_up (xI h a) k v) h) a ci := by
  have e := xobj_set (G := G) (h := h) (h' := xSI a (va_up (xI h a) k v) h) (a := a) hk (fun j hj => by
    cases hx : xii (xfty ci j) with
    | true => rw [xfv_i hx, xfv_i hx]; simp [xSI, xI, va_up, hj]
    | false => rw [xfv_r hx, xfv_r hx]; rfl)
  rw [← e, xfv_i ht]
  simp [xSI, xI, va_up]
theorem xobj_SP {G : XG} {h : XH} {a ci k : Nat} {v : Option Nat} (hk : k < xnf ci) (ht : xii (xfty ci k) = false) : (xobj G h a ci).set k (va_rf (v.map (xad G))) = xobj G (xSP a (va_up (xP h a) k v) h) a ci := by
  have e := xobj_set (G := G) (h := h) (h' := xSP a (va_up (xP h a) k v) h) (a := a) hk (fun j hj => by
    cases hx : xii (xfty ci j) with
    | true => rw [xfv_i hx, xfv_i hx]; rfl
    | false => rw [xfv_r hx, xfv_r hx]; simp [xSP, xP, va_up, hj])
  rw [← e, xfv_r ht]
  simp [xSP, xP, va_up]
/-! the tables' words that hold in every later state -/
def gtbl : List Cond := lw_tbl.filter goodWord
theorem gmem {w : Cond} (i : Nat) (h : lw_tbl[i]? = some w) (hg : goodWord w = true) : w ∈ gtbl := List.mem_filter.mpr ⟨List.mem_of_getElem? h, hg⟩
theorem gtbl_good : GoodIn gtbl gtbl := fun w hw => ⟨hw, good_of_word (List.mem_filter.mp hw).2⟩
theorem xcl_fin : ∀ ci, ci < 12 → ∀ w ∈ u_ws ((vwCl.getD ci ("", TX0, 0)).1) ((vwCl.getD ci ("", TX0, 0)).2.1) ((vwCl.getD ci ("", TX0, 0)).2.2), w ∈ gtbl := by
  intro ci hci
  have key : ∀ w ∈ (List.range 12).flatMap (fun ci => u_ws ((vwCl.getD ci ("", TX0, 0)).1) ((vwCl.getD ci ("", TX0, 0)).2.1) ((vwCl.getD ci ("", TX0, 0)).2.2)), w ∈ lw_tbl ∧ goodWord w = true := by decide +kernel
  intro w hw
  have h := key w (List.mem_flatMap.mpr ⟨ci, List.mem_range.mpr hci, hw⟩)
  exact List.mem_filter.mpr h
