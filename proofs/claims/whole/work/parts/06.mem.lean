/-! THE WALK'S ROWS FOR FIELDS AND ARRAYS -/
theorem x_cls {ci : Nat} {C : String} {T : u_T} {N : Nat} (h : vwCl[ci]? = some (C, T, N)) : N = xnf ci ∧ (∀ w ∈ u_ws C T N, w ∈ gtbl) ∧ (∀ k, k < N → parseFieldDescriptor (T k).2.2.1 = some (xfty ci k)) ∧ (∀ a, a < N → ∀ b, b < N → a ≠ b → (T a).2.1 ≠ (T b).2.1) := by
  have hlt : ci < 12 := by
    have := (List.getElem?_eq_some_iff.mp h).1
    exact this
  match ci, hlt, h with
  | 0, _, h => cases h; exact ⟨rfl, xcl_fin 0 (by decide), tyX0_ok, nmX0⟩
  | 1, _, h => cases h; exact ⟨rfl, xcl_fin 1 (by decide), tyX1_ok, nmX1⟩
  | 2, _, h => cases h; exact ⟨rfl, xcl_fin 2 (by decide), tyX2_ok, nmX2⟩
  | 3, _, h => cases h; exact ⟨rfl, xcl_fin 3 (by decide), tyX3_ok, nmX3⟩
  | 4, _, h => cases h; exact ⟨rfl, xcl_fin 4 (by decide), tyX4_ok, nmX4⟩
  | 5, _, h => cases h; exact ⟨rfl, xcl_fin 5 (by decide), tyX5_ok, nmX5⟩
  | 6, _, h => cases h; exact ⟨rfl, xcl_fin 6 (by decide), tyX6_ok, nmX6⟩
  | 7, _, h => cases h; exact ⟨rfl, xcl_fin 7 (by decide), tyX7_ok, nmX7⟩
  | 8, _, h => cases h; exact ⟨rfl, xcl_fin 8 (by decide), tyX8_ok, nmX8⟩
  | 9, _, h => cases h; exact ⟨rfl, xcl_fin 9 (by decide), tyX9_ok, nmX9⟩
  | 10, _, h => cases h; exact ⟨rfl, xcl_fin 10 (by decide), tyX10_ok, nmX10⟩
  | 11, _, h => cases h; exact ⟨rfl, xcl_fin 11 (by decide), tyX11_ok, nmX11⟩
/-- the field that an instruction of a class names: field k of class ci; may it be written but once -/
def xF (own : String) (idx ci k : Nat) (fin : Bool) : Prop := ∃ (C : String) (T : u_T) (N : Nat), vwCl[ci]? = some (C, T, N) ∧ k < N ∧ Cond.fieldLink own idx (T k).1 (T k).2.1 (T k).2.2.1 ∈ gtbl ∧ (T k).2.2.2 = fin ∧ (T k).1 = C
def xar (ty : FieldType) : Bool := match ty with
  | .int | .char | .boolean => true
  | _ => false
theorem xarr_i {G : XG} {h : XH} {a n : Nat} {ty : FieldType} (ht : xar ty = true) : xarr G h a n ty = (n, .inl (xI h a)) := by
  cases ty <;> first | rfl | cases ht
def xtyi (ty : FieldType) : Nat := match ty with
  | .int => 0
  | .long => 1
  | .char => 2
  | .boolean => 3
  | _ => 4
section XM6
variable {R : Room} {M : XM} {E : XE} {n b bs : Nat} {h : XH} {pc : Nat} {ls : List (Option Value)} {st : List Value}
theorem xi_getI {a ci idx k : Nat} {fin : Bool} (hd : decode M.2.1 pc = .ok (.getfield idx, 3)) (hf : xF M.1.cls idx ci k fin) (hs : SH a = .inr ci) (ha : a < n) (ht : xii (xfty ci k) = true) (kk : XW R M E n b bs h (pc + 3) ls (.int (xI h a k) :: st)) : XW R M E n b bs h pc ls (.ref a :: st) := by
  intro G p l e s m args below meth c C H locs L kc ks hR hS hl hz g1 g2
  obtain ⟨C0, T, N, hc, hk, hw, -, -⟩ := hf
  obtain ⟨hN, hin, hty, hnm⟩ := x_cls hc
  have he := xr_get hR (Or.inl ha)
  rw [xcell_o hs] at he
  have e9 : xv G (.ref a) = .ref (gB G + xta a) := congrArg Value.ref (xr_ad hR (Or.inl ha))
  rw [List.map_cons, e9]
  exact va_get (v := .int (xI h a k)) C.1 C.2.1 C.2.2.2.2.2.1 hin C.2.2.2.2.1 C.2.2.2.2.2.2.2.2.1.1 hR.1 (xta a) he hc k hk (C.2.2.2.2.2.1 _ hw) (fun _ q => q) (by rw [xobj_get (hN ▸ hk), xfv_i ht]) hd (kk G C H locs L kc ks hR hS hl hz g1 g2)
theorem xi_getR {a ci idx k y : Nat} {fin : Bool} (hd : decode M.2.1 pc = .ok (.getfield idx, 3)) (hf : xF M.1.cls idx ci k fin) (hs : SH a = .inr ci) (ha : a < n) (ht : xii (xfty ci k) = false) (hy : xP h a k = some y) (kk : XW R M E n b bs h (pc + 3) ls (.ref y :: st)) : XW R M E n b bs h pc ls (.ref a :: st) := by
  intro G p l e s m args below meth c C H locs L kc ks hR hS hl hz g1 g2
  obtain ⟨C0, T, N, hc, hk, hw, -, -⟩ := hf
  obtain ⟨hN, hin, hty, hnm⟩ := x_cls hc
  have he := xr_get hR (Or.inl ha)
  rw [xcell_o hs] at he
  have e9 : xv G (.ref a) = .ref (gB G + xta a) := congrArg Value.ref (xr_ad hR (Or.inl ha))
  rw [List.map_cons, e9]
  exact va_get (v := .ref (xad G y)) C.1 C.2.1 C.2.2.2.2.2.1 hin C.2.2.2.2.1 C.2.2.2.2.2.2.2.2.1.1 hR.1 (xta a) he hc k hk (C.2.2.2.2.2.1 _ hw) (fun _ q => q) (by rw [xobj_get (hN ▸ hk), xfv_r ht, hy]; rfl) hd (kk G C H locs L kc ks hR hS hl hz g1 g2)
theorem x_put_I {G : XG} {H : Heap} {a ci k : Nat} {v : Int32} (hR : XR G n h H) (hs : SH a = .inr ci) (ha : a < n) (hk : k < xnf ci) (ht : xii (xfty ci k) = true) : (xws G n h).set (xta a) (gB G + xta a, .inr (ci, (xobj G h a ci).set k (.int v))) = xws G n (xSI a (va_up (xI h a) k v) h) := by
  rw [xobj_SI hk ht, ← xcell_o hs]
  exact xws_SI hR.2.1 hR.2.2.2 ha
theorem x_put_P {G : XG} {H : Heap} {a ci k : Nat} {v : Option Nat} (hR : XR G n h H) (hs : SH a = .inr ci) (ha : a < n) (hk : k < xnf ci) (ht : xii (xfty ci k) = false) : (xws G n h).set (xta a) (gB G + xta a, .inr (ci, (xobj G h a ci).set k (va_rf (v.map (xad G))))) = xws G n (xSP a (va_up (xP h a) k v) h) := by
  rw [xobj_SP hk ht, ← xcell_o hs]
  exact xws_SP hR.2.1 hR.2.2.2 ha
theorem xi_putI {a ci idx k : Nat} {v : Int32} (hd : decode M.2.1 pc = .ok (.putfield idx, 3)) (hf : xF M.1.cls idx ci k false) (hs : SH a = .inr ci) (ha : a < n) (ht : xii (xfty ci k) = true) (hn : narrow (xfty ci k) (.int v) = .int v) (hfi : fits (xfty ci k) (.int v) = true) (kk : XW R M E n b bs (xSI a (va_up (xI h a) k v) h) (pc + 3) ls st) : XW R M E n b bs h pc ls (.int v :: .ref a :: st) := by
  intro G p l e s m args below meth c C H locs L kc ks hR hS hl hz g1 g2
  obtain ⟨C0, T, N, hc, hk, hw, hnf, -⟩ := hf
  obtain ⟨hN, hin, hty, hnm⟩ := x_cls hc
  have he := xr_get hR (Or.inl ha)
  rw [xcell_o hs] at he
  have e9 : xv G (.ref a) = .ref (gB G + xta a) := congrArg Value.ref (xr_ad hR (Or.inl ha))
  rw [List.map_cons, List.map_cons, e9]
  refine va_put (v := .int v) C.1 C.2.1 C.2.2.2.2.2.1 hin (xfty ci) hty hnm C.2.2.2.2.1 C.2.2.2.2.2.2.2.2.1.1 hR.1 (xws_D G n h) hS (xta a) he hc k hk (C.2.2.2.2.2.1 _ hw) (fun _ q => q) hnf (hty k hk) hn hfi (by rw [xobj_len]; exact hN ▸ hk) hd (fun H1 locs1 hP1 hD1 hS1 => ?_)
  rw [x_put_I hR hs ha (hN ▸ hk) ht] at hP1
  exact kk G C H1 locs1 L kc ks (hR.si ha hP1) hS1 hl (xz_si hR ha hz) g1 g2
theorem xi_putR {a ci idx k y : Nat} (hd : decode M.2.1 pc = .ok (.putfield idx, 3)) (hf : xF M.1.cls idx ci k false) (hs : SH a = .inr ci) (ha : a < n) (ht : xii (xfty ci k) = false) (kk : XW R M E n b bs (xSP a (va_up (xP h a) k (some y)) h) (pc + 3) ls st) : XW R M E n b bs h pc ls (.ref y :: .ref a :: st) := by
  intro G p l e s m args below meth c C H locs L kc ks hR hS hl hz g1 g2
  obtain ⟨C0, T, N, hc, hk, hw, hnf, -⟩ := hf
  obtain ⟨hN, hin, hty, hnm⟩ := x_cls hc
  have he := xr_get hR (Or.inl ha)
  rw [xcell_o hs] at he
  have e9 : xv G (.ref a) = .ref (gB G + xta a) := congrArg Value.ref (xr_ad hR (Or.inl ha))
  rw [List.map_cons, List.map_cons, e9]
  have hrn : narrow (xfty ci k) (.ref (xad G y)) = .ref (xad G y) ∧ fits (xfty ci k) (.ref (xad G y)) = true := by
    cases hq : xfty ci k <;> first | (rw [hq] at ht; cases ht; done) | exact ⟨rfl, rfl⟩
  refine va_put (v := .ref (xad G y)) C.1 C.2.1 C.2.2.2.2.2.1 hin (xfty ci) hty hnm C.2.2.2.2.1 C.2.2.2.2.2.2.2.2.1.1 hR.1 (xws_D G n h) hS (xta a) he hc k hk (C.2.2.2.2.2.1 _ hw) (fun _ q => q) hnf (hty k hk) hrn.1 hrn.2 (by rw [xobj_len]; exact hN ▸ hk) hd (fun H1 locs1 hP1 hD1 hS1 => ?_)
  have hP1 := (x_put_P (G := G) (v := some y) hR hs ha (hN ▸ hk) ht) ▸ hP1
  exact kk G C H1 locs1 L kc ks (hR.sp hP1) hS1 hl hz g1 g2
/-- a final field, in a constructor of its class -/
theorem xi_putF {a ci idx k y : Nat} (hd : decode M.2.1 pc = .ok (.putfield idx, 3)) (hf : xF M.1.cls idx ci k true) (hin2 : M.1.name = "<init>") (hcn : (vwCl.getD ci ("", TX0, 0)).1 = M.1.cls) (hs : SH a = .inr ci) (ha : a < n) (ht : xii (xfty ci k) = false) (kk : XW R M E n b bs (xSP a (va_up (xP h a) k (some y)) h) (pc + 3) ls st) : XW R M E n b bs h pc ls (.ref y :: .ref a :: st) := by
  intro G p l e s m args below meth c C H locs L kc ks hR hS hl hz g1 g2
  obtain ⟨C0, T, N, hc, hk, hw, hnf, hdc⟩ := hf
  obtain ⟨hN, hin, hty, hnm⟩ := x_cls hc
  have he := xr_get hR (Or.inl ha)
  rw [xcell_o hs] at he
  have e9 : xv G (.ref a) = .ref (gB G + xta a) := congrArg Value.ref (xr_ad hR (Or.inl ha))
  rw [List.map_cons, List.map_cons, e9]
  have hrn : narrow (xfty ci k) (.ref (xad G y)) = .ref (xad G y) ∧ fits (xfty ci k) (.ref (xad G y)) = true := by
    cases hq : xfty ci k <;> first | (rw [hq] at ht; cases ht; done) | exact ⟨rfl, rfl⟩
  have hC0 : C0 = M.1.cls := by
    rw [← hcn, List.getD_eq_getElem?_getD, hc]; rfl
  refine va_putF (v := .ref (xad G y)) C.1 C.2.1 C.2.2.2.2.2.1 hin (xfty ci) hty hnm C.2.2.2.2.1 C.2.2.2.2.2.2.2.2.1.1 hR.1 (xws_D G n h) hS (xta a) he hc k hk (C.2.2.2.2.2.1 _ hw) (fun _ q => q) hnf (C.2.2.2.2.2.2.2.2.2.2.2.2.trans hin2) (hdc.trans hC0) (hty k hk) hrn.1 hrn.2 (by rw [xobj_len]; exact hN ▸ hk) hd (fun H1 locs1 hP1 hD1 hS1 => ?_)
  have hP1 := (x_put_P (G := G) (v := some y) hR hs ha (hN ▸ hk) ht) ▸ hP1
  exact kk G C H1 locs1 L kc ks (hR.sp hP1) hS1 hl hz g1 g2
end XM6
