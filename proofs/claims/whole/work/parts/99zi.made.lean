/-! MADE ANEW: rows of constructors; the heap as a list of operations -/
theorem gl_1 {w : Cond} (j : Nat) (h : tables_1_1[j]? = some w) : w ∈ lw_tbl := List.mem_append_right _ (List.mem_append_left _ (List.mem_of_getElem? h))
theorem gl_2 {w : Cond} (j : Nat) (h : tables_1_2[j]? = some w) : w ∈ lw_tbl := List.mem_append_right _ (List.mem_append_right _ (List.mem_append_left _ (List.mem_of_getElem? h)))
/-- a constructor of ours, linked or linked as a nest mate's -/
def xIn (own : String) (idx : Nat) (y : XM) (k : Nat) : Prop := (∀ w ∈ gtbl, w ∈ xwsC y) ∧ (Cond.methodLink own idx y.1 ∈ gtbl ∨ ∃ o : String, Cond.methodLinkNest own idx y.1 o ∈ lw_tbl) ∧ Cond.instanceMethod y.1 ∈ gtbl ∧ Cond.initialized y.1.cls ∈ gtbl ∧ Cond.code y.1 y.2.1 y.2.2.1 y.2.2.2.1 ∈ gtbl ∧ xdesc y.1 k ∧ y.1.name = "<init>"
section XINI
variable {R : Room} {M : XM} {E : XE} {n n' b bs d mc ms idx a k : Nat} {h : XH} {pc : Nat} {ls : List (Option Value)} {st stk As : List Value} {y : XM} {Q' : Option Value → XH → Prop}
theorem qO_i : Cond.instanceMethod Lib.objectInit ∈ gtbl := gt_1 32 rfl rfl
theorem qO_c : Cond.code Lib.objectInit ⟨#[0xb1]⟩ 1 none ∈ gtbl := gt_1 33 rfl rfl
theorem xi_objI (hd : decode M.2.1 pc = .ok (.invokespecial idx, 3)) (hw : Cond.methodLink M.1.cls idx Lib.objectInit ∈ gtbl) (hR1 : 1 ≤ R.frames) (hR2 : 20 ≤ R.locals) (hs : (st.map Value.category).sum ≤ 8) (kk : XW R M E n b bs h (pc + 3) ls st) : XW R M E n b bs h pc ls (.ref a :: st) := by
  intro G p l e s m args below meth c C H locs L kc ks hR hS hl hz g1 g2
  have hts := C.2.2.2.2.2.1
  have e1 : (((st.map (xv G))).map fun v => v.category).sum ≤ 8 := by
    rw [List.map_map]
    have : (st.map ((fun v => v.category) ∘ xv G)) = st.map Value.category := List.map_congr_left (fun v _ => xv_cat v)
    rw [this]
    exact hs
  have e2 := lv_room (m := m) (pc := pc) (ls := L) (rest := (Value.ref a :: st).map (xv G)) e1
  exact W.objInit C.1 C.2.1 C.2.2.2.2.1 (hts _ hw) (hts _ qO_i) (hts _ qO_c) (g := F0 m pc L ((Value.ref a :: st).map (xv G))) rfl (hl.1.1.trans C.2.2.1.symm) (a := xad G a) (rest := st.map (xv G)) rfl hd hR1 (by omega) (kk G C H locs L kc ks hR hS hl hz g1 g2)
theorem xi_callI (hd : decode M.2.1 pc = .ok (.invokespecial idx, 3)) (hy : xIn M.1.cls idx y k) (hret : y.2.2.2.1 = none) (hk : As.length = k) (ha : a < n) (hst : stk = As.reverse ++ .ref a :: st) (hsp : XSpec y d mc ms n n' (.ref a :: As) h Q' xno) (hR1 : d + 1 ≤ R.frames) (hR2 : 64 * d + y.2.2.1 + 19 ≤ R.locals) (hw : (st.map Value.category).sum ≤ 8) (hn : ∀ (v : Option Value) (h' : XH), Q' v h' → n' < 100 → n < 100 ∧ (n' = n + mc ∨ (n < 55 ∧ n' + 1 = n + mc ∧ (56 ≤ n' ∨ xfl h' = 1))))
    (kk : ∀ (v : Option Value) (h' : XH), Q' v h' → XW R M E n' b bs h' (pc + 3) ls (v.toList ++ st)) : XW R M E n (b + mc) (bs + ms) h pc ls stk := by
  obtain ⟨y1, yb, yl, yr, yh⟩ := y
  dsimp only at hret hR2
  subst hret
  intro G p l e s m args below meth c C H locs L kc ks hR hS hl hz g1 g2 T hT X
  obtain ⟨hG0, hlk, hi, hini, hcd, hdsc, hnm⟩ := hy
  have hG : GoodIn gtbl (xwsC (y1, yb, yl, none, yh)) := goodIn_g fun w hw => by
    rcases List.mem_cons.mp hw with rfl | q
    · exact hcd
    · exact q
  have hts := C.2.2.2.2.2.1
  have e9 : xv G (.ref a) = .ref (gB G + xta a) := congrArg Value.ref (xr_ad hR (Or.inl ha))
  have hM := x_met (hsp l G C.2.2.2.2.2.2.2.1)
  rw [List.map_cons, e9] at hM
  have hw2 : ((st.map (xv G)).map fun v => v.category).sum ≤ 8 := by
    rw [List.map_map]
    have : (st.map ((fun v => v.category) ∘ xv G)) = st.map Value.category := List.map_congr_left (fun v _ => xv_cat v)
    rw [this]
    exact hw
  subst hst
  have hstk : (F0 m pc L ((As.reverse ++ .ref a :: st).map (xv G))).stack = (As.map (xv G)).reverse ++ .ref (gB G + xta a) :: st.map (xv G) := by
    show ((As.reverse ++ .ref a :: st).map (xv G)) = _
    rw [List.map_append, List.map_reverse, List.map_cons, e9]
  have hsz := x_exact C hR hS hz hT X
  have hrun : va_Run p l e R s m args below meth c H locs kc ks mc ms (F0 m pc L ((As.reverse ++ .ref a :: st).map (xv G))) (st.map (xv G)) (xpost G n' Q' (Value.ref (gB G + xta a) :: As.map (xv G)).toArray) (xaf G) := by
    rcases hlk with q | ⟨o, q⟩
    · exact va_runI (As := As.map (xv G)) (rest := st.map (xv G)) (Ts := gtbl) (own := M.1.cls) (cc := M.2.1) (nL := M.2.2.1) ⟨C.1, C.2.1, C.2.2.1, C.2.2.2.2.1, hts⟩ hM ⟨callB_of k hts hG rfl rfl rfl (hts _ hini) (hts _ q) hdsc ⟨hR1, by show 8 + (yl + 11) + 64 * d ≤ _; omega⟩, hnm, hts _ hi⟩ ⟨x_blind, x_pre C hR hS hsz⟩ rfl (by rw [List.length_map]; exact hk) hl.1.1 hstk (lv_room hw2) hd ⟨by omega, by omega⟩
    · exact va_runIN (As := As.map (xv G)) (rest := st.map (xv G)) (Ts := gtbl) (own := M.1.cls) (cc := M.2.1) (nL := M.2.2.1) ⟨C.1, C.2.1, C.2.2.1, C.2.2.2.2.1, hts⟩ hM ⟨va_cnB k hts hG rfl rfl rfl (C.2.2.2.2.2.2.2.2.1.2.2.2.2.1 _ _ _ _ q) (hts _ hini) hdsc ⟨hR1, by show 8 + (yl + 11) + 64 * d ≤ _; omega⟩, hnm, hts _ hi⟩ ⟨x_blind, x_pre C hR hS hsz⟩ rfl (by rw [List.length_map]; exact hk) hl.1.1 hstk (lv_room hw2) hd ⟨by omega, by omega⟩
  refine x_afterV0 hrun hS (fun v h' H1 locs1 hq hR1 hS1 a2 a1 a3 => ?_) T hT X
  rw [x_ost]
  have a4 := x_size hR hS C.2.2.2.2.2.2.2.2.2.2.1
  have f1 := hR.2.2.2
  have f2 := hR1.2.2.2
  exact kk v h' hq G C H1 locs1 L _ _ hR1 hS1 hl (fun q => by
    obtain ⟨q1, q2⟩ := hn v h' hq q
    have e1 := hz q1
    have e2 := a2 q
    rcases q2 with q2 | ⟨q2, q3, q4⟩ <;> omega) (by omega) (by omega)
/-- ahead of the special cell it isn't there -/
theorem xw_fl0 (hn : n < 55) (k : xfl h = 0 → XW R M E n b bs h pc ls st) : XW R M E n b bs h pc ls st := by
  intro G p l e s m args below meth c C H locs L kc ks hR hS hl hz g1 g2
  have f1 := hR.2.2.2
  exact k (by omega) G C H locs L kc ks hR hS hl hz g1 g2
end XINI
/-- an operation on the heap: a new cell, an int, a reference -/
abbrev HO : Type := Nat ⊕ ((Nat × Nat × Int32) ⊕ (Nat × Nat × Option Nat))
abbrev oN (n : Nat) : HO := .inl n
abbrev oI (a k : Nat) (v : Int32) : HO := .inr (.inl (a, k, v))
abbrev oP (a k : Nat) (v : Option Nat) : HO := .inr (.inr (a, k, v))
def hcel : HO → Nat
  | .inl n => n
  | .inr (.inl q) => q.1
  | .inr (.inr q) => q.1
def hnw (c : Nat) : HO → Bool
  | .inl n => n == c
  | _ => false
/-- a new cell: the special one, 100, tells that it is made -/
def xSM (n : Nat) (h : XH) : XH := (va_up h.1 n (fun _ => if n = 100 then 1 else 0), va_up h.2.1 n (fun _ => 0), va_up h.2.2 n (fun _ => none))
theorem xSM_N {n : Nat} (hn : n ≠ 100) (h : XH) : xSM n h = xSN n h := by
  unfold xSM xSN
  rw [if_neg hn]
theorem xSM_S (h : XH) : xSM 100 h = xSW h := by
  unfold xSM xSW
  rw [if_pos (Eq.refl 100)]
def hst : HO → XH → XH
  | .inl n, h => xSM n h
  | .inr (.inl q), h => xSI q.1 (va_up (xI h q.1) q.2.1 q.2.2) h
  | .inr (.inr q), h => xSP q.1 (va_up (xP h q.1) q.2.1 q.2.2) h
/-- the operations, the last first -/
def hrun : List HO → XH → XH
  | [], h => h
  | o :: os, h => hst o (hrun os h)
theorem hrun_app (as bs : List HO) (h : XH) : hrun (as ++ bs) h = hrun as (hrun bs h) := by
  induction as with
  | nil => rfl
  | cons o os ih =>
    show hst o (hrun (os ++ bs) h) = hst o (hrun os (hrun bs h))
    rw [ih]
theorem hst_P {o : HO} {h h' : XH} {c : Nat} (e : xP h c = xP h' c) : xP (hst o h) c = xP (hst o h') c := by
  rcases o with n | ⟨a, k, v⟩ | ⟨a, k, v⟩
  · show va_up h.2.2 n _ c = va_up h'.2.2 n _ c
    unfold va_up
    split
    · rfl
    · exact e
  · exact e
  · show va_up h.2.2 a (va_up (xP h a) k v) c = va_up h'.2.2 a (va_up (xP h' a) k v) c
    by_cases q : c = a
    · subst q
      rw [va_up_eq, va_up_eq, e]
    · rw [va_up_of _ _ q, va_up_of _ _ q]; exact e
theorem hst_I {o : HO} {h h' : XH} {c : Nat} (e : xI h c = xI h' c) : xI (hst o h) c = xI (hst o h') c := by
  rcases o with n | ⟨a, k, v⟩ | ⟨a, k, v⟩
  · show va_up h.1 n _ c = va_up h'.1 n _ c
    unfold va_up
    split
    · rfl
    · exact e
  · show va_up h.1 a (va_up (xI h a) k v) c = va_up h'.1 a (va_up (xI h' a) k v) c
    by_cases q : c = a
    · subst q
      rw [va_up_eq, va_up_eq, e]
    · rw [va_up_of _ _ q, va_up_of _ _ q]; exact e
  · exact e
theorem hrun_Pc (os : List HO) {h h' : XH} {c : Nat} (e : xP h c = xP h' c) : xP (hrun os h) c = xP (hrun os h') c := by
  induction os with
  | nil => exact e
  | cons o os ih => exact hst_P ih
theorem hrun_Ic (os : List HO) {h h' : XH} {c : Nat} (e : xI h c = xI h' c) : xI (hrun os h) c = xI (hrun os h') c := by
  induction os with
  | nil => exact e
  | cons o os ih => exact hst_I ih
theorem hrun_P (os : List HO) {h h' : XH} (e : xP h = xP h') : xP (hrun os h) = xP (hrun os h') := funext fun c => hrun_Pc os (congrFun e c)
/-- a cell that isn't touched -/
theorem hst_no {o : HO} {h : XH} {c : Nat} (ho : hcel o ≠ c) : xI (hst o h) c = xI h c ∧ xP (hst o h) c = xP h c := by
  rcases o with n | ⟨a, k, v⟩ | ⟨a, k, v⟩
  · exact ⟨va_up_of _ _ (Ne.symm ho), va_up_of _ _ (Ne.symm ho)⟩
  · exact ⟨va_up_of _ _ (Ne.symm ho), rfl⟩
  · exact ⟨rfl, va_up_of _ _ (Ne.symm ho)⟩
theorem hrun_no {os : List HO} {h : XH} {c : Nat} (ho : ∀ o ∈ os, hcel o ≠ c) : xI (hrun os h) c = xI h c ∧ xP (hrun os h) c = xP h c := by
  induction os with
  | nil => exact ⟨rfl, rfl⟩
  | cons o os ih =>
    have h1 := ih (fun q hq => ho q (List.mem_cons_of_mem _ hq))
    have h2 := hst_no (h := hrun os h) (ho o List.mem_cons_self)
    exact ⟨h2.1.trans h1.1, h2.2.trans h1.2⟩
/-- a cell that is made here: what was before doesn't matter -/
theorem hrun_new {os : List HO} {c : Nat} (hc : os.any (hnw c) = true) (h h' : XH) : xI (hrun os h) c = xI (hrun os h') c ∧ xP (hrun os h) c = xP (hrun os h') c := by
  induction os with
  | nil => cases hc
  | cons o os ih =>
    by_cases q : hnw c o = true
    · rcases o with n | ⟨a, k, v⟩ | ⟨a, k, v⟩
      · have e : n = c := beq_iff_eq.mp q
        subst e
        exact ⟨(va_up_eq _ _ _).trans (va_up_eq _ _ _).symm, (va_up_eq _ _ _).trans (va_up_eq _ _ _).symm⟩
      · cases q
      · cases q
    · rw [List.any_cons, Bool.or_eq_true] at hc
      have h1 := ih (hc.resolve_left q)
      exact ⟨hst_I h1.1, hst_P h1.2⟩
section XOPS
variable {R : Room} {M : XM} {E : XE} {n b bs : Nat} {h0 : XH} {os : List HO} {pc : Nat} {ls : List (Option Value)} {st : List Value}
theorem xh_0 (k : XW R M E n b bs (hrun [] h0) pc ls st) : XW R M E n b bs h0 pc ls st := k
theorem xo_new {ci idx bs' : Nat} (hd : decode M.2.1 pc = .ok (.new idx, 3)) (hcl : xN M.1.cls idx ci) (hs : SH n = .inr ci) (hn : n < 99) (e2 : bs' = bs + xnf ci) (kk : XW R M E (n + 1) b bs (hrun (oN n :: os) h0) (pc + 3) ls (.ref n :: st)) (h0n : n ≠ 55 ∨ xfl (hrun os h0) = 1 := by first | exact Or.inl (by decide) | exact Or.inl (by omega)) : XW R M E n (b + 1) bs' (hrun os h0) pc ls st := by
  subst e2
  exact xi_new hd hcl hs (by omega) (by rw [← xSM_N (by omega)]; exact kk) h0n (Or.inl hn)
theorem xo_newa {N : Nat} {v : Int32} {at9 : ArrayType} {ty : FieldType} (hd : decode M.2.1 pc = .ok (.newarray at9, 2)) (hw : Cond.arrayClass (newarray.typeOf at9) ∈ gtbl) (hty : newarray.typeOf at9 = ty) (ht : xar ty = true ∨ ty = .long) (hs : SH n = .inl (ty, N)) (hn : n < 99) (hv : Int32.ofNat N = v) (hN : N < 65536) (kk : XW R M E (n + 1) b bs (hrun (oN n :: os) h0) (pc + 2) ls (.ref n :: st)) (h0n : n ≠ 55 ∨ xfl (hrun os h0) = 1 := by first | exact Or.inl (by decide) | exact Or.inl (by omega)) : XW R M E n (b + 1) (bs + N) (hrun os h0) pc ls (.int v :: st) :=
  xi_newa hd hw hty ht hs (by omega) hv hN (by rw [← xSM_N (by omega)]; exact kk) h0n (Or.inl hn)
theorem xo_newq {N idx : Nat} {v : Int32} (hd : decode M.2.1 pc = .ok (.anewarray idx, 3)) (hw : Cond.classLink M.1.cls idx "java/lang/String" ∈ gtbl) (hs : SH n = .inl (.object "java/lang/String", N)) (hn : n < 99) (hv : Int32.ofNat N = v) (hN : N < 65536) (kk : XW R M E (n + 1) b bs (hrun (oN n :: os) h0) (pc + 3) ls (.ref n :: st)) (h0n : n ≠ 55 ∨ xfl (hrun os h0) = 1 := by first | exact Or.inl (by decide) | exact Or.inl (by omega)) : XW R M E n (b + 1) (bs + N) (hrun os h0) pc ls (.int v :: st) :=
  xi_newq hd hw hs (by omega) hv hN (by rw [← xSM_N (by omega)]; exact kk) h0n (Or.inl hn)
/-- the special row -/
theorem xo_newS {N : Nat} {v : Int32} (hd : decode M.2.1 pc = .ok (.newarray .long, 2)) (hw : Cond.arrayClass .long ∈ gtbl) (hs : SH 100 = .inl (.long, N)) (hf : xfl (hrun os h0) = 0) (hv : Int32.ofNat N = v) (hN : N < 65536) (kk : XW R M E 55 b bs (hrun (oN 100 :: os) h0) (pc + 2) ls (.ref 100 :: st)) : XW R M E 55 (b + 1) (bs + N) (hrun os h0) pc ls (.int v :: st) :=
  xi_newS hd hw hs hf hv hN (by rw [← xSM_S]; exact kk)
theorem xfl_run {os : List HO} {h : XH} (h1 : os.any (hnw 100) = true) (h2 : xI (hrun os (fun _ _ => 0, fun _ _ => 0, fun _ _ => none)) 100 0 = 1) : xfl (hrun os h) = 1 := by
  unfold xfl
  rw [(hrun_new h1 h (fun _ _ => 0, fun _ _ => 0, fun _ _ => none)).1, h2]
  rfl
theorem xfl_same {os : List HO} {h : XH} (ho : ∀ o ∈ os, hcel o ≠ 100) : xfl (hrun os h) = xfl h := by
  unfold xfl
  rw [(hrun_no ho).1]
theorem xo_putI {a ci idx k : Nat} {v : Int32} (hd : decode M.2.1 pc = .ok (.putfield idx, 3)) (hf : xF M.1.cls idx ci k false) (hs : SH a = .inr ci) (ha : a < n) (ht : xii (xfty ci k) = true) (hn : narrow (xfty ci k) (.int v) = .int v) (hfi : fits (xfty ci k) (.int v) = true) (kk : XW R M E n b bs (hrun (oI a k v :: os) h0) (pc + 3) ls st) : XW R M E n b bs (hrun os h0) pc ls (.int v :: .ref a :: st) := xi_putI hd hf hs ha ht hn hfi kk
theorem xo_putR {a ci idx k y : Nat} (hd : decode M.2.1 pc = .ok (.putfield idx, 3)) (hf : xF M.1.cls idx ci k false) (hs : SH a = .inr ci) (ha : a < n) (ht : xii (xfty ci k) = false) (kk : XW R M E n b bs (hrun (oP a k (some y) :: os) h0) (pc + 3) ls st) : XW R M E n b bs (hrun os h0) pc ls (.ref y :: .ref a :: st) := xi_putR hd hf hs ha ht kk
theorem xo_putF {a ci idx k y : Nat} (hd : decode M.2.1 pc = .ok (.putfield idx, 3)) (hf : xF M.1.cls idx ci k true) (hin2 : M.1.name = "<init>") (hcn : (vwCl.getD ci ("", TX0, 0)).1 = M.1.cls) (hs : SH a = .inr ci) (ha : a < n) (ht : xii (xfty ci k) = false) (kk : XW R M E n b bs (hrun (oP a k (some y) :: os) h0) (pc + 3) ls st) : XW R M E n b bs (hrun os h0) pc ls (.ref y :: .ref a :: st) := xi_putF hd hf hin2 hcn hs ha ht kk
theorem xo_iast {a N k : Nat} {j x : Int32} (hd : decode M.2.1 pc = .ok (.iastore, 1)) (hs : SH a = .inl (.int, N)) (ha : a < n) (hin : vp_in j N) (hj : j.toNatClampNeg = k) (kk : XW R M E n b bs (hrun (oI a k x :: os) h0) (pc + 1) ls st) : XW R M E n b bs (hrun os h0) pc ls (.int x :: .int j :: .ref a :: st) := by
  subst hj
  exact xi_iast hd hs ha hin kk
theorem xo_aast {a N y k : Nat} {j : Int32} (hd : decode M.2.1 pc = .ok (.aastore, 1)) (hs : SH a = .inl (.object "java/lang/String", N)) (ha : a < n) (hin : vp_in j N) (hj : j.toNatClampNeg = k) (hy : y < jsN) (kk : XW R M E n b bs (hrun (oP a k (some (1000 + y)) :: os) h0) (pc + 1) ls st) : XW R M E n b bs (hrun os h0) pc ls (.ref (1000 + y) :: .int j :: .ref a :: st) := by
  subst hj
  exact xi_aast hd hs ha hin hy kk
theorem xo_callI {n' d mc ms idx a k : Nat} {ps : List HO} {stk As : List Value} {y : XM} (hd : decode M.2.1 pc = .ok (.invokespecial idx, 3)) (hy : xIn M.1.cls idx y k) (hret : y.2.2.2.1 = none) (hk : As.length = k) (ha : a < n) (hst : stk = As.reverse ++ .ref a :: st) (hsp : XSpec y d mc ms n n' (.ref a :: As) (hrun os h0) (xq none (hrun ps (hrun os h0))) xno) (hR1 : d + 1 ≤ R.frames) (hR2 : 64 * d + y.2.2.1 + 19 ≤ R.locals) (hw : (st.map Value.category).sum ≤ 8) (hn : n < 100) (hn2 : n' = n + mc)
    (kk : XW R M E n' b bs (hrun (ps ++ os) h0) (pc + 3) ls st) : XW R M E n (b + mc) (bs + ms) (hrun os h0) pc ls stk := by
  refine xi_callI hd hy hret hk ha hst hsp hR1 hR2 hw (fun _ _ _ _ => ⟨hn, Or.inl hn2⟩) ?_
  rintro v h' ⟨rfl, rfl⟩
  rw [← hrun_app]
  exact kk
/-- .. with the special row -/
theorem xo_callIS {n' d mc ms idx a k : Nat} {ps : List HO} {stk As : List Value} {y : XM} (hd : decode M.2.1 pc = .ok (.invokespecial idx, 3)) (hy : xIn M.1.cls idx y k) (hret : y.2.2.2.1 = none) (hk : As.length = k) (ha : a < n) (hst : stk = As.reverse ++ .ref a :: st) (hsp : XSpec y d mc ms n n' (.ref a :: As) (hrun os h0) (xq none (hrun ps (hrun os h0))) xno) (hR1 : d + 1 ≤ R.frames) (hR2 : 64 * d + y.2.2.1 + 19 ≤ R.locals) (hw : (st.map Value.category).sum ≤ 8) (hn : n < 55) (hn2 : n' + 1 = n + mc) (hfs : xfl (hrun (ps ++ os) h0) = 1)
    (kk : XW R M E n' b bs (hrun (ps ++ os) h0) (pc + 3) ls st) : XW R M E n (b + mc) (bs + ms) (hrun os h0) pc ls stk := by
  refine xi_callI hd hy hret hk ha hst hsp hR1 hR2 hw (fun v h' q _ => ⟨by omega, Or.inr ⟨hn, hn2, Or.inr (by rw [q.2, ← hrun_app]; exact hfs)⟩⟩) ?_
  rintro v h' ⟨rfl, rfl⟩
  rw [← hrun_app]
  exact kk
end XOPS
