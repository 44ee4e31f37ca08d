/-! THE WALK'S ROWS FOR ARRAYS AND NEW CELLS -/
theorem x_tys {G : XG} {ty : FieldType} (ht : xar ty = true ∨ ty = .long ∨ ty = .object "java/lang/String") : (xtys G)[xtyi ty]? = some (gA G ty, ty) := by
  rcases ht with h | h | h
  · cases ty <;> first | rfl | cases h
  · subst h; rfl
  · subst h; rfl
section XM7
variable {R : Room} {M : XM} {E : XE} {n b bs : Nat} {h : XH} {pc : Nat} {ls : List (Option Value)} {st : List Value}
theorem xi_alen {a N : Nat} {ty : FieldType} {v : Int32} (hd : decode M.2.1 pc = .ok (.arraylength, 1)) (hs : SH a = .inl (ty, N)) (ha : xin n a) (hty : xar ty = true ∨ ty = .long ∨ ty = .object "java/lang/String") (hv : Int32.ofNat N = v) (kk : XW R M E n b bs h (pc + 1) ls (.int v :: st)) : XW R M E n b bs h pc ls (.ref a :: st) := by
  intro G p l e s m args below meth c C H locs L kc ks hR hS hl hz g1 g2
  have he := xr_get hR ha
  rw [xcell_a hs] at he
  have e9 : xv G (.ref a) = .ref (gB G + xta a) := congrArg Value.ref (xr_ad hR ha)
  rw [List.map_cons, e9]
  refine va_alen C.1 C.2.1 C.2.2.2.2.2.2.2.2.1.1 hR.1 (xta a) (xtyi ty) he (x_tys hty) (v := v) ?_ hd (kk G C H locs L kc ks hR hS hl hz g1 g2)
  rw [← hv]
  cases ty <;> rfl
theorem xi_iald {a N : Nat} {j : Int32} (hd : decode M.2.1 pc = .ok (.iaload, 1)) (hs : SH a = .inl (.int, N)) (ha : a < n) (hin : vp_in j N) (kk : XW R M E n b bs h (pc + 1) ls (.int (xI h a j.toNatClampNeg) :: st)) : XW R M E n b bs h pc ls (.int j :: .ref a :: st) := by
  intro G p l e s m args below meth c C H locs L kc ks hR hS hl hz g1 g2
  have he := xr_get hR (Or.inl ha)
  rw [xcell_a hs] at he
  have e9 : xv G (.ref a) = .ref (gB G + xta a) := congrArg Value.ref (xr_ad hR (Or.inl ha))
  rw [List.map_cons, List.map_cons, e9]
  exact va_iald (f := xI h a) C.1 C.2.1 C.2.2.2.2.2.2.2.2.1.1 hR.1 (xta a) (xtyi .int) he (x_tys (Or.inl rfl)) hin hd (kk G C H locs L kc ks hR hS hl hz g1 g2)
theorem xi_cald {a N : Nat} {j : Int32} (hd : decode M.2.1 pc = .ok (.caload, 1)) (hs : SH a = .inl (.char, N)) (ha : a < n) (hin : vp_in j N) (kk : XW R M E n b bs h (pc + 1) ls (.int (xI h a j.toNatClampNeg) :: st)) : XW R M E n b bs h pc ls (.int j :: .ref a :: st) := by
  intro G p l e s m args below meth c C H locs L kc ks hR hS hl hz g1 g2
  have he := xr_get hR (Or.inl ha)
  rw [xcell_a hs] at he
  have e9 : xv G (.ref a) = .ref (gB G + xta a) := congrArg Value.ref (xr_ad hR (Or.inl ha))
  rw [List.map_cons, List.map_cons, e9]
  exact va_cald (f := xI h a) C.1 C.2.1 C.2.2.2.2.2.2.2.2.1.1 hR.1 (xta a) (xtyi .char) he (x_tys (Or.inl rfl)) hin hd (kk G C H locs L kc ks hR hS hl hz g1 g2)
theorem xi_zald {a N : Nat} {j : Int32} (hd : decode M.2.1 pc = .ok (.baload, 1)) (hs : SH a = .inl (.boolean, N)) (ha : a < n) (hin : vp_in j N) (kk : XW R M E n b bs h (pc + 1) ls (.int (xI h a j.toNatClampNeg) :: st)) : XW R M E n b bs h pc ls (.int j :: .ref a :: st) := by
  intro G p l e s m args below meth c C H locs L kc ks hR hS hl hz g1 g2
  have he := xr_get hR (Or.inl ha)
  rw [xcell_a hs] at he
  have e9 : xv G (.ref a) = .ref (gB G + xta a) := congrArg Value.ref (xr_ad hR (Or.inl ha))
  rw [List.map_cons, List.map_cons, e9]
  exact va_zald (f := xI h a) C.1 C.2.1 C.2.2.2.2.2.2.2.2.1.1 hR.1 (xta a) (xtyi .boolean) he (x_tys (Or.inl rfl)) hin hd (kk G C H locs L kc ks hR hS hl hz g1 g2)
theorem xi_lald {a N : Nat} {j : Int32} (hd : decode M.2.1 pc = .ok (.laload, 1)) (hs : SH a = .inl (.long, N)) (ha : xin n a) (hin : vp_in j N) (kk : XW R M E n b bs h (pc + 1) ls (.long (xL h a j.toNatClampNeg) :: st)) : XW R M E n b bs h pc ls (.int j :: .ref a :: st) := by
  intro G p l e s m args below meth c C H locs L kc ks hR hS hl hz g1 g2
  have he := xr_get hR ha
  rw [xcell_a hs] at he
  have e9 : xv G (.ref a) = .ref (gB G + xta a) := congrArg Value.ref (xr_ad hR ha)
  rw [List.map_cons, List.map_cons, e9]
  exact va_lald (f := xL h a) C.1 C.2.1 C.2.2.2.2.2.2.2.2.1.1 hR.1 (xta a) 1 he rfl hin hd (kk G C H locs L kc ks hR hS hl hz g1 g2)
theorem xi_aald {a N y : Nat} {j : Int32} (hd : decode M.2.1 pc = .ok (.aaload, 1)) (hs : SH a = .inl (.object "java/lang/String", N)) (ha : a < n) (hin : vp_in j N) (hy : xP h a j.toNatClampNeg = some y) (kk : XW R M E n b bs h (pc + 1) ls (.ref y :: st)) : XW R M E n b bs h pc ls (.int j :: .ref a :: st) := by
  intro G p l e s m args below meth c C H locs L kc ks hR hS hl hz g1 g2
  have he := xr_get hR (Or.inl ha)
  rw [xcell_a hs] at he
  have e9 : xv G (.ref a) = .ref (gB G + xta a) := congrArg Value.ref (xr_ad hR (Or.inl ha))
  rw [List.map_cons, List.map_cons, e9]
  refine va_aldq (f := fun i => (xP h a i).map (xad G)) C.1 C.2.1 C.2.2.2.2.2.2.2.2.1.1 hR.1 (xta a) 4 he rfl hin hd ?_
  rw [hy]
  exact kk G C H locs L kc ks hR hS hl hz g1 g2
theorem xi_iast {a N : Nat} {j x : Int32} (hd : decode M.2.1 pc = .ok (.iastore, 1)) (hs : SH a = .inl (.int, N)) (ha : a < n) (hin : vp_in j N) (kk : XW R M E n b bs (xSI a (va_up (xI h a) j.toNatClampNeg x) h) (pc + 1) ls st) : XW R M E n b bs h pc ls (.int x :: .int j :: .ref a :: st) := by
  intro G p l e s m args below meth c C H locs L kc ks hR hS hl hz g1 g2
  have he := xr_get hR (Or.inl ha)
  rw [xcell_a hs] at he
  have e9 : xv G (.ref a) = .ref (gB G + xta a) := congrArg Value.ref (xr_ad hR (Or.inl ha))
  rw [List.map_cons, List.map_cons, List.map_cons, e9]
  refine va_iast (f := xI h a) C.1 C.2.1 C.2.2.2.2.2.2.2.2.1.1 hR.1 (xws_D G n h) hS (xta a) (xtyi .int) he (x_tys (Or.inl rfl)) hin hd (fun H1 locs1 hP1 hD1 hS1 => ?_)
  have e8 := xws_SI (G := G) (h := h) (f := va_up (xI h a) j.toNatClampNeg x) hR.2.1 hR.2.2.2 ha
  rw [xcell_a hs] at e8
  have e7 : xarr G (xSI a (va_up (xI h a) j.toNatClampNeg x) h) a N .int = (N, .inl (va_up (xI h a) j.toNatClampNeg x)) := by
    show (N, Sum.inl (va_up h.1 a _ a)) = _
    rw [va_up_eq]
  rw [e7] at e8
  exact kk G C H1 locs1 L kc ks (hR.si ha (by rw [← e8]; exact hP1)) hS1 hl (xz_si hR ha hz) g1 g2
theorem xi_cast {a N : Nat} {j x : Int32} (hd : decode M.2.1 pc = .ok (.castore, 1)) (hs : SH a = .inl (.char, N)) (ha : a < n) (hin : vp_in j N) (kk : XW R M E n b bs (xSI a (va_up (xI h a) j.toNatClampNeg (vp_nar .char x)) h) (pc + 1) ls st) : XW R M E n b bs h pc ls (.int x :: .int j :: .ref a :: st) := by
  intro G p l e s m args below meth c C H locs L kc ks hR hS hl hz g1 g2
  have he := xr_get hR (Or.inl ha)
  rw [xcell_a hs] at he
  have e9 : xv G (.ref a) = .ref (gB G + xta a) := congrArg Value.ref (xr_ad hR (Or.inl ha))
  rw [List.map_cons, List.map_cons, List.map_cons, e9]
  refine va_cast (f := xI h a) C.1 C.2.1 C.2.2.2.2.2.2.2.2.1.1 hR.1 (xws_D G n h) hS (xta a) (xtyi .char) he (x_tys (Or.inl rfl)) hin hd (fun H1 locs1 hP1 hD1 hS1 => ?_)
  have e8 := xws_SI (G := G) (h := h) (f := va_up (xI h a) j.toNatClampNeg (vp_nar .char x)) hR.2.1 hR.2.2.2 ha
  rw [xcell_a hs] at e8
  have e7 : xarr G (xSI a (va_up (xI h a) j.toNatClampNeg (vp_nar .char x)) h) a N .char = (N, .inl (va_up (xI h a) j.toNatClampNeg (vp_nar .char x))) := by
    show (N, Sum.inl (va_up h.1 a _ a)) = _
    rw [va_up_eq]
  rw [e7] at e8
  exact kk G C H1 locs1 L kc ks (hR.si ha (by rw [← e8]; exact hP1)) hS1 hl (xz_si hR ha hz) g1 g2
theorem xi_zast {a N : Nat} {j x : Int32} (hd : decode M.2.1 pc = .ok (.bastore, 1)) (hs : SH a = .inl (.boolean, N)) (ha : a < n) (hin : vp_in j N) (kk : XW R M E n b bs (xSI a (va_up (xI h a) j.toNatClampNeg (vp_nar .boolean x)) h) (pc + 1) ls st) : XW R M E n b bs h pc ls (.int x :: .int j :: .ref a :: st) := by
  intro G p l e s m args below meth c C H locs L kc ks hR hS hl hz g1 g2
  have he := xr_get hR (Or.inl ha)
  rw [xcell_a hs] at he
  have e9 : xv G (.ref a) = .ref (gB G + xta a) := congrArg Value.ref (xr_ad hR (Or.inl ha))
  rw [List.map_cons, List.map_cons, List.map_cons, e9]
  refine va_zast (f := xI h a) C.1 C.2.1 C.2.2.2.2.2.2.2.2.1.1 hR.1 (xws_D G n h) hS (xta a) (xtyi .boolean) he (x_tys (Or.inl rfl)) hin hd (fun H1 locs1 hP1 hD1 hS1 => ?_)
  have e8 := xws_SI (G := G) (h := h) (f := va_up (xI h a) j.toNatClampNeg (vp_nar .boolean x)) hR.2.1 hR.2.2.2 ha
  rw [xcell_a hs] at e8
  have e7 : xarr G (xSI a (va_up (xI h a) j.toNatClampNeg (vp_nar .boolean x)) h) a N .boolean = (N, .inl (va_up (xI h a) j.toNatClampNeg (vp_nar .boolean x))) := by
    show (N, Sum.inl (va_up h.1 a _ a)) = _
    rw [va_up_eq]
  rw [e7] at e8
  exact kk G C H1 locs1 L kc ks (hR.si ha (by rw [← e8]; exact hP1)) hS1 hl (xz_si hR ha hz) g1 g2
theorem xi_last {a N : Nat} {j : Int32} {x : Int64} (hd : decode M.2.1 pc = .ok (.lastore, 1)) (hs : SH a = .inl (.long, N)) (ha : xin n a) (hin : vp_in j N) (kk : XW R M E n b bs (xSL a (va_up (xL h a) j.toNatClampNeg x) h) (pc + 1) ls st) (hE : N ≠ 1 ∨ ∀ (G : XG) (below : List Frame) (args : Array Value) (s t : State), gO G ≠ none → E G below args s t := by first | exact Or.inl (by decide) | exact Or.inl (by omega) | exact Or.inr (fun _ _ _ _ _ q p => absurd p q)) : XW R M E n b bs h pc ls (.long x :: .int j :: .ref a :: st) := by
  intro G p l e s m args below meth c C H locs L kc ks hR hS hl hz g1 g2
  have hgh : (∀ o, gO G = some o → xL (xSL a (va_up (xL h a) j.toNatClampNeg x) h) 99 0 = o) ∨ ∀ t, E G below args s t := by
    rcases hE with q | q
    · refine Or.inl fun o ho => ?_
      have ne : (99 : Nat) ≠ a := fun z => by
        rw [← z] at hs
        have e9 : SH 99 = .inl (.long, 1) := rfl
        rw [e9] at hs
        have e8 : (1 : Nat) = N := congrArg Prod.snd (Sum.inl.inj hs)
        exact q e8.symm
      exact (congrFun (va_up_of h.2.1 _ ne) 0).trans (hR.2.2.1 o ho)
    · by_cases g : gO G = none
      · exact Or.inl fun o ho => by rw [g] at ho; cases ho
      · exact Or.inr fun t => q G below args s t g
  rcases hgh with hgh | hgh
  rotate_left
  · exact fun T hT X => ⟨_, Steps.refl _, hgh _⟩
  have he := xr_get hR ha
  rw [xcell_a hs] at he
  have e9 : xv G (.ref a) = .ref (gB G + xta a) := congrArg Value.ref (xr_ad hR ha)
  rw [List.map_cons, List.map_cons, List.map_cons, e9]
  refine va_last (f := xL h a) C.1 C.2.1 C.2.2.2.2.2.2.2.2.1.1 hR.1 (xws_D G n h) hS (xta a) 1 he rfl hin hd (fun H1 locs1 hP1 hD1 hS1 => ?_)
  have e8 := xws_SL (G := G) (h := h) (f := va_up (xL h a) j.toNatClampNeg x) hR.2.1 hR.2.2.2 ha
  rw [xcell_a hs] at e8
  have e7 : xarr G (xSL a (va_up (xL h a) j.toNatClampNeg x) h) a N .long = (N, .inr (.inl (va_up (xL h a) j.toNatClampNeg x))) := by
    show (N, Sum.inr (Sum.inl (va_up h.2.1 a _ a))) = _
    rw [va_up_eq]
  rw [e7] at e8
  exact kk G C H1 locs1 L kc ks ⟨by rw [← e8]; exact hP1, hR.2.1, hgh, hR.2.2.2⟩ hS1 hl hz g1 g2
/-- a String constant into an array of texts -/
theorem xi_aast {a N y : Nat} {j : Int32} (hd : decode M.2.1 pc = .ok (.aastore, 1)) (hs : SH a = .inl (.object "java/lang/String", N)) (ha : a < n) (hin : vp_in j N) (hy : y < jsN) (kk : XW R M E n b bs (xSP a (va_up (xP h a) j.toNatClampNeg (some (1000 + y))) h) (pc + 1) ls st) : XW R M E n b bs h pc ls (.ref (1000 + y) :: .int j :: .ref a :: st) := by
  intro G p l e s m args below meth c C H locs L kc ks hR hS hl hz g1 g2
  have he := xr_get hR (Or.inl ha)
  rw [xcell_a hs] at he
  have e9 : xv G (.ref a) = .ref (gB G + xta a) := congrArg Value.ref (xr_ad hR (Or.inl ha))
  have hyy : y < 49 := hy
  have ek : xad G (1000 + y) = gK G y := by
    unfold xad
    rw [if_neg (by omega), if_pos (by omega), Nat.add_sub_cancel_left]
  have e6 : xv G (.ref (1000 + y)) = .ref (gK G y) := congrArg Value.ref ek
  rw [List.map_cons, List.map_cons, List.map_cons, e9, e6]
  have hA := C.2.2.2.2.2.2.2.2.2.1
  obtain ⟨cell, h1, h2, h3, h4⟩ := ((hA.1 y hy).1.kept hS.2.1)
  have hAny : va_Any "java/lang/String" s H (gK G y) := by
    refine ⟨cell, h1, h2, ?_, fun comp hc => ?_⟩
    · obtain ⟨k9, h9, -⟩ := Vm.findClass_spec h3
      exact ⟨k9, h9⟩
    · rw [h3] at hc
      cases hc
      exact va_asg _ _
  refine va_astqM (f := fun i => (xP h a i).map (xad G)) C.1 C.2.1 C.2.2.2.2.2.2.2.2.1.1 hR.1 (xws_D G n h) hS (xta a) 4 he rfl hAny hin hd (fun H1 locs1 hP1 hD1 hS1 => ?_)
  have e8 := xws_SP (G := G) (h := h) (f := va_up (xP h a) j.toNatClampNeg (some (1000 + y))) hR.2.1 hR.2.2.2 ha
  rw [xcell_a hs] at e8
  have e7 : xarr G (xSP a (va_up (xP h a) j.toNatClampNeg (some (1000 + y))) h) a N (.object "java/lang/String") = (N, .inr (.inr (.inr (.inr (va_up (fun i => (xP h a i).map (xad G)) j.toNatClampNeg (some (gK G y))))))) := by
    have : (fun i => (xP (xSP a (va_up (xP h a) j.toNatClampNeg (some (1000 + y))) h) a i).map (xad G)) = va_up (fun i => (xP h a i).map (xad G)) j.toNatClampNeg (some (gK G y)) := by
      funext i
      show (va_up h.2.2 a _ a i).map (xad G) = _
      rw [va_up_eq]
      unfold va_up
      by_cases q : i = j.toNatClampNeg
      · rw [if_pos q, if_pos q, Option.map_some, ek]
      · rw [if_neg q, if_neg q]
    show (N, Sum.inr (Sum.inr (Sum.inr (Sum.inr _)))) = _
    rw [this]
  rw [e7] at e8
  exact kk G C H1 locs1 L kc ks (hR.sp (by rw [← e8]; exact hP1)) hS1 hl hz g1 g2
theorem x_size {G : XG} {s : State} {H : Heap} {locs : List Loc} (hR : XR G n h H) (hS : va_S (xaf G) s.heap H locs) (hb : gB G ≤ s.heap.size) : gB G + (n + xfl h) ≤ H.size := by
  by_cases z : n + xfl h = 0
  · rw [z]; exact Nat.le_trans hb hS.1
  · have q : gB G + (n + xfl h - 1) < H.size := (hR.1 _ _ (xws_ix (show n + xfl h - 1 < n + xfl h by omega))).lt
    omega
theorem xfc_SN {h : XH} {n : Nat} (hn : n < 100) (hf : xfc n h) (h0 : n ≠ 55 ∨ xfl h = 1) : xfc (n + 1) (xSN n h) := by
  have e := xfl_SN (h := h) (n := n) (by omega)
  unfold xfc at *
  rw [e]
  omega
def xok (ty : FieldType) : Bool := match ty with
  | .int | .boolean | .char | .object _ | .array _ => true
  | _ => false
theorem x_tyok : ∀ ci, ci < 12 → ∀ k, k < xnf ci → xok (xfty ci k) = true := by decide +kernel
def xN (own : String) (idx ci : Nat) : Prop := ∃ (C : String) (T : u_T) (N : Nat), vwCl[ci]? = some (C, T, N) ∧ Cond.classLink own idx C ∈ gtbl ∧ Cond.instantiable C N ∈ gtbl ∧ Cond.initialized C ∈ gtbl
theorem xi_new {ci idx : Nat} (hd : decode M.2.1 pc = .ok (.new idx, 3)) (hcl : xN M.1.cls idx ci) (hs : SH n = .inr ci) (hn : n < 100) (kk : XW R M E (n + 1) b bs (xSN n h) (pc + 3) ls (.ref n :: st)) (h0 : n ≠ 55 ∨ xfl h = 1 := by first | exact Or.inl (by decide) | exact Or.inl (by omega)) (hE : n < 99 ∨ ∀ (G : XG) (below : List Frame) (args : Array Value) (s t : State), gO G ≠ none → E G below args s t := by first | exact Or.inl (by decide) | exact Or.inl (by omega) | exact Or.inr (fun _ _ _ _ _ q p => absurd p q)) : XW R M E n (b + 1) (bs + xnf ci) h pc ls st := by
  intro G p l e s m args below meth c C H locs L kc ks hR hS hl hz g1 g2 T hT X
  have hgh : (∀ o, gO G = some o → xL (xSN n h) 99 0 = o) ∨ ∀ t, E G below args s t := by
    rcases hE with q | q
    · refine Or.inl fun o ho => ?_
      exact (congrFun (va_up_of h.2.1 _ (show (99 : Nat) ≠ n by omega)) 0).trans (hR.2.2.1 o ho)
    · by_cases g : gO G = none
      · exact Or.inl fun o ho => by rw [g] at ho; cases ho
      · exact Or.inr fun t => q G below args s t g
  rcases hgh with hgh | hgh
  rotate_left
  · exact ⟨_, Steps.refl _, hgh _⟩
  obtain ⟨C0, T0, N, hc, hw1, hw2, hw3⟩ := hcl
  obtain ⟨hN, hin, hty, hnm⟩ := x_cls hc
  have hlt : ci < 12 := (List.getElem?_eq_some_iff.mp hc).1
  have hsz : H.size = gB G + (n + xfl h) := by
    have h1 := X.heapSize
    rw [hT] at h1
    have h2 := hz hn
    have h3 := x_size hR hS C.2.2.2.2.2.2.2.2.2.2.1
    omega
  have hKn := C.2.2.2.2.2.2.2.2.1.1.1 ci _ hc
  refine (W.newcK (g := F0 m pc L (st.map (xv G))) C.1 C.2.1 C.2.2.2.2.1 (C.2.2.2.2.2.1 _ hw1) (C.2.2.2.2.2.1 _ hw2) (C.2.2.2.2.2.1 _ hw3) rfl hd (by omega) (by rw [hN]; omega) hKn.2.1 hsz fun H1 kC hkC e1 z1 o1 => ?_) T hT X
  have hk : ∀ (k : Nat) (x : Nat × va_E), (xws G n h)[k]? = some x → H1[x.1]? = H[x.1]? := fun k x hx => o1 x.1 (by rw [← hsz]; exact (hR.1 k x hx).lt)
  have hP1 : va_P (gD G) vwCl (xws G (n + 1) (xSN n h)) H1 := by
    rw [xws_SN hn hR.2.2.2 h0, xcell_o hs]
    refine (hR.1.kept hk).app (fun k x hx => ?_)
    have hz1 : k < 1 := (List.getElem?_eq_some_iff.mp hx).1
    rw [show k = 0 by omega] at hx
    cases hx
    refine ⟨_, hc, (u_born (xfty ci) C.2.2.2.2.2.1 hin hKn hkC e1 hty).to (fun j hj => ?_)⟩
    have hj' : j < xnf ci := hN ▸ hj
    have ho := x_tyok ci hlt j hj'
    show _ = (xobj G (xSN n h) n ci).getD j .null
    rw [List.getD_eq_getElem?_getD, xobj_get hj', Option.getD_some]
    cases ht : xfty ci j <;> first | (rw [ht] at ho; cases ho; done) | simp [xfv, xI, xP, xSN, va_up, defaultValue, va_rf]
  have hS1 : va_S (xaf G) s.heap H1 locs := ⟨Nat.le_trans hS.1 (by omega), fun x q1 q2 => (o1 x (by have := hS.1; omega)).trans (hS.2.1 x q1 q2), hS.2.2⟩
  have e9 : xv G (.ref n) = .ref (gB G + (n + xfl h)) := congrArg Value.ref ((xad_own (by omega)).trans (by rw [xta_n hn hR.2.2.2 h0]))
  have k9 := kk G (e := e) (below := below) C H1 locs L (kc + 1) (ks + xnf ci) ⟨hP1, by omega, hgh, xfc_SN hn hR.2.2.2 h0⟩ hS1 hl (fun q => by have := hz hn; rw [xfl_SN (by omega)]; omega) (by omega) (by omega)
  rw [List.map_cons, e9, ← hN] at k9
  exact k9
theorem xi_newa {N : Nat} {v : Int32} {at9 : ArrayType} {ty : FieldType} (hd : decode M.2.1 pc = .ok (.newarray at9, 2)) (hw : Cond.arrayClass (newarray.typeOf at9) ∈ gtbl) (hty : newarray.typeOf at9 = ty) (ht : xar ty = true ∨ ty = .long) (hs : SH n = .inl (ty, N)) (hn : n < 100) (hv : Int32.ofNat N = v) (hN : N < 65536) (kk : XW R M E (n + 1) b bs (xSN n h) (pc + 2) ls (.ref n :: st)) (h0 : n ≠ 55 ∨ xfl h = 1 := by first | exact Or.inl (by decide) | exact Or.inl (by omega)) (hE : n < 99 ∨ ∀ (G : XG) (below : List Frame) (args : Array Value) (s t : State), gO G ≠ none → E G below args s t := by first | exact Or.inl (by decide) | exact Or.inl (by omega) | exact Or.inr (fun _ _ _ _ _ q p => absurd p q)) : XW R M E n (b + 1) (bs + N) h pc ls (.int v :: st) := by
  intro G p l e s m args below meth c C H locs L kc ks hR hS hl hz g1 g2 T hT X
  have hgh : (∀ o, gO G = some o → xL (xSN n h) 99 0 = o) ∨ ∀ t, E G below args s t := by
    rcases hE with q | q
    · refine Or.inl fun o ho => ?_
      exact (congrFun (va_up_of h.2.1 _ (show (99 : Nat) ≠ n by omega)) 0).trans (hR.2.2.1 o ho)
    · by_cases g : gO G = none
      · exact Or.inl fun o ho => by rw [g] at ho; cases ho
      · exact Or.inr fun t => q G below args s t g
  rcases hgh with hgh | hgh
  rotate_left
  · exact ⟨_, Steps.refl _, hgh _⟩
  subst hty
  subst hv
  have hsz : H.size = gB G + (n + xfl h) := by
    have h1 := X.heapSize
    rw [hT] at h1
    have h2 := hz hn
    have h3 := x_size hR hS C.2.2.2.2.2.2.2.2.2.2.1
    omega
  have hby : N * componentBytes (newarray.typeOf at9) ≤ 536870912 := by
    have : componentBytes (newarray.typeOf at9) ≤ 8 := by cases at9 <;> decide
    have := Nat.mul_le_mul (Nat.le_of_lt hN) this
    omega
  have hneg : ¬ Int32.ofNat N < 0 := nI_pos (n := N) (by omega)
  have hcl : (Int32.ofNat N).toNatClampNeg = N := nI_clamp (by omega)
  refine (va_newaK (g := F0 m pc L ((Value.int (Int32.ofNat N) :: st).map (xv G))) C.1 C.2.1 (C.2.2.2.2.2.1 _ hw) rfl hd rfl hneg hcl hby (by omega) (by omega) hsz fun H1 cA e1 z1 o1 hAr hNm => ?_) T hT X
  have hxk := (C.2.2.2.2.2.2.2.2.1.1.2 (xtyi (newarray.typeOf at9)) _ (x_tys (by rcases ht with q | q; exact Or.inl q; exact Or.inr (Or.inl q)))).2
  have hcA : gA G (newarray.typeOf at9) = cA := by
    have q1 : s.vm.findClass ("[" ++ (newarray.typeOf at9).toString) = some (gA G (newarray.typeOf at9)) := by
      cases at9 <;> exact hxk
    exact Option.some.inj (q1.symm.trans hNm)
  have hk : ∀ (k : Nat) (x : Nat × va_E), (xws G n h)[k]? = some x → H1[x.1]? = H[x.1]? := fun k x hx => o1 x.1 (by rw [← hsz]; exact (hR.1 k x hx).lt)
  have hP1 : va_P (gD G) vwCl (xws G (n + 1) (xSN n h)) H1 := by
    rw [xws_SN hn hR.2.2.2 h0, xcell_a hs]
    refine (hR.1.kept hk).app (fun k x hx => ?_)
    have hz1 : k < 1 := (List.getElem?_eq_some_iff.mp hx).1
    rw [show k = 0 by omega] at hx
    cases hx
    show H1[gB G + (n + xfl h)]? = some (vp_cell _ _)
    rw [e1, hcA]
    rcases ht with q | q
    · rw [xarr_i q]
      show _ = some (arrV cA N (fun j => .int (va_up h.1 n (fun _ => 0) n j)))
      rw [va_up_eq]
      cases at9 <;> first | (cases q; done) | rfl
    · rw [q]
      show _ = some (arrV cA N (fun j => .long (va_up h.2.1 n (fun _ => 0) n j)))
      rw [va_up_eq]
      rfl
  have hS1 : va_S (xaf G) s.heap H1 locs := ⟨Nat.le_trans hS.1 (by omega), fun x q1 q2 => (o1 x (by have := hS.1; omega)).trans (hS.2.1 x q1 q2), hS.2.2⟩
  have e9 : xv G (.ref n) = .ref (gB G + (n + xfl h)) := congrArg Value.ref ((xad_own (by omega)).trans (by rw [xta_n hn hR.2.2.2 h0]))
  have k9 := kk G (e := e) (below := below) C H1 locs L (kc + 1) (ks + N) ⟨hP1, by omega, hgh, xfc_SN hn hR.2.2.2 h0⟩ hS1 hl (fun q => by have := hz hn; rw [xfl_SN (by omega)]; omega) (by omega) (by omega)
  rw [List.map_cons, e9] at k9
  exact k9
/-- the special row of longs, behind 55 cells -/
theorem xi_newS {N : Nat} {v : Int32} (hd : decode M.2.1 pc = .ok (.newarray .long, 2)) (hw : Cond.arrayClass (newarray.typeOf .long) ∈ gtbl) (hs : SH 100 = .inl (.long, N)) (h0 : xfl h = 0) (hv : Int32.ofNat N = v) (hN : N < 65536) (kk : XW R M E 55 b bs (xSW h) (pc + 2) ls (.ref 100 :: st)) : XW R M E 55 (b + 1) (bs + N) h pc ls (.int v :: st) := by
  intro G p l e s m args below meth c C H locs L kc ks hR hS hl hz g1 g2 T hT X
  have hgh : ∀ o, gO G = some o → xL (xSW h) 99 0 = o := fun o ho => (congrFun (va_up_of h.2.1 (fun _ => (0 : Int64)) (show (99 : Nat) ≠ 100 by omega)) 0).trans (hR.2.2.1 o ho)
  subst hv
  have hsz : H.size = gB G + 55 := by
    have h1 := X.heapSize
    rw [hT] at h1
    have h2 := hz (by decide)
    have h3 := x_size hR hS C.2.2.2.2.2.2.2.2.2.2.1
    omega
  have hby : N * componentBytes (newarray.typeOf .long) ≤ 536870912 := by
    have : componentBytes (newarray.typeOf .long) ≤ 8 := by decide
    have := Nat.mul_le_mul (Nat.le_of_lt hN) this
    omega
  have hneg : ¬ Int32.ofNat N < 0 := nI_pos (n := N) (by omega)
  have hcl : (Int32.ofNat N).toNatClampNeg = N := nI_clamp (by omega)
  refine (va_newaK (g := F0 m pc L ((Value.int (Int32.ofNat N) :: st).map (xv G))) C.1 C.2.1 (C.2.2.2.2.2.1 _ hw) rfl hd rfl hneg hcl hby (by omega) (by omega) hsz fun H1 cA e1 z1 o1 hAr hNm => ?_) T hT X
  have hxk := (C.2.2.2.2.2.2.2.2.1.1.2 (xtyi .long) _ (x_tys (Or.inr (Or.inl rfl)))).2
  have hcA : gA G .long = cA := by
    have q1 : s.vm.findClass ("[" ++ FieldType.long.toString) = some (gA G .long) := hxk
    exact Option.some.inj (q1.symm.trans hNm)
  have hk : ∀ (k : Nat) (x : Nat × va_E), (xws G 55 h)[k]? = some x → H1[x.1]? = H[x.1]? := fun k x hx => o1 x.1 (by rw [← hsz]; exact (hR.1 k x hx).lt)
  have hP1 : va_P (gD G) vwCl (xws G 55 (xSW h)) H1 := by
    rw [xws_SW h0, xcell_a hs]
    refine (hR.1.kept hk).app (fun k x hx => ?_)
    have hz1 : k < 1 := (List.getElem?_eq_some_iff.mp hx).1
    rw [show k = 0 by omega] at hx
    cases hx
    show H1[gB G + 55]? = some (vp_cell _ _)
    rw [e1, hcA]
    show _ = some (arrV cA N (fun j => .long (va_up h.2.1 100 (fun _ => 0) 100 j)))
    rw [va_up_eq]
    rfl
  have hS1 : va_S (xaf G) s.heap H1 locs := ⟨Nat.le_trans hS.1 (by omega), fun x q1 q2 => (o1 x (by have := hS.1; omega)).trans (hS.2.1 x q1 q2), hS.2.2⟩
  have e9 : xv G (.ref 100) = .ref (gB G + 55) := congrArg Value.ref (xad_own (by omega))
  have k9 := kk G (e := e) (below := below) C H1 locs L (kc + 1) (ks + N) ⟨hP1, by omega, hgh, Or.inr ⟨xfl_SW, Nat.le_refl _⟩⟩ hS1 hl (fun q => by have := hz (by decide); rw [xfl_SW]; omega) (by omega) (by omega)
  rw [List.map_cons, e9] at k9
  exact k9
theorem xi_newq {N idx : Nat} {v : Int32} (hd : decode M.2.1 pc = .ok (.anewarray idx, 3)) (hw : Cond.classLink M.1.cls idx "java/lang/String" ∈ gtbl) (hs : SH n = .inl (.object "java/lang/String", N)) (hn : n < 100) (hv : Int32.ofNat N = v) (hN : N < 65536) (kk : XW R M E (n + 1) b bs (xSN n h) (pc + 3) ls (.ref n :: st)) (h0 : n ≠ 55 ∨ xfl h = 1 := by first | exact Or.inl (by decide) | exact Or.inl (by omega)) (hE : n < 99 ∨ ∀ (G : XG) (below : List Frame) (args : Array Value) (s t : State), gO G ≠ none → E G below args s t := by first | exact Or.inl (by decide) | exact Or.inl (by omega) | exact Or.inr (fun _ _ _ _ _ q p => absurd p q)) : XW R M E n (b + 1) (bs + N) h pc ls (.int v :: st) := by
  intro G p l e s m args below meth c C H locs L kc ks hR hS hl hz g1 g2 T hT X
  have hgh : (∀ o, gO G = some o → xL (xSN n h) 99 0 = o) ∨ ∀ t, E G below args s t := by
    rcases hE with q | q
    · refine Or.inl fun o ho => ?_
      exact (congrFun (va_up_of h.2.1 _ (show (99 : Nat) ≠ n by omega)) 0).trans (hR.2.2.1 o ho)
    · by_cases g : gO G = none
      · exact Or.inl fun o ho => by rw [g] at ho; cases ho
      · exact Or.inr fun t => q G below args s t g
  rcases hgh with hgh | hgh
  rotate_left
  · exact ⟨_, Steps.refl _, hgh _⟩
  subst hv
  have hsz : H.size = gB G + (n + xfl h) := by
    have h1 := X.heapSize
    rw [hT] at h1
    have h2 := hz hn
    have h3 := x_size hR hS C.2.2.2.2.2.2.2.2.2.2.1
    omega
  have hneg : ¬ Int32.ofNat N < 0 := nI_pos (n := N) (by omega)
  have hcl : (Int32.ofNat N).toNatClampNeg = N := nI_clamp (by omega)
  refine (W.anew (C := "java/lang/String") (g := F0 m pc L ((Value.int (Int32.ofNat N) :: st).map (xv G))) C.1 C.2.1 C.2.2.2.2.1 (C.2.2.2.2.2.1 _ hw) (va_AO.use C.2.2.2.2.2.2.2.2.1.2.2.2.2.2) rfl hd rfl hneg (by rw [hcl]; omega) (by omega) (by rw [hcl]; omega) fun cA kA comp f1 f2 f3 f4 => ?_) T hT X
  obtain ⟨kA', comp', -, -, -, hxk⟩ := (C.2.2.2.2.2.2.2.2.1.1.2 4 _ rfl).2
  have hcA : gA G (.object "java/lang/String") = cA := Option.some.inj (hxk.symm.trans f1)
  rw [hcl]
  generalize hH1 : H.push ({ cls := cA, slots := Array.replicate N .null, vm := .none } : Cell) = H1
  have z1 : H1.size = H.size + 1 := by rw [← hH1, Array.size_push]
  have e1 : H1[H.size]? = some (arrV cA N (fun _ => .null)) := by rw [← hH1, Array.getElem?_push_size, ← arrV_new]
  have o1 : ∀ q : Nat, q < H.size → H1[q]? = H[q]? := fun q hq => by rw [← hH1, Array.getElem?_push, if_neg (Nat.ne_of_lt hq)]
  have hk : ∀ (k : Nat) (x : Nat × va_E), (xws G n h)[k]? = some x → H1[x.1]? = H[x.1]? := fun k x hx => o1 x.1 (hR.1 k x hx).lt
  have hP1 : va_P (gD G) vwCl (xws G (n + 1) (xSN n h)) H1 := by
    rw [xws_SN hn hR.2.2.2 h0, xcell_a hs]
    refine (hR.1.kept hk).app (fun k x hx => ?_)
    have hz1 : k < 1 := (List.getElem?_eq_some_iff.mp hx).1
    rw [show k = 0 by omega] at hx
    cases hx
    show H1[gB G + (n + xfl h)]? = some (vp_cell _ _)
    rw [← hsz, e1, hcA]
    show _ = some (arrV cA N (fun j => va_rf ((va_up h.2.2 n (fun _ => none) n j).map (xad G))))
    rw [va_up_eq]
    rfl
  have hS1 : va_S (xaf G) s.heap H1 locs := ⟨Nat.le_trans hS.1 (by omega), fun x q1 q2 => (o1 x (by have := hS.1; omega)).trans (hS.2.1 x q1 q2), hS.2.2⟩
  have e9 : xv G (.ref n) = .ref H.size := by rw [hsz]; exact congrArg Value.ref ((xad_own (by omega)).trans (by rw [xta_n hn hR.2.2.2 h0]))
  have k9 := kk G (e := e) (below := below) C H1 locs L (kc + 1) (ks + N) ⟨hP1, by omega, hgh, xfc_SN hn hR.2.2.2 h0⟩ hS1 hl (fun q => by have := hz hn; rw [xfl_SN (by omega)]; omega) (by omega) (by omega)
  rw [List.map_cons, e9] at k9
  exact k9
end XM7
