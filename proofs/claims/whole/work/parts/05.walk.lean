/-! the String constants, by their places -/
def jsN : Nat := 49
def jsTab : List (String × Nat × String) := [("SnakeBoard$Reader", 83, ";()+-*/<="), ("SnakeBoard$Reader", 50, "last"), ("SnakeBoard$Reader", 144, "exit"), ("SnakeBoard$Reader", 146, "die"), ("SnakeBoard$Reader", 148, "end"), ("SnakeBoard$Reader", 149, "again"), ("SnakeBoard$Reader", 151, "meet"), ("SnakeBoard$Reader", 152, "pieces"), ("SnakeBoard$Reader", 154, "goes"), ("SnakeBoard$Reader", 172, "stay"), ("SnakeBoard$Reader", 175, "back"), ("SnakeBoard$Reader", 177, "in"), ("SnakeBoard$Reader", 216, "not"), ("SnakeBoard$Reader", 233, "throw"), ("SnakeBoard$Reader", 235, "at"), ("SnakeBoard$Reader", 237, "exits"), ("SnakeBoard$Reader", 214, "and"), ("SnakeBoard$Reader", 205, "or"), ("SnakeBoard$Writer", 43, "last"), ("SnakeBoard$Writer", 53, "die"), ("SnakeBoard$Writer", 62, "exit"), ("SnakeBoard$Writer", 67, ""), ("SnakeBoard$Writer", 106, "end stay;"), ("SnakeBoard$Writer", 108, "end back;"), ("SnakeBoard$Writer", 110, "end in;"), ("SnakeBoard$Writer", 82, "again"), ("SnakeBoard$Writer", 87, "meet;"), ("SnakeBoard$Writer", 89, "pieces"), ("SnakeBoard$Writer", 112, "goes "), ("SnakeBoardModel", 9, "stay"), ("SnakeBoardModel", 11, "back"), ("SnakeBoardModel", 13, "in"), ("SnakeBoardModel", 21, "throw"), ("SnakeBoardModel", 23, "at"), ("SnakeBoardModel", 25, "last"), ("SnakeBoardModel", 27, "exits"), ("SnakeBoardModel", 289, "die"), ("SnakeBoardModel", 290, "end"), ("SnakeBoardModel", 292, "again"), ("SnakeBoardModel", 294, "meet"), ("SnakeBoardModel", 296, "pieces"), ("SnakeBoardModel", 298, "goes"), ("SnakeBoardModel", 300, "exit"), ("SnakeBoardModel", 264, "not"), ("SnakeBoardModel", 272, "and"), ("SnakeBoardModel", 277, "or"), ("SnakeBoardModel", 499, "end "), ("SnakeBoardModel", 501, "meet;"), ("SnakeBoardModel", 503, "goes ")]
def jsB : List (List Int32) := [[59, 40, 41, 43, 45, 42, 47, 60, 61], [108, 97, 115, 116], [101, 120, 105, 116], [100, 105, 101], [101, 110, 100], [97, 103, 97, 105, 110], [109, 101, 101, 116], [112, 105, 101, 99, 101, 115], [103, 111, 101, 115], [115, 116, 97, 121], [98, 97, 99, 107], [105, 110], [110, 111, 116], [116, 104, 114, 111, 119], [97, 116], [101, 120, 105, 116, 115], [97, 110, 100], [111, 114], [108, 97, 115, 116], [100, 105, 101], [101, 120, 105, 116], [], [101, 110, 100, 32, 115, 116, 97, 121, 59], [101, 110, 100, 32, 98, 97, 99, 107, 59], [101, 110, 100, 32, 105, 110, 59], [97, 103, 97, 105, 110], [109, 101, 101, 116, 59], [112, 105, 101, 99, 101, 115], [103, 111, 101, 115, 32], [115, 116, 97, 121], [98, 97, 99, 107], [105, 110], [116, 104, 114, 111, 119], [97, 116], [108, 97, 115, 116], [101, 120, 105, 116, 115], [100, 105, 101], [101, 110, 100], [97, 103, 97, 105, 110], [109, 101, 101, 116], [112, 105, 101, 99, 101, 115], [103, 111, 101, 115], [101, 120, 105, 116], [110, 111, 116], [97, 110, 100], [111, 114], [101, 110, 100, 32], [109, 101, 101, 116, 59], [103, 111, 101, 115, 32]]
def jsL (i : Nat) : Nat := (jsB.getD i []).length
def jsC (i j : Nat) : Int32 := (jsB.getD i []).getD j 0
/-! THE ABSTRACT WALK: a state of one of our methods over the abstract heap -/
def xtys (G : XG) : List (ClassId × FieldType) := [(gA G .int, .int), (gA G .long, .long), (gA G .char, .char), (gA G .boolean, .boolean), (gA G (.object "java/lang/String"), .object "java/lang/String")]
def XStr (G : XG) (U : State) (H : Heap) : Prop := ∀ i : Nat, i < jsN → va_O "java/lang/String" (gK G i) (xaf G) U H ∧ va_OF "java/lang/String" "coder" "B" (.int 0) (gK G i) (xaf G) U H ∧ va_OF "java/lang/String" "value" "[B" (.ref (gV G i)) (gK G i) (xaf G) U H ∧ va_T .byte (gV G i) (jsL i) (fun j => .int (jsC i j)) (xaf G) U H
/-- what the tables say, in any state of the machine -/
def fgbl : List Cond := lw_tbl.filter (fun w => w.faceAtom && w.onTables)
/-- the links of nest mates' private members -/
def XNst (U : State) : Prop := (∀ (a : String) (i : Nat) (x : MethodName) (o : String), Cond.methodLinkNest a i x o ∈ lw_tbl → va_Nw (.methodLinkNest a i x o) U) ∧ va_AO "java/lang/String" U
def XK (G : XG) (U : State) : Prop := va_K (gD G) vwCl (xtys G) U ∧ (∀ (i : Nat) (q : String × Nat × String), jsTab[i]? = some q → vk_R q.1 q.2.1 q.2.2 (gK G i) U) ∧ (∀ w ∈ fgbl, w.before #[] U = true) ∧ (va_Nc "java/lang/IllegalArgumentException" "java/util/NoSuchElementException" U ∧ XNst U)
/-- what the heap holds that isn't ours -/
def XA (G : XG) (U : State) (H : Heap) : Prop := XStr G U H ∧ vx_Zq Bundle.tN "UNASSIGNED_STACK" Bundle.steD (xaf G) U H ∧ vx_Zq Bundle.tN "SUPPRESSED_SENTINEL" Bundle.listD (xaf G) U H ∧ va_Z "java/lang/String" "COMPACT_STRINGS" "Z" (.int 1) (xaf G) U H ∧ va_X (gS G) (gN G) (gX G) U H ∧ (gS G < H.size ∧ gS G < gB G) ∧ (va_Z "jdk/internal/util/Preconditions" "SIOOBE_FORMATTER" "Ljava/util/function/BiFunction;" (.ref (gV G 900)) (xaf G) U H ∨ va_Z "jdk/internal/util/Preconditions" "SIOOBE_FORMATTER" "Ljava/util/function/BiFunction;" .null (xaf G) U H)
/-- what is ours -/
def XR (G : XG) (n : Nat) (h : XH) (H : Heap) : Prop := va_P (gD G) vwCl (xws G n h) H ∧ n ≤ 100 ∧ (∀ o, gO G = some o → xL h 99 0 = o) ∧ xfc n h
theorem XStr.kept {G : XG} {U : State} {H H1 : Heap} (h : XStr G U H) (hq : ∀ a : Nat, a < H.size → ¬ xaf G a → H1[a]? = H[a]?) : XStr G U H1 := fun i hi => ⟨(h i hi).1.kept hq, (h i hi).2.1.kept hq, (h i hi).2.2.1.kept hq, (h i hi).2.2.2.kept hq⟩
theorem XStr.moved {G : XG} {u U : State} {H : Heap} (hvm : u.vm.Alike U.vm) (h : XStr G u H) : XStr G U H := fun i hi => ⟨va_O.moved hvm (h i hi).1, va_OF.moved hvm (h i hi).2.1, va_OF.moved hvm (h i hi).2.2.1, va_T.moved hvm (h i hi).2.2.2⟩
theorem XA.kept {G : XG} {U : State} {H H1 : Heap} (h : XA G U H) (hz : H.size ≤ H1.size) (hq : ∀ a : Nat, a < H.size → ¬ xaf G a → H1[a]? = H[a]?) : XA G U H1 := by
  obtain ⟨h1, h2, h3, h4, h5, ⟨h6, h7⟩, h8⟩ := h
  exact ⟨h1.kept hq, h2.kept hq, h3.kept hq, h4.kept hq, h5.kept (hq _ h6 (Nat.not_le.mpr h7)), ⟨Nat.lt_of_lt_of_le h6 hz, h7⟩, h8.imp (fun q => va_Z.kept q hq) (fun q => va_Z.kept q hq)⟩
theorem XA.moved {G : XG} {u U : State} {H : Heap} (hvm : u.vm.Alike U.vm) (h : XA G u H) : XA G U H := by
  obtain ⟨h1, h2, h3, h4, h5, h6, h7⟩ := h
  exact ⟨h1.moved hvm, h2.moved hvm, h3.moved hvm, va_Z.moved hvm h4, h5.moved hvm, h6, h7.imp (fun q => va_Z.moved hvm q) (fun q => va_Z.moved hvm q)⟩
theorem x_face {w : Cond} (hw : w ∈ fgbl) : w.faceAtom = true ∧ w.onTables = true := by
  have h := (List.mem_filter.mp hw).2
  rwa [Bool.and_eq_true] at h
theorem XK.warm {G : XG} {s U : State} (hW : s.WarmedH U.vm) (h : XK G s) : XK G U :=
  ⟨va_K.moved hW.alike h.1, fun i q hq => vk_R.warm hW (h.2.1 i q hq), fun w hw => va_tabs (x_face hw).2 (rfl : (s.setVm U.vm).vm = U.vm) (Cond.faceAtom_setVm hW.alike w (x_face hw).1 (h.2.2.1 w hw)), va_Nc.moved hW.alike h.2.2.2.1, ⟨fun a i x o hw => va_Nw.warmM hW (h.2.2.2.2.1 a i x o hw), va_AO.moved hW.alike h.2.2.2.2.2⟩⟩
theorem XK.same {G : XG} {u U : State} (hv : U.vm = u.vm) (h : XK G u) : XK G U := ⟨va_K.moved (by rw [hv]; exact Vm.Alike.refl _) h.1, fun i q hq => vk_R.same hv (h.2.1 i q hq), fun w hw => va_tabs (x_face hw).2 hv.symm (h.2.2.1 w hw), va_Nc.moved (by rw [hv]; exact Vm.Alike.refl _) h.2.2.2.1, ⟨fun a i x o hw => va_Nw.same rfl hv.symm (h.2.2.2.2.1 a i x o hw), va_AO.moved (by rw [hv]; exact Vm.Alike.refl _) h.2.2.2.2.2⟩⟩
/-- a method: its name, its bytes, its locals, what it answers, its handlers -/
abbrev XM : Type := MethodName × ByteArray × Nat × Option FieldType × List (Nat × Nat × Nat × Nat)
def XC (G : XG) (M : XM) (p : Program) (l : Launch) (s : State) (m : MethodId) (args : Array Value) (meth : Method) (c : Code) : Prop :=
  p.tables.exec = Jvm.exec ∧ c.code = M.2.1 ∧ c.maxLocals = M.2.2.1 ∧ meth.sig.returnType = M.2.2.2.1 ∧ s.vm.findClass M.1.cls = some m.cls ∧ (∀ w ∈ gtbl, w.before args s = true) ∧ meth.locks = false ∧ l.stackTraces = false ∧ XK G s ∧ XA G s s.heap ∧ gB G ≤ s.heap.size ∧ c.exceptionTable.toList = tableOf M.2.2.2.2 ∧ meth.name = M.1.name
abbrev XE : Type := XG → List Frame → Array Value → State → State → Prop
def XLs (G : XG) (mL : Nat) (ls : List (Option Value)) (L : Array Slot) : Prop := lv_has L mL [] ∧ ∀ (i : Nat) (v : Value), ls[i]? = some (some v) → L[i]? = some (.val (xv G v))
def XW (R : Room) (M : XM) (E : XE) (n b bs : Nat) (h : XH) (pc : Nat) (ls : List (Option Value)) (st : List Value) : Prop :=
  ∀ (G : XG) {p : Program} {l : Launch} {e : Env} {s : State} {m : MethodId} {args : Array Value} {below : List Frame} {meth : Method} {c : Code}, XC G M p l s m args meth c → ∀ (H : Heap) (locs : List Loc) (L : Array Slot) (kc ks : Nat), XR G n h H → va_S (xaf G) s.heap H locs → XLs G M.2.2.1 ls L → (n < 100 → s.heap.size + kc = gB G + (n + xfl h)) → kc + b ≤ R.cells → ks + bs ≤ R.slots →
    W p l e R s m args below meth c H locs kc ks (E G below args s) (F0 m pc L (st.map (xv G)))
theorem xr_get {G : XG} {n a : Nat} {h : XH} {H : Heap} (hR : XR G n h H) (ha : xin n a) : (xws G n h)[xta a]? = some (gB G + xta a, xcell G h a) := xws_get hR.2.1 hR.2.2.2 ha
theorem xr_ad {G : XG} {n a : Nat} {h : XH} {H : Heap} (hR : XR G n h H) (ha : xin n a) : xad G a = gB G + xta a := xad_own (by have := xin_le hR.2.1 ha; omega)
theorem xr_ne {G : XG} {n a : Nat} {h : XH} {H : Heap} (hR : XR G n h H) (ha : a < n) : a ≠ 100 := by have := hR.2.1; omega
theorem XR.si {G : XG} {n a : Nat} {h : XH} {H H1 : Heap} {f : Nat → Int32} (hR : XR G n h H) (ha : a < n) (hP : va_P (gD G) vwCl (xws G n (xSI a f h)) H1) : XR G n (xSI a f h) H1 := ⟨hP, hR.2.1, hR.2.2.1, by have e := xfl_SI (h := h) (f := f) (xr_ne hR ha); have q := hR.2.2.2; unfold xfc at *; rw [e]; exact q⟩
theorem XR.sp {G : XG} {n a : Nat} {h : XH} {H H1 : Heap} {f : Nat → Option Nat} (hR : XR G n h H) (hP : va_P (gD G) vwCl (xws G n (xSP a f h)) H1) : XR G n (xSP a f h) H1 := ⟨hP, hR.2.1, hR.2.2.1, hR.2.2.2⟩
theorem xz_si {G : XG} {n a k : Nat} {h : XH} {H : Heap} {f : Nat → Int32} (hR : XR G n h H) (ha : a < n) (hz : n < 100 → k = gB G + (n + xfl h)) : n < 100 → k = gB G + (n + xfl (xSI a f h)) := by
  rw [xfl_SI (xr_ne hR ha)]
  exact hz
section XI
variable {R : Room} {M : XM} {E : XE} {n b bs : Nat} {h : XH} {pc : Nat} {ls : List (Option Value)} {st : List Value}
theorem xw_eq {pc' : Nat} {h' : XH} {ls' : List (Option Value)} {st' : List Value} (k : XW R M E n b bs h' pc' ls' st') (e1 : h' = h) (e2 : pc' = pc) (e3 : ls' = ls) (e4 : st' = st) : XW R M E n b bs h pc ls st := by
  subst e1; subst e2; subst e3; subst e4; exact k
/-- less is known of the locals -/
theorem xw_ls {ls' : List (Option Value)} (hs : ∀ (i : Nat) (v : Value), ls'[i]? = some (some v) → ls[i]? = some (some v)) (k : XW R M E n b bs h pc ls' st) : XW R M E n b bs h pc ls st := by
  intro G p l e s m args below meth c C H locs L kc ks hR hS hl hz h1 h2
  exact k G C H locs L kc ks hR hS ⟨hl.1, fun i v q => hl.2 i v (hs i v q)⟩ hz h1 h2
/-- less is left than could be -/
theorem xw_b {b' bs' : Nat} (h1 : b' ≤ b) (h2 : bs' ≤ bs) (k : XW R M E n b' bs' h pc ls st) : XW R M E n b bs h pc ls st := by
  intro G p l e s m args below meth c C H locs L kc ks hR hS hl hz g1 g2
  exact k G C H locs L kc ks hR hS hl hz (by omega) (by omega)
theorem x_at {G : XG} {mL i : Nat} {v : Value} {L : Array Slot} (hl : XLs G mL ls L) (hv : ls[i]? = some (some v)) : L[i]? = some (.val (xv G v)) := hl.2 i v hv
/-! the locals, as pairs -/
def x_pairs (G : XG) (ls : List (Option Value)) : List (Nat × Value) := (List.range ls.length).filterMap (fun j => (ls.getD j none).map (fun v => (j, xv G v)))
theorem x_pairs_mem {G : XG} {j : Nat} {v : Value} (h : ls[j]? = some (some v)) : (j, xv G v) ∈ x_pairs G ls := by
  have hj : j < ls.length := (List.getElem?_eq_some_iff.mp h).1
  refine List.mem_filterMap.mpr ⟨j, List.mem_range.mpr hj, ?_⟩
  simp [List.getD, h]
theorem x_pairs_has {G : XG} {mL : Nat} {L : Array Slot} (hl : XLs G mL ls L) : lv_has L mL (x_pairs G ls) := by
  refine ⟨hl.1.1, hl.1.2.1, fun q hq => ?_⟩
  obtain ⟨j, hj, e⟩ := List.mem_filterMap.mp hq
  have hlt := List.mem_range.mp hj
  cases ho : ls.getD j none with
  | none => rw [ho] at e; cases e
  | some v =>
    rw [ho] at e
    cases e
    refine hl.2 j v ?_
    rw [List.getD_eq_getElem?_getD, List.getElem?_eq_getElem hlt] at ho
    rw [List.getElem?_eq_getElem hlt]
    exact congrArg some ho
/-- a long that would lose its second half is forgotten -/
def x_kill (ls : List (Option Value)) : Nat → List (Option Value)
  | 0 => ls
  | j + 1 => match ls[j]? with
    | some (some (.long _)) => ls.set j none
    | some (some (.double _)) => ls.set j none
    | _ => ls
def x_set (ls : List (Option Value)) (i : Nat) (v : Value) : List (Option Value) := (x_kill ls i).set i (some v)
def x_set2 (ls : List (Option Value)) (i : Nat) (v : Value) : List (Option Value) := ((x_kill ls i).set i (some v)).set (i + 1) none
theorem x_kill_spec {i j : Nat} {v : Value} (hj : j ≠ i) (h : (x_kill ls i)[j]? = some (some v)) : ls[j]? = some (some v) ∧ ¬ (j + 1 = i ∧ v.category = 2) := by
  cases i with
  | zero => exact ⟨h, fun q => by omega⟩
  | succ k =>
    simp only [x_kill] at h
    by_cases hk : j = k
    · subst hk
      split at h
      · rename_i heq
        have hl := (List.getElem?_eq_some_iff.mp heq).1
        rw [List.getElem?_set_self hl] at h
        cases h
      · rename_i heq
        have hl := (List.getElem?_eq_some_iff.mp heq).1
        rw [List.getElem?_set_self hl] at h
        cases h
      · rename_i n1 n2
        refine ⟨h, fun q => ?_⟩
        cases v with
        | long z => exact n1 z h
        | double z => exact n2 z h
        | _ => exact absurd q.2 (by simp [Value.category])
    · refine ⟨?_, fun q => by omega⟩
      split at h
      · rwa [List.getElem?_set_ne (Ne.symm hk)] at h
      · rwa [List.getElem?_set_ne (Ne.symm hk)] at h
      · exact h
theorem xv_cat {G : XG} (v : Value) : (xv G v).category = v.category := by cases v <;> rfl
theorem x_set_ls {G : XG} {mL i : Nat} {v : Value} {L' : Array Slot} (hl : lv_has L' mL ((i, xv G v) :: (x_pairs G ls).filter (fun q => !(q.1 == i) && !(q.1 + 1 == i && q.2.category == 2)))) : XLs G mL (x_set ls i v) L' := by
  refine ⟨⟨hl.1, hl.2.1, fun q hq => by cases hq⟩, fun j w hw => ?_⟩
  by_cases hj : j = i
  · subst hj
    have hlt := (List.getElem?_eq_some_iff.mp hw).1
    unfold x_set at hw hlt
    rw [List.length_set] at hlt
    rw [List.getElem?_set_self hlt] at hw
    cases hw
    exact hl.2.2 (j, xv G v) List.mem_cons_self
  · unfold x_set at hw
    rw [List.getElem?_set_ne (Ne.symm hj)] at hw
    obtain ⟨h1, h2⟩ := x_kill_spec hj hw
    refine hl.2.2 (j, xv G w) (List.mem_cons_of_mem _ (List.mem_filter.mpr ⟨x_pairs_mem h1, ?_⟩))
    simp only [Bool.and_eq_true, Bool.not_eq_true', beq_eq_false_iff_ne, ne_eq, Bool.and_eq_false_iff, xv_cat]
    refine ⟨hj, ?_⟩
    by_cases h3 : j + 1 = i
    · exact Or.inr (fun h4 => h2 ⟨h3, h4⟩)
    · exact Or.inl h3
theorem x_set2_ls {G : XG} {mL i : Nat} {v : Value} {L' : Array Slot} (hl : lv_has L' mL ((i, xv G v) :: (x_pairs G ls).filter (fun q => !(q.1 == i) && (!(q.1 == i + 1) && !(q.1 + 1 == i && q.2.category == 2))))) : XLs G mL (x_set2 ls i v) L' := by
  refine ⟨⟨hl.1, hl.2.1, fun q hq => by cases hq⟩, fun j w hw => ?_⟩
  unfold x_set2 at hw
  by_cases hj1 : j = i + 1
  · subst hj1
    have hlt := (List.getElem?_eq_some_iff.mp hw).1
    rw [List.length_set] at hlt
    rw [List.getElem?_set_self hlt] at hw
    cases hw
  rw [List.getElem?_set_ne (Ne.symm hj1)] at hw
  by_cases hj : j = i
  · subst hj
    have hlt := (List.getElem?_eq_some_iff.mp hw).1
    rw [List.length_set] at hlt
    rw [List.getElem?_set_self hlt] at hw
    cases hw
    exact hl.2.2 (j, xv G v) List.mem_cons_self
  · rw [List.getElem?_set_ne (Ne.symm hj)] at hw
    obtain ⟨h1, h2⟩ := x_kill_spec hj hw
    refine hl.2.2 (j, xv G w) (List.mem_cons_of_mem _ (List.mem_filter.mpr ⟨x_pairs_mem h1, ?_⟩))
    simp only [Bool.and_eq_true, Bool.not_eq_true', beq_eq_false_iff_ne, ne_eq, Bool.and_eq_false_iff, xv_cat]
    refine ⟨hj, hj1, ?_⟩
    by_cases h3 : j + 1 = i
    · exact Or.inr (fun h4 => h2 ⟨h3, h4⟩)
    · exact Or.inl h3
theorem xi_iadd {x y : Int32} (hd : decode M.2.1 pc = .ok (.iadd, 1)) (k : XW R M E n b bs h (pc + 1) ls (.int (x + y) :: st)) : XW R M E n b bs h pc ls (.int y :: .int x :: st) := by
  intro G p l e s m args below meth c C H locs L kc ks hR hS hl hz g1 g2
  exact lv_iadd C.1 C.2.1 hd (k G C H locs L kc ks hR hS hl hz g1 g2)
theorem xi_isub {x y : Int32} (hd : decode M.2.1 pc = .ok (.isub, 1)) (k : XW R M E n b bs h (pc + 1) ls (.int (x - y) :: st)) : XW R M E n b bs h pc ls (.int y :: .int x :: st) := by
  intro G p l e s m args below meth c C H locs L kc ks hR hS hl hz g1 g2
  exact lv_isub C.1 C.2.1 hd (k G C H locs L kc ks hR hS hl hz g1 g2)
theorem xi_imul {x y : Int32} (hd : decode M.2.1 pc = .ok (.imul, 1)) (k : XW R M E n b bs h (pc + 1) ls (.int (x * y) :: st)) : XW R M E n b bs h pc ls (.int y :: .int x :: st) := by
  intro G p l e s m args below meth c C H locs L kc ks hR hS hl hz g1 g2
  exact lv_imul C.1 C.2.1 hd (k G C H locs L kc ks hR hS hl hz g1 g2)
theorem xi_iand {x y : Int32} (hd : decode M.2.1 pc = .ok (.iand, 1)) (k : XW R M E n b bs h (pc + 1) ls (.int (x &&& y) :: st)) : XW R M E n b bs h pc ls (.int y :: .int x :: st) := by
  intro G p l e s m args below meth c C H locs L kc ks hR hS hl hz g1 g2
  exact lv_iand C.1 C.2.1 hd (k G C H locs L kc ks hR hS hl hz g1 g2)
theorem xi_ior {x y : Int32} (hd : decode M.2.1 pc = .ok (.ior, 1)) (k : XW R M E n b bs h (pc + 1) ls (.int (x ||| y) :: st)) : XW R M E n b bs h pc ls (.int y :: .int x :: st) := by
  intro G p l e s m args below meth c C H locs L kc ks hR hS hl hz g1 g2
  exact lv_ior C.1 C.2.1 hd (k G C H locs L kc ks hR hS hl hz g1 g2)
theorem xi_ishl {x y : Int32} (hd : decode M.2.1 pc = .ok (.ishl, 1)) (k : XW R M E n b bs h (pc + 1) ls (.int (x <<< (y &&& 31)) :: st)) : XW R M E n b bs h pc ls (.int y :: .int x :: st) := by
  intro G p l e s m args below meth c C H locs L kc ks hR hS hl hz g1 g2
  exact lv_ishl C.1 C.2.1 hd (k G C H locs L kc ks hR hS hl hz g1 g2)
theorem xi_ishr {x y : Int32} (hd : decode M.2.1 pc = .ok (.ishr, 1)) (k : XW R M E n b bs h (pc + 1) ls (.int (x >>> (y &&& 31)) :: st)) : XW R M E n b bs h pc ls (.int y :: .int x :: st) := by
  intro G p l e s m args below meth c C H locs L kc ks hR hS hl hz g1 g2
  exact lv_ishr C.1 C.2.1 hd (k G C H locs L kc ks hR hS hl hz g1 g2)
theorem xi_idiv {x y : Int32} (hd : decode M.2.1 pc = .ok (.idiv, 1)) (hz0 : ¬ y = 0) (k : XW R M E n b bs h (pc + 1) ls (.int (x / y) :: st)) : XW R M E n b bs h pc ls (.int y :: .int x :: st) := by
  intro G p l e s m args below meth c C H locs L kc ks hR hS hl hz g1 g2
  exact lv_idiv C.1 C.2.1 hd hz0 (k G C H locs L kc ks hR hS hl hz g1 g2)
theorem xi_irem {x y : Int32} (hd : decode M.2.1 pc = .ok (.irem, 1)) (hz0 : ¬ y = 0) (k : XW R M E n b bs h (pc + 1) ls (.int (x - x / y * y) :: st)) : XW R M E n b bs h pc ls (.int y :: .int x :: st) := by
  intro G p l e s m args below meth c C H locs L kc ks hR hS hl hz g1 g2
  exact lv_irem C.1 C.2.1 hd hz0 (k G C H locs L kc ks hR hS hl hz g1 g2)
theorem xi_ladd {x y : Int64} (hd : decode M.2.1 pc = .ok (.ladd, 1)) (k : XW R M E n b bs h (pc + 1) ls (.long (x + y) :: st)) : XW R M E n b bs h pc ls (.long y :: .long x :: st) := by
  intro G p l e s m args below meth c C H locs L kc ks hR hS hl hz g1 g2
  exact lv_ladd C.1 C.2.1 hd (k G C H locs L kc ks hR hS hl hz g1 g2)
theorem xi_lsub {x y : Int64} (hd : decode M.2.1 pc = .ok (.lsub, 1)) (k : XW R M E n b bs h (pc + 1) ls (.long (x - y) :: st)) : XW R M E n b bs h pc ls (.long y :: .long x :: st) := by
  intro G p l e s m args below meth c C H locs L kc ks hR hS hl hz g1 g2
  exact lv_lsub C.1 C.2.1 hd (k G C H locs L kc ks hR hS hl hz g1 g2)
theorem xi_lmul {x y : Int64} (hd : decode M.2.1 pc = .ok (.lmul, 1)) (k : XW R M E n b bs h (pc + 1) ls (.long (x * y) :: st)) : XW R M E n b bs h pc ls (.long y :: .long x :: st) := by
  intro G p l e s m args below meth c C H locs L kc ks hR hS hl hz g1 g2
  exact lv_lmul C.1 C.2.1 hd (k G C H locs L kc ks hR hS hl hz g1 g2)
theorem xi_land {x y : Int64} (hd : decode M.2.1 pc = .ok (.land, 1)) (k : XW R M E n b bs h (pc + 1) ls (.long (x &&& y) :: st)) : XW R M E n b bs h pc ls (.long y :: .long x :: st) := by
  intro G p l e s m args below meth c C H locs L kc ks hR hS hl hz g1 g2
  exact lv_land C.1 C.2.1 hd (k G C H locs L kc ks hR hS hl hz g1 g2)
theorem xi_lor {x y : Int64} (hd : decode M.2.1 pc = .ok (.lor, 1)) (k : XW R M E n b bs h (pc + 1) ls (.long (x ||| y) :: st)) : XW R M E n b bs h pc ls (.long y :: .long x :: st) := by
  intro G p l e s m args below meth c C H locs L kc ks hR hS hl hz g1 g2
  exact lv_lor C.1 C.2.1 hd (k G C H locs L kc ks hR hS hl hz g1 g2)
theorem xi_ldiv {x y : Int64} (hd : decode M.2.1 pc = .ok (.ldiv, 1)) (hz0 : ¬ y = 0) (k : XW R M E n b bs h (pc + 1) ls (.long (x / y) :: st)) : XW R M E n b bs h pc ls (.long y :: .long x :: st) := by
  intro G p l e s m args below meth c C H locs L kc ks hR hS hl hz g1 g2
  exact lv_ldiv C.1 C.2.1 hd hz0 (k G C H locs L kc ks hR hS hl hz g1 g2)
theorem xi_lrem {x y : Int64} (hd : decode M.2.1 pc = .ok (.lrem, 1)) (hz0 : ¬ y = 0) (k : XW R M E n b bs h (pc + 1) ls (.long (x - x / y * y) :: st)) : XW R M E n b bs h pc ls (.long y :: .long x :: st) := by
  intro G p l e s m args below meth c C H locs L kc ks hR hS hl hz g1 g2
  exact lv_lrem C.1 C.2.1 hd hz0 (k G C H locs L kc ks hR hS hl hz g1 g2)
theorem xi_iushr {x y : Int32} (hd : decode M.2.1 pc = .ok (.iushr, 1)) (k : XW R M E n b bs h (pc + 1) ls (.int ((x.toUInt32 >>> (y.toUInt32 &&& Int32.toUInt32 31)).toInt32) :: st)) : XW R M E n b bs h pc ls (.int y :: .int x :: st) := by
  intro G p l e s m args below meth c C H locs L kc ks hR hS hl hz g1 g2
  exact lv_iushr C.1 C.2.1 hd rfl (k G C H locs L kc ks hR hS hl hz g1 g2)
theorem xi_i2c {x : Int32} (hd : decode M.2.1 pc = .ok (.i2c, 1)) (k : XW R M E n b bs h (pc + 1) ls (.int ((x.toUInt32 % 65536).toInt32) :: st)) : XW R M E n b bs h pc ls (.int x :: st) := by
  intro G p l e s m args below meth c C H locs L kc ks hR hS hl hz g1 g2
  exact lv_i2c C.1 C.2.1 hd rfl (k G C H locs L kc ks hR hS hl hz g1 g2)
theorem xi_i2l {x : Int32} (hd : decode M.2.1 pc = .ok (.i2l, 1)) (k : XW R M E n b bs h (pc + 1) ls (.long x.toInt64 :: st)) : XW R M E n b bs h pc ls (.int x :: st) := by
  intro G p l e s m args below meth c C H locs L kc ks hR hS hl hz g1 g2
  exact lv_i2l C.1 C.2.1 hd rfl (k G C H locs L kc ks hR hS hl hz g1 g2)
theorem xi_lshl {x : Int64} {y : Int32} (hd : decode M.2.1 pc = .ok (.lshl, 1)) (k : XW R M E n b bs h (pc + 1) ls (.long (x <<< (y.toInt64 &&& 63)) :: st)) : XW R M E n b bs h pc ls (.int y :: .long x :: st) := by
  intro G p l e s m args below meth c C H locs L kc ks hR hS hl hz g1 g2
  exact lv_lshl C.1 C.2.1 hd rfl (k G C H locs L kc ks hR hS hl hz g1 g2)
theorem xi_lneg {x : Int64} (hd : decode M.2.1 pc = .ok (.lneg, 1)) (k : XW R M E n b bs h (pc + 1) ls (.long (-x) :: st)) : XW R M E n b bs h pc ls (.long x :: st) := by
  intro G p l e s m args below meth c C H locs L kc ks hR hS hl hz g1 g2
  exact lv_lneg C.1 C.2.1 hd (k G C H locs L kc ks hR hS hl hz g1 g2)
theorem xi_iconst {q : Int} {v : Int32} (hd : decode M.2.1 pc = .ok (.iconst q, 1)) (hv : Int32.ofInt q = v) (k : XW R M E n b bs h (pc + 1) ls (.int v :: st)) : XW R M E n b bs h pc ls st := by
  intro G p l e s m args below meth c C H locs L kc ks hR hS hl hz g1 g2
  exact lv_iconst C.1 C.2.1 hd hv (k G C H locs L kc ks hR hS hl hz g1 g2)
theorem xi_bipush {q : Int} {v : Int32} (hd : decode M.2.1 pc = .ok (.bipush q, 2)) (hv : (Int8.ofInt q).toInt32 = v) (k : XW R M E n b bs h (pc + 2) ls (.int v :: st)) : XW R M E n b bs h pc ls st := by
  intro G p l e s m args below meth c C H locs L kc ks hR hS hl hz g1 g2
  exact lv_bipush C.1 C.2.1 hd hv (k G C H locs L kc ks hR hS hl hz g1 g2)
theorem xi_sipush {q : Int} {v : Int32} (hd : decode M.2.1 pc = .ok (.sipush q, 3)) (hv : (Int16.ofInt q).toInt32 = v) (k : XW R M E n b bs h (pc + 3) ls (.int v :: st)) : XW R M E n b bs h pc ls st := by
  intro G p l e s m args below meth c C H locs L kc ks hR hS hl hz g1 g2
  exact lv_sipush C.1 C.2.1 hd hv (k G C H locs L kc ks hR hS hl hz g1 g2)
theorem xi_lconst {q : Fin 2} {v : Int64} (hd : decode M.2.1 pc = .ok (.lconst q, 1)) (hv : Int64.ofNat (q : Nat) = v) (k : XW R M E n b bs h (pc + 1) ls (.long v :: st)) : XW R M E n b bs h pc ls st := by
  intro G p l e s m args below meth c C H locs L kc ks hR hS hl hz g1 g2
  exact lv_lconst C.1 C.2.1 hd hv (k G C H locs L kc ks hR hS hl hz g1 g2)
theorem xi_lcmp {x y : Int64} (hd : decode M.2.1 pc = .ok (.lcmp, 1)) (k : XW R M E n b bs h (pc + 1) ls (.int (lg_cmp x y) :: st)) : XW R M E n b bs h pc ls (.long y :: .long x :: st) := by
  intro G p l e s m args below meth c C H locs L kc ks hR hS hl hz g1 g2
  exact W.lcmp C.1 C.2.1 hd (k G C H locs L kc ks hR hS hl hz g1 g2)
theorem xi_dup {v : Value} (hd : decode M.2.1 pc = .ok (.dup, 1)) (hv : v.category = 1) (k : XW R M E n b bs h (pc + 1) ls (v :: v :: st)) : XW R M E n b bs h pc ls (v :: st) := by
  intro G p l e s m args below meth c C H locs L kc ks hR hS hl hz g1 g2
  exact lv_dup C.1 C.2.1 hd (by rw [xv_cat]; exact hv) (k G C H locs L kc ks hR hS hl hz g1 g2)
theorem xi_pop {v : Value} (hd : decode M.2.1 pc = .ok (.pop, 1)) (hv : v.category = 1) (k : XW R M E n b bs h (pc + 1) ls st) : XW R M E n b bs h pc ls (v :: st) := by
  intro G p l e s m args below meth c C H locs L kc ks hR hS hl hz g1 g2
  exact lv_pop C.1 C.2.1 hd (by rw [xv_cat]; exact hv) (k G C H locs L kc ks hR hS hl hz g1 g2)
theorem xi_dup2 {v w : Value} (hd : decode M.2.1 pc = .ok (.dup2, 1)) (hv : v.category = 1) (hw : w.category = 1) (k : XW R M E n b bs h (pc + 1) ls (v :: w :: v :: w :: st)) : XW R M E n b bs h pc ls (v :: w :: st) := by
  intro G p l e s m args below meth c C H locs L kc ks hR hS hl hz g1 g2
  exact lv_dup2_11 C.1 C.2.1 hd (by rw [xv_cat]; exact hv) (by rw [xv_cat]; exact hw) (k G C H locs L kc ks hR hS hl hz g1 g2)
theorem xi_iload_n {q : Fin 4} {i : Nat} {x : Int32} (hd : decode M.2.1 pc = .ok (.iload_n q, 1)) (hi : (q : Nat) = i) (hv : ls[i]? = some (some (.int x))) (k : XW R M E n b bs h (pc + 1) ls (.int x :: st)) : XW R M E n b bs h pc ls st := by
  intro G p l e s m args below meth c C H locs L kc ks hR hS hl hz g1 g2
  exact lv_iload_n C.1 C.2.1 hd hi (x_at hl hv) (k G C H locs L kc ks hR hS hl hz g1 g2)
theorem xi_iload {i : Nat} {x : Int32} (hd : decode M.2.1 pc = .ok (.iload i, 2)) (hv : ls[i]? = some (some (.int x))) (k : XW R M E n b bs h (pc + 2) ls (.int x :: st)) : XW R M E n b bs h pc ls st := by
  intro G p l e s m args below meth c C H locs L kc ks hR hS hl hz g1 g2
  exact lv_iload C.1 C.2.1 hd (x_at hl hv) (k G C H locs L kc ks hR hS hl hz g1 g2)
theorem xi_istore_n {q : Fin 4} {i : Nat} {x : Int32} {ls' : List (Option Value)} (hd : decode M.2.1 pc = .ok (.istore_n q, 1)) (hi : (q : Nat) = i) (hn : i < M.2.2.1) (hs : x_set ls i (.int x) = ls') (k : XW R M E n b bs h (pc + 1) ls' st) : XW R M E n b bs h pc ls (.int x :: st) := by
  intro G p l e s m args below meth c C H locs L kc ks hR hS hl hz g1 g2
  subst hs
  exact lv_istore_n C.1 C.2.1 hd hi (x_pairs_has hl) hn rfl (fun L' hl' => k G C H locs L' kc ks hR hS (x_set_ls hl') hz g1 g2)
theorem xi_istore {i : Nat} {x : Int32} {ls' : List (Option Value)} (hd : decode M.2.1 pc = .ok (.istore i, 2)) (hn : i < M.2.2.1) (hs : x_set ls i (.int x) = ls') (k : XW R M E n b bs h (pc + 2) ls' st) : XW R M E n b bs h pc ls (.int x :: st) := by
  intro G p l e s m args below meth c C H locs L kc ks hR hS hl hz g1 g2
  subst hs
  exact lv_istore C.1 C.2.1 hd (x_pairs_has hl) hn rfl (fun L' hl' => k G C H locs L' kc ks hR hS (x_set_ls hl') hz g1 g2)
theorem xi_lload_n {q : Fin 4} {i : Nat} {x : Int64} (hd : decode M.2.1 pc = .ok (.lload_n q, 1)) (hi : (q : Nat) = i) (hv : ls[i]? = some (some (.long x))) (k : XW R M E n b bs h (pc + 1) ls (.long x :: st)) : XW R M E n b bs h pc ls st := by
  intro G p l e s m args below meth c C H locs L kc ks hR hS hl hz g1 g2
  exact lv_lload_n C.1 C.2.1 hd hi (x_at hl hv) (k G C H locs L kc ks hR hS hl hz g1 g2)
theorem xi_lload {i : Nat} {x : Int64} (hd : decode M.2.1 pc = .ok (.lload i, 2)) (hv : ls[i]? = some (some (.long x))) (k : XW R M E n b bs h (pc + 2) ls (.long x :: st)) : XW R M E n b bs h pc ls st := by
  intro G p l e s m args below meth c C H locs L kc ks hR hS hl hz g1 g2
  exact lv_lload C.1 C.2.1 hd (x_at hl hv) (k G C H locs L kc ks hR hS hl hz g1 g2)
theorem xi_lstore_n {q : Fin 4} {i : Nat} {x : Int64} {ls' : List (Option Value)} (hd : decode M.2.1 pc = .ok (.lstore_n q, 1)) (hi : (q : Nat) = i) (hn : i + 1 < M.2.2.1) (hs : x_set2 ls i (.long x) = ls') (k : XW R M E n b bs h (pc + 1) ls' st) : XW R M E n b bs h pc ls (.long x :: st) := by
  intro G p l e s m args below meth c C H locs L kc ks hR hS hl hz g1 g2
  subst hs
  exact lv_lstore_n C.1 C.2.1 hd hi (x_pairs_has hl) hn rfl (fun L' hl' => k G C H locs L' kc ks hR hS (x_set2_ls hl') hz g1 g2)
theorem xi_lstore {i : Nat} {x : Int64} {ls' : List (Option Value)} (hd : decode M.2.1 pc = .ok (.lstore i, 2)) (hn : i + 1 < M.2.2.1) (hs : x_set2 ls i (.long x) = ls') (k : XW R M E n b bs h (pc + 2) ls' st) : XW R M E n b bs h pc ls (.long x :: st) := by
  intro G p l e s m args below meth c C H locs L kc ks hR hS hl hz g1 g2
  subst hs
  exact lv_lstore C.1 C.2.1 hd (x_pairs_has hl) hn rfl (fun L' hl' => k G C H locs L' kc ks hR hS (x_set2_ls hl') hz g1 g2)
theorem xi_aload_n {q : Fin 4} {i : Nat} {x : Nat} (hd : decode M.2.1 pc = .ok (.aload_n q, 1)) (hi : (q : Nat) = i) (hv : ls[i]? = some (some (.ref x))) (k : XW R M E n b bs h (pc + 1) ls (.ref x :: st)) : XW R M E n b bs h pc ls st := by
  intro G p l e s m args below meth c C H locs L kc ks hR hS hl hz g1 g2
  exact lv_aload_n C.1 C.2.1 hd hi (x_at hl hv) (k G C H locs L kc ks hR hS hl hz g1 g2)
theorem xi_aload {i : Nat} {x : Nat} (hd : decode M.2.1 pc = .ok (.aload i, 2)) (hv : ls[i]? = some (some (.ref x))) (k : XW R M E n b bs h (pc + 2) ls (.ref x :: st)) : XW R M E n b bs h pc ls st := by
  intro G p l e s m args below meth c C H locs L kc ks hR hS hl hz g1 g2
  exact lv_aload C.1 C.2.1 hd (x_at hl hv) (k G C H locs L kc ks hR hS hl hz g1 g2)
theorem xi_astore_n {q : Fin 4} {i : Nat} {x : Nat} {ls' : List (Option Value)} (hd : decode M.2.1 pc = .ok (.astore_n q, 1)) (hi : (q : Nat) = i) (hn : i < M.2.2.1) (hs : x_set ls i (.ref x) = ls') (k : XW R M E n b bs h (pc + 1) ls' st) : XW R M E n b bs h pc ls (.ref x :: st) := by
  intro G p l e s m args below meth c C H locs L kc ks hR hS hl hz g1 g2
  subst hs
  exact lv_astore_n C.1 C.2.1 hd hi (x_pairs_has hl) hn rfl (fun L' hl' => k G C H locs L' kc ks hR hS (x_set_ls hl') hz g1 g2)
theorem xi_astore {i : Nat} {x : Nat} {ls' : List (Option Value)} (hd : decode M.2.1 pc = .ok (.astore i, 2)) (hn : i < M.2.2.1) (hs : x_set ls i (.ref x) = ls') (k : XW R M E n b bs h (pc + 2) ls' st) : XW R M E n b bs h pc ls (.ref x :: st) := by
  intro G p l e s m args below meth c C H locs L kc ks hR hS hl hz g1 g2
  subst hs
  exact lv_astore C.1 C.2.1 hd (x_pairs_has hl) hn rfl (fun L' hl' => k G C H locs L' kc ks hR hS (x_set_ls hl') hz g1 g2)
theorem xi_iinc {i : Nat} {q : Int} {x v : Int32} {ls' : List (Option Value)} (hd : decode M.2.1 pc = .ok (.iinc i q, 3)) (hx : ls[i]? = some (some (.int x))) (hv : x + Int32.ofInt q = v) (hn : i < M.2.2.1) (hs : x_set ls i (.int v) = ls') (k : XW R M E n b bs h (pc + 3) ls' st) : XW R M E n b bs h pc ls st := by
  intro G p l e s m args below meth c C H locs L kc ks hR hS hl hz g1 g2
  subst hs
  obtain ⟨k0, hk0⟩ := List.getElem?_of_mem (x_pairs_mem (G := G) hx)
  exact lv_iinc (v := v) C.1 C.2.1 hd (x_pairs_has hl) hk0 hv hn rfl (fun L' hl' => k G C H locs L' kc ks hR hS (x_set_ls hl') hz g1 g2)
theorem xi_icmp_eq {x y : Int32} {off : Int} {tgt : Nat} (hd : decode M.2.1 pc = .ok (.if_icmp .eq off, 3)) (ht : (pc : Int) + off = (tgt : Int)) (kt : x = y → XW R M E n b bs h tgt ls st) (kf : ¬ x = y → XW R M E n b bs h (pc + 3) ls st) : XW R M E n b bs h pc ls (.int y :: .int x :: st) := by
  intro G p l e s m args below meth c C H locs L kc ks hR hS hl hz g1 g2
  exact lv_icmp_eq C.1 C.2.1 hd ht (fun q => kt q G C H locs L kc ks hR hS hl hz g1 g2) (fun q => kf q G C H locs L kc ks hR hS hl hz g1 g2)
theorem xi_icmp_ne {x y : Int32} {off : Int} {tgt : Nat} (hd : decode M.2.1 pc = .ok (.if_icmp .ne off, 3)) (ht : (pc : Int) + off = (tgt : Int)) (kt : ¬ x = y → XW R M E n b bs h tgt ls st) (kf : x = y → XW R M E n b bs h (pc + 3) ls st) : XW R M E n b bs h pc ls (.int y :: .int x :: st) := by
  intro G p l e s m args below meth c C H locs L kc ks hR hS hl hz g1 g2
  exact lv_icmp_ne C.1 C.2.1 hd ht (fun q => kt q G C H locs L kc ks hR hS hl hz g1 g2) (fun q => kf q G C H locs L kc ks hR hS hl hz g1 g2)
theorem xi_icmp_lt {x y : Int32} {off : Int} {tgt : Nat} (hd : decode M.2.1 pc = .ok (.if_icmp .lt off, 3)) (ht : (pc : Int) + off = (tgt : Int)) (kt : x < y → XW R M E n b bs h tgt ls st) (kf : ¬ x < y → XW R M E n b bs h (pc + 3) ls st) : XW R M E n b bs h pc ls (.int y :: .int x :: st) := by
  intro G p l e s m args below meth c C H locs L kc ks hR hS hl hz g1 g2
  exact lv_icmp_lt C.1 C.2.1 hd ht (fun q => kt q G C H locs L kc ks hR hS hl hz g1 g2) (fun q => kf q G C H locs L kc ks hR hS hl hz g1 g2)
theorem xi_icmp_ge {x y : Int32} {off : Int} {tgt : Nat} (hd : decode M.2.1 pc = .ok (.if_icmp .ge off, 3)) (ht : (pc : Int) + off = (tgt : Int)) (kt : y ≤ x → XW R M E n b bs h tgt ls st) (kf : ¬ y ≤ x → XW R M E n b bs h (pc + 3) ls st) : XW R M E n b bs h pc ls (.int y :: .int x :: st) := by
  intro G p l e s m args below meth c C H locs L kc ks hR hS hl hz g1 g2
  exact lv_icmp_ge C.1 C.2.1 hd ht (fun q => kt q G C H locs L kc ks hR hS hl hz g1 g2) (fun q => kf q G C H locs L kc ks hR hS hl hz g1 g2)
theorem xi_icmp_gt {x y : Int32} {off : Int} {tgt : Nat} (hd : decode M.2.1 pc = .ok (.if_icmp .gt off, 3)) (ht : (pc : Int) + off = (tgt : Int)) (kt : y < x → XW R M E n b bs h tgt ls st) (kf : ¬ y < x → XW R M E n b bs h (pc + 3) ls st) : XW R M E n b bs h pc ls (.int y :: .int x :: st) := by
  intro G p l e s m args below meth c C H locs L kc ks hR hS hl hz g1 g2
  exact lv_icmp_gt C.1 C.2.1 hd ht (fun q => kt q G C H locs L kc ks hR hS hl hz g1 g2) (fun q => kf q G C H locs L kc ks hR hS hl hz g1 g2)
theorem xi_icmp_le {x y : Int32} {off : Int} {tgt : Nat} (hd : decode M.2.1 pc = .ok (.if_icmp .le off, 3)) (ht : (pc : Int) + off = (tgt : Int)) (kt : x ≤ y → XW R M E n b bs h tgt ls st) (kf : ¬ x ≤ y → XW R M E n b bs h (pc + 3) ls st) : XW R M E n b bs h pc ls (.int y :: .int x :: st) := by
  intro G p l e s m args below meth c C H locs L kc ks hR hS hl hz g1 g2
  exact lv_icmp_le C.1 C.2.1 hd ht (fun q => kt q G C H locs L kc ks hR hS hl hz g1 g2) (fun q => kf q G C H locs L kc ks hR hS hl hz g1 g2)
theorem xi_if_eq {x : Int32} {off : Int} {tgt : Nat} (hd : decode M.2.1 pc = .ok (.ifCond .eq off, 3)) (ht : (pc : Int) + off = (tgt : Int)) (kt : x = 0 → XW R M E n b bs h tgt ls st) (kf : ¬ x = 0 → XW R M E n b bs h (pc + 3) ls st) : XW R M E n b bs h pc ls (.int x :: st) := by
  intro G p l e s m args below meth c C H locs L kc ks hR hS hl hz g1 g2
  exact lv_if_eq C.1 C.2.1 hd ht (fun q => kt q G C H locs L kc ks hR hS hl hz g1 g2) (fun q => kf q G C H locs L kc ks hR hS hl hz g1 g2)
theorem xi_if_ne {x : Int32} {off : Int} {tgt : Nat} (hd : decode M.2.1 pc = .ok (.ifCond .ne off, 3)) (ht : (pc : Int) + off = (tgt : Int)) (kt : ¬ x = 0 → XW R M E n b bs h tgt ls st) (kf : x = 0 → XW R M E n b bs h (pc + 3) ls st) : XW R M E n b bs h pc ls (.int x :: st) := by
  intro G p l e s m args below meth c C H locs L kc ks hR hS hl hz g1 g2
  exact lv_if_ne C.1 C.2.1 hd ht (fun q => kt q G C H locs L kc ks hR hS hl hz g1 g2) (fun q => kf q G C H locs L kc ks hR hS hl hz g1 g2)
theorem xi_if_lt {x : Int32} {off : Int} {tgt : Nat} (hd : decode M.2.1 pc = .ok (.ifCond .lt off, 3)) (ht : (pc : Int) + off = (tgt : Int)) (kt : x < 0 → XW R M E n b bs h tgt ls st) (kf : ¬ x < 0 → XW R M E n b bs h (pc + 3) ls st) : XW R M E n b bs h pc ls (.int x :: st) := by
  intro G p l e s m args below meth c C H locs L kc ks hR hS hl hz g1 g2
  exact lv_if_lt C.1 C.2.1 hd ht (fun q => kt q G C H locs L kc ks hR hS hl hz g1 g2) (fun q => kf q G C H locs L kc ks hR hS hl hz g1 g2)
theorem xi_if_ge {x : Int32} {off : Int} {tgt : Nat} (hd : decode M.2.1 pc = .ok (.ifCond .ge off, 3)) (ht : (pc : Int) + off = (tgt : Int)) (kt : 0 ≤ x → XW R M E n b bs h tgt ls st) (kf : ¬ 0 ≤ x → XW R M E n b bs h (pc + 3) ls st) : XW R M E n b bs h pc ls (.int x :: st) := by
  intro G p l e s m args below meth c C H locs L kc ks hR hS hl hz g1 g2
  exact lv_if_ge C.1 C.2.1 hd ht (fun q => kt q G C H locs L kc ks hR hS hl hz g1 g2) (fun q => kf q G C H locs L kc ks hR hS hl hz g1 g2)
theorem xi_if_gt {x : Int32} {off : Int} {tgt : Nat} (hd : decode M.2.1 pc = .ok (.ifCond .gt off, 3)) (ht : (pc : Int) + off = (tgt : Int)) (kt : 0 < x → XW R M E n b bs h tgt ls st) (kf : ¬ 0 < x → XW R M E n b bs h (pc + 3) ls st) : XW R M E n b bs h pc ls (.int x :: st) := by
  intro G p l e s m args below meth c C H locs L kc ks hR hS hl hz g1 g2
  exact lv_if_gt C.1 C.2.1 hd ht (fun q => kt q G C H locs L kc ks hR hS hl hz g1 g2) (fun q => kf q G C H locs L kc ks hR hS hl hz g1 g2)
theorem xi_if_le {x : Int32} {off : Int} {tgt : Nat} (hd : decode M.2.1 pc = .ok (.ifCond .le off, 3)) (ht : (pc : Int) + off = (tgt : Int)) (kt : x ≤ 0 → XW R M E n b bs h tgt ls st) (kf : ¬ x ≤ 0 → XW R M E n b bs h (pc + 3) ls st) : XW R M E n b bs h pc ls (.int x :: st) := by
  intro G p l e s m args below meth c C H locs L kc ks hR hS hl hz g1 g2
  exact lv_if_le C.1 C.2.1 hd ht (fun q => kt q G C H locs L kc ks hR hS hl hz g1 g2) (fun q => kf q G C H locs L kc ks hR hS hl hz g1 g2)
theorem xi_goto {off : Int} {tgt : Nat} (hd : decode M.2.1 pc = .ok (.goto off, 3)) (ht : (pc : Int) + off = (tgt : Int)) (k : XW R M E n b bs h tgt ls st) : XW R M E n b bs h pc ls st := by
  intro G p l e s m args below meth c C H locs L kc ks hR hS hl hz g1 g2
  exact lv_goto C.1 C.2.1 hd ht (k G C H locs L kc ks hR hS hl hz g1 g2)
theorem xi_tableIn {dflt lo hi : Int} {offs : Array Int} {len : Nat} {x : Int32} {off : Int} {tgt : Nat} (hd : decode M.2.1 pc = .ok (.tableswitch dflt lo hi offs, len)) (h1 : ¬ x.toInt < lo) (h2 : ¬ hi < x.toInt) (ho : offs[(x.toInt - lo).toNat]? = some off) (ht : (pc : Int) + off = (tgt : Int)) (k : XW R M E n b bs h tgt ls st) : XW R M E n b bs h pc ls (.int x :: st) := by
  intro G p l e s m args below meth c C H locs L kc ks hR hS hl hz g1 g2
  exact lv_tableIn C.1 C.2.1 hd h1 h2 ho ht (k G C H locs L kc ks hR hS hl hz g1 g2)
theorem xi_tableOut {dflt lo hi : Int} {offs : Array Int} {len : Nat} {x : Int32} {tgt : Nat} (hd : decode M.2.1 pc = .ok (.tableswitch dflt lo hi offs, len)) (hx : x.toInt < lo ∨ hi < x.toInt) (ht : (pc : Int) + dflt = (tgt : Int)) (k : XW R M E n b bs h tgt ls st) : XW R M E n b bs h pc ls (.int x :: st) := by
  intro G p l e s m args below meth c C H locs L kc ks hR hS hl hz g1 g2
  exact lv_tableOut C.1 C.2.1 hd hx ht (k G C H locs L kc ks hR hS hl hz g1 g2)
theorem xi_ldc {i : Nat} {v : Int32} (hd : decode M.2.1 pc = .ok (.ldc i, 2)) (hw : Cond.constant M.1.cls i v ∈ gtbl) (k : XW R M E n b bs h (pc + 2) ls (.int v :: st)) : XW R M E n b bs h pc ls st := by
  intro G p l e s m args below meth c C H locs L kc ks hR hS hl hz g1 g2
  exact lv_ldc C.1 C.2.1 C.2.2.2.2.1 (C.2.2.2.2.2.1 _ hw) hd (k G C H locs L kc ks hR hS hl hz g1 g2)
theorem xi_ldcw {i : Nat} {v : Int32} (hd : decode M.2.1 pc = .ok (.ldc_w i, 3)) (hw : Cond.constant M.1.cls i v ∈ gtbl) (k : XW R M E n b bs h (pc + 3) ls (.int v :: st)) : XW R M E n b bs h pc ls st := by
  intro G p l e s m args below meth c C H locs L kc ks hR hS hl hz g1 g2
  exact lv_ldcw C.1 C.2.1 C.2.2.2.2.1 (C.2.2.2.2.2.1 _ hw) hd (k G C H locs L kc ks hR hS hl hz g1 g2)
theorem xi_ldc2 {i : Nat} {v : Int64} (hd : decode M.2.1 pc = .ok (.ldc2_w i, 3)) (hw : Cond.constantLong M.1.cls i v ∈ gtbl) (k : XW R M E n b bs h (pc + 3) ls (.long v :: st)) : XW R M E n b bs h pc ls st := by
  intro G p l e s m args below meth c C H locs L kc ks hR hS hl hz g1 g2
  exact lv_ldc2 C.1 C.2.1 C.2.2.2.2.1 (C.2.2.2.2.2.1 _ hw) hd (k G C H locs L kc ks hR hS hl hz g1 g2)
theorem xi_ldcS {i j : Nat} {tx : String} (hd : decode M.2.1 pc = .ok (.ldc i, 2)) (hj : jsTab[j]? = some (M.1.cls, i, tx)) (h9 : j < 1000) (k : XW R M E n b bs h (pc + 2) ls (.ref (1000 + j) :: st)) : XW R M E n b bs h pc ls st := by
  intro G p l e s m args below meth c C H locs L kc ks hR hS hl hz g1 g2
  have hk := k G (e := e) (below := below) C H locs L kc ks hR hS hl hz g1 g2
  have e9 : xv G (.ref (1000 + j)) = .ref (gK G j) := by
    show Value.ref (xad G (1000 + j)) = _
    unfold xad
    rw [if_neg (by omega), if_pos (by omega), Nat.add_sub_cancel_left]
  rw [List.map_cons, e9] at hk
  exact va_ldcS C.1 C.2.1 C.2.2.2.2.1 (C.2.2.2.2.2.2.2.2.1.2.1 j _ hj) hd hk
end XI
