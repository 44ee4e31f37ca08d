/-! CONTRACTS over the abstract heap -/
def xrm (d mc ms : Nat) : Room := { frames := d, cells := mc, slots := ms, locals := 64 * d }
def xwsC (M : XM) : List Cond := Cond.code M.1 M.2.1 M.2.2.1 M.2.2.2.1 :: gtbl
def xpre (G : XG) (n : Nat) (h : XH) (U : State) : Prop := XK G U ∧ XA G U U.heap ∧ XR G n h U.heap ∧ gB G ≤ U.heap.size ∧ (n < 100 → U.heap.size = gB G + (n + xfl h))
def xpost (G : XG) (n : Nat) (Q : Option Value → XH → Prop) : Array Value → State → Outcome → State → Prop := fun _ st o t => (∃ (v : Option Value) (h' : XH), o = .returned (v.map (xv G)) ∧ Q v h' ∧ XR G n h' t.heap ∧ (n < 100 → t.heap.size = gB G + (n + xfl h'))) ∧ va_F (xaf G) st t
def xthr (G : XG) (n : Nat) (X : String → XH → Prop) : String → State → State → Prop := fun E st t => (∃ h' : XH, X E h' ∧ XR G n h' t.heap) ∧ va_F (xaf G) st t
def xE (n : Nat) (Q : Option Value → XH → Prop) (X : String → XH → Prop) (mc ms : Nat) : XE := fun G below args s => vx_MQ below (xpost G n Q) (xthr G n X) args s mc ms (xaf G)
/-- the contract of a method: from this heap, with these arguments, it returns with Q, or throws with X; d: how many frames deep, mc, ms: how many cells and slots it may make -/
def XSpec (M : XM) (d mc ms n n' : Nat) (As : List Value) (h : XH) (Q : Option Value → XH → Prop) (X : String → XH → Prop) : Prop :=
  ∀ (l : Launch) (G : XG), l.stackTraces = false → vx_Met l M.1 (xwsC M) (xrm d mc ms) (va_Pc (As.map (xv G)) (xpre G n h)) (xpost G n' Q) (xthr G n' X) mc ms (xaf G)
def xent0 : List Value → List (Option Value)
  | [] => []
  | v :: vs => match v.category with
    | 2 => some v :: none :: xent0 vs
    | _ => some v :: xent0 vs
theorem xent0_get {G : XG} : ∀ (As : List Value) (k i : Nat) (v : Value), (xent0 As)[i]? = some (some v) → (k + i, xv G v) ∈ lv_args k (As.map (xv G)) := by
  intro As
  induction As with
  | nil => intro k i v h; simp [xent0] at h
  | cons w ws ih =>
    intro k i v h
    simp only [List.map_cons, lv_args, xv_cat]
    by_cases hc : w.category = 2
    · simp only [xent0, hc] at h
      rw [if_pos hc]
      match i, h with
      | 0, h =>
        simp at h
        subst h
        exact List.mem_cons_self
      | 1, h => simp at h
      | j + 2, h =>
        have h2 : (xent0 ws)[j]? = some (some v) := by simpa using h
        have := ih (k + 2) j v h2
        rw [show k + (j + 2) = k + 2 + j by omega]
        exact List.mem_cons_of_mem _ this
    · have h1 : xent0 (w :: ws) = some w :: xent0 ws := by
        simp only [xent0]
      rw [h1] at h
      rw [if_neg hc]
      match i, h with
      | 0, h =>
        simp at h
        subst h
        exact List.mem_cons_self
      | j + 1, h =>
        have h2 : (xent0 ws)[j]? = some (some v) := by simpa using h
        have := ih (k + 1) j v h2
        rw [show k + (j + 1) = k + 1 + j by omega]
        exact List.mem_cons_of_mem _ this
def xent (mL : Nat) (As : List Value) : List (Option Value) := xent0 As ++ List.replicate (mL - (xent0 As).length) none
theorem xent_get {G : XG} {mL i : Nat} {As : List Value} {v : Value} (h : (xent mL As)[i]? = some (some v)) : (i, xv G v) ∈ lv_args 0 (As.map (xv G)) := by
  unfold xent at h
  by_cases hi : i < (xent0 As).length
  · rw [List.getElem?_append_left hi] at h
    have := xent0_get (G := G) As 0 i v h
    rwa [Nat.zero_add] at this
  · rw [List.getElem?_append_right (by omega)] at h
    have := List.eq_of_mem_replicate (List.mem_of_getElem? h)
    cases this
theorem xsl_len {G : XG} : ∀ As : List Value, (lg_sl (As.map (xv G))).length = (xent0 As).length := by
  intro As
  induction As with
  | nil => rfl
  | cons w ws ih =>
    have e1 : lg_sl ((w :: ws).map (xv G)) = lg_sl [xv G w] ++ lg_sl (ws.map (xv G)) := by simp [lg_sl]
    rw [e1, List.length_append, ih]
    cases w <;> simp [lg_sl, xv, xent0, Value.category] <;> omega
theorem gin_self {M : XM} : ∀ w ∈ gtbl, w ∈ xwsC M := fun _ h => List.mem_cons_of_mem _ h
theorem XSpec.of {M : XM} {d mc ms n n' : Nat} {As : List Value} {h : XH} {Q : Option Value → XH → Prop} {X : String → XH → Prop} {ls0 : List (Option Value)} (hh : M.2.2.2.2 = []) (hy : plainName M.1.cls = true) (hlen : (xent0 As).length ≤ M.2.2.1) (hls : xent M.2.2.1 As = ls0)
    (k : XW (xrm d mc ms) M (xE n' Q X mc ms) n mc ms h 0 ls0 []) : XSpec M d mc ms n n' As h Q X := by
  intro l G hl
  refine vx_ofW (cc := M.2.1) (maxL := M.2.2.1) (ret := M.2.2.2.1) hy rfl ?_
  intro p e s m args below meth c s₁ B hml hnt hv
  obtain ⟨rfl, hK, hA, hR, hb, hz⟩ := hv
  have hts := atoms_spec (ws := xwsC M) B.pre
  have htab : c.exceptionTable.toList = tableOf M.2.2.2.2 := by
    rw [hh]
    show _ = []
    cases hq : c.exceptionTable.toList with
    | nil => rfl
    | cons x r => exact (hnt x (by rw [hq]; exact List.mem_cons_self)).elim
  have C : XC G M p l s m (As.map (xv G)).toArray meth c := ⟨B.exec, B.bytes, hml, B.returns, findClass_of_methodNamed B.named, fun w hw => hts w (gin_self w hw), B.notSynchronized, hl, hK, hA, hb, htab, (name_of_methodNamed B.named B.method).1⟩
  have hlv := lv_entry (As.map (xv G)) (n := M.2.2.1) (by rw [xsl_len]; exact hlen)
  rw [lg_entry_eq]
  subst hls
  exact k G (e := e) (below := below) C s.heap [] _ 0 0 hR va_S.rf ⟨⟨hlv.1, hlv.2.1, fun q hq => by cases hq⟩, fun i v q => hlv.2.2 (i, xv G v) (xent_get q)⟩ (fun q => hz q) (by show 0 + mc ≤ mc; omega) (by show 0 + ms ≤ ms; omega)
theorem x_exact {M : XM} {p : Program} {l : Launch} {e : Env} {R : Room} {s : State} {m : MethodId} {args : Array Value} {below : List Frame} {meth : Method} {c : Code} {H : Heap} {locs : List Loc} {kc ks n : Nat} {G : XG} {h : XH} {T : State} (C : XC G M p l s m args meth c) (hR : XR G n h H) (hS : va_S (xaf G) s.heap H locs) (hz : n < 100 → s.heap.size + kc = gB G + (n + xfl h)) (hT : T.heap = H) (X : Stand p l e R s m args below meth c T locs kc ks) : n < 100 → H.size = gB G + (n + xfl h) := by
  intro hn
  have h1 := X.heapSize
  rw [hT] at h1
  have h2 := hz hn
  have h3 := x_size hR hS C.2.2.2.2.2.2.2.2.2.2.1
  omega
section XRET
variable {M : XM} {d mc ms n b bs : Nat} {h : XH} {pc : Nat} {ls : List (Option Value)} {Q : Option Value → XH → Prop} {X : String → XH → Prop}
theorem xi_iret {v : Int32} {ty : FieldType} (hd : decode M.2.1 pc = .ok (.ireturn, 1)) (hr : M.2.2.2.1 = some ty) (hn : narrow ty (.int v) = .int v) (hq : Q (some (.int v)) h) : XW (xrm d mc ms) M (xE n Q X mc ms) n b bs h pc ls [.int v] := by
  intro G p l e s m args below meth c C H locs L kc ks hR hS hl hz g1 g2 T hT X9
  have hx9 := x_exact C hR hS hz hT X9
  have g3 : kc + b ≤ mc := g1
  have g4 : ks + bs ≤ ms := g2
  exact (vx_ret (W.widen (k := mc) (n := ms) (by omega) (by omega) (W.zret C.1 C.2.1 (C.2.2.2.1.trans hr) hn (fun t ht hW => ⟨⟨some (.int v), h, rfl, hq, by rw [ht]; exact ⟨hR, hx9⟩⟩, hS.F ht⟩) hS.2.2 hd (hlocks := C.2.2.2.2.2.2.1)))) T hT X9
theorem xi_lret {v : Int64} (hd : decode M.2.1 pc = .ok (.lreturn, 1)) (hr : M.2.2.2.1 = some .long) (hq : Q (some (.long v)) h) : XW (xrm d mc ms) M (xE n Q X mc ms) n b bs h pc ls [.long v] := by
  intro G p l e s m args below meth c C H locs L kc ks hR hS hl hz g1 g2 T hT X9
  have hx9 := x_exact C hR hS hz hT X9
  have g3 : kc + b ≤ mc := g1
  have g4 : ks + bs ≤ ms := g2
  exact (vx_ret (W.widen (k := mc) (n := ms) (by omega) (by omega) (W.lret C.1 C.2.1 (C.2.2.2.1.trans hr) (fun t ht hW => ⟨⟨some (.long v), h, rfl, hq, by rw [ht]; exact ⟨hR, hx9⟩⟩, hS.F ht⟩) hS.2.2 hd (hlocks := C.2.2.2.2.2.2.1)))) T hT X9
theorem xi_vret (hd : decode M.2.1 pc = .ok (.return_, 1)) (hr : M.2.2.2.1 = none) (hq : Q none h) : XW (xrm d mc ms) M (xE n Q X mc ms) n b bs h pc ls [] := by
  intro G p l e s m args below meth c C H locs L kc ks hR hS hl hz g1 g2 T hT X9
  have hx9 := x_exact C hR hS hz hT X9
  have g3 : kc + b ≤ mc := g1
  have g4 : ks + bs ≤ ms := g2
  exact (vx_ret (W.widen (k := mc) (n := ms) (by omega) (by omega) (W.vret C.1 C.2.1 (C.2.2.2.1.trans hr) (fun t ht hW => ⟨⟨none, h, rfl, hq, by rw [ht]; exact ⟨hR, hx9⟩⟩, hS.F ht⟩) hS.2.2 hd (hlocks := C.2.2.2.2.2.2.1)))) T hT X9
theorem xi_aret {a : Nat} {cn : String} (hd : decode M.2.1 pc = .ok (.areturn, 1)) (hr : M.2.2.2.1 = some (.object cn)) (hq : Q (some (.ref a)) h) : XW (xrm d mc ms) M (xE n Q X mc ms) n b bs h pc ls [.ref a] := by
  intro G p l e s m args below meth c C H locs L kc ks hR hS hl hz g1 g2 T hT X9
  have hx9 := x_exact C hR hS hz hT X9
  have g3 : kc + b ≤ mc := g1
  have g4 : ks + bs ≤ ms := g2
  exact (vx_ret (W.widen (k := mc) (n := ms) (by omega) (by omega) (W.aret (v := .ref (xad G a)) C.1 C.2.1 (C.2.2.2.1.trans hr) (Or.inl ⟨_, rfl⟩) (Or.inr ⟨_, rfl⟩) (fun t ht hW => ⟨⟨some (.ref a), h, rfl, hq, by rw [ht]; exact ⟨hR, hx9⟩⟩, hS.F ht⟩) hS.2.2 hd (hlocks := C.2.2.2.2.2.2.1)))) T hT X9
end XRET
