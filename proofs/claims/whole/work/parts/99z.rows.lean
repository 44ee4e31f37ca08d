/-! THE LAW: rows of methods with handlers, of calls that don't throw, of the script -/
def xwsH (M : XM) : List Cond := Cond.codeWith M.1 M.2.1 M.2.2.1 M.2.2.2.1 M.2.2.2.2 :: gtbl
def XSpecH (M : XM) (d mc ms n n' : Nat) (As : List Value) (h : XH) (Q : Option Value → XH → Prop) : Prop :=
  ∀ (l : Launch) (G : XG), l.stackTraces = false → gO G = none → Met l M.1 (xwsH M) (xrm d mc ms) (va_Pc (As.map (xv G)) (xpre G n h)) (xpost G n' Q) mc ms (xaf G)
theorem x_met {l : Launch} {y : MethodName} {ws : List Cond} {rm : Room} {Pc : Array Value → State → Prop} {Qc : Array Value → State → Outcome → State → Prop} {mc ms n' : Nat} {free : Addr → Prop} {G : XG} (h : vx_Met l y ws rm Pc Qc (xthr G n' xno) mc ms free) : Met l y ws rm Pc Qc mc ms free := by
  intro p e ha hc hk s m args below hf happ hP hK
  obtain ⟨n, o, h1, h2, h3, h4⟩ := h p e ha hc hk s m args below hf happ hP hK
  refine ⟨n, o, h1, h2, h3, ?_⟩
  rcases h4 with q | ⟨q, -, E, ce, L, ⟨⟨h', hx, -⟩, -⟩, -⟩
  · exact q
  · exact hx.elim
theorem x_mono {p : Program} {l : Launch} {e : Env} {R : Room} {s : State} {m : MethodId} {args : Array Value} {below : List Frame} {meth : Method} {c : Code} {H : Heap} {locs : List Loc} {kc ks : Nat} {Z Z' : State → Prop} {g : JFrame} (hQ : ∀ t, Z t → Z' t) (k : W p l e R s m args below meth c H locs kc ks Z g) : W p l e R s m args below meth c H locs kc ks Z' g := fun T hT X => by
  obtain ⟨t, a, b⟩ := k T hT X
  exact ⟨t, a, hQ t b⟩
/-- a wrapper's end: it is looked at where the last cell isn't held -/
def xEW (n : Nat) (Q : Option Value → XH → Prop) (mc ms : Nat) : XE := fun G below args s t => gO G = none → xE n Q xno mc ms G below args s t
theorem xi_iretW {M : XM} {d mc ms n b bs : Nat} {h : XH} {pc : Nat} {ls : List (Option Value)} {Q : Option Value → XH → Prop} {v : Int32} {ty : FieldType} (hd : decode M.2.1 pc = .ok (.ireturn, 1)) (hr : M.2.2.2.1 = some ty) (hn : narrow ty (.int v) = .int v) (hq : Q (some (.int v)) h) : XW (xrm d mc ms) M (xEW n Q mc ms) n b bs h pc ls [.int v] := by
  intro G p l e s m args below meth c C H locs L kc ks hR hS hl hz g1 g2
  exact x_mono (fun t ht _ => ht) (xi_iret (X := xno) hd hr hn hq G C H locs L kc ks hR hS hl hz g1 g2)
theorem XSpecH.of {M : XM} {d mc ms n n' : Nat} {As : List Value} {h : XH} {Q : Option Value → XH → Prop} {ls0 : List (Option Value)} (hy : plainName M.1.cls = true) (hlen : (xent0 As).length ≤ M.2.2.1) (hls : xent M.2.2.1 As = ls0)
    (k : XW (xrm d mc ms) M (xEW n' Q mc ms) n mc ms h 0 ls0 []) : XSpecH M d mc ms n n' As h Q := by
  intro l G hl hgO
  refine x_met (G := G) (n' := n') (vx_ofWH (cc := M.2.1) (maxL := M.2.2.1) (ret := M.2.2.2.1) (hh := M.2.2.2.2) hy rfl ?_)
  intro p e s m args below meth c s₁ B hml hv
  obtain ⟨rfl, hK, hA, hR, hb, hz⟩ := hv
  have hts := atoms_spec (ws := xwsH M) B.pre
  have htab : c.exceptionTable.toList = tableOf M.2.2.2.2 := vx_table (x := M.1) B (hts _ List.mem_cons_self)
  have C : XC G M p l s m (As.map (xv G)).toArray meth c := ⟨B.exec, B.bytes, hml, B.returns, findClass_of_methodNamed B.named, fun w hw => hts w (List.mem_cons_of_mem _ hw), B.notSynchronized, hl, hK, hA, hb, htab, (name_of_methodNamed B.named B.method).1⟩
  have hlv := lv_entry (As.map (xv G)) (n := M.2.2.1) (by rw [xsl_len]; exact hlen)
  rw [lg_entry_eq]
  subst hls
  refine x_mono (Z := xEW n' Q mc ms G below (As.map (xv G)).toArray s) (fun t ht => ht hgO) ?_
  exact k G (e := e) (below := below) C s.heap [] _ 0 0 hR va_S.rf ⟨⟨hlv.1, hlv.2.1, fun q hq => by cases hq⟩, fun i v q => hlv.2.2 (i, xv G v) (xent_get q)⟩ (fun q => hz q) (by show 0 + mc ≤ mc; omega) (by show 0 + ms ≤ ms; omega)
section XCALLH
variable {p : Program} {l : Launch} {e : Env} {R : Room} {s : State} {m : MethodId} {args : Array Value} {below : List Frame} {meth : Method} {c : Code} {H : Heap} {locs : List Loc} {kc ks mc ms n n' pc : Nat} {Z : State → Prop} {G : XG} {L : Array Slot} {stk rest : List Value} {a : Array Value} {Q' : Option Value → XH → Prop} {h : XH}
theorem x_afterV0 (hr : va_Run p l e R s m args below meth c H locs kc ks mc ms (F0 m pc L stk) rest (xpost G n' Q' a) (xaf G)) (hS : va_S (xaf G) s.heap H locs)
    (kk : ∀ (v : Option Value) (h' : XH) (H1 : Heap) (locs1 : List Loc), Q' v h' → XR G n' h' H1 → va_S (xaf G) s.heap H1 locs1 → (n' < 100 → H1.size = gB G + (n' + xfl h')) → H1.size ≤ s.heap.size + (kc + mc) → H.size ≤ H1.size → W p l e R s m args below meth c H1 locs1 (kc + mc) (ks + ms) Z (F0 m (pc + 3) L ((v.map (xv G)).toList ++ rest))) : W p l e R s m args below meth c H locs kc ks Z (F0 m pc L stk) := by
  intro T hT X
  obtain ⟨v, st₀, t, T', L9, h0, X', hL, e1, e2, ⟨⟨v', h', hv, hq, hR, hx⟩, hF⟩, st⟩ := hr T hT X
  cases hv
  obtain ⟨k1, k2, k3⟩ := vx_keep h0 e1 hS (fun _ _ q => q) (fun _ q => q) hL hF
  obtain ⟨t2, a1, b1⟩ := kk v' h' T'.heap (locs ++ L9) hq (by rw [e1]; exact hR) k3 (fun q => by rw [e1]; exact hx q) X'.heapSize k1 T' rfl X'
  exact ⟨t2, st t2 a1, b1⟩
theorem x_afterV {M : XM} (C : XC G M p l s m args meth c) (hR0 : XR G n h H) (hz : n < 100 → s.heap.size + kc = gB G + (n + xfl h)) (hn : n' < 100 → n < 100 ∧ n' = n + mc) (hr : va_Run p l e R s m args below meth c H locs kc ks mc ms (F0 m pc L stk) rest (xpost G n' Q' a) (xaf G)) (hS : va_S (xaf G) s.heap H locs)
    (kk : ∀ (v : Option Value) (h' : XH) (H1 : Heap) (locs1 : List Loc), Q' v h' → XR G n' h' H1 → va_S (xaf G) s.heap H1 locs1 → (n' < 100 → s.heap.size + (kc + mc) = gB G + (n' + xfl h')) → W p l e R s m args below meth c H1 locs1 (kc + mc) (ks + ms) Z (F0 m (pc + 3) L ((v.map (xv G)).toList ++ rest))) : W p l e R s m args below meth c H locs kc ks Z (F0 m pc L stk) :=
  x_afterV0 hr hS (fun v h' H1 locs1 hq hR1 hS1 a2 a1 a3 => kk v h' H1 locs1 hq hR1 hS1 (x_hz hR0.2.2.2 hR1.2.2.2 hz hn a1 a2 a3 (x_size hR0 hS C.2.2.2.2.2.2.2.2.2.2.1)))
end XCALLH
/-- a static call of a method with handlers -/
def xSH (own : String) (idx : Nat) (y : XM) (k : Nat) : Prop := GoodIn gtbl (va_wsS own idx y.1 (xwsH y)) ∧ xdesc y.1 k
theorem xSH.of {own : String} {idx k : Nat} {y : XM} (h1 : Cond.methodLink own idx y.1 ∈ gtbl) (h2 : Cond.static y.1 ∈ gtbl) (h4 : Cond.initialized y.1.cls ∈ gtbl) (h5 : Cond.codeWith y.1 y.2.1 y.2.2.1 y.2.2.2.1 y.2.2.2.2 ∈ gtbl) (h6 : xdesc y.1 k) : xSH own idx y k := by
  refine ⟨goodIn_g fun w hw => ?_, h6⟩
  rcases List.mem_append.mp hw with h | h
  · simp only [List.mem_cons, List.not_mem_nil, or_false] at h
    rcases h with rfl | rfl | rfl
    · exact h1
    · exact h2
    · exact h4
  · rcases List.mem_cons.mp h with rfl | h
    · exact h5
    · exact h
section XCALLH2
variable {R : Room} {M : XM} {E : XE} {n n' b bs d mc ms m0 s0 idx ci a k : Nat} {h : XH} {pc : Nat} {ls : List (Option Value)} {st stk As : List Value} {y : XM} {Q Q' : Option Value → XH → Prop} {X X' : String → XH → Prop}
theorem xi_callSH (hd : decode M.2.1 pc = .ok (.invokestatic idx, 3)) (hy : xSH M.1.cls idx y k) (hk : As.length = k) (hst : stk = As.reverse ++ st) (hsp : XSpecH y d mc ms n n' As h Q') (hR1 : d + 1 ≤ R.frames) (hR2 : 64 * d + y.2.2.1 + 19 ≤ R.locals) (hw : (st.map Value.category).sum ≤ 8) (hn : n' < 100 → n < 100 ∧ n' = n + mc)
    (kk : ∀ (v : Option Value) (h' : XH), Q' v h' → XW R M E n' b bs h' (pc + 3) ls (v.toList ++ st)) (hE : ∀ (G : XG) (below : List Frame) (args : Array Value) (s t : State), gO G ≠ none → E G below args s t := by exact fun _ _ _ _ _ q p => absurd p.2.2.2 q) : XW R M E n (b + mc) (bs + ms) h pc ls stk := by
  intro G p l e s m args below meth c C H locs L kc ks hR hS hl hz g1 g2 T hT X
  by_cases hgO : gO G = none
  rotate_left
  · exact ⟨_, Steps.refl _, hE _ _ _ _ _ hgO⟩
  obtain ⟨hG, hdsc⟩ := hy
  have hts := C.2.2.2.2.2.1
  have hM := hsp l G C.2.2.2.2.2.2.2.1 hgO
  subst hst
  refine x_afterV C hR hz hn (vx_runSW (As := As.map (xv G)) (rest := st.map (xv G)) (Ts := gtbl) (own := M.1.cls) (cc := M.2.1) (nL := M.2.2.1) ⟨C.1, C.2.1, C.2.2.1, C.2.2.2.2.1, hts⟩ hM (vx_cwSW k hts hG rfl rfl rfl hdsc ⟨hR1, by show 8 + (y.2.2.1 + 11) + 64 * d ≤ _; omega⟩) ⟨x_blind, x_pre C hR hS (x_exact C hR hS hz hT X)⟩ rfl (by rw [List.length_map]; exact hk) hl.1.1 ?_ (lv_room ?_) hd ⟨by omega, by omega⟩) hS (fun v h' H1 locs1 hq hR1 hS1 hz1 => ?_) T hT X
  · show ((As.reverse ++ st).map (xv G)) = _
    rw [List.map_append, List.map_reverse]
  · rw [List.map_map]
    have : (st.map ((fun v => v.category) ∘ xv G)) = st.map Value.category := List.map_congr_left (fun v _ => xv_cat v)
    rw [this]
    exact hw
  · rw [x_ost]
    exact kk v h' hq G C H1 locs1 L _ _ hR1 hS1 hl hz1 (by omega) (by omega)
theorem x_cst : ∀ w ∈ [Cond.castable eN eN, Cond.castable eA eA], w ∈ lw_tbl ∧ (goodWord w = true ∨ (w.faceAtom && w.onTables) = true) := by decide +kernel
/-- what is thrown is caught, and forgotten -/
def XCat (R : Room) (M : XM) (E : XE) (n b bs : Nat) (h : XH) (pc : Nat) (E9 : String) : Prop := ∃ (pre : List ExceptionTableEntry) (x : ExceptionTableEntry) (suf : List ExceptionTableEntry) (i ln : Nat), tableOf M.2.2.2.2 = pre ++ x :: suf ∧ (∀ z ∈ pre, covers z pc = false ∨ (z.catchType ≠ 0 ∧ Cond.classLink M.1.cls z.catchType eN ∈ gtbl ∧ E9 = eA)) ∧ covers x pc = true ∧ x.catchType ≠ 0 ∧ Cond.classLink M.1.cls x.catchType E9 ∈ gtbl ∧ (E9 = eN ∨ E9 = eA) ∧ ((∃ q : Fin 4, decode M.2.1 x.handlerPc = .ok (.astore_n q, 1) ∧ (q : Nat) = i ∧ ln = 1) ∨ (decode M.2.1 x.handlerPc = .ok (.astore i, 2) ∧ ln = 2)) ∧ i < M.2.2.1 ∧ XW R M E n b bs h (x.handlerPc + ln) [] []
theorem xi_callVC (hd : decode M.2.1 pc = .ok (.invokevirtual idx, 3)) (hy : xV M.1.cls idx y ci k) (hk : As.length = k) (hs : SH a = .inr ci) (ha : a < n) (hst : stk = As.reverse ++ .ref a :: st) (hsp : XSpec y d mc ms n n' (.ref a :: As) h Q' X') (hR1 : d + 1 ≤ R.frames) (hR2 : 64 * d + y.2.2.1 + 19 ≤ R.locals) (hw : (st.map Value.category).sum ≤ 8) (hn : ¬ n' < 100)
    (kx : ∀ (E9 : String) (h' : XH), X' E9 h' → XCat R M E n' b bs h' pc E9)
    (kk : ∀ (v : Option Value) (h' : XH), Q' v h' → XW R M E n' b bs h' (pc + 3) ls (v.toList ++ st)) : XW R M E n (b + mc) (bs + ms) h pc ls stk := by
  intro G p l e s m args below meth c C H locs L kc ks hR hS hl hz g1 g2 T hT X9
  refine x_after C hR hz (fun q => absurd q hn) (x_runV hd hy hk hs ha hst hsp hR1 hR2 hw C hR hS hl (x_exact C hR hS hz hT X9) (by omega) (by omega)) hS (fun E9 ce q9 h' H1 locs1 hx hR1 hS1 h1 h2 h3 => ?_) (fun v h' H1 locs1 hq hR1 hS1 hz1 => ?_) T hT X9
  · obtain ⟨pre, x, suf, i, ln, x1, x2, x3, x4, x5, x6, x7, x8, x9⟩ := kx E9 h' hx
    have hts := C.2.2.2.2.2.1
    have hXK := C.2.2.2.2.2.2.2.2.1
    have hcast : (Cond.castable E9 E9).before args s = true := by
      have hw : Cond.castable E9 E9 ∈ [Cond.castable eN eN, Cond.castable eA eA] := by
        rcases x6 with rfl | rfl
        · exact List.mem_cons_self
        · exact List.mem_cons_of_mem _ List.mem_cons_self
      obtain ⟨w1, w2⟩ := x_cst _ hw
      rcases w2 with q | q
      · exact hts _ (List.mem_filter.mpr ⟨w1, q⟩)
      · have q' : Cond.castable E9 E9 ∈ fgbl := List.mem_filter.mpr ⟨w1, q⟩
        exact va_any (x_face q').2 (hXK.2.2.1 _ q')
    have hln : lv_has L M.2.2.1 [] := hl.1
    refine vx_catch (own := M.1.cls) (name := E9) C.2.2.2.2.1 pre x suf (by rw [C.2.2.2.2.2.2.2.2.2.2.2.1]; exact x1) (fun z hz9 => ?_) x3 x4 (hts _ x5) hcast h1 h2 h3 ?_
    · rcases x2 z hz9 with q | ⟨q1, q2, q3⟩
      · exact Or.inl q
      · refine Or.inr ⟨q1, eN, hts _ q2, ?_⟩
        rw [q3]
        exact hXK.2.2.2.1
    · have fin : ∀ L' : Array Slot, lv_has L' M.2.2.1 [] → W p l e R s m args below meth c H1 locs1 (kc + mc) (ks + ms) (E G below args s) (F0 m (x.handlerPc + ln) L' []) := fun L' hl' => x9 G C H1 locs1 L' (kc + mc) (ks + ms) hR1 hS1 ⟨hl', fun i v q => by simp at q⟩ (fun q => absurd q hn) (by omega) (by omega)
      rcases x7 with ⟨q, hq1, hq2, rfl⟩ | ⟨hq1, rfl⟩
      · exact lv_astore_n C.1 C.2.1 hq1 hq2 hln x8 rfl (fun L' hl' => fin L' ⟨hl'.1, hl'.2.1, fun q hq => by cases hq⟩)
      · exact lv_astore C.1 C.2.1 hq1 hln x8 rfl (fun L' hl' => fin L' ⟨hl'.1, hl'.2.1, fun q hq => by cases hq⟩)
  · rw [x_ost]
    exact kk v h' hq G C H1 locs1 L _ _ hR1 hS1 hl hz1 (by omega) (by omega)
end XCALLH2
/-! a call that leaves the last cell as it is -/
def gw (G : XG) (o : Int64) : XG := (gD G, gA G, gB G, gK G, gV G, gS G, gN G, gX G, some o)
theorem xv_gw {G : XG} {o : Int64} : xv (gw G o) = xv G := by
  funext v
  cases v <;> rfl
theorem xws_gw {G : XG} {o : Int64} {n : Nat} {h : XH} : xws (gw G o) n h = xws G n h := rfl
theorem XC_gw {G : XG} {o : Int64} {M : XM} {p : Program} {l : Launch} {s : State} {m : MethodId} {args : Array Value} {meth : Method} {c : Code} (C : XC G M p l s m args meth c) : XC (gw G o) M p l s m args meth c := C
section XCALLG
variable {R : Room} {M : XM} {E : XE} {n n' b bs d mc ms idx ci a k : Nat} {h : XH} {pc : Nat} {ls : List (Option Value)} {st stk As : List Value} {y : XM} {Q' : Option Value → XH → Prop}
theorem xi_callVg (hd : decode M.2.1 pc = .ok (.invokevirtual idx, 3)) (hy : xV M.1.cls idx y ci k) (hk : As.length = k) (hs : SH a = .inr ci) (ha : a < n) (hst : stk = As.reverse ++ .ref a :: st) (hsp : XSpec y d mc ms n n' (.ref a :: As) h Q' (fun _ _ => False)) (hR1 : d + 1 ≤ R.frames) (hR2 : 64 * d + y.2.2.1 + 19 ≤ R.locals) (hw : (st.map Value.category).sum ≤ 8) (hn : n' < 100 → n < 100 ∧ n' = n + mc)
    (kk : ∀ (v : Option Value) (h' : XH), Q' v h' → xL h' 99 0 = xL h 99 0 → XW R M E n' b bs h' (pc + 3) ls (v.toList ++ st)) : XW R M E n (b + mc) (bs + ms) h pc ls stk := by
  intro G p l e s m args below meth c C H locs L kc ks hR hS hl hz g1 g2 T hT X
  have C' := XC_gw (o := xL h 99 0) C
  have hR' : XR (gw G (xL h 99 0)) n h H := ⟨hR.1, hR.2.1, fun o q => Option.some.inj q, hR.2.2.2⟩
  have hl' : XLs (gw G (xL h 99 0)) M.2.2.1 ls L := ⟨hl.1, fun i v q => by rw [xv_gw]; exact hl.2 i v q⟩
  have hrun := x_runV hd hy hk hs ha hst hsp hR1 hR2 hw C' (locs := locs) (kc := kc) (ks := ks) (below := below) (e := e) hR' hS hl' (x_exact C' hR' hS hz hT X) (by omega) (by omega)
  rw [xv_gw] at hrun
  refine x_after (G := gw G (xL h 99 0)) C' hR' hz hn hrun hS (fun _ _ _ _ _ _ hx => hx.elim) (fun v h' H1 locs1 hq hR1 hS1 hz1 => ?_) T hT X
  rw [xv_gw, x_ost]
  exact kk v h' hq (hR1.2.2.1 _ rfl) G C H1 locs1 L _ _ ⟨hR1.1, hR1.2.1, fun o q => (hR1.2.2.1 _ rfl).trans (hR.2.2.1 o q), hR1.2.2.2⟩ hS1 hl hz1 (by omega) (by omega)
end XCALLG
/-! the script, the law's end -/
abbrev eN9 : String := eN
def xZ (below : List Frame) (a : Array Value) (s : State) : State → Prop := fun t => ∃ o, t.status = .running ∧ Ended t below o ∧ o = .returned (some (.int 1)) ∧ Framed s o t [] 601024 7293034
/-- the law's end, over this script -/
def xEL (xs : Nat → Int32) (L : Nat) : XE := fun G below args s t => (gX G = xs ∧ gN G = L ∧ gB G = s.heap.size ∧ gO G = none) → xZ below args s t
section XSCR
variable {R : Room} {M : XM} {n b bs : Nat} {h : XH} {pc : Nat} {ls : List (Option Value)} {st : List Value} {xs : Nat → Int32} {L : Nat}
theorem xi_slenS {v : Int32} (hd : decode M.2.1 pc = .ok (.arraylength, 1)) (hv : Int32.ofNat L = v) (k : XW R M (xEL xs L) n b bs h (pc + 1) ls (.int v :: st)) : XW R M (xEL xs L) n b bs h pc ls (.ref 3000 :: st) := by
  intro G p l e s m args below meth c C H locs Lo kc ks hR hS hl hz g1 g2
  subst hv
  by_cases hP : gX G = xs ∧ gN G = L ∧ gB G = s.heap.size ∧ gO G = none
  · obtain ⟨-, -, -, -, hX, ⟨hx1, hx2⟩, -⟩ := C.2.2.2.2.2.2.2.2.2.1
    rw [hP.2.1] at hX
    have e3 : (st.map (xv G)) = st.map (xv G) := rfl
    exact va_slen C.1 C.2.1 hX hx1 (fun q => Nat.not_le.mpr hx2 q) hS hd (k G C H locs Lo kc ks hR hS hl hz g1 g2)
  · exact fun T hT X => ⟨_, Steps.refl _, fun hp => absurd hp hP⟩
theorem xi_sldS {i : Int32} (hd : decode M.2.1 pc = .ok (.iaload, 1)) (hin : vp_in i L) (k : XW R M (xEL xs L) n b bs h (pc + 1) ls (.int (xs i.toNatClampNeg) :: st)) : XW R M (xEL xs L) n b bs h pc ls (.int i :: .ref 3000 :: st) := by
  intro G p l e s m args below meth c C H locs Lo kc ks hR hS hl hz g1 g2
  by_cases hP : gX G = xs ∧ gN G = L ∧ gB G = s.heap.size ∧ gO G = none
  · obtain ⟨-, -, -, -, hX, ⟨hx1, hx2⟩, -⟩ := C.2.2.2.2.2.2.2.2.2.1
    rw [hP.2.1, hP.1] at hX
    exact va_sld C.1 C.2.1 hX hx1 (fun q => Nat.not_le.mpr hx2 q) hS hin hd (k G C H locs Lo kc ks hR hS hl hz g1 g2)
  · exact fun T hT X => ⟨_, Steps.refl _, fun hp => absurd hp hP⟩
end XSCR
