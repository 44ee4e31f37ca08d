/-! CALLS -/
theorem goodIn_g {ws : List Cond} (h : ∀ w ∈ ws, w ∈ gtbl) : GoodIn gtbl ws := fun w hw => gtbl_good w (h w hw)
def xdesc (y : MethodName) (k : Nat) : Prop := y.cls ≠ "java/lang/invoke/MethodHandle" ∧ y.cls ≠ "java/lang/invoke/VarHandle" ∧ (parseMethodDescriptor y.desc).map (fun d => d.parameters.length) = some k
/-- a virtual call of y by a class' instruction, with k arguments -/
def xV (own : String) (idx : Nat) (y : XM) (ci k : Nat) : Prop := GoodIn gtbl (wsV own idx y.1.cls y.1 (xwsC y)) ∧ xdesc y.1 k ∧ ∃ T N, vwCl[ci]? = some (y.1.cls, T, N)
theorem xV.of {own : String} {idx ci k : Nat} {y : XM} {T : u_T} {N : Nat} (h1 : Cond.methodLink own idx y.1 ∈ gtbl) (h2 : Cond.instanceMethod y.1 ∈ gtbl) (h3 : Cond.selects y.1.cls y.1 y.1 ∈ gtbl) (h4 : Cond.initialized y.1.cls ∈ gtbl) (h5 : Cond.code y.1 y.2.1 y.2.2.1 y.2.2.2.1 ∈ gtbl) (h6 : xdesc y.1 k) (h7 : vwCl[ci]? = some (y.1.cls, T, N)) : xV own idx y ci k := by
  refine ⟨goodIn_g fun w hw => ?_, h6, T, N, h7⟩
  rcases List.mem_append.mp hw with h | h
  · simp only [List.mem_cons, List.not_mem_nil, or_false] at h
    rcases h with rfl | rfl | rfl | rfl
    · exact h1
    · exact h2
    · exact h3
    · exact h4
  · rcases List.mem_cons.mp h with rfl | h
    · exact h5
    · exact h
/-- a static call -/
def xS (own : String) (idx : Nat) (y : XM) (k : Nat) : Prop := GoodIn gtbl (xwsC y) ∧ Cond.methodLink own idx y.1 ∈ gtbl ∧ Cond.static y.1 ∈ gtbl ∧ Cond.initialized y.1.cls ∈ gtbl ∧ xdesc y.1 k
theorem xS.of {own : String} {idx k : Nat} {y : XM} (h1 : Cond.methodLink own idx y.1 ∈ gtbl) (h2 : Cond.static y.1 ∈ gtbl) (h4 : Cond.initialized y.1.cls ∈ gtbl) (h5 : Cond.code y.1 y.2.1 y.2.2.1 y.2.2.2.1 ∈ gtbl) (h6 : xdesc y.1 k) : xS own idx y k :=
  ⟨goodIn_g fun w hw => by
    rcases List.mem_cons.mp hw with rfl | h
    · exact h5
    · exact h, h1, h2, h4, h6⟩
section XCALL
variable {p : Program} {l : Launch} {e : Env} {R : Room} {s : State} {m : MethodId} {args : Array Value} {below : List Frame} {meth : Method} {c : Code} {H : Heap} {locs : List Loc} {kc ks mc ms n n' pc : Nat} {Z : State → Prop} {G : XG} {L : Array Slot} {stk rest : List Value} {a : Array Value} {Q' : Option Value → XH → Prop} {X' : String → XH → Prop} {h : XH}
/-- how many cells there are behind a call -/
theorem x_hz {N1 N2 N3 : Nat} {h h' : XH} {B : Nat} (f : xfc n h) (f' : xfc n' h') (hz : n < 100 → N1 + kc = B + (n + xfl h)) (hn : n' < 100 → n < 100 ∧ n' = n + mc) (a1 : N3 ≤ N1 + (kc + mc)) (a2 : n' < 100 → N3 = B + (n' + xfl h')) (a3 : N2 ≤ N3) (a4 : B + (n + xfl h) ≤ N2) : n' < 100 → N1 + (kc + mc) = B + (n' + xfl h') := by
  intro q
  obtain ⟨q1, q2⟩ := hn q
  have := hz q1
  have := a2 q
  omega
theorem x_after {M : XM} (C : XC G M p l s m args meth c) (hR0 : XR G n h H) (hz : n < 100 → s.heap.size + kc = gB G + (n + xfl h)) (hn : n' < 100 → n < 100 ∧ n' = n + mc) (hr : vx_Run p l e R s m args below meth c H locs kc ks mc ms (F0 m pc L stk) rest (xpost G n' Q' a) (xthr G n' X') (xaf G)) (hS : va_S (xaf G) s.heap H locs)
    (kx : ∀ (E9 : String) (ce : Cell) (q9 : Addr) (h' : XH) (H1 : Heap) (locs1 : List Loc), X' E9 h' → XR G n' h' H1 → va_S (xaf G) s.heap H1 locs1 → H1[q9]? = some ce → ce.vm = .none → s.vm.findClass E9 = some ce.cls → vx_W p l e R s m args below meth c H1 locs1 (kc + mc) (ks + ms) Z (F0 m pc L rest) q9)
    (kk : ∀ (v : Option Value) (h' : XH) (H1 : Heap) (locs1 : List Loc), Q' v h' → XR G n' h' H1 → va_S (xaf G) s.heap H1 locs1 → (n' < 100 → s.heap.size + (kc + mc) = gB G + (n' + xfl h')) → W p l e R s m args below meth c H1 locs1 (kc + mc) (ks + ms) Z (F0 m (pc + 3) L ((v.map (xv G)).toList ++ rest))) : W p l e R s m args below meth c H locs kc ks Z (F0 m pc L stk) := by
  intro T hT X
  rcases hr T hT X with ⟨v, st₀, t, T', L9, h0, X', hL, e1, e2, ⟨⟨v', h', hv, hq, hR, hx⟩, hF⟩, st⟩ | ⟨q, st₀, t, T', L9, E9, ce, h0, X', hL, e1, e2, ⟨⟨h', hx, hR⟩, hF⟩, hce, hcv, hcl, st⟩
  · cases hv
    obtain ⟨k1, k2, k3⟩ := vx_keep h0 e1 hS (fun _ _ q => q) (fun _ q => q) hL hF
    have hz1 := x_hz hR0.2.2.2 hR.2.2.2 hz hn X'.heapSize (fun q => by rw [e1]; exact hx q) k1 (x_size hR0 hS C.2.2.2.2.2.2.2.2.2.2.1)
    obtain ⟨t2, a1, b1⟩ := kk v' h' T'.heap (locs ++ L9) hq (by rw [e1]; exact hR) k3 hz1 T' rfl X'
    exact ⟨t2, st t2 a1, b1⟩
  · obtain ⟨k1, k2, k3⟩ := vx_keep h0 e1 hS (fun _ _ q => q) (fun _ q => q) hL hF
    obtain ⟨t2, a1, b1⟩ := kx E9 ce q h' T'.heap (locs ++ L9) hx (by rw [e1]; exact hR) k3 (by rw [e1]; exact hce) hcv hcl T' rfl X'
    exact ⟨t2, st.trans a1, b1⟩
theorem x_blind {As : List Value} : FrameBlind (va_Pc As (xpre G n h)) := fun a U g mk q => ⟨q.1, XK.same (u := U) (U := U.calling g mk a) rfl q.2.1, XA.moved (u := U) (U := U.calling g mk a) (Vm.Alike.refl U.vm) q.2.2.1, q.2.2.2⟩
theorem x_pre {M : XM} {As : List Value} (C : XC G M p l s m args meth c) (hR : XR G n h H) (hS : va_S (xaf G) s.heap H locs) (hsz : n < 100 → H.size = gB G + (n + xfl h)) : ∀ U : State, U.heap = H → s.WarmedH U.vm → va_Pc As (xpre G n h) As.toArray U := by
  intro U hU hW
  have hA : XA G s H := (C.2.2.2.2.2.2.2.2.2.1).kept hS.1 hS.2.1
  exact ⟨rfl, XK.warm hW C.2.2.2.2.2.2.2.2.1, by rw [hU]; exact hA.moved hW.alike, by rw [hU]; exact hR, by rw [hU]; exact Nat.le_trans C.2.2.2.2.2.2.2.2.2.2.1 hS.1, by rw [hU]; exact hsz⟩
end XCALL
section XCALL2
variable {R : Room} {M : XM} {E : XE} {n n' b bs d mc ms m0 s0 idx ci a k : Nat} {h : XH} {pc : Nat} {ls : List (Option Value)} {st stk As : List Value} {y : XM} {Q Q' : Option Value → XH → Prop} {X X' : String → XH → Prop}
theorem x_runV (hd : decode M.2.1 pc = .ok (.invokevirtual idx, 3)) (hy : xV M.1.cls idx y ci k) (hk : As.length = k) (hs : SH a = .inr ci) (ha : a < n) (hst : stk = As.reverse ++ .ref a :: st) (hsp : XSpec y d mc ms n n' (.ref a :: As) h Q' X') (hR1 : d + 1 ≤ R.frames) (hR2 : 64 * d + y.2.2.1 + 19 ≤ R.locals) (hw : (st.map Value.category).sum ≤ 8)
    {G : XG} {p : Program} {l : Launch} {e : Env} {s : State} {m : MethodId} {args : Array Value} {below : List Frame} {meth : Method} {c : Code} (C : XC G M p l s m args meth c) {H : Heap} {locs : List Loc} {L : Array Slot} {kc ks : Nat} (hR : XR G n h H) (hS : va_S (xaf G) s.heap H locs) (hl : XLs G M.2.2.1 ls L) (hsz : n < 100 → H.size = gB G + (n + xfl h)) (g1 : kc + mc ≤ R.cells) (g2 : ks + ms ≤ R.slots) :
    vx_Run p l e R s m args below meth c H locs kc ks mc ms (F0 m pc L (stk.map (xv G))) (st.map (xv G)) (xpost G n' Q' (Value.ref (gB G + xta a) :: As.map (xv G)).toArray) (xthr G n' X') (xaf G) := by
  obtain ⟨hG, hdsc, T, N, hc⟩ := hy
  have he := xr_get hR (Or.inl ha)
  rw [xcell_o hs] at he
  have e9 : xv G (.ref a) = .ref (gB G + xta a) := congrArg Value.ref (xr_ad hR (Or.inl ha))
  have hM := hsp l G C.2.2.2.2.2.2.2.1
  rw [List.map_cons, e9] at hM
  subst hst
  refine vx_runV (As := As.map (xv G)) (rest := st.map (xv G)) (Ts := gtbl) (own := M.1.cls) (cc := M.2.1) (nL := M.2.2.1) (C := y.1.cls) ⟨C.1, C.2.1, C.2.2.1, C.2.2.2.2.1, C.2.2.2.2.2.1⟩ hM (cwV k C.2.2.2.2.2.1 hG rfl rfl rfl ⟨rfl, hdsc⟩ ⟨hR1, by show 8 + (y.2.2.1 + 11) + 64 * d ≤ _; omega⟩) ⟨x_blind, va_recv C.2.2.2.2.2.2.2.2.1.1 hR.1 hc he, x_pre C hR hS hsz⟩ rfl (by rw [List.length_map]; exact hk) hl.1.1 ?_ (lv_room ?_) hd ⟨g1, g2⟩
  · show ((As.reverse ++ .ref a :: st).map (xv G)) = _
    rw [List.map_append, List.map_reverse, List.map_cons, e9]
  · rw [List.map_map]
    have : (st.map ((fun v => v.category) ∘ xv G)) = st.map Value.category := List.map_congr_left (fun v _ => xv_cat v)
    rw [this]
    exact hw
theorem x_runS (hd : decode M.2.1 pc = .ok (.invokestatic idx, 3)) (hy : xS M.1.cls idx y k) (hk : As.length = k) (hst : stk = As.reverse ++ st) (hsp : XSpec y d mc ms n n' As h Q' X') (hR1 : d + 1 ≤ R.frames) (hR2 : 64 * d + y.2.2.1 + 19 ≤ R.locals) (hw : (st.map Value.category).sum ≤ 8)
    {G : XG} {p : Program} {l : Launch} {e : Env} {s : State} {m : MethodId} {args : Array Value} {below : List Frame} {meth : Method} {c : Code} (C : XC G M p l s m args meth c) {H : Heap} {locs : List Loc} {L : Array Slot} {kc ks : Nat} (hR : XR G n h H) (hS : va_S (xaf G) s.heap H locs) (hl : XLs G M.2.2.1 ls L) (hsz : n < 100 → H.size = gB G + (n + xfl h)) (g1 : kc + mc ≤ R.cells) (g2 : ks + ms ≤ R.slots) :
    vx_Run p l e R s m args below meth c H locs kc ks mc ms (F0 m pc L (stk.map (xv G))) (st.map (xv G)) (xpost G n' Q' (As.map (xv G)).toArray) (xthr G n' X') (xaf G) := by
  obtain ⟨hG, hl1, hs1, hi1, hdsc⟩ := hy
  have hts := C.2.2.2.2.2.1
  have hM := hsp l G C.2.2.2.2.2.2.2.1
  subst hst
  refine vx_runS (As := As.map (xv G)) (rest := st.map (xv G)) (Ts := gtbl) (own := M.1.cls) (cc := M.2.1) (nL := M.2.2.1) ⟨C.1, C.2.1, C.2.2.1, C.2.2.2.2.1, hts⟩ hM ⟨callB_of k hts hG rfl rfl rfl (hts _ hi1) (hts _ hl1) hdsc ⟨hR1, by show 8 + (y.2.2.1 + 11) + 64 * d ≤ _; omega⟩, hts _ hs1⟩ ⟨x_blind, x_pre C hR hS hsz⟩ rfl (by rw [List.length_map]; exact hk) hl.1.1 ?_ (lv_room ?_) hd ⟨g1, g2⟩
  · show ((As.reverse ++ st).map (xv G)) = _
    rw [List.map_append, List.map_reverse]
  · rw [List.map_map]
    have : (st.map ((fun v => v.category) ∘ xv G)) = st.map Value.category := List.map_congr_left (fun v _ => xv_cat v)
    rw [this]
    exact hw
theorem x_ost {G : XG} (v : Option Value) : (v.map (xv G)).toList ++ st.map (xv G) = (v.toList ++ st).map (xv G) := by cases v <;> rfl
/-- the call of a method that doesn't throw -/
theorem xi_callV (hd : decode M.2.1 pc = .ok (.invokevirtual idx, 3)) (hy : xV M.1.cls idx y ci k) (hk : As.length = k) (hs : SH a = .inr ci) (ha : a < n) (hst : stk = As.reverse ++ .ref a :: st) (hsp : XSpec y d mc ms n n' (.ref a :: As) h Q' (fun _ _ => False)) (hR1 : d + 1 ≤ R.frames) (hR2 : 64 * d + y.2.2.1 + 19 ≤ R.locals) (hw : (st.map Value.category).sum ≤ 8) (hn : n' < 100 → n < 100 ∧ n' = n + mc)
    (kk : ∀ (v : Option Value) (h' : XH), Q' v h' → XW R M E n' b bs h' (pc + 3) ls (v.toList ++ st)) : XW R M E n (b + mc) (bs + ms) h pc ls stk := by
  intro G p l e s m args below meth c C H locs L kc ks hR hS hl hz g1 g2 T hT X
  refine x_after C hR hz hn (x_runV hd hy hk hs ha hst hsp hR1 hR2 hw C hR hS hl (x_exact C hR hS hz hT X) (by omega) (by omega)) hS (fun _ _ _ _ _ _ hx => hx.elim) (fun v h' H1 locs1 hq hR1 hS1 hz1 => ?_) T hT X
  rw [x_ost]
  exact kk v h' hq G C H1 locs1 L _ _ hR1 hS1 hl hz1 (by omega) (by omega)
theorem xi_callS (hd : decode M.2.1 pc = .ok (.invokestatic idx, 3)) (hy : xS M.1.cls idx y k) (hk : As.length = k) (hst : stk = As.reverse ++ st) (hsp : XSpec y d mc ms n n' As h Q' (fun _ _ => False)) (hR1 : d + 1 ≤ R.frames) (hR2 : 64 * d + y.2.2.1 + 19 ≤ R.locals) (hw : (st.map Value.category).sum ≤ 8) (hn : n' < 100 → n < 100 ∧ n' = n + mc)
    (kk : ∀ (v : Option Value) (h' : XH), Q' v h' → XW R M E n' b bs h' (pc + 3) ls (v.toList ++ st)) : XW R M E n (b + mc) (bs + ms) h pc ls stk := by
  intro G p l e s m args below meth c C H locs L kc ks hR hS hl hz g1 g2 T hT X
  refine x_after C hR hz hn (x_runS hd hy hk hst hsp hR1 hR2 hw C hR hS hl (x_exact C hR hS hz hT X) (by omega) (by omega)) hS (fun _ _ _ _ _ _ hx => hx.elim) (fun v h' H1 locs1 hq hR1 hS1 hz1 => ?_) T hT X
  rw [x_ost]
  exact kk v h' hq G C H1 locs1 L _ _ hR1 hS1 hl hz1 (by omega) (by omega)
/-- .. of one that may: it goes on to the caller -/
theorem xi_callVX {dm : Nat} (hd : decode M.2.1 pc = .ok (.invokevirtual idx, 3)) (hy : xV M.1.cls idx y ci k) (hk : As.length = k) (hs : SH a = .inr ci) (ha : a < n) (hst : stk = As.reverse ++ .ref a :: st) (hsp : XSpec y d mc ms n n' (.ref a :: As) h Q' X') (hR1 : d + 1 ≤ dm) (hR2 : 64 * d + y.2.2.1 + 19 ≤ 64 * dm) (hw : (st.map Value.category).sum ≤ 8) (hn : n' < 100 → n < 100 ∧ n' = n + mc) (hh : M.2.2.2.2 = [])
    (kx : ∀ (E9 : String) (h' : XH), X' E9 h' → X E9 h')
    (kk : ∀ (v : Option Value) (h' : XH), Q' v h' → XW (xrm dm m0 s0) M (xE n' Q X m0 s0) n' b bs h' (pc + 3) ls (v.toList ++ st)) : XW (xrm dm m0 s0) M (xE n' Q X m0 s0) n (b + mc) (bs + ms) h pc ls stk := by
  intro G p l e s m args below meth c C H locs L kc ks hR hS hl hz g1 g2 T hT X9
  have htab : ∀ x ∈ c.exceptionTable.toList, covers x pc = false := by
    rw [C.2.2.2.2.2.2.2.2.2.2.2.1, hh]
    intro x hx
    cases hx
  have g3 : kc + (b + mc) ≤ m0 := g1
  have g4 : ks + (bs + ms) ≤ s0 := g2
  refine x_after C hR hz hn (x_runV hd hy hk hs ha hst hsp hR1 hR2 hw C hR hS hl (x_exact C hR hS hz hT X9) (by show _ ≤ m0; omega) (by show _ ≤ s0; omega)) hS (fun E9 ce q9 h' H1 locs1 hx hR1 hS1 h1 h2 h3 => ?_) (fun v h' H1 locs1 hq hR1 hS1 hz1 => ?_) T hT X9
  · exact vx_out htab C.2.2.2.2.2.2.1 h1 h2 h3 (fun t ht hW => ⟨⟨h', kx _ _ hx, by rw [ht]; exact hR1⟩, hS1.F ht⟩) hS1.2.2 (by omega) (by omega)
  · rw [x_ost]
    exact kk v h' hq G C H1 locs1 L _ _ hR1 hS1 hl hz1 (by show _ ≤ m0; omega) (by show _ ≤ s0; omega)
/-- 'throw new ..' -/
def xT (own : String) (ik ic : Nat) (cls : String) (names : List String) : Prop := Bundle.fit cls = true ∧ (∀ q ∈ names, Bundle.fit q = true) ∧ Cond.classLink own ik cls ∈ gtbl ∧ Cond.initialized cls ∈ gtbl ∧ (∀ w ∈ vx_at0 own ic cls names, w ∈ gtbl ∨ w ∈ fgbl) ∧ (∀ w ∈ Cond.classLink own ik cls :: Cond.initialized cls :: vx_at0 own ic cls names, vx_ot w = true)
theorem xi_throw {dm ik ic : Nat} {cls : String} {names : List String} (hT : xT M.1.cls ik ic cls names) (d0 : decode M.2.1 pc = .ok (.new ik, 3)) (d3 : decode M.2.1 (pc + 3) = .ok (.dup, 1)) (d4 : decode M.2.1 (pc + 4) = .ok (.invokespecial ic, 3)) (d7 : decode M.2.1 (pc + 7) = .ok (.athrow, 1)) (hh : M.2.2.2.2 = [])
    (hR1 : names.length + 3 < dm) (hR2 : (st.map Value.category).sum + (13 * (names.length + 1) + 42) ≤ 64 * dm) (hx : X cls h) : XW (xrm dm m0 s0) M (xE n Q X m0 s0) n (b + 1) (bs + 6) h pc ls st := by
  intro G p l e s m args below meth c C H locs L kc ks hR hS hl hz g1 g2
  obtain ⟨t1, t2, t3, t4, t5, t6⟩ := hT
  have htab : ∀ x ∈ c.exceptionTable.toList, covers x (pc + 7) = false := by
    rw [C.2.2.2.2.2.2.2.2.2.2.2.1, hh]
    intro x hx
    cases hx
  have hts := C.2.2.2.2.2.1
  have hA := C.2.2.2.2.2.2.2.2.2.1
  have g3 : kc + (b + 1) ≤ m0 := g1
  have g4 : ks + (bs + 6) ≤ s0 := g2
  refine vx_throw0 C.1 C.2.1 C.2.2.2.2.2.2.2.1 C.2.2.2.2.1 t1 t2 (hts _ t3) (hts _ t4) (fun w hw => ?_) t6 hA.2.1 hA.2.2.1 hS (hl.1.1.trans C.2.2.1.symm) d0 d3 d4 d7 htab hR1 ?_ (by show _ ≤ m0; omega) (by show _ ≤ s0; omega) C.2.2.2.2.2.2.1 (fun t hal hsz hk => ⟨⟨h, hx, ⟨hR.1.kept (fun k q hq => hk q.1 (hR.1 k q hq).lt), hR.2⟩⟩, ⟨Nat.le_trans hS.1 hsz, fun q q1 q2 => (hk q (Nat.lt_of_lt_of_le q1 hS.1)).trans (hS.2.1 q q1 q2)⟩⟩) hS.2.2 (by omega) (by omega)
  · rcases t5 w hw with q | q
    · exact hts w q
    · exact va_any (x_face q).2 (C.2.2.2.2.2.2.2.2.1.2.2.1 w q)
  · rw [List.map_map]
    have : (st.map ((fun v => v.category) ∘ xv G)) = st.map Value.category := List.map_congr_left (fun v _ => xv_cat v)
    rw [this]
    exact hR2
end XCALL2
