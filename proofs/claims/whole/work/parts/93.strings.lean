/-! STRING CONSTANTS: rows, calls, the walks of the string's own functions -/
section XSTR
variable {R : Room} {M : XM} {E : XE} {n b bs : Nat} {h : XH} {pc : Nat} {ls : List (Option Value)} {st : List Value}
theorem xad_K {G : XG} {i : Nat} (h : i < jsN) : xad G (1000 + i) = gK G i := by
  unfold jsN at h
  unfold xad
  rw [if_neg (by omega), if_pos (by omega), Nat.add_sub_cancel_left]
theorem xad_V {G : XG} {i : Nat} (h : i < 1000) : xad G (2000 + i) = gV G i := by
  unfold xad
  rw [if_neg (by omega), if_neg (by omega), if_pos (by omega), Nat.add_sub_cancel_left]
theorem xv_K {G : XG} {i : Nat} (h : i < jsN) : xv G (.ref (1000 + i)) = .ref (gK G i) := congrArg Value.ref (xad_K h)
theorem xv_V {G : XG} {i : Nat} (h : i < 1000) : xv G (.ref (2000 + i)) = .ref (gV G i) := congrArg Value.ref (xad_V h)
theorem xi_sval {i idx : Nat} (hd : decode M.2.1 pc = .ok (.getfield idx, 3)) (hw : Cond.fieldLink M.1.cls idx "java/lang/String" "value" "[B" ∈ gtbl) (hi : i < jsN) (kk : XW R M E n b bs h (pc + 3) ls (.ref (2000 + i) :: st)) : XW R M E n b bs h pc ls (.ref (1000 + i) :: st) := by
  intro G p l e s m args below meth c C H locs L kc ks hR hS hl hz g1 g2
  have hk := kk G (e := e) (below := below) C H locs L kc ks hR hS hl hz g1 g2
  rw [List.map_cons, xv_K hi]
  rw [List.map_cons, xv_V (by unfold jsN at hi; omega)] at hk
  exact vk_getf C.1 C.2.1 (C.2.2.2.2.2.2.2.2.2.1.1 i hi).2.2.1 hS C.2.2.2.2.1 (C.2.2.2.2.2.1 _ hw) (fun _ q => q) hd hk
theorem xi_scod {i idx : Nat} (hd : decode M.2.1 pc = .ok (.getfield idx, 3)) (hw : Cond.fieldLink M.1.cls idx "java/lang/String" "coder" "B" ∈ gtbl) (hi : i < jsN) (kk : XW R M E n b bs h (pc + 3) ls (.int 0 :: st)) : XW R M E n b bs h pc ls (.ref (1000 + i) :: st) := by
  intro G p l e s m args below meth c C H locs L kc ks hR hS hl hz g1 g2
  have hk := kk G (e := e) (below := below) C H locs L kc ks hR hS hl hz g1 g2
  rw [List.map_cons, xv_K hi]
  exact vk_getf C.1 C.2.1 (C.2.2.2.2.2.2.2.2.2.1.1 i hi).2.1 hS C.2.2.2.2.1 (C.2.2.2.2.2.1 _ hw) (fun _ q => q) hd hk
theorem xi_scst {idx : Nat} (hd : decode M.2.1 pc = .ok (.getstatic idx, 3)) (hw : Cond.fieldLink M.1.cls idx "java/lang/String" "COMPACT_STRINGS" "Z" ∈ gtbl) (kk : XW R M E n b bs h (pc + 3) ls (.int 1 :: st)) : XW R M E n b bs h pc ls st := by
  intro G p l e s m args below meth c C H locs L kc ks hR hS hl hz g1 g2
  exact va_gets C.1 C.2.1 C.2.2.2.2.2.2.2.2.2.1.2.2.2.1 hS C.2.2.2.2.1 (C.2.2.2.2.2.1 _ hw) (fun _ q => q) hd (kk G C H locs L kc ks hR hS hl hz g1 g2)
theorem xi_sfmt {idx : Nat} (hd : decode M.2.1 pc = .ok (.getstatic idx, 3)) (hw : Cond.fieldLink M.1.cls idx "jdk/internal/util/Preconditions" "SIOOBE_FORMATTER" "Ljava/util/function/BiFunction;" ∈ gtbl) (kk : ∀ w : Value, (w = .ref 2900 ∨ w = .null) → XW R M E n b bs h (pc + 3) ls (w :: st)) : XW R M E n b bs h pc ls st := by
  intro G p l e s m args below meth c C H locs L kc ks hR hS hl hz g1 g2
  rcases C.2.2.2.2.2.2.2.2.2.1.2.2.2.2.2.2 with q | q
  · have hk := kk _ (Or.inl rfl) G (e := e) (below := below) C H locs L kc ks hR hS hl hz g1 g2
    rw [List.map_cons, show xv G (.ref 2900) = .ref (gV G 900) from xv_V (i := 900) (by omega)] at hk
    exact va_gets C.1 C.2.1 q hS C.2.2.2.2.1 (C.2.2.2.2.2.1 _ hw) (fun _ q => q) hd hk
  · have hk := kk _ (Or.inr rfl) G (e := e) (below := below) C H locs L kc ks hR hS hl hz g1 g2
    exact va_gets C.1 C.2.1 q hS C.2.2.2.2.1 (C.2.2.2.2.2.1 _ hw) (fun _ q => q) hd hk
theorem xi_slen {i : Nat} {v : Int32} (hd : decode M.2.1 pc = .ok (.arraylength, 1)) (hi : i < jsN) (hv : Int32.ofNat (jsL i) = v) (kk : XW R M E n b bs h (pc + 1) ls (.int v :: st)) : XW R M E n b bs h pc ls (.ref (2000 + i) :: st) := by
  intro G p l e s m args below meth c C H locs L kc ks hR hS hl hz g1 g2
  have hk := kk G (e := e) (below := below) C H locs L kc ks hR hS hl hz g1 g2
  rw [List.map_cons, xv_V (by unfold jsN at hi; omega)]
  exact va_tlen C.1 C.2.1 (C.2.2.2.2.2.2.2.2.2.1.1 i hi).2.2.2 hS hv hd hk
theorem xi_sbyt {i : Nat} {j : Int32} (hd : decode M.2.1 pc = .ok (.baload, 1)) (hi : i < jsN) (hin : vp_in j (jsL i)) (kk : XW R M E n b bs h (pc + 1) ls (.int (jsC i j.toNatClampNeg) :: st)) : XW R M E n b bs h pc ls (.int j :: .ref (2000 + i) :: st) := by
  intro G p l e s m args below meth c C H locs L kc ks hR hS hl hz g1 g2
  have hk := kk G (e := e) (below := below) C H locs L kc ks hR hS hl hz g1 g2
  rw [List.map_cons, List.map_cons, xv_V (by unfold jsN at hi; omega)]
  exact va_tb C.1 C.2.1 (C.2.2.2.2.2.2.2.2.2.1.1 i hi).2.2.2 hS hin rfl hd hk
theorem xi_i2b {x : Int32} (hd : decode M.2.1 pc = .ok (.i2b, 1)) (k : XW R M E n b bs h (pc + 1) ls (.int x.toInt8.toInt32 :: st)) : XW R M E n b bs h pc ls (.int x :: st) := by
  intro G p l e s m args below meth c C H locs L kc ks hR hS hl hz g1 g2
  exact lv_i2b C.1 C.2.1 hd rfl (k G C H locs L kc ks hR hS hl hz g1 g2)
theorem xi_ldcwS {i j : Nat} {tx : String} (hd : decode M.2.1 pc = .ok (.ldc_w i, 3)) (hj : jsTab[j]? = some (M.1.cls, i, tx)) (h9 : j < jsN) (k : XW R M E n b bs h (pc + 3) ls (.ref (1000 + j) :: st)) : XW R M E n b bs h pc ls st := by
  intro G p l e s m args below meth c C H locs L kc ks hR hS hl hz g1 g2
  have hk := k G (e := e) (below := below) C H locs L kc ks hR hS hl hz g1 g2
  rw [List.map_cons, xv_K h9] at hk
  have hZ := C.2.2.2.2.2.2.2.2.1.2.1 j _ hj
  intro T hT X
  obtain ⟨t, a1, b1⟩ := hk T hT X
  refine ⟨t, ?_, b1⟩
  obtain ⟨k0, cf, i0, a', hk0, hcf, hcp, -, hr, hev'⟩ := Cond.stringRef_spec C.2.2.2.2.1 hZ.1
  have ea : gK G j = a' := Value.ref.inj (Option.some.inj (hZ.2.symm.trans hev'))
  subst ea
  obtain ⟨k', hk', he⟩ := X.warmed.alike.2.2 _ _ hk0
  have hr' : k'.resolved[i]? = some (some (.string (gK G j))) := by
    rcases X.warmed.entry hk0 hk' i with h | ⟨h, -⟩
    · rw [h]; exact hr
    · rw [hr] at h; cases h
  have hdg : decode c.code pc = .ok (.ldc_w i, 3) := by rw [C.2.1]; exact hd
  jvm_step X.here [C.1, hdg, ldc_w.wp_string (e := e) (s := T) (f := F0 m pc L (st.map (xv G))) X.here.top hk' (by rw [he]; exact hcf) hcp hr']
  exact a1
end XSTR
def xVs (own : String) (idx : Nat) (y : XM) (k : Nat) : Prop := GoodIn gtbl (wsV own idx y.1.cls y.1 (xwsC y)) ∧ xdesc y.1 k ∧ y.1.cls = "java/lang/String"
theorem xVs.of {own : String} {idx k : Nat} {y : XM} (h1 : Cond.methodLink own idx y.1 ∈ gtbl) (h2 : Cond.instanceMethod y.1 ∈ gtbl) (h3 : Cond.selects y.1.cls y.1 y.1 ∈ gtbl) (h4 : Cond.initialized y.1.cls ∈ gtbl) (h5 : Cond.code y.1 y.2.1 y.2.2.1 y.2.2.2.1 ∈ gtbl) (h6 : xdesc y.1 k) (h7 : y.1.cls = "java/lang/String" := by rfl) : xVs own idx y k := by
  refine ⟨goodIn_g fun w hw => ?_, h6, h7⟩
  rcases List.mem_append.mp hw with h | h
  · simp only [List.mem_cons, List.not_mem_nil, or_false] at h
    rcases h with rfl | rfl | rfl | rfl
    · exact h1
    · exact h2
    · exact h3
    · exact h4
  · rcases List.mem_cons.mp h with rfl | h
    · exact h5
    · exact h
section XSTR2
variable {R : Room} {M : XM} {E : XE} {n n' b bs d mc ms idx i k : Nat} {h : XH} {pc : Nat} {ls : List (Option Value)} {st stk As : List Value} {y : XM} {Q' : Option Value → XH → Prop} {X' : String → XH → Prop}
theorem x_runVs (hd : decode M.2.1 pc = .ok (.invokevirtual idx, 3)) (hy : xVs M.1.cls idx y k) (hk : As.length = k) (hi : i < jsN) (hst : stk = As.reverse ++ .ref (1000 + i) :: st) (hsp : XSpec y d mc ms n n' (.ref (1000 + i) :: As) h Q' X') (hR1 : d + 1 ≤ R.frames) (hR2 : 64 * d + y.2.2.1 + 19 ≤ R.locals) (hw : (st.map Value.category).sum ≤ 8)
    {G : XG} {p : Program} {l : Launch} {e : Env} {s : State} {m : MethodId} {args : Array Value} {below : List Frame} {meth : Method} {c : Code} (C : XC G M p l s m args meth c) {H : Heap} {locs : List Loc} {L : Array Slot} {kc ks : Nat} (hR : XR G n h H) (hS : va_S (xaf G) s.heap H locs) (hl : XLs G M.2.2.1 ls L) (hsz : n < 100 → H.size = gB G + (n + xfl h)) (g1 : kc + mc ≤ R.cells) (g2 : ks + ms ≤ R.slots) :
    vx_Run p l e R s m args below meth c H locs kc ks mc ms (F0 m pc L (stk.map (xv G))) (st.map (xv G)) (xpost G n' Q' (Value.ref (gK G i) :: As.map (xv G)).toArray) (xthr G n' X') (xaf G) := by
  obtain ⟨hG, hdsc, hcl⟩ := hy
  have hM := hsp l G C.2.2.2.2.2.2.2.1
  rw [List.map_cons, xv_K hi] at hM
  subst hst
  have hrec := va_Orecv (C.2.2.2.2.2.2.2.2.2.1.1 i hi).1 hS
  rw [← hcl] at hrec
  refine vx_runV (As := As.map (xv G)) (rest := st.map (xv G)) (Ts := gtbl) (own := M.1.cls) (cc := M.2.1) (nL := M.2.2.1) (C := y.1.cls) ⟨C.1, C.2.1, C.2.2.1, C.2.2.2.2.1, C.2.2.2.2.2.1⟩ hM (cwV k C.2.2.2.2.2.1 hG rfl rfl rfl ⟨rfl, hdsc⟩ ⟨hR1, by show 8 + (y.2.2.1 + 11) + 64 * d ≤ _; omega⟩) ⟨x_blind, hrec, x_pre C hR hS hsz⟩ rfl (by rw [List.length_map]; exact hk) hl.1.1 ?_ (lv_room ?_) hd ⟨g1, g2⟩
  · show ((As.reverse ++ .ref (1000 + i) :: st).map (xv G)) = _
    rw [List.map_append, List.map_reverse, List.map_cons, xv_K hi]
  · rw [List.map_map]
    have : (st.map ((fun v => v.category) ∘ xv G)) = st.map Value.category := List.map_congr_left (fun v _ => xv_cat v)
    rw [this]
    exact hw
theorem xi_callVs (hd : decode M.2.1 pc = .ok (.invokevirtual idx, 3)) (hy : xVs M.1.cls idx y k) (hk : As.length = k) (hi : i < jsN) (hst : stk = As.reverse ++ .ref (1000 + i) :: st) (hsp : XSpec y d mc ms n n' (.ref (1000 + i) :: As) h Q' (fun _ _ => False)) (hR1 : d + 1 ≤ R.frames) (hR2 : 64 * d + y.2.2.1 + 19 ≤ R.locals) (hw : (st.map Value.category).sum ≤ 8) (hn : n' < 100 → n < 100 ∧ n' = n + mc)
    (kk : ∀ (v : Option Value) (h' : XH), Q' v h' → XW R M E n' b bs h' (pc + 3) ls (v.toList ++ st)) : XW R M E n (b + mc) (bs + ms) h pc ls stk := by
  intro G p l e s m args below meth c C H locs L kc ks hR hS hl hz g1 g2 T hT X
  refine x_after C hR hz hn (x_runVs hd hy hk hi hst hsp hR1 hR2 hw C hR hS hl (x_exact C hR hS hz hT X) (by omega) (by omega)) hS (fun _ _ _ _ _ _ hx => hx.elim) (fun v h' H1 locs1 hq hR1 hS1 hz1 => ?_) T hT X
  rw [x_ost]
  exact kk v h' hq G C H1 locs1 L _ _ hR1 hS1 hl hz1 (by omega) (by omega)
end XSTR2
