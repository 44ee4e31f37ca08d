/-! THE REFERENCE: how far away -/
set_option maxRecDepth 20000 in
theorem v_X11_comes_0 {h : XH} {Q : Option Value → XH → Prop} {X : String → XH → Prop} (hM : xMod (xP h))  (sq : Int32) (fr : Int32)
    (vc : XW (xrm 1 0 0) mX11_comes (xE 100 Q X 0 0) 100 0 0 h 2 [some (.ref 56), some (.int sq), some (.int fr), some (.int 1)] []) :
    XW (xrm 1 0 0) mX11_comes (xE 100 Q X 0 0) 100 0 0 h 0 [some (.ref 56), some (.int sq), some (.int fr), none] [] := by
  refine xi_iconst (v := 1) (by decide +kernel : decode mX11_comes.2.1 0 = .ok (.iconst 1, 1)) (by decide) (?_ : XW _ _ _ _ _ _ _ 1 _ _)
  refine xi_istore_n (ls' := [some (.ref 56), some (.int sq), some (.int fr), some (.int 1)]) (by decide +kernel : decode mX11_comes.2.1 1 = .ok (.istore_n 3, 1)) rfl (by decide) rfl (?_ : XW _ _ _ _ _ _ _ 2 _ _)
  exact vc

set_option maxRecDepth 20000 in
theorem v_X11_comes_2 {h : XH} {Q : Option Value → XH → Prop} {X : String → XH → Prop} (hM : xMod (xP h))  (x1 : Int32) (x2 : Int32) (x3 : Int32)
    (vc : (6 < x3 → Q (some (.int 0)) h) ∧ (¬ 6 < x3 → (vp_in (x3 - 1) 12) ∧ (((xI h 60 (x3 - 1).toNatClampNeg) ≤ 0 → XW (xrm 1 0 0) mX11_comes (xE 100 Q X 0 0) 100 0 0 h 2 [some (.ref 56), some (.int x1), some (.int x2), some (.int (x3 + 1))] []) ∧ (¬ (xI h 60 (x3 - 1).toNatClampNeg) ≤ 0 → (vp_in ((101 * x3) + x1) 707) ∧ ((vp_in (xI h 67 ((101 * x3) + x1).toNatClampNeg) 101) ∧ ((¬ (xI h 80 (xI h 67 ((101 * x3) + x1).toNatClampNeg).toNatClampNeg) = x2 → XW (xrm 1 0 0) mX11_comes (xE 100 Q X 0 0) 100 0 0 h 2 [some (.ref 56), some (.int x1), some (.int x2), some (.int (x3 + 1))] []) ∧ ((xI h 80 (xI h 67 ((101 * x3) + x1).toNatClampNeg).toNatClampNeg) = x2 → Q (some (.int 1)) h))))))) :
    XW (xrm 1 0 0) mX11_comes (xE 100 Q X 0 0) 100 0 0 h 2 [some (.ref 56), some (.int x1), some (.int x2), some (.int x3)] [] := by
  refine xi_iload_n (by decide +kernel : decode mX11_comes.2.1 2 = .ok (.iload_n 3, 1)) rfl rfl (?_ : XW _ _ _ _ _ _ _ 3 _ _)
  refine xi_bipush (v := 6) (by decide +kernel : decode mX11_comes.2.1 3 = .ok (.bipush 6, 2)) (by decide) (?_ : XW _ _ _ _ _ _ _ 5 _ _)
  refine xi_icmp_gt (by decide +kernel : decode mX11_comes.2.1 5 = .ok (.if_icmp .gt 42, 3)) (by decide) (fun c => (?_ : XW _ _ _ _ _ _ _ 47 _ _)) (fun c => (?_ : XW _ _ _ _ _ _ _ 8 _ _))
  · replace vc := vc.1 c
    refine xi_iconst (v := 0) (by decide +kernel : decode mX11_comes.2.1 47 = .ok (.iconst 0, 1)) (by decide) (?_ : XW _ _ _ _ _ _ _ 48 _ _)
    exact xi_iret (by decide +kernel : decode mX11_comes.2.1 48 = .ok (.ireturn, 1)) rfl rfl vc
  · replace vc := vc.2 c
    refine xi_aload_n (by decide +kernel : decode mX11_comes.2.1 8 = .ok (.aload_n 0, 1)) rfl rfl (?_ : XW _ _ _ _ _ _ _ 9 _ _)
    refine xi_getR (y := 60) (by decide +kernel : decode mX11_comes.2.1 9 = .ok (.getfield 36, 3)) fX11_36 rfl (by omega) rfl (mp_die hM) (?_ : XW _ _ _ _ _ _ _ 12 _ _)
    refine xi_iload_n (by decide +kernel : decode mX11_comes.2.1 12 = .ok (.iload_n 3, 1)) rfl rfl (?_ : XW _ _ _ _ _ _ _ 13 _ _)
    refine xi_iconst (v := 1) (by decide +kernel : decode mX11_comes.2.1 13 = .ok (.iconst 1, 1)) (by decide) (?_ : XW _ _ _ _ _ _ _ 14 _ _)
    refine xi_isub (by decide +kernel : decode mX11_comes.2.1 14 = .ok (.isub, 1)) (?_ : XW _ _ _ _ _ _ _ 15 _ _)
    obtain ⟨s1, vc⟩ := vc
    refine xi_iald (by decide +kernel : decode mX11_comes.2.1 15 = .ok (.iaload, 1)) rfl (by omega) s1 (?_ : XW _ _ _ _ _ _ _ 16 _ _)
    refine xi_if_le (by decide +kernel : decode mX11_comes.2.1 16 = .ok (.ifCond .le 25, 3)) (by decide) (fun c => (?_ : XW _ _ _ _ _ _ _ 41 _ _)) (fun c => (?_ : XW _ _ _ _ _ _ _ 19 _ _))
    · replace vc := vc.1 c
      refine xi_iinc (v := x3 + 1) (ls' := [some (.ref 56), some (.int x1), some (.int x2), some (.int (x3 + 1))]) (by decide +kernel : decode mX11_comes.2.1 41 = .ok (.iinc 3 1, 3)) rfl rfl (by decide) rfl (?_ : XW _ _ _ _ _ _ _ 44 _ _)
      refine xi_goto (by decide +kernel : decode mX11_comes.2.1 44 = .ok (.goto (-42), 3)) (by decide) (?_ : XW _ _ _ _ _ _ _ 2 _ _)
      exact vc
    · replace vc := vc.2 c
      refine xi_aload_n (by decide +kernel : decode mX11_comes.2.1 19 = .ok (.aload_n 0, 1)) rfl rfl (?_ : XW _ _ _ _ _ _ _ 20 _ _)
      refine xi_getR (y := 80) (by decide +kernel : decode mX11_comes.2.1 20 = .ok (.getfield 100, 3)) fX11_100 rfl (by omega) rfl (mp_away hM) (?_ : XW _ _ _ _ _ _ _ 23 _ _)
      refine xi_aload_n (by decide +kernel : decode mX11_comes.2.1 23 = .ok (.aload_n 0, 1)) rfl rfl (?_ : XW _ _ _ _ _ _ _ 24 _ _)
      refine xi_getR (y := 67) (by decide +kernel : decode mX11_comes.2.1 24 = .ok (.getfield 61, 3)) fX11_61 rfl (by omega) rfl (mp_to hM) (?_ : XW _ _ _ _ _ _ _ 27 _ _)
      refine xi_bipush (v := 101) (by decide +kernel : decode mX11_comes.2.1 27 = .ok (.bipush 101, 2)) (by decide) (?_ : XW _ _ _ _ _ _ _ 29 _ _)
      refine xi_iload_n (by decide +kernel : decode mX11_comes.2.1 29 = .ok (.iload_n 3, 1)) rfl rfl (?_ : XW _ _ _ _ _ _ _ 30 _ _)
      refine xi_imul (by decide +kernel : decode mX11_comes.2.1 30 = .ok (.imul, 1)) (?_ : XW _ _ _ _ _ _ _ 31 _ _)
      refine xi_iload_n (by decide +kernel : decode mX11_comes.2.1 31 = .ok (.iload_n 1, 1)) rfl rfl (?_ : XW _ _ _ _ _ _ _ 32 _ _)
      refine xi_iadd (by decide +kernel : decode mX11_comes.2.1 32 = .ok (.iadd, 1)) (?_ : XW _ _ _ _ _ _ _ 33 _ _)
      obtain ⟨s1, vc⟩ := vc
      refine xi_iald (by decide +kernel : decode mX11_comes.2.1 33 = .ok (.iaload, 1)) rfl (by omega) s1 (?_ : XW _ _ _ _ _ _ _ 34 _ _)
      obtain ⟨s1, vc⟩ := vc
      refine xi_iald (by decide +kernel : decode mX11_comes.2.1 34 = .ok (.iaload, 1)) rfl (by omega) s1 (?_ : XW _ _ _ _ _ _ _ 35 _ _)
      refine xi_iload_n (by decide +kernel : decode mX11_comes.2.1 35 = .ok (.iload_n 2, 1)) rfl rfl (?_ : XW _ _ _ _ _ _ _ 36 _ _)
      refine xi_icmp_ne (by decide +kernel : decode mX11_comes.2.1 36 = .ok (.if_icmp .ne 5, 3)) (by decide) (fun c => (?_ : XW _ _ _ _ _ _ _ 41 _ _)) (fun c => (?_ : XW _ _ _ _ _ _ _ 39 _ _))
      · replace vc := vc.1 c
        refine xi_iinc (v := x3 + 1) (ls' := [some (.ref 56), some (.int x1), some (.int x2), some (.int (x3 + 1))]) (by decide +kernel : decode mX11_comes.2.1 41 = .ok (.iinc 3 1, 3)) rfl rfl (by decide) rfl (?_ : XW _ _ _ _ _ _ _ 44 _ _)
        refine xi_goto (by decide +kernel : decode mX11_comes.2.1 44 = .ok (.goto (-42), 3)) (by decide) (?_ : XW _ _ _ _ _ _ _ 2 _ _)
        exact vc
      · replace vc := vc.2 c
        refine xi_iconst (v := 1) (by decide +kernel : decode mX11_comes.2.1 39 = .ok (.iconst 1, 1)) (by decide) (?_ : XW _ _ _ _ _ _ _ 40 _ _)
        exact xi_iret (by decide +kernel : decode mX11_comes.2.1 40 = .ok (.ireturn, 1)) rfl rfl vc

set_option maxRecDepth 20000 in
theorem v_X11_tellAway_0 {h : XH} {Q : Option Value → XH → Prop} {X : String → XH → Prop} (hM : xMod (xP h))  (gl : Int32)
    (vc : XW (xrm 2 0 0) mX11_tellAway (xE 100 Q X 0 0) 100 0 0 h 2 [some (.ref 56), some (.int gl), some (.int 0), none, none] []) :
    XW (xrm 2 0 0) mX11_tellAway (xE 100 Q X 0 0) 100 0 0 h 0 [some (.ref 56), some (.int gl), none, none, none] [] := by
  refine xi_iconst (v := 0) (by decide +kernel : decode mX11_tellAway.2.1 0 = .ok (.iconst 0, 1)) (by decide) (?_ : XW _ _ _ _ _ _ _ 1 _ _)
  refine xi_istore_n (ls' := [some (.ref 56), some (.int gl), some (.int 0), none, none]) (by decide +kernel : decode mX11_tellAway.2.1 1 = .ok (.istore_n 2, 1)) rfl (by decide) rfl (?_ : XW _ _ _ _ _ _ _ 2 _ _)
  exact vc

set_option maxRecDepth 20000 in
theorem v_X11_tellAway_2 {h : XH} {Q : Option Value → XH → Prop} {X : String → XH → Prop} (hM : xMod (xP h))  (x1 : Int32) (x2 : Int32)
    (vc : ((xI h 59 0) < x2 → XW (xrm 2 0 0) mX11_tellAway (xE 100 Q X 0 0) 100 0 0 h 38 [some (.ref 56), none, some (.int 1), some (.int 1), none] []) ∧ (¬ (xI h 59 0) < x2 → (¬ x2 = x1 → (vp_in x2 101) ∧ (XW (xrm 2 0 0) mX11_tellAway (xE 100 Q X 0 0) 100 0 0 (xSI 80 (va_up (xI h 80) x2.toNatClampNeg (-1)) h) 2 [some (.ref 56), some (.int x1), some (.int (x2 + 1)), none, none] [])) ∧ (x2 = x1 → (vp_in x2 101) ∧ (XW (xrm 2 0 0) mX11_tellAway (xE 100 Q X 0 0) 100 0 0 (xSI 80 (va_up (xI h 80) x2.toNatClampNeg 0) h) 2 [some (.ref 56), some (.int x1), some (.int (x2 + 1)), none, none] [])))) :
    XW (xrm 2 0 0) mX11_tellAway (xE 100 Q X 0 0) 100 0 0 h 2 [some (.ref 56), some (.int x1), some (.int x2), none, none] [] := by
  refine xi_iload_n (by decide +kernel : decode mX11_tellAway.2.1 2 = .ok (.iload_n 2, 1)) rfl rfl (?_ : XW _ _ _ _ _ _ _ 3 _ _)
  refine xi_aload_n (by decide +kernel : decode mX11_tellAway.2.1 3 = .ok (.aload_n 0, 1)) rfl rfl (?_ : XW _ _ _ _ _ _ _ 4 _ _)
  refine xi_getR (y := 59) (by decide +kernel : decode mX11_tellAway.2.1 4 = .ok (.getfield 32, 3)) fX11_32 rfl (by omega) rfl (mp_told hM) (?_ : XW _ _ _ _ _ _ _ 7 _ _)
  refine xi_iconst (v := 0) (by decide +kernel : decode mX11_tellAway.2.1 7 = .ok (.iconst 0, 1)) (by decide) (?_ : XW _ _ _ _ _ _ _ 8 _ _)
  refine xi_iald (by decide +kernel : decode mX11_tellAway.2.1 8 = .ok (.iaload, 1)) rfl (by omega) (by unfold vp_in; decide) (?_ : XW _ _ _ _ _ _ _ 9 _ [.int (xI h 59 0), .int x2])
  refine xi_icmp_gt (by decide +kernel : decode mX11_tellAway.2.1 9 = .ok (.if_icmp .gt 25, 3)) (by decide) (fun c => (?_ : XW _ _ _ _ _ _ _ 34 _ _)) (fun c => (?_ : XW _ _ _ _ _ _ _ 12 _ _))
  · replace vc := vc.1 c
    refine xi_iconst (v := 1) (by decide +kernel : decode mX11_tellAway.2.1 34 = .ok (.iconst 1, 1)) (by decide) (?_ : XW _ _ _ _ _ _ _ 35 _ _)
    refine xi_istore_n (ls' := [some (.ref 56), some (.int x1), some (.int 1), none, none]) (by decide +kernel : decode mX11_tellAway.2.1 35 = .ok (.istore_n 2, 1)) rfl (by decide) rfl (?_ : XW _ _ _ _ _ _ _ 36 _ _)
    refine xi_iconst (v := 1) (by decide +kernel : decode mX11_tellAway.2.1 36 = .ok (.iconst 1, 1)) (by decide) (?_ : XW _ _ _ _ _ _ _ 37 _ _)
    refine xi_istore_n (ls' := [some (.ref 56), some (.int x1), some (.int 1), some (.int 1), none]) (by decide +kernel : decode mX11_tellAway.2.1 37 = .ok (.istore_n 3, 1)) rfl (by decide) rfl (?_ : XW _ _ _ _ _ _ _ 38 _ _)
    refine xw_drop 1 (ls' := [some (.ref 56), none, some (.int 1), some (.int 1), none]) rfl ?_
    exact vc
  · replace vc := vc.2 c
    refine xi_aload_n (by decide +kernel : decode mX11_tellAway.2.1 12 = .ok (.aload_n 0, 1)) rfl rfl (?_ : XW _ _ _ _ _ _ _ 13 _ _)
    refine xi_getR (y := 80) (by decide +kernel : decode mX11_tellAway.2.1 13 = .ok (.getfield 100, 3)) fX11_100 rfl (by omega) rfl (mp_away hM) (?_ : XW _ _ _ _ _ _ _ 16 _ _)
    refine xi_iload_n (by decide +kernel : decode mX11_tellAway.2.1 16 = .ok (.iload_n 2, 1)) rfl rfl (?_ : XW _ _ _ _ _ _ _ 17 _ _)
    refine xi_iload_n (by decide +kernel : decode mX11_tellAway.2.1 17 = .ok (.iload_n 2, 1)) rfl rfl (?_ : XW _ _ _ _ _ _ _ 18 _ _)
    refine xi_iload_n (by decide +kernel : decode mX11_tellAway.2.1 18 = .ok (.iload_n 1, 1)) rfl rfl (?_ : XW _ _ _ _ _ _ _ 19 _ _)
    refine xi_icmp_ne (by decide +kernel : decode mX11_tellAway.2.1 19 = .ok (.if_icmp .ne 7, 3)) (by decide) (fun c => (?_ : XW _ _ _ _ _ _ _ 26 _ _)) (fun c => (?_ : XW _ _ _ _ _ _ _ 22 _ _))
    · replace vc := vc.1 c
      refine xi_iconst (v := (-1)) (by decide +kernel : decode mX11_tellAway.2.1 26 = .ok (.iconst (-1), 1)) (by decide) (?_ : XW _ _ _ _ _ _ _ 27 _ _)
      obtain ⟨s1, vc⟩ := vc
      refine xi_iast (by decide +kernel : decode mX11_tellAway.2.1 27 = .ok (.iastore, 1)) rfl (by omega) s1 (?_ : XW _ _ _ _ _ _ (xSI 80 (va_up (xI h 80) x2.toNatClampNeg (-1)) h) 28 _ _)
      refine xi_iinc (v := x2 + 1) (ls' := [some (.ref 56), some (.int x1), some (.int (x2 + 1)), none, none]) (by decide +kernel : decode mX11_tellAway.2.1 28 = .ok (.iinc 2 1, 3)) rfl rfl (by decide) rfl (?_ : XW _ _ _ _ _ _ _ 31 _ _)
      refine xi_goto (by decide +kernel : decode mX11_tellAway.2.1 31 = .ok (.goto (-29), 3)) (by decide) (?_ : XW _ _ _ _ _ _ _ 2 _ _)
      exact vc
    · replace vc := vc.2 c
      refine xi_iconst (v := 0) (by decide +kernel : decode mX11_tellAway.2.1 22 = .ok (.iconst 0, 1)) (by decide) (?_ : XW _ _ _ _ _ _ _ 23 _ _)
      refine xi_goto (by decide +kernel : decode mX11_tellAway.2.1 23 = .ok (.goto 4, 3)) (by decide) (?_ : XW _ _ _ _ _ _ _ 27 _ _)
      obtain ⟨s1, vc⟩ := vc
      refine xi_iast (by decide +kernel : decode mX11_tellAway.2.1 27 = .ok (.iastore, 1)) rfl (by omega) s1 (?_ : XW _ _ _ _ _ _ (xSI 80 (va_up (xI h 80) x2.toNatClampNeg 0) h) 28 _ _)
      refine xi_iinc (v := x2 + 1) (ls' := [some (.ref 56), some (.int x1), some (.int (x2 + 1)), none, none]) (by decide +kernel : decode mX11_tellAway.2.1 28 = .ok (.iinc 2 1, 3)) rfl rfl (by decide) rfl (?_ : XW _ _ _ _ _ _ _ 31 _ _)
      refine xi_goto (by decide +kernel : decode mX11_tellAway.2.1 31 = .ok (.goto (-29), 3)) (by decide) (?_ : XW _ _ _ _ _ _ _ 2 _ _)
      exact vc

set_option maxRecDepth 20000 in
theorem v_X11_tellAway_38 {h : XH} {Q : Option Value → XH → Prop} {X : String → XH → Prop} (hM : xMod (xP h))  (x2 : Int32) (x3 : Int32)
    (vc : (x2 = 0 → Q none h) ∧ (¬ x2 = 0 → XW (xrm 2 0 0) mX11_tellAway (xE 100 Q X 0 0) 100 0 0 h 47 [some (.ref 56), none, some (.int 0), some (.int x3), some (.int 0)] [])) :
    XW (xrm 2 0 0) mX11_tellAway (xE 100 Q X 0 0) 100 0 0 h 38 [some (.ref 56), none, some (.int x2), some (.int x3), none] [] := by
  refine xi_iload_n (by decide +kernel : decode mX11_tellAway.2.1 38 = .ok (.iload_n 2, 1)) rfl rfl (?_ : XW _ _ _ _ _ _ _ 39 _ _)
  refine xi_if_eq (by decide +kernel : decode mX11_tellAway.2.1 39 = .ok (.ifCond .eq 67, 3)) (by decide) (fun c => (?_ : XW _ _ _ _ _ _ _ 106 _ _)) (fun c => (?_ : XW _ _ _ _ _ _ _ 42 _ _))
  · replace vc := vc.1 c
    exact xi_vret (by decide +kernel : decode mX11_tellAway.2.1 106 = .ok (.return_, 1)) rfl vc
  · replace vc := vc.2 c
    refine xi_iconst (v := 0) (by decide +kernel : decode mX11_tellAway.2.1 42 = .ok (.iconst 0, 1)) (by decide) (?_ : XW _ _ _ _ _ _ _ 43 _ _)
    refine xi_istore_n (ls' := [some (.ref 56), none, some (.int 0), some (.int x3), none]) (by decide +kernel : decode mX11_tellAway.2.1 43 = .ok (.istore_n 2, 1)) rfl (by decide) rfl (?_ : XW _ _ _ _ _ _ _ 44 _ _)
    refine xi_iconst (v := 0) (by decide +kernel : decode mX11_tellAway.2.1 44 = .ok (.iconst 0, 1)) (by decide) (?_ : XW _ _ _ _ _ _ _ 45 _ _)
    refine xi_istore (ls' := [some (.ref 56), none, some (.int 0), some (.int x3), some (.int 0)]) (by decide +kernel : decode mX11_tellAway.2.1 45 = .ok (.istore 4, 2)) (by decide) rfl (?_ : XW _ _ _ _ _ _ _ 47 _ _)
    exact vc

set_option maxRecDepth 20000 in
theorem v_X11_tellAway_47 {h : XH} {Q : Option Value → XH → Prop} {X : String → XH → Prop} (hM : xMod (xP h))  (x2 : Int32) (x3 : Int32) (x4 : Int32)
    (vc : ((xI h 59 0) < x4 → XW (xrm 2 0 0) mX11_tellAway (xE 100 Q X 0 0) 100 0 0 h 38 [some (.ref 56), none, some (.int x2), some (.int (x3 + 1)), none] []) ∧ (¬ (xI h 59 0) < x4 → (vp_in x4 101) ∧ ((¬ (xI h 80 x4.toNatClampNeg) = (-1) → XW (xrm 2 0 0) mX11_tellAway (xE 100 Q X 0 0) 100 0 0 h 47 [some (.ref 56), none, some (.int x2), some (.int x3), some (.int (x4 + 1))] []) ∧ ((xI h 80 x4.toNatClampNeg) = (-1) → ∃ Q1, XSpec mX11_comes 1 0 0 100 100 [.ref 56, .int x4, .int (x3 - 1)] h Q1 xno ∧ ∀ v h1, Q1 v h1 → ∃ r1 : Int32, v = some (.int r1) ∧ ((¬ r1 = 0 → (xP h1 56 37 = some 80) ∧ ((vp_in x4 101) ∧ (XW (xrm 2 0 0) mX11_tellAway (xE 100 Q X 0 0) 100 0 0 (xSI 80 (va_up (xI h1 80) x4.toNatClampNeg x3) h1) 47 [some (.ref 56), none, some (.int 1), some (.int x3), some (.int (x4 + 1))] []))) ∧ (r1 = 0 → XW (xrm 2 0 0) mX11_tellAway (xE 100 Q X 0 0) 100 0 0 h1 47 [some (.ref 56), none, some (.int x2), some (.int x3), some (.int (x4 + 1))] [])))))) :
    XW (xrm 2 0 0) mX11_tellAway (xE 100 Q X 0 0) 100 0 0 h 47 [some (.ref 56), none, some (.int x2), some (.int x3), some (.int x4)] [] := by
  refine xi_iload (by decide +kernel : decode mX11_tellAway.2.1 47 = .ok (.iload 4, 2)) rfl (?_ : XW _ _ _ _ _ _ _ 49 _ _)
  refine xi_aload_n (by decide +kernel : decode mX11_tellAway.2.1 49 = .ok (.aload_n 0, 1)) rfl rfl (?_ : XW _ _ _ _ _ _ _ 50 _ _)
  refine xi_getR (y := 59) (by decide +kernel : decode mX11_tellAway.2.1 50 = .ok (.getfield 32, 3)) fX11_32 rfl (by omega) rfl (mp_told hM) (?_ : XW _ _ _ _ _ _ _ 53 _ _)
  refine xi_iconst (v := 0) (by decide +kernel : decode mX11_tellAway.2.1 53 = .ok (.iconst 0, 1)) (by decide) (?_ : XW _ _ _ _ _ _ _ 54 _ _)
  refine xi_iald (by decide +kernel : decode mX11_tellAway.2.1 54 = .ok (.iaload, 1)) rfl (by omega) (by unfold vp_in; decide) (?_ : XW _ _ _ _ _ _ _ 55 _ [.int (xI h 59 0), .int x4])
  refine xi_icmp_gt (by decide +kernel : decode mX11_tellAway.2.1 55 = .ok (.if_icmp .gt 45, 3)) (by decide) (fun c => (?_ : XW _ _ _ _ _ _ _ 100 _ _)) (fun c => (?_ : XW _ _ _ _ _ _ _ 58 _ _))
  · replace vc := vc.1 c
    refine xi_iinc (v := x3 + 1) (ls' := [some (.ref 56), none, some (.int x2), some (.int (x3 + 1)), some (.int x4)]) (by decide +kernel : decode mX11_tellAway.2.1 100 = .ok (.iinc 3 1, 3)) rfl rfl (by decide) rfl (?_ : XW _ _ _ _ _ _ _ 103 _ _)
    refine xi_goto (by decide +kernel : decode mX11_tellAway.2.1 103 = .ok (.goto (-65), 3)) (by decide) (?_ : XW _ _ _ _ _ _ _ 38 _ _)
    refine xw_drop 4 (ls' := [some (.ref 56), none, some (.int x2), some (.int (x3 + 1)), none]) rfl ?_
    exact vc
  · replace vc := vc.2 c
    refine xi_aload_n (by decide +kernel : decode mX11_tellAway.2.1 58 = .ok (.aload_n 0, 1)) rfl rfl (?_ : XW _ _ _ _ _ _ _ 59 _ _)
    refine xi_getR (y := 80) (by decide +kernel : decode mX11_tellAway.2.1 59 = .ok (.getfield 100, 3)) fX11_100 rfl (by omega) rfl (mp_away hM) (?_ : XW _ _ _ _ _ _ _ 62 _ _)
    refine xi_iload (by decide +kernel : decode mX11_tellAway.2.1 62 = .ok (.iload 4, 2)) rfl (?_ : XW _ _ _ _ _ _ _ 64 _ _)
    obtain ⟨s1, vc⟩ := vc
    refine xi_iald (by decide +kernel : decode mX11_tellAway.2.1 64 = .ok (.iaload, 1)) rfl (by omega) s1 (?_ : XW _ _ _ _ _ _ _ 65 _ _)
    refine xi_iconst (v := (-1)) (by decide +kernel : decode mX11_tellAway.2.1 65 = .ok (.iconst (-1), 1)) (by decide) (?_ : XW _ _ _ _ _ _ _ 66 _ _)
    refine xi_icmp_ne (by decide +kernel : decode mX11_tellAway.2.1 66 = .ok (.if_icmp .ne 28, 3)) (by decide) (fun c => (?_ : XW _ _ _ _ _ _ _ 94 _ _)) (fun c => (?_ : XW _ _ _ _ _ _ _ 69 _ _))
    · replace vc := vc.1 c
      refine xi_iinc (v := x4 + 1) (ls' := [some (.ref 56), none, some (.int x2), some (.int x3), some (.int (x4 + 1))]) (by decide +kernel : decode mX11_tellAway.2.1 94 = .ok (.iinc 4 1, 3)) rfl rfl (by decide) rfl (?_ : XW _ _ _ _ _ _ _ 97 _ _)
      refine xi_goto (by decide +kernel : decode mX11_tellAway.2.1 97 = .ok (.goto (-50), 3)) (by decide) (?_ : XW _ _ _ _ _ _ _ 47 _ _)
      exact vc
    · replace vc := vc.2 c
      refine xi_aload_n (by decide +kernel : decode mX11_tellAway.2.1 69 = .ok (.aload_n 0, 1)) rfl rfl (?_ : XW _ _ _ _ _ _ _ 70 _ _)
      refine xi_iload (by decide +kernel : decode mX11_tellAway.2.1 70 = .ok (.iload 4, 2)) rfl (?_ : XW _ _ _ _ _ _ _ 72 _ _)
      refine xi_iload_n (by decide +kernel : decode mX11_tellAway.2.1 72 = .ok (.iload_n 3, 1)) rfl rfl (?_ : XW _ _ _ _ _ _ _ 73 _ _)
      refine xi_iconst (v := 1) (by decide +kernel : decode mX11_tellAway.2.1 73 = .ok (.iconst 1, 1)) (by decide) (?_ : XW _ _ _ _ _ _ _ 74 _ _)
      refine xi_isub (by decide +kernel : decode mX11_tellAway.2.1 74 = .ok (.isub, 1)) (?_ : XW _ _ _ _ _ _ _ 75 _ _)
      obtain ⟨Q1, sp, vc⟩ := vc
      refine xi_callV (b := 0) (bs := 0) (As := [.int x4, .int (x3 - 1)]) (st := []) (by decide +kernel : decode mX11_tellAway.2.1 75 = .ok (.invokevirtual 394, 3)) kX11_394 rfl rfl (by omega) rfl sp (by decide) (by decide) (Nat.le_of_ble_eq_true rfl) (by omega) (fun v9 h1 hq9 => ?_)
      obtain ⟨r1, e9, vc⟩ := vc v9 h1 hq9
      subst e9
      show XW _ _ _ _ _ _ _ 78 _ [.int r1]
      refine xi_if_ne (by decide +kernel : decode mX11_tellAway.2.1 78 = .ok (.ifCond .ne 6, 3)) (by decide) (fun c => (?_ : XW _ _ _ _ _ _ _ 84 _ _)) (fun c => (?_ : XW _ _ _ _ _ _ _ 81 _ _))
      · replace vc := vc.1 c
        refine xi_aload_n (by decide +kernel : decode mX11_tellAway.2.1 84 = .ok (.aload_n 0, 1)) rfl rfl (?_ : XW _ _ _ _ _ _ _ 85 _ _)
        obtain ⟨s1, vc⟩ := vc
        refine xi_getR (y := 80) (by decide +kernel : decode mX11_tellAway.2.1 85 = .ok (.getfield 100, 3)) fX11_100 rfl (by omega) rfl s1 (?_ : XW _ _ _ _ _ _ _ 88 _ _)
        refine xi_iload (by decide +kernel : decode mX11_tellAway.2.1 88 = .ok (.iload 4, 2)) rfl (?_ : XW _ _ _ _ _ _ _ 90 _ _)
        refine xi_iload_n (by decide +kernel : decode mX11_tellAway.2.1 90 = .ok (.iload_n 3, 1)) rfl rfl (?_ : XW _ _ _ _ _ _ _ 91 _ _)
        obtain ⟨s1, vc⟩ := vc
        refine xi_iast (by decide +kernel : decode mX11_tellAway.2.1 91 = .ok (.iastore, 1)) rfl (by omega) s1 (?_ : XW _ _ _ _ _ _ (xSI 80 (va_up (xI h1 80) x4.toNatClampNeg x3) h1) 92 _ _)
        refine xi_iconst (v := 1) (by decide +kernel : decode mX11_tellAway.2.1 92 = .ok (.iconst 1, 1)) (by decide) (?_ : XW _ _ _ _ _ _ _ 93 _ _)
        refine xi_istore_n (ls' := [some (.ref 56), none, some (.int 1), some (.int x3), some (.int x4)]) (by decide +kernel : decode mX11_tellAway.2.1 93 = .ok (.istore_n 2, 1)) rfl (by decide) rfl (?_ : XW _ _ _ _ _ _ _ 94 _ _)
        refine xi_iinc (v := x4 + 1) (ls' := [some (.ref 56), none, some (.int 1), some (.int x3), some (.int (x4 + 1))]) (by decide +kernel : decode mX11_tellAway.2.1 94 = .ok (.iinc 4 1, 3)) rfl rfl (by decide) rfl (?_ : XW _ _ _ _ _ _ _ 97 _ _)
        refine xi_goto (by decide +kernel : decode mX11_tellAway.2.1 97 = .ok (.goto (-50), 3)) (by decide) (?_ : XW _ _ _ _ _ _ _ 47 _ _)
        exact vc
      · replace vc := vc.2 c
        refine xi_goto (by decide +kernel : decode mX11_tellAway.2.1 81 = .ok (.goto 13, 3)) (by decide) (?_ : XW _ _ _ _ _ _ _ 94 _ _)
        refine xi_iinc (v := x4 + 1) (ls' := [some (.ref 56), none, some (.int x2), some (.int x3), some (.int (x4 + 1))]) (by decide +kernel : decode mX11_tellAway.2.1 94 = .ok (.iinc 4 1, 3)) rfl rfl (by decide) rfl (?_ : XW _ _ _ _ _ _ _ 97 _ _)
        refine xi_goto (by decide +kernel : decode mX11_tellAway.2.1 97 = .ok (.goto (-50), 3)) (by decide) (?_ : XW _ _ _ _ _ _ _ 47 _ _)
        exact vc

