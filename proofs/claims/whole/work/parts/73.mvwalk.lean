/-! MOVES: the walks of both -/
set_option maxRecDepth 20000 in
theorem v_X7_sendBack_0 {h : XH} {Q : Option Value → XH → Prop} {X : String → XH → Prop} (r : Nat) (hbp : BP r h)  (q : Int32)
    (vc : XW (xrm 2 0 0) mX7_sendBack (xE 100 Q X 0 0) 100 0 0 h 4 [some (.ref 29), some (.int q), some (.int 0), some (.int 0)] []) :
    XW (xrm 2 0 0) mX7_sendBack (xE 100 Q X 0 0) 100 0 0 h 0 [some (.ref 29), some (.int q), none, none] [] := by
  obtain ⟨hb, hr, hnr, ha21, ha25, hu29, hu34, hw, hnt, hwr⟩ := hbp
  refine xi_iconst (v := 0) (by decide +kernel : decode mX7_sendBack.2.1 0 = .ok (.iconst 0, 1)) (by decide) (?_ : XW _ _ _ _ _ _ _ 1 _ _)
  refine xi_istore_n (ls' := [some (.ref 29), some (.int q), some (.int 0), none]) (by decide +kernel : decode mX7_sendBack.2.1 1 = .ok (.istore_n 2, 1)) rfl (by decide) rfl (?_ : XW _ _ _ _ _ _ _ 2 _ _)
  refine xi_iconst (v := 0) (by decide +kernel : decode mX7_sendBack.2.1 2 = .ok (.iconst 0, 1)) (by decide) (?_ : XW _ _ _ _ _ _ _ 3 _ _)
  refine xi_istore_n (ls' := [some (.ref 29), some (.int q), some (.int 0), some (.int 0)]) (by decide +kernel : decode mX7_sendBack.2.1 3 = .ok (.istore_n 3, 1)) rfl (by decide) rfl (?_ : XW _ _ _ _ _ _ _ 4 _ _)
  exact vc

set_option maxRecDepth 20000 in
theorem v_X7_sendBack_4 {h : XH} {Q : Option Value → XH → Prop} {X : String → XH → Prop} (r : Nat) (hbp : BP r h)  (x1 : Int32) (x2 : Int32) (x3 : Int32)
    (vc : ((xI h 29 3) ≤ x3 → Q (some (.int x2)) h) ∧ (¬ (xI h 29 3) ≤ x3 → (x3 = (xI h 29 0) → XW (xrm 2 0 0) mX7_sendBack (xE 100 Q X 0 0) 100 0 0 h 4 [some (.ref 29), some (.int x1), some (.int x2), some (.int (x3 + 1))] []) ∧ (¬ x3 = (xI h 29 0) → ∃ Q1, XSpec mX7_placeOf 1 0 0 100 100 [.ref 29, .int x3] h Q1 xno ∧ ∀ v h1, Q1 v h1 → ∃ r1 : Int32, v = some (.int r1) ∧ ((¬ r1 = x1 → XW (xrm 2 0 0) mX7_sendBack (xE 100 Q X 0 0) 100 0 0 h1 4 [some (.ref 29), some (.int x1), some (.int x2), some (.int (x3 + 1))] []) ∧ (r1 = x1 → ∃ Q1, XSpec mX7_place 1 0 0 100 100 [.ref 29, .int x3, .int 0] h1 Q1 xno ∧ ∀ v h2, Q1 v h2 → v = none ∧ (XW (xrm 2 0 0) mX7_sendBack (xE 100 Q X 0 0) 100 0 0 h2 4 [some (.ref 29), some (.int x1), some (.int (x2 ||| (1 <<< ((x3 : Int32) &&& 31)))), some (.int (x3 + 1))] [])))))) :
    XW (xrm 2 0 0) mX7_sendBack (xE 100 Q X 0 0) 100 0 0 h 4 [some (.ref 29), some (.int x1), some (.int x2), some (.int x3)] [] := by
  obtain ⟨hb, hr, hnr, ha21, ha25, hu29, hu34, hw, hnt, hwr⟩ := hbp
  refine xi_iload_n (by decide +kernel : decode mX7_sendBack.2.1 4 = .ok (.iload_n 3, 1)) rfl rfl (?_ : XW _ _ _ _ _ _ _ 5 _ _)
  refine xi_aload_n (by decide +kernel : decode mX7_sendBack.2.1 5 = .ok (.aload_n 0, 1)) rfl rfl (?_ : XW _ _ _ _ _ _ _ 6 _ _)
  refine xi_getI (by decide +kernel : decode mX7_sendBack.2.1 6 = .ok (.getfield 33, 3)) fX7_33 rfl (by omega) rfl (?_ : XW _ _ _ _ _ _ _ 9 _ _)
  refine xi_icmp_ge (by decide +kernel : decode mX7_sendBack.2.1 9 = .ok (.if_icmp .ge 38, 3)) (by decide) (fun c => (?_ : XW _ _ _ _ _ _ _ 47 _ _)) (fun c => (?_ : XW _ _ _ _ _ _ _ 12 _ _))
  · replace vc := vc.1 c
    refine xi_iload_n (by decide +kernel : decode mX7_sendBack.2.1 47 = .ok (.iload_n 2, 1)) rfl rfl (?_ : XW _ _ _ _ _ _ _ 48 _ _)
    exact xi_iret (by decide +kernel : decode mX7_sendBack.2.1 48 = .ok (.ireturn, 1)) rfl rfl vc
  · replace vc := vc.2 c
    refine xi_iload_n (by decide +kernel : decode mX7_sendBack.2.1 12 = .ok (.iload_n 3, 1)) rfl rfl (?_ : XW _ _ _ _ _ _ _ 13 _ _)
    refine xi_aload_n (by decide +kernel : decode mX7_sendBack.2.1 13 = .ok (.aload_n 0, 1)) rfl rfl (?_ : XW _ _ _ _ _ _ _ 14 _ _)
    refine xi_getI (by decide +kernel : decode mX7_sendBack.2.1 14 = .ok (.getfield 43, 3)) fX7_43 rfl (by omega) rfl (?_ : XW _ _ _ _ _ _ _ 17 _ _)
    refine xi_icmp_eq (by decide +kernel : decode mX7_sendBack.2.1 17 = .ok (.if_icmp .eq 24, 3)) (by decide) (fun c => (?_ : XW _ _ _ _ _ _ _ 41 _ _)) (fun c => (?_ : XW _ _ _ _ _ _ _ 20 _ _))
    · replace vc := vc.1 c
      refine xi_iinc (v := x3 + 1) (ls' := [some (.ref 29), some (.int x1), some (.int x2), some (.int (x3 + 1))]) (by decide +kernel : decode mX7_sendBack.2.1 41 = .ok (.iinc 3 1, 3)) rfl rfl (by decide) rfl (?_ : XW _ _ _ _ _ _ _ 44 _ _)
      refine xi_goto (by decide +kernel : decode mX7_sendBack.2.1 44 = .ok (.goto (-40), 3)) (by decide) (?_ : XW _ _ _ _ _ _ _ 4 _ _)
      exact vc
    · replace vc := vc.2 c
      refine xi_aload_n (by decide +kernel : decode mX7_sendBack.2.1 20 = .ok (.aload_n 0, 1)) rfl rfl (?_ : XW _ _ _ _ _ _ _ 21 _ _)
      refine xi_iload_n (by decide +kernel : decode mX7_sendBack.2.1 21 = .ok (.iload_n 3, 1)) rfl rfl (?_ : XW _ _ _ _ _ _ _ 22 _ _)
      obtain ⟨Q1, sp, vc⟩ := vc
      refine xi_callV (b := 0) (bs := 0) (As := [.int x3]) (st := []) (by decide +kernel : decode mX7_sendBack.2.1 22 = .ok (.invokevirtual 62, 3)) kX7_62 rfl rfl (by omega) rfl sp (by decide) (by decide) (Nat.le_of_ble_eq_true rfl) (by omega) (fun v9 h1 hq9 => ?_)
      obtain ⟨r1, e9, vc⟩ := vc v9 h1 hq9
      subst e9
      show XW _ _ _ _ _ _ _ 25 _ [.int r1]
      refine xi_iload_n (by decide +kernel : decode mX7_sendBack.2.1 25 = .ok (.iload_n 1, 1)) rfl rfl (?_ : XW _ _ _ _ _ _ _ 26 _ _)
      refine xi_icmp_ne (by decide +kernel : decode mX7_sendBack.2.1 26 = .ok (.if_icmp .ne 15, 3)) (by decide) (fun c => (?_ : XW _ _ _ _ _ _ _ 41 _ _)) (fun c => (?_ : XW _ _ _ _ _ _ _ 29 _ _))
      · replace vc := vc.1 c
        refine xi_iinc (v := x3 + 1) (ls' := [some (.ref 29), some (.int x1), some (.int x2), some (.int (x3 + 1))]) (by decide +kernel : decode mX7_sendBack.2.1 41 = .ok (.iinc 3 1, 3)) rfl rfl (by decide) rfl (?_ : XW _ _ _ _ _ _ _ 44 _ _)
        refine xi_goto (by decide +kernel : decode mX7_sendBack.2.1 44 = .ok (.goto (-40), 3)) (by decide) (?_ : XW _ _ _ _ _ _ _ 4 _ _)
        exact vc
      · replace vc := vc.2 c
        refine xi_aload_n (by decide +kernel : decode mX7_sendBack.2.1 29 = .ok (.aload_n 0, 1)) rfl rfl (?_ : XW _ _ _ _ _ _ _ 30 _ _)
        refine xi_iload_n (by decide +kernel : decode mX7_sendBack.2.1 30 = .ok (.iload_n 3, 1)) rfl rfl (?_ : XW _ _ _ _ _ _ _ 31 _ _)
        refine xi_iconst (v := 0) (by decide +kernel : decode mX7_sendBack.2.1 31 = .ok (.iconst 0, 1)) (by decide) (?_ : XW _ _ _ _ _ _ _ 32 _ _)
        obtain ⟨Q1, sp, vc⟩ := vc
        refine xi_callV (b := 0) (bs := 0) (As := [.int x3, .int 0]) (st := []) (by decide +kernel : decode mX7_sendBack.2.1 32 = .ok (.invokevirtual 71, 3)) kX7_71 rfl rfl (by omega) rfl sp (by decide) (by decide) (Nat.le_of_ble_eq_true rfl) (by omega) (fun v9 h2 hq9 => ?_)
        obtain ⟨e9, vc⟩ := vc v9 h2 hq9
        subst e9
        show XW _ _ _ _ _ _ _ 35 _ []
        refine xi_iload_n (by decide +kernel : decode mX7_sendBack.2.1 35 = .ok (.iload_n 2, 1)) rfl rfl (?_ : XW _ _ _ _ _ _ _ 36 _ _)
        refine xi_iconst (v := 1) (by decide +kernel : decode mX7_sendBack.2.1 36 = .ok (.iconst 1, 1)) (by decide) (?_ : XW _ _ _ _ _ _ _ 37 _ _)
        refine xi_iload_n (by decide +kernel : decode mX7_sendBack.2.1 37 = .ok (.iload_n 3, 1)) rfl rfl (?_ : XW _ _ _ _ _ _ _ 38 _ _)
        refine xi_ishl (by decide +kernel : decode mX7_sendBack.2.1 38 = .ok (.ishl, 1)) (?_ : XW _ _ _ _ _ _ _ 39 _ _)
        refine xi_ior (by decide +kernel : decode mX7_sendBack.2.1 39 = .ok (.ior, 1)) (?_ : XW _ _ _ _ _ _ _ 40 _ _)
        refine xi_istore_n (ls' := [some (.ref 29), some (.int x1), some (.int (x2 ||| (1 <<< ((x3 : Int32) &&& 31)))), some (.int x3)]) (by decide +kernel : decode mX7_sendBack.2.1 40 = .ok (.istore_n 2, 1)) rfl (by decide) rfl (?_ : XW _ _ _ _ _ _ _ 41 _ _)
        refine xi_iinc (v := x3 + 1) (ls' := [some (.ref 29), some (.int x1), some (.int (x2 ||| (1 <<< ((x3 : Int32) &&& 31)))), some (.int (x3 + 1))]) (by decide +kernel : decode mX7_sendBack.2.1 41 = .ok (.iinc 3 1, 3)) rfl rfl (by decide) rfl (?_ : XW _ _ _ _ _ _ _ 44 _ _)
        refine xi_goto (by decide +kernel : decode mX7_sendBack.2.1 44 = .ok (.goto (-40), 3)) (by decide) (?_ : XW _ _ _ _ _ _ _ 4 _ _)
        exact vc

set_option maxRecDepth 20000 in
theorem v_X7_nextTurn_0 {h : XH} {Q : Option Value → XH → Prop} {X : String → XH → Prop} (r : Nat) (hbp : BP r h)  (f : Int32)
    (vc : (¬ f = (xI h r 4) → XW (xrm 2 0 0) mX7_nextTurn (xE 100 Q X 0 0) 100 0 0 h 36 [some (.ref 29), some (.ref r), none, some (.int (xI h 29 0)), some (.int 0)] []) ∧ (f = (xI h r 4) → ∃ Q1, XSpec mX7_placeOf 1 0 0 100 100 [.ref 29, .int (xI h 29 0)] h Q1 xno ∧ ∀ v h1, Q1 v h1 → ∃ r1 : Int32, v = some (.int r1) ∧ ((r1 = (xI h1 r 0) → XW (xrm 2 0 0) mX7_nextTurn (xE 100 Q X 0 0) 100 0 0 h1 36 [some (.ref 29), some (.ref r), none, some (.int (xI h1 29 0)), some (.int 0)] []) ∧ (¬ r1 = (xI h1 r 0) → Q (some (.int (xI h1 29 0))) h1)))) :
    XW (xrm 2 0 0) mX7_nextTurn (xE 100 Q X 0 0) 100 0 0 h 0 [some (.ref 29), some (.ref r), some (.int f), none, none] [] := by
  obtain ⟨hb, hr, hnr, ha21, ha25, hu29, hu34, hw, hnt, hwr⟩ := hbp
  refine xi_iload_n (by decide +kernel : decode mX7_nextTurn.2.1 0 = .ok (.iload_n 2, 1)) rfl rfl (?_ : XW _ _ _ _ _ _ _ 1 _ _)
  refine xi_aload_n (by decide +kernel : decode mX7_nextTurn.2.1 1 = .ok (.aload_n 1, 1)) rfl rfl (?_ : XW _ _ _ _ _ _ _ 2 _ _)
  refine xi_getI (by decide +kernel : decode mX7_nextTurn.2.1 2 = .ok (.getfield 94, 3)) fX7_94 (xRul_s0 hr) (by omega) rfl (?_ : XW _ _ _ _ _ _ _ 5 _ _)
  refine xi_icmp_ne (by decide +kernel : decode mX7_nextTurn.2.1 5 = .ok (.if_icmp .ne 23, 3)) (by decide) (fun c => (?_ : XW _ _ _ _ _ _ _ 28 _ _)) (fun c => (?_ : XW _ _ _ _ _ _ _ 8 _ _))
  · replace vc := vc.1 c
    refine xi_aload_n (by decide +kernel : decode mX7_nextTurn.2.1 28 = .ok (.aload_n 0, 1)) rfl rfl (?_ : XW _ _ _ _ _ _ _ 29 _ _)
    refine xi_getI (by decide +kernel : decode mX7_nextTurn.2.1 29 = .ok (.getfield 43, 3)) fX7_43 rfl (by omega) rfl (?_ : XW _ _ _ _ _ _ _ 32 _ _)
    refine xi_istore_n (ls' := [some (.ref 29), some (.ref r), some (.int f), some (.int (xI h 29 0)), none]) (by decide +kernel : decode mX7_nextTurn.2.1 32 = .ok (.istore_n 3, 1)) rfl (by decide) rfl (?_ : XW _ _ _ _ _ _ _ 33 _ _)
    refine xi_iconst (v := 0) (by decide +kernel : decode mX7_nextTurn.2.1 33 = .ok (.iconst 0, 1)) (by decide) (?_ : XW _ _ _ _ _ _ _ 34 _ _)
    refine xi_istore (ls' := [some (.ref 29), some (.ref r), some (.int f), some (.int (xI h 29 0)), some (.int 0)]) (by decide +kernel : decode mX7_nextTurn.2.1 34 = .ok (.istore 4, 2)) (by decide) rfl (?_ : XW _ _ _ _ _ _ _ 36 _ _)
    refine xw_drop 2 (ls' := [some (.ref 29), some (.ref r), none, some (.int (xI h 29 0)), some (.int 0)]) rfl ?_
    exact vc
  · replace vc := vc.2 c
    refine xi_aload_n (by decide +kernel : decode mX7_nextTurn.2.1 8 = .ok (.aload_n 0, 1)) rfl rfl (?_ : XW _ _ _ _ _ _ _ 9 _ _)
    refine xi_aload_n (by decide +kernel : decode mX7_nextTurn.2.1 9 = .ok (.aload_n 0, 1)) rfl rfl (?_ : XW _ _ _ _ _ _ _ 10 _ _)
    refine xi_getI (by decide +kernel : decode mX7_nextTurn.2.1 10 = .ok (.getfield 43, 3)) fX7_43 rfl (by omega) rfl (?_ : XW _ _ _ _ _ _ _ 13 _ _)
    obtain ⟨Q1, sp, vc⟩ := vc
    refine xi_callV (b := 0) (bs := 0) (As := [.int (xI h 29 0)]) (st := []) (by decide +kernel : decode mX7_nextTurn.2.1 13 = .ok (.invokevirtual 62, 3)) kX7_62 rfl rfl (by omega) rfl sp (by decide) (by decide) (Nat.le_of_ble_eq_true rfl) (by omega) (fun v9 h1 hq9 => ?_)
    obtain ⟨r1, e9, vc⟩ := vc v9 h1 hq9
    subst e9
    show XW _ _ _ _ _ _ _ 16 _ [.int r1]
    refine xi_aload_n (by decide +kernel : decode mX7_nextTurn.2.1 16 = .ok (.aload_n 1, 1)) rfl rfl (?_ : XW _ _ _ _ _ _ _ 17 _ _)
    refine xi_getI (by decide +kernel : decode mX7_nextTurn.2.1 17 = .ok (.getfield 84, 3)) fX7_84 (xRul_s0 hr) (by omega) rfl (?_ : XW _ _ _ _ _ _ _ 20 _ _)
    refine xi_icmp_eq (by decide +kernel : decode mX7_nextTurn.2.1 20 = .ok (.if_icmp .eq 8, 3)) (by decide) (fun c => (?_ : XW _ _ _ _ _ _ _ 28 _ _)) (fun c => (?_ : XW _ _ _ _ _ _ _ 23 _ _))
    · replace vc := vc.1 c
      refine xi_aload_n (by decide +kernel : decode mX7_nextTurn.2.1 28 = .ok (.aload_n 0, 1)) rfl rfl (?_ : XW _ _ _ _ _ _ _ 29 _ _)
      refine xi_getI (by decide +kernel : decode mX7_nextTurn.2.1 29 = .ok (.getfield 43, 3)) fX7_43 rfl (by omega) rfl (?_ : XW _ _ _ _ _ _ _ 32 _ _)
      refine xi_istore_n (ls' := [some (.ref 29), some (.ref r), some (.int f), some (.int (xI h1 29 0)), none]) (by decide +kernel : decode mX7_nextTurn.2.1 32 = .ok (.istore_n 3, 1)) rfl (by decide) rfl (?_ : XW _ _ _ _ _ _ _ 33 _ _)
      refine xi_iconst (v := 0) (by decide +kernel : decode mX7_nextTurn.2.1 33 = .ok (.iconst 0, 1)) (by decide) (?_ : XW _ _ _ _ _ _ _ 34 _ _)
      refine xi_istore (ls' := [some (.ref 29), some (.ref r), some (.int f), some (.int (xI h1 29 0)), some (.int 0)]) (by decide +kernel : decode mX7_nextTurn.2.1 34 = .ok (.istore 4, 2)) (by decide) rfl (?_ : XW _ _ _ _ _ _ _ 36 _ _)
      refine xw_drop 2 (ls' := [some (.ref 29), some (.ref r), none, some (.int (xI h1 29 0)), some (.int 0)]) rfl ?_
      exact vc
    · replace vc := vc.2 c
      refine xi_aload_n (by decide +kernel : decode mX7_nextTurn.2.1 23 = .ok (.aload_n 0, 1)) rfl rfl (?_ : XW _ _ _ _ _ _ _ 24 _ _)
      refine xi_getI (by decide +kernel : decode mX7_nextTurn.2.1 24 = .ok (.getfield 43, 3)) fX7_43 rfl (by omega) rfl (?_ : XW _ _ _ _ _ _ _ 27 _ _)
      exact xi_iret (by decide +kernel : decode mX7_nextTurn.2.1 27 = .ok (.ireturn, 1)) rfl rfl vc

set_option maxRecDepth 20000 in
theorem v_X7_nextTurn_36 {h : XH} {Q : Option Value → XH → Prop} {X : String → XH → Prop} (r : Nat) (hbp : BP r h)  (x3 : Int32) (x4 : Int32)
    (vc : ((xI h 29 3) ≤ x4 → Q (some (.int (-1))) h) ∧ (¬ (xI h 29 3) ≤ x4 → ((x3 + 1) < (xI h 29 3) → ∃ Q1, XSpec mX7_placeOf 1 0 0 100 100 [.ref 29, .int (x3 + 1)] h Q1 xno ∧ ∀ v h2, Q1 v h2 → ∃ r2 : Int32, v = some (.int r2) ∧ ((r2 = (xI h2 r 0) → XW (xrm 2 0 0) mX7_nextTurn (xE 100 Q X 0 0) 100 0 0 h2 36 [some (.ref 29), some (.ref r), none, some (.int (x3 + 1)), some (.int (x4 + 1))] []) ∧ (¬ r2 = (xI h2 r 0) → Q (some (.int (x3 + 1))) h2))) ∧ (¬ (x3 + 1) < (xI h 29 3) → ∃ Q1, XSpec mX7_placeOf 1 0 0 100 100 [.ref 29, .int 0] h Q1 xno ∧ ∀ v h3, Q1 v h3 → ∃ r3 : Int32, v = some (.int r3) ∧ ((r3 = (xI h3 r 0) → XW (xrm 2 0 0) mX7_nextTurn (xE 100 Q X 0 0) 100 0 0 h3 36 [some (.ref 29), some (.ref r), none, some (.int 0), some (.int (x4 + 1))] []) ∧ (¬ r3 = (xI h3 r 0) → Q (some (.int 0)) h3))))) :
    XW (xrm 2 0 0) mX7_nextTurn (xE 100 Q X 0 0) 100 0 0 h 36 [some (.ref 29), some (.ref r), none, some (.int x3), some (.int x4)] [] := by
  obtain ⟨hb, hr, hnr, ha21, ha25, hu29, hu34, hw, hnt, hwr⟩ := hbp
  refine xi_iload (by decide +kernel : decode mX7_nextTurn.2.1 36 = .ok (.iload 4, 2)) rfl (?_ : XW _ _ _ _ _ _ _ 38 _ _)
  refine xi_aload_n (by decide +kernel : decode mX7_nextTurn.2.1 38 = .ok (.aload_n 0, 1)) rfl rfl (?_ : XW _ _ _ _ _ _ _ 39 _ _)
  refine xi_getI (by decide +kernel : decode mX7_nextTurn.2.1 39 = .ok (.getfield 33, 3)) fX7_33 rfl (by omega) rfl (?_ : XW _ _ _ _ _ _ _ 42 _ _)
  refine xi_icmp_ge (by decide +kernel : decode mX7_nextTurn.2.1 42 = .ok (.if_icmp .ge 41, 3)) (by decide) (fun c => (?_ : XW _ _ _ _ _ _ _ 83 _ _)) (fun c => (?_ : XW _ _ _ _ _ _ _ 45 _ _))
  · replace vc := vc.1 c
    refine xi_iconst (v := (-1)) (by decide +kernel : decode mX7_nextTurn.2.1 83 = .ok (.iconst (-1), 1)) (by decide) (?_ : XW _ _ _ _ _ _ _ 84 _ _)
    exact xi_iret (by decide +kernel : decode mX7_nextTurn.2.1 84 = .ok (.ireturn, 1)) rfl rfl vc
  · replace vc := vc.2 c
    refine xi_iload_n (by decide +kernel : decode mX7_nextTurn.2.1 45 = .ok (.iload_n 3, 1)) rfl rfl (?_ : XW _ _ _ _ _ _ _ 46 _ _)
    refine xi_iconst (v := 1) (by decide +kernel : decode mX7_nextTurn.2.1 46 = .ok (.iconst 1, 1)) (by decide) (?_ : XW _ _ _ _ _ _ _ 47 _ _)
    refine xi_iadd (by decide +kernel : decode mX7_nextTurn.2.1 47 = .ok (.iadd, 1)) (?_ : XW _ _ _ _ _ _ _ 48 _ _)
    refine xi_aload_n (by decide +kernel : decode mX7_nextTurn.2.1 48 = .ok (.aload_n 0, 1)) rfl rfl (?_ : XW _ _ _ _ _ _ _ 49 _ _)
    refine xi_getI (by decide +kernel : decode mX7_nextTurn.2.1 49 = .ok (.getfield 33, 3)) fX7_33 rfl (by omega) rfl (?_ : XW _ _ _ _ _ _ _ 52 _ _)
    refine xi_icmp_lt (by decide +kernel : decode mX7_nextTurn.2.1 52 = .ok (.if_icmp .lt 7, 3)) (by decide) (fun c => (?_ : XW _ _ _ _ _ _ _ 59 _ _)) (fun c => (?_ : XW _ _ _ _ _ _ _ 55 _ _))
    · replace vc := vc.1 c
      refine xi_iload_n (by decide +kernel : decode mX7_nextTurn.2.1 59 = .ok (.iload_n 3, 1)) rfl rfl (?_ : XW _ _ _ _ _ _ _ 60 _ _)
      refine xi_iconst (v := 1) (by decide +kernel : decode mX7_nextTurn.2.1 60 = .ok (.iconst 1, 1)) (by decide) (?_ : XW _ _ _ _ _ _ _ 61 _ _)
      refine xi_iadd (by decide +kernel : decode mX7_nextTurn.2.1 61 = .ok (.iadd, 1)) (?_ : XW _ _ _ _ _ _ _ 62 _ _)
      refine xi_istore_n (ls' := [some (.ref 29), some (.ref r), none, some (.int (x3 + 1)), some (.int x4)]) (by decide +kernel : decode mX7_nextTurn.2.1 62 = .ok (.istore_n 3, 1)) rfl (by decide) rfl (?_ : XW _ _ _ _ _ _ _ 63 _ _)
      refine xi_aload_n (by decide +kernel : decode mX7_nextTurn.2.1 63 = .ok (.aload_n 0, 1)) rfl rfl (?_ : XW _ _ _ _ _ _ _ 64 _ _)
      refine xi_iload_n (by decide +kernel : decode mX7_nextTurn.2.1 64 = .ok (.iload_n 3, 1)) rfl rfl (?_ : XW _ _ _ _ _ _ _ 65 _ _)
      obtain ⟨Q1, sp, vc⟩ := vc
      refine xi_callV (b := 0) (bs := 0) (As := [.int (x3 + 1)]) (st := []) (by decide +kernel : decode mX7_nextTurn.2.1 65 = .ok (.invokevirtual 62, 3)) kX7_62 rfl rfl (by omega) rfl sp (by decide) (by decide) (Nat.le_of_ble_eq_true rfl) (by omega) (fun v9 h2 hq9 => ?_)
      obtain ⟨r2, e9, vc⟩ := vc v9 h2 hq9
      subst e9
      show XW _ _ _ _ _ _ _ 68 _ [.int r2]
      refine xi_aload_n (by decide +kernel : decode mX7_nextTurn.2.1 68 = .ok (.aload_n 1, 1)) rfl rfl (?_ : XW _ _ _ _ _ _ _ 69 _ _)
      refine xi_getI (by decide +kernel : decode mX7_nextTurn.2.1 69 = .ok (.getfield 84, 3)) fX7_84 (xRul_s0 hr) (by omega) rfl (?_ : XW _ _ _ _ _ _ _ 72 _ _)
      refine xi_icmp_eq (by decide +kernel : decode mX7_nextTurn.2.1 72 = .ok (.if_icmp .eq 5, 3)) (by decide) (fun c => (?_ : XW _ _ _ _ _ _ _ 77 _ _)) (fun c => (?_ : XW _ _ _ _ _ _ _ 75 _ _))
      · replace vc := vc.1 c
        refine xi_iinc (v := x4 + 1) (ls' := [some (.ref 29), some (.ref r), none, some (.int (x3 + 1)), some (.int (x4 + 1))]) (by decide +kernel : decode mX7_nextTurn.2.1 77 = .ok (.iinc 4 1, 3)) rfl rfl (by decide) rfl (?_ : XW _ _ _ _ _ _ _ 80 _ _)
        refine xi_goto (by decide +kernel : decode mX7_nextTurn.2.1 80 = .ok (.goto (-44), 3)) (by decide) (?_ : XW _ _ _ _ _ _ _ 36 _ _)
        exact vc
      · replace vc := vc.2 c
        refine xi_iload_n (by decide +kernel : decode mX7_nextTurn.2.1 75 = .ok (.iload_n 3, 1)) rfl rfl (?_ : XW _ _ _ _ _ _ _ 76 _ _)
        exact xi_iret (by decide +kernel : decode mX7_nextTurn.2.1 76 = .ok (.ireturn, 1)) rfl rfl vc
    · replace vc := vc.2 c
      refine xi_iconst (v := 0) (by decide +kernel : decode mX7_nextTurn.2.1 55 = .ok (.iconst 0, 1)) (by decide) (?_ : XW _ _ _ _ _ _ _ 56 _ _)
      refine xi_goto (by decide +kernel : decode mX7_nextTurn.2.1 56 = .ok (.goto 6, 3)) (by decide) (?_ : XW _ _ _ _ _ _ _ 62 _ _)
      refine xi_istore_n (ls' := [some (.ref 29), some (.ref r), none, some (.int 0), some (.int x4)]) (by decide +kernel : decode mX7_nextTurn.2.1 62 = .ok (.istore_n 3, 1)) rfl (by decide) rfl (?_ : XW _ _ _ _ _ _ _ 63 _ _)
      refine xi_aload_n (by decide +kernel : decode mX7_nextTurn.2.1 63 = .ok (.aload_n 0, 1)) rfl rfl (?_ : XW _ _ _ _ _ _ _ 64 _ _)
      refine xi_iload_n (by decide +kernel : decode mX7_nextTurn.2.1 64 = .ok (.iload_n 3, 1)) rfl rfl (?_ : XW _ _ _ _ _ _ _ 65 _ _)
      obtain ⟨Q1, sp, vc⟩ := vc
      refine xi_callV (b := 0) (bs := 0) (As := [.int 0]) (st := []) (by decide +kernel : decode mX7_nextTurn.2.1 65 = .ok (.invokevirtual 62, 3)) kX7_62 rfl rfl (by omega) rfl sp (by decide) (by decide) (Nat.le_of_ble_eq_true rfl) (by omega) (fun v9 h3 hq9 => ?_)
      obtain ⟨r3, e9, vc⟩ := vc v9 h3 hq9
      subst e9
      show XW _ _ _ _ _ _ _ 68 _ [.int r3]
      refine xi_aload_n (by decide +kernel : decode mX7_nextTurn.2.1 68 = .ok (.aload_n 1, 1)) rfl rfl (?_ : XW _ _ _ _ _ _ _ 69 _ _)
      refine xi_getI (by decide +kernel : decode mX7_nextTurn.2.1 69 = .ok (.getfield 84, 3)) fX7_84 (xRul_s0 hr) (by omega) rfl (?_ : XW _ _ _ _ _ _ _ 72 _ _)
      refine xi_icmp_eq (by decide +kernel : decode mX7_nextTurn.2.1 72 = .ok (.if_icmp .eq 5, 3)) (by decide) (fun c => (?_ : XW _ _ _ _ _ _ _ 77 _ _)) (fun c => (?_ : XW _ _ _ _ _ _ _ 75 _ _))
      · replace vc := vc.1 c
        refine xi_iinc (v := x4 + 1) (ls' := [some (.ref 29), some (.ref r), none, some (.int 0), some (.int (x4 + 1))]) (by decide +kernel : decode mX7_nextTurn.2.1 77 = .ok (.iinc 4 1, 3)) rfl rfl (by decide) rfl (?_ : XW _ _ _ _ _ _ _ 80 _ _)
        refine xi_goto (by decide +kernel : decode mX7_nextTurn.2.1 80 = .ok (.goto (-44), 3)) (by decide) (?_ : XW _ _ _ _ _ _ _ 36 _ _)
        exact vc
      · replace vc := vc.2 c
        refine xi_iload_n (by decide +kernel : decode mX7_nextTurn.2.1 75 = .ok (.iload_n 3, 1)) rfl rfl (?_ : XW _ _ _ _ _ _ _ 76 _ _)
        exact xi_iret (by decide +kernel : decode mX7_nextTurn.2.1 76 = .ok (.ireturn, 1)) rfl rfl vc

set_option maxRecDepth 20000 in
theorem v_X7_move_0 {h : XH} {Q : Option Value → XH → Prop} {X : String → XH → Prop} (r : Nat) (hbp : BP r h)  (f : Int32)
    (vc : ∃ Q1, XSpec mX7_canMove 1 0 0 100 100 [.ref 29] h Q1 xno ∧ ∀ v h1, Q1 v h1 → ∃ r1 : Int32, v = some (.int r1) ∧ ((¬ r1 = 0 → ∃ Q1, XSpec mX7_placeOf 1 0 0 100 100 [.ref 29, .int (xI h1 29 0)] h1 Q1 xno ∧ ∀ v h2, Q1 v h2 → ∃ r2 : Int32, v = some (.int r2) ∧ (∃ Q1, XSpec mX3_to 1 0 0 100 100 [.ref 21, .int r2, .int f] h2 Q1 xno ∧ ∀ v h3, Q1 v h3 → ∃ r3 : Int32, v = some (.int r3) ∧ (∃ Q1, XSpec mX7_place 1 0 0 100 100 [.ref 29, .int (xI h3 29 0), .int r3] h3 Q1 xno ∧ ∀ v h4, Q1 v h4 → v = none ∧ (∃ Q1, XSpec mX7_putLog 1 0 0 100 100 [.ref 29, .int 0, .int (xI h4 29 0)] h4 Q1 xno ∧ ∀ v h5, Q1 v h5 → v = none ∧ (∃ Q1, XSpec mX7_putLog 1 0 0 100 100 [.ref 29, .int 1, .int f] h5 Q1 xno ∧ ∀ v h6, Q1 v h6 → v = none ∧ (∃ Q1, XSpec mX7_putLog 1 0 0 100 100 [.ref 29, .int 2, .int r2] h6 Q1 xno ∧ ∀ v h7, Q1 v h7 → v = none ∧ (∃ Q1, XSpec mX7_putLog 1 0 0 100 100 [.ref 29, .int 3, .int r3] h7 Q1 xno ∧ ∀ v h8, Q1 v h8 → v = none ∧ (((xI h8 r 5) = 0 → ∃ Q1, XSpec mX7_putLog 1 0 0 100 100 [.ref 29, .int 4, .int 0] h8 Q1 xno ∧ ∀ v h9, Q1 v h9 → v = none ∧ (∃ Q1, XSpec mX7_nextTurn 2 0 0 100 100 [.ref 29, .ref r, .int f] (xSI 29 (va_up (xI h9 29) 1 ((xI h9 29 1) + 1)) h9) Q1 xno ∧ ∀ v h10, Q1 v h10 → ∃ r10 : Int32, v = some (.int r10) ∧ (Q (some (.int r3)) (xSI 29 (va_up (xI h10 29) 0 r10) h10)))) ∧ (¬ (xI h8 r 5) = 0 → (r3 = 0 → ∃ Q1, XSpec mX7_putLog 1 0 0 100 100 [.ref 29, .int 4, .int 0] h8 Q1 xno ∧ ∀ v h11, Q1 v h11 → v = none ∧ (∃ Q1, XSpec mX7_nextTurn 2 0 0 100 100 [.ref 29, .ref r, .int f] (xSI 29 (va_up (xI h11 29) 1 ((xI h11 29 1) + 1)) h11) Q1 xno ∧ ∀ v h12, Q1 v h12 → ∃ r12 : Int32, v = some (.int r12) ∧ (Q (some (.int r3)) (xSI 29 (va_up (xI h12 29) 0 r12) h12)))) ∧ (¬ r3 = 0 → (r3 = (xI h8 r 0) → ∃ Q1, XSpec mX7_putLog 1 0 0 100 100 [.ref 29, .int 4, .int 0] h8 Q1 xno ∧ ∀ v h13, Q1 v h13 → v = none ∧ (∃ Q1, XSpec mX7_nextTurn 2 0 0 100 100 [.ref 29, .ref r, .int f] (xSI 29 (va_up (xI h13 29) 1 ((xI h13 29 1) + 1)) h13) Q1 xno ∧ ∀ v h14, Q1 v h14 → ∃ r14 : Int32, v = some (.int r14) ∧ (Q (some (.int r3)) (xSI 29 (va_up (xI h14 29) 0 r14) h14)))) ∧ (¬ r3 = (xI h8 r 0) → ∃ Q1, XSpec mX7_sendBack 2 0 0 100 100 [.ref 29, .int r3] h8 Q1 xno ∧ ∀ v h15, Q1 v h15 → ∃ r15 : Int32, v = some (.int r15) ∧ (∃ Q1, XSpec mX7_putLog 1 0 0 100 100 [.ref 29, .int 4, .int r15] h15 Q1 xno ∧ ∀ v h16, Q1 v h16 → v = none ∧ (∃ Q1, XSpec mX7_nextTurn 2 0 0 100 100 [.ref 29, .ref r, .int f] (xSI 29 (va_up (xI h16 29) 1 ((xI h16 29 1) + 1)) h16) Q1 xno ∧ ∀ v h17, Q1 v h17 → ∃ r17 : Int32, v = some (.int r17) ∧ (Q (some (.int r3)) (xSI 29 (va_up (xI h17 29) 0 r17) h17))))))))))))))) ∧ (r1 = 0 → Q (some (.int (-1))) h1))) :
    XW (xrm 3 0 0) mX7_move (xE 100 Q X 0 0) 100 0 0 h 0 [some (.ref 29), some (.ref r), some (.ref 21), some (.int f), none, none] [] := by
  obtain ⟨hb, hr, hnr, ha21, ha25, hu29, hu34, hw, hnt, hwr⟩ := hbp
  refine xi_aload_n (by decide +kernel : decode mX7_move.2.1 0 = .ok (.aload_n 0, 1)) rfl rfl (?_ : XW _ _ _ _ _ _ _ 1 _ _)
  obtain ⟨Q1, sp, vc⟩ := vc
  refine xi_callV (b := 0) (bs := 0) (As := []) (st := []) (by decide +kernel : decode mX7_move.2.1 1 = .ok (.invokevirtual 58, 3)) kX7_58 rfl rfl (by omega) rfl sp (by decide) (by decide) (Nat.le_of_ble_eq_true rfl) (by omega) (fun v9 h1 hq9 => ?_)
  obtain ⟨r1, e9, vc⟩ := vc v9 h1 hq9
  subst e9
  show XW _ _ _ _ _ _ _ 4 _ [.int r1]
  refine xi_if_ne (by decide +kernel : decode mX7_move.2.1 4 = .ok (.ifCond .ne 5, 3)) (by decide) (fun c => (?_ : XW _ _ _ _ _ _ _ 9 _ _)) (fun c => (?_ : XW _ _ _ _ _ _ _ 7 _ _))
  · replace vc := vc.1 c
    refine xi_aload_n (by decide +kernel : decode mX7_move.2.1 9 = .ok (.aload_n 0, 1)) rfl rfl (?_ : XW _ _ _ _ _ _ _ 10 _ _)
    refine xi_aload_n (by decide +kernel : decode mX7_move.2.1 10 = .ok (.aload_n 0, 1)) rfl rfl (?_ : XW _ _ _ _ _ _ _ 11 _ _)
    refine xi_getI (by decide +kernel : decode mX7_move.2.1 11 = .ok (.getfield 43, 3)) fX7_43 rfl (by omega) rfl (?_ : XW _ _ _ _ _ _ _ 14 _ _)
    obtain ⟨Q1, sp, vc⟩ := vc
    refine xi_callV (b := 0) (bs := 0) (As := [.int (xI h1 29 0)]) (st := []) (by decide +kernel : decode mX7_move.2.1 14 = .ok (.invokevirtual 62, 3)) kX7_62 rfl rfl (by omega) rfl sp (by decide) (by decide) (Nat.le_of_ble_eq_true rfl) (by omega) (fun v9 h2 hq9 => ?_)
    obtain ⟨r2, e9, vc⟩ := vc v9 h2 hq9
    subst e9
    show XW _ _ _ _ _ _ _ 17 _ [.int r2]
    refine xi_istore (ls' := [some (.ref 29), some (.ref r), some (.ref 21), some (.int f), some (.int r2), none]) (by decide +kernel : decode mX7_move.2.1 17 = .ok (.istore 4, 2)) (by decide) rfl (?_ : XW _ _ _ _ _ _ _ 19 _ _)
    refine xi_aload_n (by decide +kernel : decode mX7_move.2.1 19 = .ok (.aload_n 2, 1)) rfl rfl (?_ : XW _ _ _ _ _ _ _ 20 _ _)
    refine xi_iload (by decide +kernel : decode mX7_move.2.1 20 = .ok (.iload 4, 2)) rfl (?_ : XW _ _ _ _ _ _ _ 22 _ _)
    refine xi_iload_n (by decide +kernel : decode mX7_move.2.1 22 = .ok (.iload_n 3, 1)) rfl rfl (?_ : XW _ _ _ _ _ _ _ 23 _ _)
    obtain ⟨Q1, sp, vc⟩ := vc
    refine xi_callV (b := 0) (bs := 0) (As := [.int r2, .int f]) (st := []) (by decide +kernel : decode mX7_move.2.1 23 = .ok (.invokevirtual 66, 3)) kX7_66 rfl rfl (by omega) rfl sp (by decide) (by decide) (Nat.le_of_ble_eq_true rfl) (by omega) (fun v9 h3 hq9 => ?_)
    obtain ⟨r3, e9, vc⟩ := vc v9 h3 hq9
    subst e9
    show XW _ _ _ _ _ _ _ 26 _ [.int r3]
    refine xi_istore (ls' := [some (.ref 29), some (.ref r), some (.ref 21), some (.int f), some (.int r2), some (.int r3)]) (by decide +kernel : decode mX7_move.2.1 26 = .ok (.istore 5, 2)) (by decide) rfl (?_ : XW _ _ _ _ _ _ _ 28 _ _)
    refine xi_aload_n (by decide +kernel : decode mX7_move.2.1 28 = .ok (.aload_n 0, 1)) rfl rfl (?_ : XW _ _ _ _ _ _ _ 29 _ _)
    refine xi_aload_n (by decide +kernel : decode mX7_move.2.1 29 = .ok (.aload_n 0, 1)) rfl rfl (?_ : XW _ _ _ _ _ _ _ 30 _ _)
    refine xi_getI (by decide +kernel : decode mX7_move.2.1 30 = .ok (.getfield 43, 3)) fX7_43 rfl (by omega) rfl (?_ : XW _ _ _ _ _ _ _ 33 _ _)
    refine xi_iload (by decide +kernel : decode mX7_move.2.1 33 = .ok (.iload 5, 2)) rfl (?_ : XW _ _ _ _ _ _ _ 35 _ _)
    obtain ⟨Q1, sp, vc⟩ := vc
    refine xi_callV (b := 0) (bs := 0) (As := [.int (xI h3 29 0), .int r3]) (st := []) (by decide +kernel : decode mX7_move.2.1 35 = .ok (.invokevirtual 71, 3)) kX7_71 rfl rfl (by omega) rfl sp (by decide) (by decide) (Nat.le_of_ble_eq_true rfl) (by omega) (fun v9 h4 hq9 => ?_)
    obtain ⟨e9, vc⟩ := vc v9 h4 hq9
    subst e9
    show XW _ _ _ _ _ _ _ 38 _ []
    refine xi_aload_n (by decide +kernel : decode mX7_move.2.1 38 = .ok (.aload_n 0, 1)) rfl rfl (?_ : XW _ _ _ _ _ _ _ 39 _ _)
    refine xi_iconst (v := 0) (by decide +kernel : decode mX7_move.2.1 39 = .ok (.iconst 0, 1)) (by decide) (?_ : XW _ _ _ _ _ _ _ 40 _ _)
    refine xi_aload_n (by decide +kernel : decode mX7_move.2.1 40 = .ok (.aload_n 0, 1)) rfl rfl (?_ : XW _ _ _ _ _ _ _ 41 _ _)
    refine xi_getI (by decide +kernel : decode mX7_move.2.1 41 = .ok (.getfield 43, 3)) fX7_43 rfl (by omega) rfl (?_ : XW _ _ _ _ _ _ _ 44 _ _)
    obtain ⟨Q1, sp, vc⟩ := vc
    refine xi_callV (b := 0) (bs := 0) (As := [.int 0, .int (xI h4 29 0)]) (st := []) (by decide +kernel : decode mX7_move.2.1 44 = .ok (.invokevirtual 75, 3)) kX7_75 rfl rfl (by omega) rfl sp (by decide) (by decide) (Nat.le_of_ble_eq_true rfl) (by omega) (fun v9 h5 hq9 => ?_)
    obtain ⟨e9, vc⟩ := vc v9 h5 hq9
    subst e9
    show XW _ _ _ _ _ _ _ 47 _ []
    refine xi_aload_n (by decide +kernel : decode mX7_move.2.1 47 = .ok (.aload_n 0, 1)) rfl rfl (?_ : XW _ _ _ _ _ _ _ 48 _ _)
    refine xi_iconst (v := 1) (by decide +kernel : decode mX7_move.2.1 48 = .ok (.iconst 1, 1)) (by decide) (?_ : XW _ _ _ _ _ _ _ 49 _ _)
    refine xi_iload_n (by decide +kernel : decode mX7_move.2.1 49 = .ok (.iload_n 3, 1)) rfl rfl (?_ : XW _ _ _ _ _ _ _ 50 _ _)
    obtain ⟨Q1, sp, vc⟩ := vc
    refine xi_callV (b := 0) (bs := 0) (As := [.int 1, .int f]) (st := []) (by decide +kernel : decode mX7_move.2.1 50 = .ok (.invokevirtual 75, 3)) kX7_75 rfl rfl (by omega) rfl sp (by decide) (by decide) (Nat.le_of_ble_eq_true rfl) (by omega) (fun v9 h6 hq9 => ?_)
    obtain ⟨e9, vc⟩ := vc v9 h6 hq9
    subst e9
    show XW _ _ _ _ _ _ _ 53 _ []
    refine xi_aload_n (by decide +kernel : decode mX7_move.2.1 53 = .ok (.aload_n 0, 1)) rfl rfl (?_ : XW _ _ _ _ _ _ _ 54 _ _)
    refine xi_iconst (v := 2) (by decide +kernel : decode mX7_move.2.1 54 = .ok (.iconst 2, 1)) (by decide) (?_ : XW _ _ _ _ _ _ _ 55 _ _)
    refine xi_iload (by decide +kernel : decode mX7_move.2.1 55 = .ok (.iload 4, 2)) rfl (?_ : XW _ _ _ _ _ _ _ 57 _ _)
    obtain ⟨Q1, sp, vc⟩ := vc
    refine xi_callV (b := 0) (bs := 0) (As := [.int 2, .int r2]) (st := []) (by decide +kernel : decode mX7_move.2.1 57 = .ok (.invokevirtual 75, 3)) kX7_75 rfl rfl (by omega) rfl sp (by decide) (by decide) (Nat.le_of_ble_eq_true rfl) (by omega) (fun v9 h7 hq9 => ?_)
    obtain ⟨e9, vc⟩ := vc v9 h7 hq9
    subst e9
    show XW _ _ _ _ _ _ _ 60 _ []
    refine xi_aload_n (by decide +kernel : decode mX7_move.2.1 60 = .ok (.aload_n 0, 1)) rfl rfl (?_ : XW _ _ _ _ _ _ _ 61 _ _)
    refine xi_iconst (v := 3) (by decide +kernel : decode mX7_move.2.1 61 = .ok (.iconst 3, 1)) (by decide) (?_ : XW _ _ _ _ _ _ _ 62 _ _)
    refine xi_iload (by decide +kernel : decode mX7_move.2.1 62 = .ok (.iload 5, 2)) rfl (?_ : XW _ _ _ _ _ _ _ 64 _ _)
    obtain ⟨Q1, sp, vc⟩ := vc
    refine xi_callV (b := 0) (bs := 0) (As := [.int 3, .int r3]) (st := []) (by decide +kernel : decode mX7_move.2.1 64 = .ok (.invokevirtual 75, 3)) kX7_75 rfl rfl (by omega) rfl sp (by decide) (by decide) (Nat.le_of_ble_eq_true rfl) (by omega) (fun v9 h8 hq9 => ?_)
    obtain ⟨e9, vc⟩ := vc v9 h8 hq9
    subst e9
    show XW _ _ _ _ _ _ _ 67 _ []
    refine xi_aload_n (by decide +kernel : decode mX7_move.2.1 67 = .ok (.aload_n 0, 1)) rfl rfl (?_ : XW _ _ _ _ _ _ _ 68 _ _)
    refine xi_iconst (v := 4) (by decide +kernel : decode mX7_move.2.1 68 = .ok (.iconst 4, 1)) (by decide) (?_ : XW _ _ _ _ _ _ _ 69 _ _)
    refine xi_aload_n (by decide +kernel : decode mX7_move.2.1 69 = .ok (.aload_n 1, 1)) rfl rfl (?_ : XW _ _ _ _ _ _ _ 70 _ _)
    refine xi_getI (by decide +kernel : decode mX7_move.2.1 70 = .ok (.getfield 78, 3)) fX7_78 (xRul_s0 hr) (by omega) rfl (?_ : XW _ _ _ _ _ _ _ 73 _ _)
    refine xi_if_eq (by decide +kernel : decode mX7_move.2.1 73 = .ok (.ifCond .eq 26, 3)) (by decide) (fun c => (?_ : XW _ _ _ _ _ _ _ 99 _ _)) (fun c => (?_ : XW _ _ _ _ _ _ _ 76 _ _))
    · replace vc := vc.1 c
      refine xi_iconst (v := 0) (by decide +kernel : decode mX7_move.2.1 99 = .ok (.iconst 0, 1)) (by decide) (?_ : XW _ _ _ _ _ _ _ 100 _ _)
      obtain ⟨Q1, sp, vc⟩ := vc
      refine xi_callV (b := 0) (bs := 0) (As := [.int 4, .int 0]) (st := []) (by decide +kernel : decode mX7_move.2.1 100 = .ok (.invokevirtual 75, 3)) kX7_75 rfl rfl (by omega) rfl sp (by decide) (by decide) (Nat.le_of_ble_eq_true rfl) (by omega) (fun v9 h9 hq9 => ?_)
      obtain ⟨e9, vc⟩ := vc v9 h9 hq9
      subst e9
      show XW _ _ _ _ _ _ _ 103 _ []
      refine xi_aload_n (by decide +kernel : decode mX7_move.2.1 103 = .ok (.aload_n 0, 1)) rfl rfl (?_ : XW _ _ _ _ _ _ _ 104 _ _)
      refine xi_dup (by decide +kernel : decode mX7_move.2.1 104 = .ok (.dup, 1)) rfl (?_ : XW _ _ _ _ _ _ _ 105 _ _)
      refine xi_getI (by decide +kernel : decode mX7_move.2.1 105 = .ok (.getfield 46, 3)) fX7_46 rfl (by omega) rfl (?_ : XW _ _ _ _ _ _ _ 108 _ _)
      refine xi_iconst (v := 1) (by decide +kernel : decode mX7_move.2.1 108 = .ok (.iconst 1, 1)) (by decide) (?_ : XW _ _ _ _ _ _ _ 109 _ _)
      refine xi_iadd (by decide +kernel : decode mX7_move.2.1 109 = .ok (.iadd, 1)) (?_ : XW _ _ _ _ _ _ _ 110 _ _)
      refine xi_putI (by decide +kernel : decode mX7_move.2.1 110 = .ok (.putfield 46, 3)) fX7_46 rfl (by omega) rfl rfl rfl (?_ : XW _ _ _ _ _ _ (xSI 29 (va_up (xI h9 29) 1 ((xI h9 29 1) + 1)) h9) 113 _ _)
      refine xi_aload_n (by decide +kernel : decode mX7_move.2.1 113 = .ok (.aload_n 0, 1)) rfl rfl (?_ : XW _ _ _ _ _ _ _ 114 _ _)
      refine xi_aload_n (by decide +kernel : decode mX7_move.2.1 114 = .ok (.aload_n 0, 1)) rfl rfl (?_ : XW _ _ _ _ _ _ _ 115 _ _)
      refine xi_aload_n (by decide +kernel : decode mX7_move.2.1 115 = .ok (.aload_n 1, 1)) rfl rfl (?_ : XW _ _ _ _ _ _ _ 116 _ _)
      refine xi_iload_n (by decide +kernel : decode mX7_move.2.1 116 = .ok (.iload_n 3, 1)) rfl rfl (?_ : XW _ _ _ _ _ _ _ 117 _ _)
      obtain ⟨Q1, sp, vc⟩ := vc
      refine xi_callV (b := 0) (bs := 0) (As := [.ref r, .int f]) (st := [.ref 29]) (by decide +kernel : decode mX7_move.2.1 117 = .ok (.invokevirtual 90, 3)) kX7_90 rfl rfl (by omega) rfl sp (by decide) (by decide) (Nat.le_of_ble_eq_true rfl) (by omega) (fun v9 h10 hq9 => ?_)
      obtain ⟨r10, e9, vc⟩ := vc v9 h10 hq9
      subst e9
      show XW _ _ _ _ _ _ _ 120 _ [.int r10, .ref 29]
      refine xi_putI (by decide +kernel : decode mX7_move.2.1 120 = .ok (.putfield 43, 3)) fX7_43 rfl (by omega) rfl rfl rfl (?_ : XW _ _ _ _ _ _ (xSI 29 (va_up (xI h10 29) 0 r10) h10) 123 _ _)
      refine xi_iload (by decide +kernel : decode mX7_move.2.1 123 = .ok (.iload 5, 2)) rfl (?_ : XW _ _ _ _ _ _ _ 125 _ _)
      exact xi_iret (by decide +kernel : decode mX7_move.2.1 125 = .ok (.ireturn, 1)) rfl rfl vc
    · replace vc := vc.2 c
      refine xi_iload (by decide +kernel : decode mX7_move.2.1 76 = .ok (.iload 5, 2)) rfl (?_ : XW _ _ _ _ _ _ _ 78 _ _)
      refine xi_if_eq (by decide +kernel : decode mX7_move.2.1 78 = .ok (.ifCond .eq 21, 3)) (by decide) (fun c => (?_ : XW _ _ _ _ _ _ _ 99 _ _)) (fun c => (?_ : XW _ _ _ _ _ _ _ 81 _ _))
      · replace vc := vc.1 c
        refine xi_iconst (v := 0) (by decide +kernel : decode mX7_move.2.1 99 = .ok (.iconst 0, 1)) (by decide) (?_ : XW _ _ _ _ _ _ _ 100 _ _)
        obtain ⟨Q1, sp, vc⟩ := vc
        refine xi_callV (b := 0) (bs := 0) (As := [.int 4, .int 0]) (st := []) (by decide +kernel : decode mX7_move.2.1 100 = .ok (.invokevirtual 75, 3)) kX7_75 rfl rfl (by omega) rfl sp (by decide) (by decide) (Nat.le_of_ble_eq_true rfl) (by omega) (fun v9 h11 hq9 => ?_)
        obtain ⟨e9, vc⟩ := vc v9 h11 hq9
        subst e9
        show XW _ _ _ _ _ _ _ 103 _ []
        refine xi_aload_n (by decide +kernel : decode mX7_move.2.1 103 = .ok (.aload_n 0, 1)) rfl rfl (?_ : XW _ _ _ _ _ _ _ 104 _ _)
        refine xi_dup (by decide +kernel : decode mX7_move.2.1 104 = .ok (.dup, 1)) rfl (?_ : XW _ _ _ _ _ _ _ 105 _ _)
        refine xi_getI (by decide +kernel : decode mX7_move.2.1 105 = .ok (.getfield 46, 3)) fX7_46 rfl (by omega) rfl (?_ : XW _ _ _ _ _ _ _ 108 _ _)
        refine xi_iconst (v := 1) (by decide +kernel : decode mX7_move.2.1 108 = .ok (.iconst 1, 1)) (by decide) (?_ : XW _ _ _ _ _ _ _ 109 _ _)
        refine xi_iadd (by decide +kernel : decode mX7_move.2.1 109 = .ok (.iadd, 1)) (?_ : XW _ _ _ _ _ _ _ 110 _ _)
        refine xi_putI (by decide +kernel : decode mX7_move.2.1 110 = .ok (.putfield 46, 3)) fX7_46 rfl (by omega) rfl rfl rfl (?_ : XW _ _ _ _ _ _ (xSI 29 (va_up (xI h11 29) 1 ((xI h11 29 1) + 1)) h11) 113 _ _)
        refine xi_aload_n (by decide +kernel : decode mX7_move.2.1 113 = .ok (.aload_n 0, 1)) rfl rfl (?_ : XW _ _ _ _ _ _ _ 114 _ _)
        refine xi_aload_n (by decide +kernel : decode mX7_move.2.1 114 = .ok (.aload_n 0, 1)) rfl rfl (?_ : XW _ _ _ _ _ _ _ 115 _ _)
        refine xi_aload_n (by decide +kernel : decode mX7_move.2.1 115 = .ok (.aload_n 1, 1)) rfl rfl (?_ : XW _ _ _ _ _ _ _ 116 _ _)
        refine xi_iload_n (by decide +kernel : decode mX7_move.2.1 116 = .ok (.iload_n 3, 1)) rfl rfl (?_ : XW _ _ _ _ _ _ _ 117 _ _)
        obtain ⟨Q1, sp, vc⟩ := vc
        refine xi_callV (b := 0) (bs := 0) (As := [.ref r, .int f]) (st := [.ref 29]) (by decide +kernel : decode mX7_move.2.1 117 = .ok (.invokevirtual 90, 3)) kX7_90 rfl rfl (by omega) rfl sp (by decide) (by decide) (Nat.le_of_ble_eq_true rfl) (by omega) (fun v9 h12 hq9 => ?_)
        obtain ⟨r12, e9, vc⟩ := vc v9 h12 hq9
        subst e9
        show XW _ _ _ _ _ _ _ 120 _ [.int r12, .ref 29]
        refine xi_putI (by decide +kernel : decode mX7_move.2.1 120 = .ok (.putfield 43, 3)) fX7_43 rfl (by omega) rfl rfl rfl (?_ : XW _ _ _ _ _ _ (xSI 29 (va_up (xI h12 29) 0 r12) h12) 123 _ _)
        refine xi_iload (by decide +kernel : decode mX7_move.2.1 123 = .ok (.iload 5, 2)) rfl (?_ : XW _ _ _ _ _ _ _ 125 _ _)
        exact xi_iret (by decide +kernel : decode mX7_move.2.1 125 = .ok (.ireturn, 1)) rfl rfl vc
      · replace vc := vc.2 c
        refine xi_iload (by decide +kernel : decode mX7_move.2.1 81 = .ok (.iload 5, 2)) rfl (?_ : XW _ _ _ _ _ _ _ 83 _ _)
        refine xi_aload_n (by decide +kernel : decode mX7_move.2.1 83 = .ok (.aload_n 1, 1)) rfl rfl (?_ : XW _ _ _ _ _ _ _ 84 _ _)
        refine xi_getI (by decide +kernel : decode mX7_move.2.1 84 = .ok (.getfield 84, 3)) fX7_84 (xRul_s0 hr) (by omega) rfl (?_ : XW _ _ _ _ _ _ _ 87 _ _)
        refine xi_icmp_eq (by decide +kernel : decode mX7_move.2.1 87 = .ok (.if_icmp .eq 12, 3)) (by decide) (fun c => (?_ : XW _ _ _ _ _ _ _ 99 _ _)) (fun c => (?_ : XW _ _ _ _ _ _ _ 90 _ _))
        · replace vc := vc.1 c
          refine xi_iconst (v := 0) (by decide +kernel : decode mX7_move.2.1 99 = .ok (.iconst 0, 1)) (by decide) (?_ : XW _ _ _ _ _ _ _ 100 _ _)
          obtain ⟨Q1, sp, vc⟩ := vc
          refine xi_callV (b := 0) (bs := 0) (As := [.int 4, .int 0]) (st := []) (by decide +kernel : decode mX7_move.2.1 100 = .ok (.invokevirtual 75, 3)) kX7_75 rfl rfl (by omega) rfl sp (by decide) (by decide) (Nat.le_of_ble_eq_true rfl) (by omega) (fun v9 h13 hq9 => ?_)
          obtain ⟨e9, vc⟩ := vc v9 h13 hq9
          subst e9
          show XW _ _ _ _ _ _ _ 103 _ []
          refine xi_aload_n (by decide +kernel : decode mX7_move.2.1 103 = .ok (.aload_n 0, 1)) rfl rfl (?_ : XW _ _ _ _ _ _ _ 104 _ _)
          refine xi_dup (by decide +kernel : decode mX7_move.2.1 104 = .ok (.dup, 1)) rfl (?_ : XW _ _ _ _ _ _ _ 105 _ _)
          refine xi_getI (by decide +kernel : decode mX7_move.2.1 105 = .ok (.getfield 46, 3)) fX7_46 rfl (by omega) rfl (?_ : XW _ _ _ _ _ _ _ 108 _ _)
          refine xi_iconst (v := 1) (by decide +kernel : decode mX7_move.2.1 108 = .ok (.iconst 1, 1)) (by decide) (?_ : XW _ _ _ _ _ _ _ 109 _ _)
          refine xi_iadd (by decide +kernel : decode mX7_move.2.1 109 = .ok (.iadd, 1)) (?_ : XW _ _ _ _ _ _ _ 110 _ _)
          refine xi_putI (by decide +kernel : decode mX7_move.2.1 110 = .ok (.putfield 46, 3)) fX7_46 rfl (by omega) rfl rfl rfl (?_ : XW _ _ _ _ _ _ (xSI 29 (va_up (xI h13 29) 1 ((xI h13 29 1) + 1)) h13) 113 _ _)
          refine xi_aload_n (by decide +kernel : decode mX7_move.2.1 113 = .ok (.aload_n 0, 1)) rfl rfl (?_ : XW _ _ _ _ _ _ _ 114 _ _)
          refine xi_aload_n (by decide +kernel : decode mX7_move.2.1 114 = .ok (.aload_n 0, 1)) rfl rfl (?_ : XW _ _ _ _ _ _ _ 115 _ _)
          refine xi_aload_n (by decide +kernel : decode mX7_move.2.1 115 = .ok (.aload_n 1, 1)) rfl rfl (?_ : XW _ _ _ _ _ _ _ 116 _ _)
          refine xi_iload_n (by decide +kernel : decode mX7_move.2.1 116 = .ok (.iload_n 3, 1)) rfl rfl (?_ : XW _ _ _ _ _ _ _ 117 _ _)
          obtain ⟨Q1, sp, vc⟩ := vc
          refine xi_callV (b := 0) (bs := 0) (As := [.ref r, .int f]) (st := [.ref 29]) (by decide +kernel : decode mX7_move.2.1 117 = .ok (.invokevirtual 90, 3)) kX7_90 rfl rfl (by omega) rfl sp (by decide) (by decide) (Nat.le_of_ble_eq_true rfl) (by omega) (fun v9 h14 hq9 => ?_)
          obtain ⟨r14, e9, vc⟩ := vc v9 h14 hq9
          subst e9
          show XW _ _ _ _ _ _ _ 120 _ [.int r14, .ref 29]
          refine xi_putI (by decide +kernel : decode mX7_move.2.1 120 = .ok (.putfield 43, 3)) fX7_43 rfl (by omega) rfl rfl rfl (?_ : XW _ _ _ _ _ _ (xSI 29 (va_up (xI h14 29) 0 r14) h14) 123 _ _)
          refine xi_iload (by decide +kernel : decode mX7_move.2.1 123 = .ok (.iload 5, 2)) rfl (?_ : XW _ _ _ _ _ _ _ 125 _ _)
          exact xi_iret (by decide +kernel : decode mX7_move.2.1 125 = .ok (.ireturn, 1)) rfl rfl vc
        · replace vc := vc.2 c
          refine xi_aload_n (by decide +kernel : decode mX7_move.2.1 90 = .ok (.aload_n 0, 1)) rfl rfl (?_ : XW _ _ _ _ _ _ _ 91 _ _)
          refine xi_iload (by decide +kernel : decode mX7_move.2.1 91 = .ok (.iload 5, 2)) rfl (?_ : XW _ _ _ _ _ _ _ 93 _ _)
          obtain ⟨Q1, sp, vc⟩ := vc
          refine xi_callV (b := 0) (bs := 0) (As := [.int r3]) (st := [.int 4, .ref 29]) (by decide +kernel : decode mX7_move.2.1 93 = .ok (.invokevirtual 87, 3)) kX7_87 rfl rfl (by omega) rfl sp (by decide) (by decide) (Nat.le_of_ble_eq_true rfl) (by omega) (fun v9 h15 hq9 => ?_)
          obtain ⟨r15, e9, vc⟩ := vc v9 h15 hq9
          subst e9
          show XW _ _ _ _ _ _ _ 96 _ [.int r15, .int 4, .ref 29]
          refine xi_goto (by decide +kernel : decode mX7_move.2.1 96 = .ok (.goto 4, 3)) (by decide) (?_ : XW _ _ _ _ _ _ _ 100 _ _)
          obtain ⟨Q1, sp, vc⟩ := vc
          refine xi_callV (b := 0) (bs := 0) (As := [.int 4, .int r15]) (st := []) (by decide +kernel : decode mX7_move.2.1 100 = .ok (.invokevirtual 75, 3)) kX7_75 rfl rfl (by omega) rfl sp (by decide) (by decide) (Nat.le_of_ble_eq_true rfl) (by omega) (fun v9 h16 hq9 => ?_)
          obtain ⟨e9, vc⟩ := vc v9 h16 hq9
          subst e9
          show XW _ _ _ _ _ _ _ 103 _ []
          refine xi_aload_n (by decide +kernel : decode mX7_move.2.1 103 = .ok (.aload_n 0, 1)) rfl rfl (?_ : XW _ _ _ _ _ _ _ 104 _ _)
          refine xi_dup (by decide +kernel : decode mX7_move.2.1 104 = .ok (.dup, 1)) rfl (?_ : XW _ _ _ _ _ _ _ 105 _ _)
          refine xi_getI (by decide +kernel : decode mX7_move.2.1 105 = .ok (.getfield 46, 3)) fX7_46 rfl (by omega) rfl (?_ : XW _ _ _ _ _ _ _ 108 _ _)
          refine xi_iconst (v := 1) (by decide +kernel : decode mX7_move.2.1 108 = .ok (.iconst 1, 1)) (by decide) (?_ : XW _ _ _ _ _ _ _ 109 _ _)
          refine xi_iadd (by decide +kernel : decode mX7_move.2.1 109 = .ok (.iadd, 1)) (?_ : XW _ _ _ _ _ _ _ 110 _ _)
          refine xi_putI (by decide +kernel : decode mX7_move.2.1 110 = .ok (.putfield 46, 3)) fX7_46 rfl (by omega) rfl rfl rfl (?_ : XW _ _ _ _ _ _ (xSI 29 (va_up (xI h16 29) 1 ((xI h16 29 1) + 1)) h16) 113 _ _)
          refine xi_aload_n (by decide +kernel : decode mX7_move.2.1 113 = .ok (.aload_n 0, 1)) rfl rfl (?_ : XW _ _ _ _ _ _ _ 114 _ _)
          refine xi_aload_n (by decide +kernel : decode mX7_move.2.1 114 = .ok (.aload_n 0, 1)) rfl rfl (?_ : XW _ _ _ _ _ _ _ 115 _ _)
          refine xi_aload_n (by decide +kernel : decode mX7_move.2.1 115 = .ok (.aload_n 1, 1)) rfl rfl (?_ : XW _ _ _ _ _ _ _ 116 _ _)
          refine xi_iload_n (by decide +kernel : decode mX7_move.2.1 116 = .ok (.iload_n 3, 1)) rfl rfl (?_ : XW _ _ _ _ _ _ _ 117 _ _)
          obtain ⟨Q1, sp, vc⟩ := vc
          refine xi_callV (b := 0) (bs := 0) (As := [.ref r, .int f]) (st := [.ref 29]) (by decide +kernel : decode mX7_move.2.1 117 = .ok (.invokevirtual 90, 3)) kX7_90 rfl rfl (by omega) rfl sp (by decide) (by decide) (Nat.le_of_ble_eq_true rfl) (by omega) (fun v9 h17 hq9 => ?_)
          obtain ⟨r17, e9, vc⟩ := vc v9 h17 hq9
          subst e9
          show XW _ _ _ _ _ _ _ 120 _ [.int r17, .ref 29]
          refine xi_putI (by decide +kernel : decode mX7_move.2.1 120 = .ok (.putfield 43, 3)) fX7_43 rfl (by omega) rfl rfl rfl (?_ : XW _ _ _ _ _ _ (xSI 29 (va_up (xI h17 29) 0 r17) h17) 123 _ _)
          refine xi_iload (by decide +kernel : decode mX7_move.2.1 123 = .ok (.iload 5, 2)) rfl (?_ : XW _ _ _ _ _ _ _ 125 _ _)
          exact xi_iret (by decide +kernel : decode mX7_move.2.1 125 = .ok (.ireturn, 1)) rfl rfl vc
  · replace vc := vc.2 c
    refine xi_iconst (v := (-1)) (by decide +kernel : decode mX7_move.2.1 7 = .ok (.iconst (-1), 1)) (by decide) (?_ : XW _ _ _ _ _ _ _ 8 _ _)
    exact xi_iret (by decide +kernel : decode mX7_move.2.1 8 = .ok (.ireturn, 1)) rfl rfl vc

set_option maxRecDepth 20000 in
theorem v_X7_takeBack_0 {h : XH} {Q : Option Value → XH → Prop} {X : String → XH → Prop} (r : Nat) (hbp : BP r h) 
    (vc : (0 < (xI h 29 1) → ∃ Q1, XSpec mX7_logged 1 0 0 100 100 [.ref 29, .int (va_up (xI h 29) 1 ((xI h 29 1) - 1) 1), .int 0] (xSI 29 (va_up (xI h 29) 1 ((xI h 29 1) - 1)) h) Q1 xno ∧ ∀ v h1, Q1 v h1 → ∃ r1 : Int32, v = some (.int r1) ∧ (∃ Q1, XSpec mX7_logged 1 0 0 100 100 [.ref 29, .int (va_up (xI h1 29) 0 r1 1), .int 2] (xSI 29 (va_up (xI h1 29) 0 r1) h1) Q1 xno ∧ ∀ v h2, Q1 v h2 → ∃ r2 : Int32, v = some (.int r2) ∧ (∃ Q1, XSpec mX7_place 1 0 0 100 100 [.ref 29, .int (va_up (xI h1 29) 0 r1 0), .int r2] h2 Q1 xno ∧ ∀ v h3, Q1 v h3 → v = none ∧ (∃ Q1, XSpec mX7_logged 1 0 0 100 100 [.ref 29, .int (xI h3 29 1), .int 4] h3 Q1 xno ∧ ∀ v h4, Q1 v h4 → ∃ r4 : Int32, v = some (.int r4) ∧ (XW (xrm 2 0 0) mX7_takeBack (xE 100 Q X 0 0) 100 0 0 h4 61 [some (.ref 29), some (.int r4), some (.int 0)] []))))) ∧ (¬ 0 < (xI h 29 1) → Q (some (.int (-1))) h)) :
    XW (xrm 2 0 0) mX7_takeBack (xE 100 Q X 0 0) 100 0 0 h 0 [some (.ref 29), none, none] [] := by
  obtain ⟨hb, hr, hnr, ha21, ha25, hu29, hu34, hw, hnt, hwr⟩ := hbp
  refine xi_aload_n (by decide +kernel : decode mX7_takeBack.2.1 0 = .ok (.aload_n 0, 1)) rfl rfl (?_ : XW _ _ _ _ _ _ _ 1 _ _)
  refine xi_getI (by decide +kernel : decode mX7_takeBack.2.1 1 = .ok (.getfield 46, 3)) fX7_46 rfl (by omega) rfl (?_ : XW _ _ _ _ _ _ _ 4 _ _)
  refine xi_if_gt (by decide +kernel : decode mX7_takeBack.2.1 4 = .ok (.ifCond .gt 5, 3)) (by decide) (fun c => (?_ : XW _ _ _ _ _ _ _ 9 _ _)) (fun c => (?_ : XW _ _ _ _ _ _ _ 7 _ _))
  · replace vc := vc.1 c
    refine xi_aload_n (by decide +kernel : decode mX7_takeBack.2.1 9 = .ok (.aload_n 0, 1)) rfl rfl (?_ : XW _ _ _ _ _ _ _ 10 _ _)
    refine xi_dup (by decide +kernel : decode mX7_takeBack.2.1 10 = .ok (.dup, 1)) rfl (?_ : XW _ _ _ _ _ _ _ 11 _ _)
    refine xi_getI (by decide +kernel : decode mX7_takeBack.2.1 11 = .ok (.getfield 46, 3)) fX7_46 rfl (by omega) rfl (?_ : XW _ _ _ _ _ _ _ 14 _ _)
    refine xi_iconst (v := 1) (by decide +kernel : decode mX7_takeBack.2.1 14 = .ok (.iconst 1, 1)) (by decide) (?_ : XW _ _ _ _ _ _ _ 15 _ _)
    refine xi_isub (by decide +kernel : decode mX7_takeBack.2.1 15 = .ok (.isub, 1)) (?_ : XW _ _ _ _ _ _ _ 16 _ _)
    refine xi_putI (by decide +kernel : decode mX7_takeBack.2.1 16 = .ok (.putfield 46, 3)) fX7_46 rfl (by omega) rfl rfl rfl (?_ : XW _ _ _ _ _ _ (xSI 29 (va_up (xI h 29) 1 ((xI h 29 1) - 1)) h) 19 _ _)
    refine xi_aload_n (by decide +kernel : decode mX7_takeBack.2.1 19 = .ok (.aload_n 0, 1)) rfl rfl (?_ : XW _ _ _ _ _ _ _ 20 _ _)
    refine xi_aload_n (by decide +kernel : decode mX7_takeBack.2.1 20 = .ok (.aload_n 0, 1)) rfl rfl (?_ : XW _ _ _ _ _ _ _ 21 _ _)
    refine xi_aload_n (by decide +kernel : decode mX7_takeBack.2.1 21 = .ok (.aload_n 0, 1)) rfl rfl (?_ : XW _ _ _ _ _ _ _ 22 _ _)
    refine xi_getI (by decide +kernel : decode mX7_takeBack.2.1 22 = .ok (.getfield 46, 3)) fX7_46 rfl (by omega) rfl (?_ : XW _ _ _ _ _ _ _ 25 _ [.int (va_up (xI h 29) 1 ((xI h 29 1) - 1) 1), .ref 29, .ref 29])
    refine xi_iconst (v := 0) (by decide +kernel : decode mX7_takeBack.2.1 25 = .ok (.iconst 0, 1)) (by decide) (?_ : XW _ _ _ _ _ _ _ 26 _ _)
    obtain ⟨Q1, sp, vc⟩ := vc
    refine xi_callV (b := 0) (bs := 0) (As := [.int (va_up (xI h 29) 1 ((xI h 29 1) - 1) 1), .int 0]) (st := [.ref 29]) (by decide +kernel : decode mX7_takeBack.2.1 26 = .ok (.invokevirtual 97, 3)) kX7_97 rfl rfl (by omega) rfl sp (by decide) (by decide) (Nat.le_of_ble_eq_true rfl) (by omega) (fun v9 h1 hq9 => ?_)
    obtain ⟨r1, e9, vc⟩ := vc v9 h1 hq9
    subst e9
    show XW _ _ _ _ _ _ _ 29 _ [.int r1, .ref 29]
    refine xi_putI (by decide +kernel : decode mX7_takeBack.2.1 29 = .ok (.putfield 43, 3)) fX7_43 rfl (by omega) rfl rfl rfl (?_ : XW _ _ _ _ _ _ (xSI 29 (va_up (xI h1 29) 0 r1) h1) 32 _ _)
    refine xi_aload_n (by decide +kernel : decode mX7_takeBack.2.1 32 = .ok (.aload_n 0, 1)) rfl rfl (?_ : XW _ _ _ _ _ _ _ 33 _ _)
    refine xi_aload_n (by decide +kernel : decode mX7_takeBack.2.1 33 = .ok (.aload_n 0, 1)) rfl rfl (?_ : XW _ _ _ _ _ _ _ 34 _ _)
    refine xi_getI (by decide +kernel : decode mX7_takeBack.2.1 34 = .ok (.getfield 43, 3)) fX7_43 rfl (by omega) rfl (?_ : XW _ _ _ _ _ _ _ 37 _ [.int (va_up (xI h1 29) 0 r1 0), .ref 29])
    refine xi_aload_n (by decide +kernel : decode mX7_takeBack.2.1 37 = .ok (.aload_n 0, 1)) rfl rfl (?_ : XW _ _ _ _ _ _ _ 38 _ _)
    refine xi_aload_n (by decide +kernel : decode mX7_takeBack.2.1 38 = .ok (.aload_n 0, 1)) rfl rfl (?_ : XW _ _ _ _ _ _ _ 39 _ _)
    refine xi_getI (by decide +kernel : decode mX7_takeBack.2.1 39 = .ok (.getfield 46, 3)) fX7_46 rfl (by omega) rfl (?_ : XW _ _ _ _ _ _ _ 42 _ [.int (va_up (xI h1 29) 0 r1 1), .ref 29, .int (va_up (xI h1 29) 0 r1 0), .ref 29])
    refine xi_iconst (v := 2) (by decide +kernel : decode mX7_takeBack.2.1 42 = .ok (.iconst 2, 1)) (by decide) (?_ : XW _ _ _ _ _ _ _ 43 _ _)
    obtain ⟨Q1, sp, vc⟩ := vc
    refine xi_callV (b := 0) (bs := 0) (As := [.int (va_up (xI h1 29) 0 r1 1), .int 2]) (st := [.int (va_up (xI h1 29) 0 r1 0), .ref 29]) (by decide +kernel : decode mX7_takeBack.2.1 43 = .ok (.invokevirtual 97, 3)) kX7_97 rfl rfl (by omega) rfl sp (by decide) (by decide) (Nat.le_of_ble_eq_true rfl) (by omega) (fun v9 h2 hq9 => ?_)
    obtain ⟨r2, e9, vc⟩ := vc v9 h2 hq9
    subst e9
    show XW _ _ _ _ _ _ _ 46 _ [.int r2, .int (va_up (xI h1 29) 0 r1 0), .ref 29]
    obtain ⟨Q1, sp, vc⟩ := vc
    refine xi_callV (b := 0) (bs := 0) (As := [.int (va_up (xI h1 29) 0 r1 0), .int r2]) (st := []) (by decide +kernel : decode mX7_takeBack.2.1 46 = .ok (.invokevirtual 71, 3)) kX7_71 rfl rfl (by omega) rfl sp (by decide) (by decide) (Nat.le_of_ble_eq_true rfl) (by omega) (fun v9 h3 hq9 => ?_)
    obtain ⟨e9, vc⟩ := vc v9 h3 hq9
    subst e9
    show XW _ _ _ _ _ _ _ 49 _ []
    refine xi_aload_n (by decide +kernel : decode mX7_takeBack.2.1 49 = .ok (.aload_n 0, 1)) rfl rfl (?_ : XW _ _ _ _ _ _ _ 50 _ _)
    refine xi_aload_n (by decide +kernel : decode mX7_takeBack.2.1 50 = .ok (.aload_n 0, 1)) rfl rfl (?_ : XW _ _ _ _ _ _ _ 51 _ _)
    refine xi_getI (by decide +kernel : decode mX7_takeBack.2.1 51 = .ok (.getfield 46, 3)) fX7_46 rfl (by omega) rfl (?_ : XW _ _ _ _ _ _ _ 54 _ _)
    refine xi_iconst (v := 4) (by decide +kernel : decode mX7_takeBack.2.1 54 = .ok (.iconst 4, 1)) (by decide) (?_ : XW _ _ _ _ _ _ _ 55 _ _)
    obtain ⟨Q1, sp, vc⟩ := vc
    refine xi_callV (b := 0) (bs := 0) (As := [.int (xI h3 29 1), .int 4]) (st := []) (by decide +kernel : decode mX7_takeBack.2.1 55 = .ok (.invokevirtual 97, 3)) kX7_97 rfl rfl (by omega) rfl sp (by decide) (by decide) (Nat.le_of_ble_eq_true rfl) (by omega) (fun v9 h4 hq9 => ?_)
    obtain ⟨r4, e9, vc⟩ := vc v9 h4 hq9
    subst e9
    show XW _ _ _ _ _ _ _ 58 _ [.int r4]
    refine xi_istore_n (ls' := [some (.ref 29), some (.int r4), none]) (by decide +kernel : decode mX7_takeBack.2.1 58 = .ok (.istore_n 1, 1)) rfl (by decide) rfl (?_ : XW _ _ _ _ _ _ _ 59 _ _)
    refine xi_iconst (v := 0) (by decide +kernel : decode mX7_takeBack.2.1 59 = .ok (.iconst 0, 1)) (by decide) (?_ : XW _ _ _ _ _ _ _ 60 _ _)
    refine xi_istore_n (ls' := [some (.ref 29), some (.int r4), some (.int 0)]) (by decide +kernel : decode mX7_takeBack.2.1 60 = .ok (.istore_n 2, 1)) rfl (by decide) rfl (?_ : XW _ _ _ _ _ _ _ 61 _ _)
    exact vc
  · replace vc := vc.2 c
    refine xi_iconst (v := (-1)) (by decide +kernel : decode mX7_takeBack.2.1 7 = .ok (.iconst (-1), 1)) (by decide) (?_ : XW _ _ _ _ _ _ _ 8 _ _)
    exact xi_iret (by decide +kernel : decode mX7_takeBack.2.1 8 = .ok (.ireturn, 1)) rfl rfl vc

set_option maxRecDepth 20000 in
theorem v_X7_takeBack_61 {h : XH} {Q : Option Value → XH → Prop} {X : String → XH → Prop} (r : Nat) (hbp : BP r h)  (x1 : Int32) (x2 : Int32)
    (vc : ((xI h 29 3) ≤ x2 → Q (some (.int (xI h 29 1))) h) ∧ (¬ (xI h 29 3) ≤ x2 → ((x1 &&& (1 <<< ((x2 : Int32) &&& 31))) = 0 → XW (xrm 2 0 0) mX7_takeBack (xE 100 Q X 0 0) 100 0 0 h 61 [some (.ref 29), some (.int x1), some (.int (x2 + 1))] []) ∧ (¬ (x1 &&& (1 <<< ((x2 : Int32) &&& 31))) = 0 → ∃ Q1, XSpec mX7_logged 1 0 0 100 100 [.ref 29, .int (xI h 29 1), .int 3] h Q1 xno ∧ ∀ v h5, Q1 v h5 → ∃ r5 : Int32, v = some (.int r5) ∧ (∃ Q1, XSpec mX7_place 1 0 0 100 100 [.ref 29, .int x2, .int r5] h5 Q1 xno ∧ ∀ v h6, Q1 v h6 → v = none ∧ (XW (xrm 2 0 0) mX7_takeBack (xE 100 Q X 0 0) 100 0 0 h6 61 [some (.ref 29), some (.int x1), some (.int (x2 + 1))] []))))) :
    XW (xrm 2 0 0) mX7_takeBack (xE 100 Q X 0 0) 100 0 0 h 61 [some (.ref 29), some (.int x1), some (.int x2)] [] := by
  obtain ⟨hb, hr, hnr, ha21, ha25, hu29, hu34, hw, hnt, hwr⟩ := hbp
  refine xi_iload_n (by decide +kernel : decode mX7_takeBack.2.1 61 = .ok (.iload_n 2, 1)) rfl rfl (?_ : XW _ _ _ _ _ _ _ 62 _ _)
  refine xi_aload_n (by decide +kernel : decode mX7_takeBack.2.1 62 = .ok (.aload_n 0, 1)) rfl rfl (?_ : XW _ _ _ _ _ _ _ 63 _ _)
  refine xi_getI (by decide +kernel : decode mX7_takeBack.2.1 63 = .ok (.getfield 33, 3)) fX7_33 rfl (by omega) rfl (?_ : XW _ _ _ _ _ _ _ 66 _ _)
  refine xi_icmp_ge (by decide +kernel : decode mX7_takeBack.2.1 66 = .ok (.if_icmp .ge 31, 3)) (by decide) (fun c => (?_ : XW _ _ _ _ _ _ _ 97 _ _)) (fun c => (?_ : XW _ _ _ _ _ _ _ 69 _ _))
  · replace vc := vc.1 c
    refine xi_aload_n (by decide +kernel : decode mX7_takeBack.2.1 97 = .ok (.aload_n 0, 1)) rfl rfl (?_ : XW _ _ _ _ _ _ _ 98 _ _)
    refine xi_getI (by decide +kernel : decode mX7_takeBack.2.1 98 = .ok (.getfield 46, 3)) fX7_46 rfl (by omega) rfl (?_ : XW _ _ _ _ _ _ _ 101 _ _)
    exact xi_iret (by decide +kernel : decode mX7_takeBack.2.1 101 = .ok (.ireturn, 1)) rfl rfl vc
  · replace vc := vc.2 c
    refine xi_iload_n (by decide +kernel : decode mX7_takeBack.2.1 69 = .ok (.iload_n 1, 1)) rfl rfl (?_ : XW _ _ _ _ _ _ _ 70 _ _)
    refine xi_iconst (v := 1) (by decide +kernel : decode mX7_takeBack.2.1 70 = .ok (.iconst 1, 1)) (by decide) (?_ : XW _ _ _ _ _ _ _ 71 _ _)
    refine xi_iload_n (by decide +kernel : decode mX7_takeBack.2.1 71 = .ok (.iload_n 2, 1)) rfl rfl (?_ : XW _ _ _ _ _ _ _ 72 _ _)
    refine xi_ishl (by decide +kernel : decode mX7_takeBack.2.1 72 = .ok (.ishl, 1)) (?_ : XW _ _ _ _ _ _ _ 73 _ _)
    refine xi_iand (by decide +kernel : decode mX7_takeBack.2.1 73 = .ok (.iand, 1)) (?_ : XW _ _ _ _ _ _ _ 74 _ _)
    refine xi_if_eq (by decide +kernel : decode mX7_takeBack.2.1 74 = .ok (.ifCond .eq 17, 3)) (by decide) (fun c => (?_ : XW _ _ _ _ _ _ _ 91 _ _)) (fun c => (?_ : XW _ _ _ _ _ _ _ 77 _ _))
    · replace vc := vc.1 c
      refine xi_iinc (v := x2 + 1) (ls' := [some (.ref 29), some (.int x1), some (.int (x2 + 1))]) (by decide +kernel : decode mX7_takeBack.2.1 91 = .ok (.iinc 2 1, 3)) rfl rfl (by decide) rfl (?_ : XW _ _ _ _ _ _ _ 94 _ _)
      refine xi_goto (by decide +kernel : decode mX7_takeBack.2.1 94 = .ok (.goto (-33), 3)) (by decide) (?_ : XW _ _ _ _ _ _ _ 61 _ _)
      exact vc
    · replace vc := vc.2 c
      refine xi_aload_n (by decide +kernel : decode mX7_takeBack.2.1 77 = .ok (.aload_n 0, 1)) rfl rfl (?_ : XW _ _ _ _ _ _ _ 78 _ _)
      refine xi_iload_n (by decide +kernel : decode mX7_takeBack.2.1 78 = .ok (.iload_n 2, 1)) rfl rfl (?_ : XW _ _ _ _ _ _ _ 79 _ _)
      refine xi_aload_n (by decide +kernel : decode mX7_takeBack.2.1 79 = .ok (.aload_n 0, 1)) rfl rfl (?_ : XW _ _ _ _ _ _ _ 80 _ _)
      refine xi_aload_n (by decide +kernel : decode mX7_takeBack.2.1 80 = .ok (.aload_n 0, 1)) rfl rfl (?_ : XW _ _ _ _ _ _ _ 81 _ _)
      refine xi_getI (by decide +kernel : decode mX7_takeBack.2.1 81 = .ok (.getfield 46, 3)) fX7_46 rfl (by omega) rfl (?_ : XW _ _ _ _ _ _ _ 84 _ _)
      refine xi_iconst (v := 3) (by decide +kernel : decode mX7_takeBack.2.1 84 = .ok (.iconst 3, 1)) (by decide) (?_ : XW _ _ _ _ _ _ _ 85 _ _)
      obtain ⟨Q1, sp, vc⟩ := vc
      refine xi_callV (b := 0) (bs := 0) (As := [.int (xI h 29 1), .int 3]) (st := [.int x2, .ref 29]) (by decide +kernel : decode mX7_takeBack.2.1 85 = .ok (.invokevirtual 97, 3)) kX7_97 rfl rfl (by omega) rfl sp (by decide) (by decide) (Nat.le_of_ble_eq_true rfl) (by omega) (fun v9 h5 hq9 => ?_)
      obtain ⟨r5, e9, vc⟩ := vc v9 h5 hq9
      subst e9
      show XW _ _ _ _ _ _ _ 88 _ [.int r5, .int x2, .ref 29]
      obtain ⟨Q1, sp, vc⟩ := vc
      refine xi_callV (b := 0) (bs := 0) (As := [.int x2, .int r5]) (st := []) (by decide +kernel : decode mX7_takeBack.2.1 88 = .ok (.invokevirtual 71, 3)) kX7_71 rfl rfl (by omega) rfl sp (by decide) (by decide) (Nat.le_of_ble_eq_true rfl) (by omega) (fun v9 h6 hq9 => ?_)
      obtain ⟨e9, vc⟩ := vc v9 h6 hq9
      subst e9
      show XW _ _ _ _ _ _ _ 91 _ []
      refine xi_iinc (v := x2 + 1) (ls' := [some (.ref 29), some (.int x1), some (.int (x2 + 1))]) (by decide +kernel : decode mX7_takeBack.2.1 91 = .ok (.iinc 2 1, 3)) rfl rfl (by decide) rfl (?_ : XW _ _ _ _ _ _ _ 94 _ _)
      refine xi_goto (by decide +kernel : decode mX7_takeBack.2.1 94 = .ok (.goto (-33), 3)) (by decide) (?_ : XW _ _ _ _ _ _ _ 61 _ _)
      exact vc

set_option maxRecDepth 20000 in
theorem v_X5_faceOf_0 {h : XH} {Q : Option Value → XH → Prop} {X : String → XH → Prop} (r : Nat) (hbp : BP r h)  (d : Int32)
    (vc : XW (xrm 2 0 0) mX5_faceOf (xE 100 Q X 0 0) 100 0 0 h 4 [some (.ref r), some (.int d), some (.int 0), some (.int 1)] []) :
    XW (xrm 2 0 0) mX5_faceOf (xE 100 Q X 0 0) 100 0 0 h 0 [some (.ref r), some (.int d), none, none] [] := by
  obtain ⟨hb, hr, hnr, ha21, ha25, hu29, hu34, hw, hnt, hwr⟩ := hbp
  refine xi_iconst (v := 0) (by decide +kernel : decode mX5_faceOf.2.1 0 = .ok (.iconst 0, 1)) (by decide) (?_ : XW _ _ _ _ _ _ _ 1 _ _)
  refine xi_istore_n (ls' := [some (.ref r), some (.int d), some (.int 0), none]) (by decide +kernel : decode mX5_faceOf.2.1 1 = .ok (.istore_n 2, 1)) rfl (by decide) rfl (?_ : XW _ _ _ _ _ _ _ 2 _ _)
  refine xi_iconst (v := 1) (by decide +kernel : decode mX5_faceOf.2.1 2 = .ok (.iconst 1, 1)) (by decide) (?_ : XW _ _ _ _ _ _ _ 3 _ _)
  refine xi_istore_n (ls' := [some (.ref r), some (.int d), some (.int 0), some (.int 1)]) (by decide +kernel : decode mX5_faceOf.2.1 3 = .ok (.istore_n 3, 1)) rfl (by decide) rfl (?_ : XW _ _ _ _ _ _ _ 4 _ _)
  exact vc

set_option maxRecDepth 20000 in
theorem v_X5_faceOf_4 {h : XH} {Q : Option Value → XH → Prop} {X : String → XH → Prop} (r : Nat) (hbp : BP r h)  (x1 : Int32) (x2 : Int32) (x3 : Int32)
    (vc : (6 ≤ x3 → Q (some (.int 6)) h) ∧ (¬ 6 ≤ x3 → ∃ Q1, XSpec mX5_oddsOf 1 0 0 100 100 [.ref r, .int x3] h Q1 xno ∧ ∀ v h1, Q1 v h1 → ∃ r1 : Int32, v = some (.int r1) ∧ (((x2 + r1) ≤ x1 → XW (xrm 2 0 0) mX5_faceOf (xE 100 Q X 0 0) 100 0 0 h1 4 [some (.ref r), some (.int x1), some (.int (x2 + r1)), some (.int (x3 + 1))] []) ∧ (¬ (x2 + r1) ≤ x1 → Q (some (.int x3)) h1)))) :
    XW (xrm 2 0 0) mX5_faceOf (xE 100 Q X 0 0) 100 0 0 h 4 [some (.ref r), some (.int x1), some (.int x2), some (.int x3)] [] := by
  obtain ⟨hb, hr, hnr, ha21, ha25, hu29, hu34, hw, hnt, hwr⟩ := hbp
  refine xi_iload_n (by decide +kernel : decode mX5_faceOf.2.1 4 = .ok (.iload_n 3, 1)) rfl rfl (?_ : XW _ _ _ _ _ _ _ 5 _ _)
  refine xi_bipush (v := 6) (by decide +kernel : decode mX5_faceOf.2.1 5 = .ok (.bipush 6, 2)) (by decide) (?_ : XW _ _ _ _ _ _ _ 7 _ _)
  refine xi_icmp_ge (by decide +kernel : decode mX5_faceOf.2.1 7 = .ok (.if_icmp .ge 24, 3)) (by decide) (fun c => (?_ : XW _ _ _ _ _ _ _ 31 _ _)) (fun c => (?_ : XW _ _ _ _ _ _ _ 10 _ _))
  · replace vc := vc.1 c
    refine xi_bipush (v := 6) (by decide +kernel : decode mX5_faceOf.2.1 31 = .ok (.bipush 6, 2)) (by decide) (?_ : XW _ _ _ _ _ _ _ 33 _ _)
    exact xi_iret (by decide +kernel : decode mX5_faceOf.2.1 33 = .ok (.ireturn, 1)) rfl rfl vc
  · replace vc := vc.2 c
    refine xi_iload_n (by decide +kernel : decode mX5_faceOf.2.1 10 = .ok (.iload_n 2, 1)) rfl rfl (?_ : XW _ _ _ _ _ _ _ 11 _ _)
    refine xi_aload_n (by decide +kernel : decode mX5_faceOf.2.1 11 = .ok (.aload_n 0, 1)) rfl rfl (?_ : XW _ _ _ _ _ _ _ 12 _ _)
    refine xi_iload_n (by decide +kernel : decode mX5_faceOf.2.1 12 = .ok (.iload_n 3, 1)) rfl rfl (?_ : XW _ _ _ _ _ _ _ 13 _ _)
    obtain ⟨Q1, sp, vc⟩ := vc
    refine xi_callV (b := 0) (bs := 0) (As := [.int x3]) (st := [.int x2]) (by decide +kernel : decode mX5_faceOf.2.1 13 = .ok (.invokevirtual 72, 3)) kX5_72 rfl (xRul_s0 hr) (by omega) rfl sp (by decide) (by decide) (Nat.le_of_ble_eq_true rfl) (by omega) (fun v9 h1 hq9 => ?_)
    obtain ⟨r1, e9, vc⟩ := vc v9 h1 hq9
    subst e9
    show XW _ _ _ _ _ _ _ 16 _ [.int r1, .int x2]
    refine xi_iadd (by decide +kernel : decode mX5_faceOf.2.1 16 = .ok (.iadd, 1)) (?_ : XW _ _ _ _ _ _ _ 17 _ _)
    refine xi_istore_n (ls' := [some (.ref r), some (.int x1), some (.int (x2 + r1)), some (.int x3)]) (by decide +kernel : decode mX5_faceOf.2.1 17 = .ok (.istore_n 2, 1)) rfl (by decide) rfl (?_ : XW _ _ _ _ _ _ _ 18 _ _)
    refine xi_iload_n (by decide +kernel : decode mX5_faceOf.2.1 18 = .ok (.iload_n 2, 1)) rfl rfl (?_ : XW _ _ _ _ _ _ _ 19 _ _)
    refine xi_iload_n (by decide +kernel : decode mX5_faceOf.2.1 19 = .ok (.iload_n 1, 1)) rfl rfl (?_ : XW _ _ _ _ _ _ _ 20 _ _)
    refine xi_icmp_le (by decide +kernel : decode mX5_faceOf.2.1 20 = .ok (.if_icmp .le 5, 3)) (by decide) (fun c => (?_ : XW _ _ _ _ _ _ _ 25 _ _)) (fun c => (?_ : XW _ _ _ _ _ _ _ 23 _ _))
    · replace vc := vc.1 c
      refine xi_iinc (v := x3 + 1) (ls' := [some (.ref r), some (.int x1), some (.int (x2 + r1)), some (.int (x3 + 1))]) (by decide +kernel : decode mX5_faceOf.2.1 25 = .ok (.iinc 3 1, 3)) rfl rfl (by decide) rfl (?_ : XW _ _ _ _ _ _ _ 28 _ _)
      refine xi_goto (by decide +kernel : decode mX5_faceOf.2.1 28 = .ok (.goto (-24), 3)) (by decide) (?_ : XW _ _ _ _ _ _ _ 4 _ _)
      exact vc
    · replace vc := vc.2 c
      refine xi_iload_n (by decide +kernel : decode mX5_faceOf.2.1 23 = .ok (.iload_n 3, 1)) rfl rfl (?_ : XW _ _ _ _ _ _ _ 24 _ _)
      exact xi_iret (by decide +kernel : decode mX5_faceOf.2.1 24 = .ok (.ireturn, 1)) rfl rfl vc

set_option maxRecDepth 20000 in
theorem v_X10_nextSeed_0 {h : XH} {Q : Option Value → XH → Prop} {X : String → XH → Prop} (n : Nat)  (q : Int32)
    (vc : Q (some (.int ((q * 1103515245) + 12345))) h) :
    XW (xrm 1 0 0) mX10_nextSeed (xE n Q X 0 0) n 0 0 h 0 [some (.int q)] [] := by
  refine xi_iload_n (by decide +kernel : decode mX10_nextSeed.2.1 0 = .ok (.iload_n 0, 1)) rfl rfl (?_ : XW _ _ _ _ _ _ _ 1 _ _)
  refine xi_ldc (v := 1103515245) (by decide +kernel : decode mX10_nextSeed.2.1 1 = .ok (.ldc 214, 2)) cK_X10_214 (?_ : XW _ _ _ _ _ _ _ 3 _ _)
  refine xi_imul (by decide +kernel : decode mX10_nextSeed.2.1 3 = .ok (.imul, 1)) (?_ : XW _ _ _ _ _ _ _ 4 _ _)
  refine xi_sipush (v := 12345) (by decide +kernel : decode mX10_nextSeed.2.1 4 = .ok (.sipush 12345, 3)) (by decide) (?_ : XW _ _ _ _ _ _ _ 7 _ _)
  refine xi_iadd (by decide +kernel : decode mX10_nextSeed.2.1 7 = .ok (.iadd, 1)) (?_ : XW _ _ _ _ _ _ _ 8 _ _)
  exact xi_iret (by decide +kernel : decode mX10_nextSeed.2.1 8 = .ok (.ireturn, 1)) rfl rfl vc

set_option maxRecDepth 20000 in
theorem v_X10_drawn_0 {h : XH} {Q : Option Value → XH → Prop} {X : String → XH → Prop} (n : Nat)  (q : Int32) (m : Int32)
    (vc : (0 < m → (¬ m = 0) ∧ (Q (some (.int ((((q.toUInt32 >>> ((16 : Int32).toUInt32 &&& Int32.toUInt32 31)).toInt32) &&& 32767) - (((q.toUInt32 >>> ((16 : Int32).toUInt32 &&& Int32.toUInt32 31)).toInt32) &&& 32767) / m * m))) h)) ∧ (¬ 0 < m → Q (some (.int 0)) h)) :
    XW (xrm 1 0 0) mX10_drawn (xE n Q X 0 0) n 0 0 h 0 [some (.int q), some (.int m)] [] := by
  refine xi_iload_n (by decide +kernel : decode mX10_drawn.2.1 0 = .ok (.iload_n 1, 1)) rfl rfl (?_ : XW _ _ _ _ _ _ _ 1 _ _)
  refine xi_if_gt (by decide +kernel : decode mX10_drawn.2.1 1 = .ok (.ifCond .gt 7, 3)) (by decide) (fun c => (?_ : XW _ _ _ _ _ _ _ 8 _ _)) (fun c => (?_ : XW _ _ _ _ _ _ _ 4 _ _))
  · replace vc := vc.1 c
    refine xi_iload_n (by decide +kernel : decode mX10_drawn.2.1 8 = .ok (.iload_n 0, 1)) rfl rfl (?_ : XW _ _ _ _ _ _ _ 9 _ _)
    refine xi_bipush (v := 16) (by decide +kernel : decode mX10_drawn.2.1 9 = .ok (.bipush 16, 2)) (by decide) (?_ : XW _ _ _ _ _ _ _ 11 _ _)
    refine xi_iushr (by decide +kernel : decode mX10_drawn.2.1 11 = .ok (.iushr, 1)) (?_ : XW _ _ _ _ _ _ _ 12 _ _)
    refine xi_sipush (v := 32767) (by decide +kernel : decode mX10_drawn.2.1 12 = .ok (.sipush 32767, 3)) (by decide) (?_ : XW _ _ _ _ _ _ _ 15 _ _)
    refine xi_iand (by decide +kernel : decode mX10_drawn.2.1 15 = .ok (.iand, 1)) (?_ : XW _ _ _ _ _ _ _ 16 _ _)
    refine xi_iload_n (by decide +kernel : decode mX10_drawn.2.1 16 = .ok (.iload_n 1, 1)) rfl rfl (?_ : XW _ _ _ _ _ _ _ 17 _ _)
    obtain ⟨s1, vc⟩ := vc
    refine xi_irem (by decide +kernel : decode mX10_drawn.2.1 17 = .ok (.irem, 1)) s1 (?_ : XW _ _ _ _ _ _ _ 18 _ _)
    exact xi_iret (by decide +kernel : decode mX10_drawn.2.1 18 = .ok (.ireturn, 1)) rfl rfl vc
  · replace vc := vc.2 c
    refine xi_iconst (v := 0) (by decide +kernel : decode mX10_drawn.2.1 4 = .ok (.iconst 0, 1)) (by decide) (?_ : XW _ _ _ _ _ _ _ 5 _ _)
    refine xi_goto (by decide +kernel : decode mX10_drawn.2.1 5 = .ok (.goto 13, 3)) (by decide) (?_ : XW _ _ _ _ _ _ _ 18 _ _)
    exact xi_iret (by decide +kernel : decode mX10_drawn.2.1 18 = .ok (.ireturn, 1)) rfl rfl vc

set_option maxRecDepth 20000 in
theorem v_X10_commonDivisor_0 {h : XH} {Q : Option Value → XH → Prop} {X : String → XH → Prop} (n : Nat)  (a9 : Int64) (b9 : Int64)
    (vc : XW (xrm 1 0 0) mX10_commonDivisor (xE n Q X 0 0) n 0 0 h 9 [none, none, none, none, some (.long a9), none, some (.long b9), none, some (.int 0), none, none] []) :
    XW (xrm 1 0 0) mX10_commonDivisor (xE n Q X 0 0) n 0 0 h 0 [some (.long a9), none, some (.long b9), none, none, none, none, none, none, none, none] [] := by
  refine xi_lload_n (by decide +kernel : decode mX10_commonDivisor.2.1 0 = .ok (.lload_n 0, 1)) rfl rfl (?_ : XW _ _ _ _ _ _ _ 1 _ _)
  refine xi_lstore (ls' := [some (.long a9), none, some (.long b9), none, some (.long a9), none, none, none, none, none, none]) (by decide +kernel : decode mX10_commonDivisor.2.1 1 = .ok (.lstore 4, 2)) (by decide) rfl (?_ : XW _ _ _ _ _ _ _ 3 _ _)
  refine xi_lload_n (by decide +kernel : decode mX10_commonDivisor.2.1 3 = .ok (.lload_n 2, 1)) rfl rfl (?_ : XW _ _ _ _ _ _ _ 4 _ _)
  refine xi_lstore (ls' := [some (.long a9), none, some (.long b9), none, some (.long a9), none, some (.long b9), none, none, none, none]) (by decide +kernel : decode mX10_commonDivisor.2.1 4 = .ok (.lstore 6, 2)) (by decide) rfl (?_ : XW _ _ _ _ _ _ _ 6 _ _)
  refine xi_iconst (v := 0) (by decide +kernel : decode mX10_commonDivisor.2.1 6 = .ok (.iconst 0, 1)) (by decide) (?_ : XW _ _ _ _ _ _ _ 7 _ _)
  refine xi_istore (ls' := [some (.long a9), none, some (.long b9), none, some (.long a9), none, some (.long b9), none, some (.int 0), none, none]) (by decide +kernel : decode mX10_commonDivisor.2.1 7 = .ok (.istore 8, 2)) (by decide) rfl (?_ : XW _ _ _ _ _ _ _ 9 _ _)
  refine xw_drop 0 (ls' := [none, none, some (.long b9), none, some (.long a9), none, some (.long b9), none, some (.int 0), none, none]) rfl ?_
  refine xw_drop 2 (ls' := [none, none, none, none, some (.long a9), none, some (.long b9), none, some (.int 0), none, none]) rfl ?_
  exact vc

set_option maxRecDepth 20000 in
theorem v_X10_commonDivisor_9 {h : XH} {Q : Option Value → XH → Prop} {X : String → XH → Prop} (n : Nat)  (x4 : Int64) (x6 : Int64) (x8 : Int32)
    (vc : (200 ≤ x8 → Q (some (.long x4)) h) ∧ (¬ 200 ≤ x8 → ((lg_cmp x6 0) = 0 → Q (some (.long x4)) h) ∧ (¬ (lg_cmp x6 0) = 0 → (¬ x6 = 0) ∧ (XW (xrm 1 0 0) mX10_commonDivisor (xE n Q X 0 0) n 0 0 h 9 [none, none, none, none, some (.long x6), none, some (.long (x4 - x4 / x6 * x6)), none, some (.int (x8 + 1)), none, none] [])))) :
    XW (xrm 1 0 0) mX10_commonDivisor (xE n Q X 0 0) n 0 0 h 9 [none, none, none, none, some (.long x4), none, some (.long x6), none, some (.int x8), none, none] [] := by
  refine xi_iload (by decide +kernel : decode mX10_commonDivisor.2.1 9 = .ok (.iload 8, 2)) rfl (?_ : XW _ _ _ _ _ _ _ 11 _ _)
  refine xi_sipush (v := 200) (by decide +kernel : decode mX10_commonDivisor.2.1 11 = .ok (.sipush 200, 3)) (by decide) (?_ : XW _ _ _ _ _ _ _ 14 _ _)
  refine xi_icmp_ge (by decide +kernel : decode mX10_commonDivisor.2.1 14 = .ok (.if_icmp .ge 31, 3)) (by decide) (fun c => (?_ : XW _ _ _ _ _ _ _ 45 _ _)) (fun c => (?_ : XW _ _ _ _ _ _ _ 17 _ _))
  · replace vc := vc.1 c
    refine xi_lload (by decide +kernel : decode mX10_commonDivisor.2.1 45 = .ok (.lload 4, 2)) rfl (?_ : XW _ _ _ _ _ _ _ 47 _ _)
    exact xi_lret (by decide +kernel : decode mX10_commonDivisor.2.1 47 = .ok (.lreturn, 1)) rfl vc
  · replace vc := vc.2 c
    refine xi_lload (by decide +kernel : decode mX10_commonDivisor.2.1 17 = .ok (.lload 6, 2)) rfl (?_ : XW _ _ _ _ _ _ _ 19 _ _)
    refine xi_lconst (v := 0) (by decide +kernel : decode mX10_commonDivisor.2.1 19 = .ok (.lconst 0, 1)) (by decide) (?_ : XW _ _ _ _ _ _ _ 20 _ _)
    refine xi_lcmp (by decide +kernel : decode mX10_commonDivisor.2.1 20 = .ok (.lcmp, 1)) (?_ : XW _ _ _ _ _ _ _ 21 _ _)
    refine xi_if_eq (by decide +kernel : decode mX10_commonDivisor.2.1 21 = .ok (.ifCond .eq 24, 3)) (by decide) (fun c => (?_ : XW _ _ _ _ _ _ _ 45 _ _)) (fun c => (?_ : XW _ _ _ _ _ _ _ 24 _ _))
    · replace vc := vc.1 c
      refine xi_lload (by decide +kernel : decode mX10_commonDivisor.2.1 45 = .ok (.lload 4, 2)) rfl (?_ : XW _ _ _ _ _ _ _ 47 _ _)
      exact xi_lret (by decide +kernel : decode mX10_commonDivisor.2.1 47 = .ok (.lreturn, 1)) rfl vc
    · replace vc := vc.2 c
      refine xi_lload (by decide +kernel : decode mX10_commonDivisor.2.1 24 = .ok (.lload 4, 2)) rfl (?_ : XW _ _ _ _ _ _ _ 26 _ _)
      refine xi_lload (by decide +kernel : decode mX10_commonDivisor.2.1 26 = .ok (.lload 6, 2)) rfl (?_ : XW _ _ _ _ _ _ _ 28 _ _)
      obtain ⟨s1, vc⟩ := vc
      refine xi_lrem (by decide +kernel : decode mX10_commonDivisor.2.1 28 = .ok (.lrem, 1)) s1 (?_ : XW _ _ _ _ _ _ _ 29 _ _)
      refine xi_lstore (ls' := [none, none, none, none, some (.long x4), none, some (.long x6), none, some (.int x8), some (.long (x4 - x4 / x6 * x6)), none]) (by decide +kernel : decode mX10_commonDivisor.2.1 29 = .ok (.lstore 9, 2)) (by decide) rfl (?_ : XW _ _ _ _ _ _ _ 31 _ _)
      refine xi_lload (by decide +kernel : decode mX10_commonDivisor.2.1 31 = .ok (.lload 6, 2)) rfl (?_ : XW _ _ _ _ _ _ _ 33 _ _)
      refine xi_lstore (ls' := [none, none, none, none, some (.long x6), none, some (.long x6), none, some (.int x8), some (.long (x4 - x4 / x6 * x6)), none]) (by decide +kernel : decode mX10_commonDivisor.2.1 33 = .ok (.lstore 4, 2)) (by decide) rfl (?_ : XW _ _ _ _ _ _ _ 35 _ _)
      refine xi_lload (by decide +kernel : decode mX10_commonDivisor.2.1 35 = .ok (.lload 9, 2)) rfl (?_ : XW _ _ _ _ _ _ _ 37 _ _)
      refine xi_lstore (ls' := [none, none, none, none, some (.long x6), none, some (.long (x4 - x4 / x6 * x6)), none, some (.int x8), some (.long (x4 - x4 / x6 * x6)), none]) (by decide +kernel : decode mX10_commonDivisor.2.1 37 = .ok (.lstore 6, 2)) (by decide) rfl (?_ : XW _ _ _ _ _ _ _ 39 _ _)
      refine xi_iinc (v := x8 + 1) (ls' := [none, none, none, none, some (.long x6), none, some (.long (x4 - x4 / x6 * x6)), none, some (.int (x8 + 1)), some (.long (x4 - x4 / x6 * x6)), none]) (by decide +kernel : decode mX10_commonDivisor.2.1 39 = .ok (.iinc 8 1, 3)) rfl rfl (by decide) rfl (?_ : XW _ _ _ _ _ _ _ 42 _ _)
      refine xi_goto (by decide +kernel : decode mX10_commonDivisor.2.1 42 = .ok (.goto (-33), 3)) (by decide) (?_ : XW _ _ _ _ _ _ _ 9 _ _)
      refine xw_drop 9 (ls' := [none, none, none, none, some (.long x6), none, some (.long (x4 - x4 / x6 * x6)), none, some (.int (x8 + 1)), none, none]) rfl ?_
      exact vc

set_option maxRecDepth 20000 in
theorem v_X10_roll_0 {h : XH} {Q : Option Value → XH → Prop} {X : String → XH → Prop} (r : Nat) (hbp : BP r h)  (f : Int32)
    (vc : ∃ Q1 X1, XSpec mX10_needFace 7 1 6 100 100 [.ref 0, .int f] h Q1 X1 ∧ (∀ E9 h9, X1 E9 h9 → X E9 h9) ∧ ∀ v h1, Q1 v h1 → v = none ∧ ((xP h1 0 7 = some 29) ∧ ((xP h1 0 3 = some r) ∧ ((xP h1 0 5 = some 21) ∧ (∃ Q1, XSpec mX7_move 3 0 0 100 100 [.ref 29, .ref r, .ref 21, .int f] h1 Q1 xno ∧ ∀ v h2, Q1 v h2 → ∃ r2 : Int32, v = some (.int r2) ∧ ((¬ r2 = (-1) → Q (some (.int r2)) h2) ∧ (r2 = (-1) → (xP h2 0 7 = some 29) ∧ (∃ Q1, XSpec mX7_refuse 1 0 0 100 100 [.ref 29, .int 1] h2 Q1 xno ∧ ∀ v h3, Q1 v h3 → v = none ∧ (Q (some (.int r2)) h3))))))))) :
    XW (xrm 8 1 6) mX10_roll (xE 100 Q X 1 6) 100 1 6 h 0 [some (.ref 0), some (.int f), none] [] := by
  obtain ⟨hb, hr, hnr, ha21, ha25, hu29, hu34, hw, hnt, hwr⟩ := hbp
  refine xi_aload_n (by decide +kernel : decode mX10_roll.2.1 0 = .ok (.aload_n 0, 1)) rfl rfl (?_ : XW _ _ _ _ _ _ _ 1 _ _)
  refine xi_iload_n (by decide +kernel : decode mX10_roll.2.1 1 = .ok (.iload_n 1, 1)) rfl rfl (?_ : XW _ _ _ _ _ _ _ 2 _ _)
  obtain ⟨Q1, X1, sp, tx, vc⟩ := vc
  refine xi_callVX (b := 0) (bs := 0) (As := [.int f]) (st := []) (by decide +kernel : decode mX10_roll.2.1 2 = .ok (.invokevirtual 187, 3)) kX10_187 rfl rfl (by omega) rfl sp (by decide) (by decide) (Nat.le_of_ble_eq_true rfl) (by omega) rfl tx (fun v9 h1 hq9 => ?_)
  obtain ⟨e9, vc⟩ := vc v9 h1 hq9
  subst e9
  show XW _ _ _ _ _ _ _ 5 _ []
  refine xi_aload_n (by decide +kernel : decode mX10_roll.2.1 5 = .ok (.aload_n 0, 1)) rfl rfl (?_ : XW _ _ _ _ _ _ _ 6 _ _)
  obtain ⟨s1, vc⟩ := vc
  refine xi_getR (y := 29) (by decide +kernel : decode mX10_roll.2.1 6 = .ok (.getfield 49, 3)) fX10_49 rfl (by omega) rfl s1 (?_ : XW _ _ _ _ _ _ _ 9 _ _)
  refine xi_aload_n (by decide +kernel : decode mX10_roll.2.1 9 = .ok (.aload_n 0, 1)) rfl rfl (?_ : XW _ _ _ _ _ _ _ 10 _ _)
  obtain ⟨s1, vc⟩ := vc
  refine xi_getR (y := r) (by decide +kernel : decode mX10_roll.2.1 10 = .ok (.getfield 23, 3)) fX10_23 rfl (by omega) rfl s1 (?_ : XW _ _ _ _ _ _ _ 13 _ _)
  refine xi_aload_n (by decide +kernel : decode mX10_roll.2.1 13 = .ok (.aload_n 0, 1)) rfl rfl (?_ : XW _ _ _ _ _ _ _ 14 _ _)
  obtain ⟨s1, vc⟩ := vc
  refine xi_getR (y := 21) (by decide +kernel : decode mX10_roll.2.1 14 = .ok (.getfield 39, 3)) fX10_39 rfl (by omega) rfl s1 (?_ : XW _ _ _ _ _ _ _ 17 _ _)
  refine xi_iload_n (by decide +kernel : decode mX10_roll.2.1 17 = .ok (.iload_n 1, 1)) rfl rfl (?_ : XW _ _ _ _ _ _ _ 18 _ _)
  obtain ⟨Q1, sp, vc⟩ := vc
  refine xi_callV (b := 0) (bs := 0) (As := [.ref r, .ref 21, .int f]) (st := []) (by decide +kernel : decode mX10_roll.2.1 18 = .ok (.invokevirtual 194, 3)) kX10_194 rfl rfl (by omega) rfl sp (by decide) (by decide) (Nat.le_of_ble_eq_true rfl) (by omega) (fun v9 h2 hq9 => ?_)
  obtain ⟨r2, e9, vc⟩ := vc v9 h2 hq9
  subst e9
  show XW _ _ _ _ _ _ _ 21 _ [.int r2]
  refine xi_istore_n (ls' := [some (.ref 0), some (.int f), some (.int r2)]) (by decide +kernel : decode mX10_roll.2.1 21 = .ok (.istore_n 2, 1)) rfl (by decide) rfl (?_ : XW _ _ _ _ _ _ _ 22 _ _)
  refine xi_iload_n (by decide +kernel : decode mX10_roll.2.1 22 = .ok (.iload_n 2, 1)) rfl rfl (?_ : XW _ _ _ _ _ _ _ 23 _ _)
  refine xi_iconst (v := (-1)) (by decide +kernel : decode mX10_roll.2.1 23 = .ok (.iconst (-1), 1)) (by decide) (?_ : XW _ _ _ _ _ _ _ 24 _ _)
  refine xi_icmp_ne (by decide +kernel : decode mX10_roll.2.1 24 = .ok (.if_icmp .ne 11, 3)) (by decide) (fun c => (?_ : XW _ _ _ _ _ _ _ 35 _ _)) (fun c => (?_ : XW _ _ _ _ _ _ _ 27 _ _))
  · replace vc := vc.1 c
    refine xi_iload_n (by decide +kernel : decode mX10_roll.2.1 35 = .ok (.iload_n 2, 1)) rfl rfl (?_ : XW _ _ _ _ _ _ _ 36 _ _)
    exact xi_iret (by decide +kernel : decode mX10_roll.2.1 36 = .ok (.ireturn, 1)) rfl rfl vc
  · replace vc := vc.2 c
    refine xi_aload_n (by decide +kernel : decode mX10_roll.2.1 27 = .ok (.aload_n 0, 1)) rfl rfl (?_ : XW _ _ _ _ _ _ _ 28 _ _)
    obtain ⟨s1, vc⟩ := vc
    refine xi_getR (y := 29) (by decide +kernel : decode mX10_roll.2.1 28 = .ok (.getfield 49, 3)) fX10_49 rfl (by omega) rfl s1 (?_ : XW _ _ _ _ _ _ _ 31 _ _)
    refine xi_iconst (v := 1) (by decide +kernel : decode mX10_roll.2.1 31 = .ok (.iconst 1, 1)) (by decide) (?_ : XW _ _ _ _ _ _ _ 32 _ _)
    obtain ⟨Q1, sp, vc⟩ := vc
    refine xi_callV (b := 0) (bs := 0) (As := [.int 1]) (st := []) (by decide +kernel : decode mX10_roll.2.1 32 = .ok (.invokevirtual 115, 3)) kX10_115 rfl rfl (by omega) rfl sp (by decide) (by decide) (Nat.le_of_ble_eq_true rfl) (by omega) (fun v9 h3 hq9 => ?_)
    obtain ⟨e9, vc⟩ := vc v9 h3 hq9
    subst e9
    show XW _ _ _ _ _ _ _ 35 _ []
    refine xi_iload_n (by decide +kernel : decode mX10_roll.2.1 35 = .ok (.iload_n 2, 1)) rfl rfl (?_ : XW _ _ _ _ _ _ _ 36 _ _)
    exact xi_iret (by decide +kernel : decode mX10_roll.2.1 36 = .ok (.ireturn, 1)) rfl rfl vc

set_option maxRecDepth 20000 in
theorem v_X10_rolls_0 {h : XH} {Q : Option Value → XH → Prop} {X : String → XH → Prop} (r : Nat) (hbp : BP r h)  (q : Int32) (m : Int32)
    (vc : (m < 0 → X "java/lang/IllegalArgumentException" h) ∧ (¬ m < 0 → (m ≤ 200 → XW (xrm 7 1 6) mX10_rolls (xE 100 Q X 1 6) 100 1 6 h 27 [some (.ref 0), none, some (.int m), some (.int q), some (.int 0), some (.int 0)] []) ∧ (¬ m ≤ 200 → X "java/lang/IllegalArgumentException" h))) :
    XW (xrm 7 1 6) mX10_rolls (xE 100 Q X 1 6) 100 1 6 h 0 [some (.ref 0), some (.int q), some (.int m), none, none, none] [] := by
  obtain ⟨hb, hr, hnr, ha21, ha25, hu29, hu34, hw, hnt, hwr⟩ := hbp
  refine xi_iload_n (by decide +kernel : decode mX10_rolls.2.1 0 = .ok (.iload_n 2, 1)) rfl rfl (?_ : XW _ _ _ _ _ _ _ 1 _ _)
  refine xi_if_lt (by decide +kernel : decode mX10_rolls.2.1 1 = .ok (.ifCond .lt 10, 3)) (by decide) (fun c => (?_ : XW _ _ _ _ _ _ _ 11 _ _)) (fun c => (?_ : XW _ _ _ _ _ _ _ 4 _ _))
  · replace vc := vc.1 c
    exact xi_throw (b := 0) (bs := 0) xT_107 (by decide +kernel : decode mX10_rolls.2.1 11 = .ok (.new 105, 3)) (by decide +kernel : decode mX10_rolls.2.1 14 = .ok (.dup, 1)) (by decide +kernel : decode mX10_rolls.2.1 15 = .ok (.invokespecial 107, 3)) (by decide +kernel : decode mX10_rolls.2.1 18 = .ok (.athrow, 1)) rfl (by decide) (Nat.le_of_ble_eq_true rfl) vc
  · replace vc := vc.2 c
    refine xi_iload_n (by decide +kernel : decode mX10_rolls.2.1 4 = .ok (.iload_n 2, 1)) rfl rfl (?_ : XW _ _ _ _ _ _ _ 5 _ _)
    refine xi_sipush (v := 200) (by decide +kernel : decode mX10_rolls.2.1 5 = .ok (.sipush 200, 3)) (by decide) (?_ : XW _ _ _ _ _ _ _ 8 _ _)
    refine xi_icmp_le (by decide +kernel : decode mX10_rolls.2.1 8 = .ok (.if_icmp .le 11, 3)) (by decide) (fun c => (?_ : XW _ _ _ _ _ _ _ 19 _ _)) (fun c => (?_ : XW _ _ _ _ _ _ _ 11 _ _))
    · replace vc := vc.1 c
      refine xi_iload_n (by decide +kernel : decode mX10_rolls.2.1 19 = .ok (.iload_n 1, 1)) rfl rfl (?_ : XW _ _ _ _ _ _ _ 20 _ _)
      refine xi_istore_n (ls' := [some (.ref 0), some (.int q), some (.int m), some (.int q), none, none]) (by decide +kernel : decode mX10_rolls.2.1 20 = .ok (.istore_n 3, 1)) rfl (by decide) rfl (?_ : XW _ _ _ _ _ _ _ 21 _ _)
      refine xi_iconst (v := 0) (by decide +kernel : decode mX10_rolls.2.1 21 = .ok (.iconst 0, 1)) (by decide) (?_ : XW _ _ _ _ _ _ _ 22 _ _)
      refine xi_istore (ls' := [some (.ref 0), some (.int q), some (.int m), some (.int q), some (.int 0), none]) (by decide +kernel : decode mX10_rolls.2.1 22 = .ok (.istore 4, 2)) (by decide) rfl (?_ : XW _ _ _ _ _ _ _ 24 _ _)
      refine xi_iconst (v := 0) (by decide +kernel : decode mX10_rolls.2.1 24 = .ok (.iconst 0, 1)) (by decide) (?_ : XW _ _ _ _ _ _ _ 25 _ _)
      refine xi_istore (ls' := [some (.ref 0), some (.int q), some (.int m), some (.int q), some (.int 0), some (.int 0)]) (by decide +kernel : decode mX10_rolls.2.1 25 = .ok (.istore 5, 2)) (by decide) rfl (?_ : XW _ _ _ _ _ _ _ 27 _ _)
      refine xw_drop 1 (ls' := [some (.ref 0), none, some (.int m), some (.int q), some (.int 0), some (.int 0)]) rfl ?_
      exact vc
    · replace vc := vc.2 c
      exact xi_throw (b := 0) (bs := 0) xT_107 (by decide +kernel : decode mX10_rolls.2.1 11 = .ok (.new 105, 3)) (by decide +kernel : decode mX10_rolls.2.1 14 = .ok (.dup, 1)) (by decide +kernel : decode mX10_rolls.2.1 15 = .ok (.invokespecial 107, 3)) (by decide +kernel : decode mX10_rolls.2.1 18 = .ok (.athrow, 1)) rfl (by decide) (Nat.le_of_ble_eq_true rfl) vc

set_option maxRecDepth 20000 in
theorem v_X10_rolls_27 {h : XH} {Q : Option Value → XH → Prop} {X : String → XH → Prop} (r : Nat) (hbp : BP r h)  (x2 : Int32) (x3 : Int32) (x4 : Int32) (x5 : Int32)
    (vc : (x2 ≤ x5 → Q (some (.int x4)) h) ∧ (¬ x2 ≤ x5 → ∃ Q1, XSpec mX7_canMove 1 0 0 100 100 [.ref 29] h Q1 xno ∧ ∀ v h1, Q1 v h1 → ∃ r1 : Int32, v = some (.int r1) ∧ ((r1 = 0 → Q (some (.int x4)) h1) ∧ (¬ r1 = 0 → ∃ Q1, XSpec mX10_nextSeed 1 0 0 100 100 [.int x3] h1 Q1 xno ∧ ∀ v h2, Q1 v h2 → ∃ r2 : Int32, v = some (.int r2) ∧ ((xP h2 0 7 = some 29) ∧ ((xP h2 0 3 = some r) ∧ ((xP h2 0 5 = some 21) ∧ ((xP h2 0 3 = some r) ∧ ((xP h2 0 3 = some r) ∧ (∃ Q1, XSpec mX10_drawn 1 0 0 100 100 [.int r2, .int (xI h2 r 1)] h2 Q1 xno ∧ ∀ v h3, Q1 v h3 → ∃ r3 : Int32, v = some (.int r3) ∧ (∃ Q1, XSpec mX5_faceOf 2 0 0 100 100 [.ref r, .int r3] h3 Q1 xno ∧ ∀ v h4, Q1 v h4 → ∃ r4 : Int32, v = some (.int r4) ∧ (∃ Q1, XSpec mX7_move 3 0 0 100 100 [.ref 29, .ref r, .ref 21, .int r4] h4 Q1 xno ∧ ∀ v h5, Q1 v h5 → ∃ r5 : Int32, v = some (.int r5) ∧ (XW (xrm 7 1 6) mX10_rolls (xE 100 Q X 1 6) 100 1 6 h5 27 [some (.ref 0), none, some (.int x2), some (.int r2), some (.int (x4 + 1)), some (.int (x5 + 1))] []))))))))))))) :
    XW (xrm 7 1 6) mX10_rolls (xE 100 Q X 1 6) 100 1 6 h 27 [some (.ref 0), none, some (.int x2), some (.int x3), some (.int x4), some (.int x5)] [] := by
  obtain ⟨hb, hr, hnr, ha21, ha25, hu29, hu34, hw, hnt, hwr⟩ := hbp
  refine xi_iload (by decide +kernel : decode mX10_rolls.2.1 27 = .ok (.iload 5, 2)) rfl (?_ : XW _ _ _ _ _ _ _ 29 _ _)
  refine xi_iload_n (by decide +kernel : decode mX10_rolls.2.1 29 = .ok (.iload_n 2, 1)) rfl rfl (?_ : XW _ _ _ _ _ _ _ 30 _ _)
  refine xi_icmp_ge (by decide +kernel : decode mX10_rolls.2.1 30 = .ok (.if_icmp .ge 61, 3)) (by decide) (fun c => (?_ : XW _ _ _ _ _ _ _ 91 _ _)) (fun c => (?_ : XW _ _ _ _ _ _ _ 33 _ _))
  · replace vc := vc.1 c
    refine xi_iload (by decide +kernel : decode mX10_rolls.2.1 91 = .ok (.iload 4, 2)) rfl (?_ : XW _ _ _ _ _ _ _ 93 _ _)
    exact xi_iret (by decide +kernel : decode mX10_rolls.2.1 93 = .ok (.ireturn, 1)) rfl rfl vc
  · replace vc := vc.2 c
    refine xi_aload_n (by decide +kernel : decode mX10_rolls.2.1 33 = .ok (.aload_n 0, 1)) rfl rfl (?_ : XW _ _ _ _ _ _ _ 34 _ _)
    refine xi_getR (y := 29) (by decide +kernel : decode mX10_rolls.2.1 34 = .ok (.getfield 49, 3)) fX10_49 rfl (by omega) rfl hb.2.2.2.2.2.1 (?_ : XW _ _ _ _ _ _ _ 37 _ _)
    obtain ⟨Q1, sp, vc⟩ := vc
    refine xi_callV (b := 1) (bs := 6) (As := []) (st := []) (by decide +kernel : decode mX10_rolls.2.1 37 = .ok (.invokevirtual 198, 3)) kX10_198 rfl rfl (by omega) rfl sp (by decide) (by decide) (Nat.le_of_ble_eq_true rfl) (by omega) (fun v9 h1 hq9 => ?_)
    obtain ⟨r1, e9, vc⟩ := vc v9 h1 hq9
    subst e9
    show XW _ _ _ _ _ _ _ 40 _ [.int r1]
    refine xi_if_eq (by decide +kernel : decode mX10_rolls.2.1 40 = .ok (.ifCond .eq 51, 3)) (by decide) (fun c => (?_ : XW _ _ _ _ _ _ _ 91 _ _)) (fun c => (?_ : XW _ _ _ _ _ _ _ 43 _ _))
    · replace vc := vc.1 c
      refine xi_iload (by decide +kernel : decode mX10_rolls.2.1 91 = .ok (.iload 4, 2)) rfl (?_ : XW _ _ _ _ _ _ _ 93 _ _)
      exact xi_iret (by decide +kernel : decode mX10_rolls.2.1 93 = .ok (.ireturn, 1)) rfl rfl vc
    · replace vc := vc.2 c
      refine xi_iload_n (by decide +kernel : decode mX10_rolls.2.1 43 = .ok (.iload_n 3, 1)) rfl rfl (?_ : XW _ _ _ _ _ _ _ 44 _ _)
      obtain ⟨Q1, sp, vc⟩ := vc
      refine xi_callS (b := 1) (bs := 6) (As := [.int x3]) (st := []) (by decide +kernel : decode mX10_rolls.2.1 44 = .ok (.invokestatic 202, 3)) kX10_202 rfl rfl sp (by decide) (by decide) (Nat.le_of_ble_eq_true rfl) (by omega) (fun v9 h2 hq9 => ?_)
      obtain ⟨r2, e9, vc⟩ := vc v9 h2 hq9
      subst e9
      show XW _ _ _ _ _ _ _ 47 _ [.int r2]
      refine xi_istore_n (ls' := [some (.ref 0), none, some (.int x2), some (.int r2), some (.int x4), some (.int x5)]) (by decide +kernel : decode mX10_rolls.2.1 47 = .ok (.istore_n 3, 1)) rfl (by decide) rfl (?_ : XW _ _ _ _ _ _ _ 48 _ _)
      refine xi_aload_n (by decide +kernel : decode mX10_rolls.2.1 48 = .ok (.aload_n 0, 1)) rfl rfl (?_ : XW _ _ _ _ _ _ _ 49 _ _)
      obtain ⟨s1, vc⟩ := vc
      refine xi_getR (y := 29) (by decide +kernel : decode mX10_rolls.2.1 49 = .ok (.getfield 49, 3)) fX10_49 rfl (by omega) rfl s1 (?_ : XW _ _ _ _ _ _ _ 52 _ _)
      refine xi_aload_n (by decide +kernel : decode mX10_rolls.2.1 52 = .ok (.aload_n 0, 1)) rfl rfl (?_ : XW _ _ _ _ _ _ _ 53 _ _)
      obtain ⟨s1, vc⟩ := vc
      refine xi_getR (y := r) (by decide +kernel : decode mX10_rolls.2.1 53 = .ok (.getfield 23, 3)) fX10_23 rfl (by omega) rfl s1 (?_ : XW _ _ _ _ _ _ _ 56 _ _)
      refine xi_aload_n (by decide +kernel : decode mX10_rolls.2.1 56 = .ok (.aload_n 0, 1)) rfl rfl (?_ : XW _ _ _ _ _ _ _ 57 _ _)
      obtain ⟨s1, vc⟩ := vc
      refine xi_getR (y := 21) (by decide +kernel : decode mX10_rolls.2.1 57 = .ok (.getfield 39, 3)) fX10_39 rfl (by omega) rfl s1 (?_ : XW _ _ _ _ _ _ _ 60 _ _)
      refine xi_aload_n (by decide +kernel : decode mX10_rolls.2.1 60 = .ok (.aload_n 0, 1)) rfl rfl (?_ : XW _ _ _ _ _ _ _ 61 _ _)
      obtain ⟨s1, vc⟩ := vc
      refine xi_getR (y := r) (by decide +kernel : decode mX10_rolls.2.1 61 = .ok (.getfield 23, 3)) fX10_23 rfl (by omega) rfl s1 (?_ : XW _ _ _ _ _ _ _ 64 _ _)
      refine xi_iload_n (by decide +kernel : decode mX10_rolls.2.1 64 = .ok (.iload_n 3, 1)) rfl rfl (?_ : XW _ _ _ _ _ _ _ 65 _ _)
      refine xi_aload_n (by decide +kernel : decode mX10_rolls.2.1 65 = .ok (.aload_n 0, 1)) rfl rfl (?_ : XW _ _ _ _ _ _ _ 66 _ _)
      obtain ⟨s1, vc⟩ := vc
      refine xi_getR (y := r) (by decide +kernel : decode mX10_rolls.2.1 66 = .ok (.getfield 23, 3)) fX10_23 rfl (by omega) rfl s1 (?_ : XW _ _ _ _ _ _ _ 69 _ _)
      refine xi_getI (by decide +kernel : decode mX10_rolls.2.1 69 = .ok (.getfield 205, 3)) fX10_205 (xRul_s0 hr) (by omega) rfl (?_ : XW _ _ _ _ _ _ _ 72 _ _)
      obtain ⟨Q1, sp, vc⟩ := vc
      refine xi_callS (b := 1) (bs := 6) (As := [.int r2, .int (xI h2 r 1)]) (st := [.ref r, .ref 21, .ref r, .ref 29]) (by decide +kernel : decode mX10_rolls.2.1 72 = .ok (.invokestatic 208, 3)) kX10_208 rfl rfl sp (by decide) (by decide) (Nat.le_of_ble_eq_true rfl) (by omega) (fun v9 h3 hq9 => ?_)
      obtain ⟨r3, e9, vc⟩ := vc v9 h3 hq9
      subst e9
      show XW _ _ _ _ _ _ _ 75 _ [.int r3, .ref r, .ref 21, .ref r, .ref 29]
      obtain ⟨Q1, sp, vc⟩ := vc
      refine xi_callV (b := 1) (bs := 6) (As := [.int r3]) (st := [.ref 21, .ref r, .ref 29]) (by decide +kernel : decode mX10_rolls.2.1 75 = .ok (.invokevirtual 211, 3)) kX10_211 rfl (xRul_s0 hr) (by omega) rfl sp (by decide) (by decide) (Nat.le_of_ble_eq_true rfl) (by omega) (fun v9 h4 hq9 => ?_)
      obtain ⟨r4, e9, vc⟩ := vc v9 h4 hq9
      subst e9
      show XW _ _ _ _ _ _ _ 78 _ [.int r4, .ref 21, .ref r, .ref 29]
      obtain ⟨Q1, sp, vc⟩ := vc
      refine xi_callV (b := 1) (bs := 6) (As := [.ref r, .ref 21, .int r4]) (st := []) (by decide +kernel : decode mX10_rolls.2.1 78 = .ok (.invokevirtual 194, 3)) kX10_194 rfl rfl (by omega) rfl sp (by decide) (by decide) (Nat.le_of_ble_eq_true rfl) (by omega) (fun v9 h5 hq9 => ?_)
      obtain ⟨r5, e9, vc⟩ := vc v9 h5 hq9
      subst e9
      show XW _ _ _ _ _ _ _ 81 _ [.int r5]
      refine xi_pop (by decide +kernel : decode mX10_rolls.2.1 81 = .ok (.pop, 1)) rfl (?_ : XW _ _ _ _ _ _ _ 82 _ _)
      refine xi_iinc (v := x4 + 1) (ls' := [some (.ref 0), none, some (.int x2), some (.int r2), some (.int (x4 + 1)), some (.int x5)]) (by decide +kernel : decode mX10_rolls.2.1 82 = .ok (.iinc 4 1, 3)) rfl rfl (by decide) rfl (?_ : XW _ _ _ _ _ _ _ 85 _ _)
      refine xi_iinc (v := x5 + 1) (ls' := [some (.ref 0), none, some (.int x2), some (.int r2), some (.int (x4 + 1)), some (.int (x5 + 1))]) (by decide +kernel : decode mX10_rolls.2.1 85 = .ok (.iinc 5 1, 3)) rfl rfl (by decide) rfl (?_ : XW _ _ _ _ _ _ _ 88 _ _)
      refine xi_goto (by decide +kernel : decode mX10_rolls.2.1 88 = .ok (.goto (-61), 3)) (by decide) (?_ : XW _ _ _ _ _ _ _ 27 _ _)
      exact vc

set_option maxRecDepth 20000 in
theorem v_X10_undo_0 {h : XH} {Q : Option Value → XH → Prop} {X : String → XH → Prop} (r : Nat) (hbp : BP r h) 
    (vc : ∃ Q1, XSpec mX7_takeBack 2 0 0 100 100 [.ref 29] h Q1 xno ∧ ∀ v h1, Q1 v h1 → ∃ r1 : Int32, v = some (.int r1) ∧ (Q (some (.int r1)) h1)) :
    XW (xrm 3 0 0) mX10_undo (xE 100 Q X 0 0) 100 0 0 h 0 [some (.ref 0)] [] := by
  obtain ⟨hb, hr, hnr, ha21, ha25, hu29, hu34, hw, hnt, hwr⟩ := hbp
  refine xi_aload_n (by decide +kernel : decode mX10_undo.2.1 0 = .ok (.aload_n 0, 1)) rfl rfl (?_ : XW _ _ _ _ _ _ _ 1 _ _)
  refine xi_getR (y := 29) (by decide +kernel : decode mX10_undo.2.1 1 = .ok (.getfield 49, 3)) fX10_49 rfl (by omega) rfl hb.2.2.2.2.2.1 (?_ : XW _ _ _ _ _ _ _ 4 _ _)
  obtain ⟨Q1, sp, vc⟩ := vc
  refine xi_callV (b := 0) (bs := 0) (As := []) (st := []) (by decide +kernel : decode mX10_undo.2.1 4 = .ok (.invokevirtual 215, 3)) kX10_215 rfl rfl (by omega) rfl sp (by decide) (by decide) (Nat.le_of_ble_eq_true rfl) (by omega) (fun v9 h1 hq9 => ?_)
  obtain ⟨r1, e9, vc⟩ := vc v9 h1 hq9
  subst e9
  show XW _ _ _ _ _ _ _ 7 _ [.int r1]
  exact xi_iret (by decide +kernel : decode mX10_undo.2.1 7 = .ok (.ireturn, 1)) rfl rfl vc

set_option maxRecDepth 20000 in
theorem v_X10_timesMore_0 {h : XH} {Q : Option Value → XH → Prop} {X : String → XH → Prop} (r : Nat) (hbp : BP r h)  (f : Int32)
    (vc : ∃ Q1, XSpec mX7_timesThrown 2 0 0 100 100 [.ref 29, .int f] h Q1 xno ∧ ∀ v h1, Q1 v h1 → ∃ r1 : Int32, v = some (.int r1) ∧ ((xP h1 0 3 = some r) ∧ ((xP h1 0 7 = some 29) ∧ ((xP h1 0 3 = some r) ∧ (∃ Q1, XSpec mX5_oddsOf 1 0 0 100 100 [.ref r, .int f] h1 Q1 xno ∧ ∀ v h2, Q1 v h2 → ∃ r2 : Int32, v = some (.int r2) ∧ (Q (some (.long (((Int32.toInt64 r1) * (Int32.toInt64 (xI h1 r 1))) - ((Int32.toInt64 (xI h1 29 1)) * (Int32.toInt64 r2))))) h2)))))) :
    XW (xrm 3 0 0) mX10_timesMore (xE 100 Q X 0 0) 100 0 0 h 0 [some (.ref 0), some (.int f)] [] := by
  obtain ⟨hb, hr, hnr, ha21, ha25, hu29, hu34, hw, hnt, hwr⟩ := hbp
  refine xi_aload_n (by decide +kernel : decode mX10_timesMore.2.1 0 = .ok (.aload_n 0, 1)) rfl rfl (?_ : XW _ _ _ _ _ _ _ 1 _ _)
  refine xi_getR (y := 29) (by decide +kernel : decode mX10_timesMore.2.1 1 = .ok (.getfield 49, 3)) fX10_49 rfl (by omega) rfl hb.2.2.2.2.2.1 (?_ : XW _ _ _ _ _ _ _ 4 _ _)
  refine xi_iload_n (by decide +kernel : decode mX10_timesMore.2.1 4 = .ok (.iload_n 1, 1)) rfl rfl (?_ : XW _ _ _ _ _ _ _ 5 _ _)
  obtain ⟨Q1, sp, vc⟩ := vc
  refine xi_callV (b := 0) (bs := 0) (As := [.int f]) (st := []) (by decide +kernel : decode mX10_timesMore.2.1 5 = .ok (.invokevirtual 307, 3)) kX10_307 rfl rfl (by omega) rfl sp (by decide) (by decide) (Nat.le_of_ble_eq_true rfl) (by omega) (fun v9 h1 hq9 => ?_)
  obtain ⟨r1, e9, vc⟩ := vc v9 h1 hq9
  subst e9
  show XW _ _ _ _ _ _ _ 8 _ [.int r1]
  refine xi_i2l (by decide +kernel : decode mX10_timesMore.2.1 8 = .ok (.i2l, 1)) (?_ : XW _ _ _ _ _ _ _ 9 _ _)
  refine xi_aload_n (by decide +kernel : decode mX10_timesMore.2.1 9 = .ok (.aload_n 0, 1)) rfl rfl (?_ : XW _ _ _ _ _ _ _ 10 _ _)
  obtain ⟨s1, vc⟩ := vc
  refine xi_getR (y := r) (by decide +kernel : decode mX10_timesMore.2.1 10 = .ok (.getfield 23, 3)) fX10_23 rfl (by omega) rfl s1 (?_ : XW _ _ _ _ _ _ _ 13 _ _)
  refine xi_getI (by decide +kernel : decode mX10_timesMore.2.1 13 = .ok (.getfield 205, 3)) fX10_205 (xRul_s0 hr) (by omega) rfl (?_ : XW _ _ _ _ _ _ _ 16 _ _)
  refine xi_i2l (by decide +kernel : decode mX10_timesMore.2.1 16 = .ok (.i2l, 1)) (?_ : XW _ _ _ _ _ _ _ 17 _ _)
  refine xi_lmul (by decide +kernel : decode mX10_timesMore.2.1 17 = .ok (.lmul, 1)) (?_ : XW _ _ _ _ _ _ _ 18 _ _)
  refine xi_aload_n (by decide +kernel : decode mX10_timesMore.2.1 18 = .ok (.aload_n 0, 1)) rfl rfl (?_ : XW _ _ _ _ _ _ _ 19 _ _)
  obtain ⟨s1, vc⟩ := vc
  refine xi_getR (y := 29) (by decide +kernel : decode mX10_timesMore.2.1 19 = .ok (.getfield 49, 3)) fX10_49 rfl (by omega) rfl s1 (?_ : XW _ _ _ _ _ _ _ 22 _ _)
  refine xi_getI (by decide +kernel : decode mX10_timesMore.2.1 22 = .ok (.getfield 160, 3)) fX10_160 rfl (by omega) rfl (?_ : XW _ _ _ _ _ _ _ 25 _ _)
  refine xi_i2l (by decide +kernel : decode mX10_timesMore.2.1 25 = .ok (.i2l, 1)) (?_ : XW _ _ _ _ _ _ _ 26 _ _)
  refine xi_aload_n (by decide +kernel : decode mX10_timesMore.2.1 26 = .ok (.aload_n 0, 1)) rfl rfl (?_ : XW _ _ _ _ _ _ _ 27 _ _)
  obtain ⟨s1, vc⟩ := vc
  refine xi_getR (y := r) (by decide +kernel : decode mX10_timesMore.2.1 27 = .ok (.getfield 23, 3)) fX10_23 rfl (by omega) rfl s1 (?_ : XW _ _ _ _ _ _ _ 30 _ _)
  refine xi_iload_n (by decide +kernel : decode mX10_timesMore.2.1 30 = .ok (.iload_n 1, 1)) rfl rfl (?_ : XW _ _ _ _ _ _ _ 31 _ _)
  obtain ⟨Q1, sp, vc⟩ := vc
  refine xi_callV (b := 0) (bs := 0) (As := [.int f]) (st := [.long (Int32.toInt64 (xI h1 29 1)), .long ((Int32.toInt64 r1) * (Int32.toInt64 (xI h1 r 1)))]) (by decide +kernel : decode mX10_timesMore.2.1 31 = .ok (.invokevirtual 145, 3)) kX10_145 rfl (xRul_s0 hr) (by omega) rfl sp (by decide) (by decide) (Nat.le_of_ble_eq_true rfl) (by omega) (fun v9 h2 hq9 => ?_)
  obtain ⟨r2, e9, vc⟩ := vc v9 h2 hq9
  subst e9
  show XW _ _ _ _ _ _ _ 34 _ [.int r2, .long (Int32.toInt64 (xI h1 29 1)), .long ((Int32.toInt64 r1) * (Int32.toInt64 (xI h1 r 1)))]
  refine xi_i2l (by decide +kernel : decode mX10_timesMore.2.1 34 = .ok (.i2l, 1)) (?_ : XW _ _ _ _ _ _ _ 35 _ _)
  refine xi_lmul (by decide +kernel : decode mX10_timesMore.2.1 35 = .ok (.lmul, 1)) (?_ : XW _ _ _ _ _ _ _ 36 _ _)
  refine xi_lsub (by decide +kernel : decode mX10_timesMore.2.1 36 = .ok (.lsub, 1)) (?_ : XW _ _ _ _ _ _ _ 37 _ _)
  exact xi_lret (by decide +kernel : decode mX10_timesMore.2.1 37 = .ok (.lreturn, 1)) rfl vc

set_option maxRecDepth 20000 in
theorem v_X10_unlike_0 {h : XH} {Q : Option Value → XH → Prop} {X : String → XH → Prop} (r : Nat) (hbp : BP r h)  (w : Int32)
    (vc : ∃ Q1 X1, XSpec mX10_needWhat 7 1 6 100 100 [.ref 0, .int w, .int 1] h Q1 X1 ∧ (∀ E9 h9, X1 E9 h9 → X E9 h9) ∧ ∀ v h1, Q1 v h1 → v = none ∧ (XW (xrm 8 1 6) mX10_unlike (xE 100 Q X 1 6) 100 0 0 h1 11 [some (.ref 0), some (.int w), some (.long 0), none, some (.int 1), none, none, none] [])) :
    XW (xrm 8 1 6) mX10_unlike (xE 100 Q X 1 6) 100 1 6 h 0 [some (.ref 0), some (.int w), none, none, none, none, none, none] [] := by
  obtain ⟨hb, hr, hnr, ha21, ha25, hu29, hu34, hw, hnt, hwr⟩ := hbp
  refine xi_aload_n (by decide +kernel : decode mX10_unlike.2.1 0 = .ok (.aload_n 0, 1)) rfl rfl (?_ : XW _ _ _ _ _ _ _ 1 _ _)
  refine xi_iload_n (by decide +kernel : decode mX10_unlike.2.1 1 = .ok (.iload_n 1, 1)) rfl rfl (?_ : XW _ _ _ _ _ _ _ 2 _ _)
  refine xi_iconst (v := 1) (by decide +kernel : decode mX10_unlike.2.1 2 = .ok (.iconst 1, 1)) (by decide) (?_ : XW _ _ _ _ _ _ _ 3 _ _)
  obtain ⟨Q1, X1, sp, tx, vc⟩ := vc
  refine xi_callVX (b := 0) (bs := 0) (As := [.int w, .int 1]) (st := []) (by decide +kernel : decode mX10_unlike.2.1 3 = .ok (.invokevirtual 243, 3)) kX10_243 rfl rfl (by omega) rfl sp (by decide) (by decide) (Nat.le_of_ble_eq_true rfl) (by omega) rfl tx (fun v9 h1 hq9 => ?_)
  obtain ⟨e9, vc⟩ := vc v9 h1 hq9
  subst e9
  show XW _ _ _ _ _ _ _ 6 _ []
  refine xi_lconst (v := 0) (by decide +kernel : decode mX10_unlike.2.1 6 = .ok (.lconst 0, 1)) (by decide) (?_ : XW _ _ _ _ _ _ _ 7 _ _)
  refine xi_lstore_n (ls' := [some (.ref 0), some (.int w), some (.long 0), none, none, none, none, none]) (by decide +kernel : decode mX10_unlike.2.1 7 = .ok (.lstore_n 2, 1)) rfl (by decide) rfl (?_ : XW _ _ _ _ _ _ _ 8 _ _)
  refine xi_iconst (v := 1) (by decide +kernel : decode mX10_unlike.2.1 8 = .ok (.iconst 1, 1)) (by decide) (?_ : XW _ _ _ _ _ _ _ 9 _ _)
  refine xi_istore (ls' := [some (.ref 0), some (.int w), some (.long 0), none, some (.int 1), none, none, none]) (by decide +kernel : decode mX10_unlike.2.1 9 = .ok (.istore 4, 2)) (by decide) rfl (?_ : XW _ _ _ _ _ _ _ 11 _ _)
  exact vc

set_option maxRecDepth 20000 in
theorem v_X10_unlike_11 {h : XH} {Q : Option Value → XH → Prop} {X : String → XH → Prop} (r : Nat) (hbp : BP r h)  (x1 : Int32) (x2 : Int64) (x4 : Int32)
    (vc : (6 < x4 → ∃ Q1, XSpec mX10_commonDivisor 1 0 0 100 100 [.long x2, .long ((2520 * (Int32.toInt64 (xI h 29 1))) * (Int32.toInt64 (xI h r 1)))] h Q1 xno ∧ ∀ v h2, Q1 v h2 → ∃ r2 : Int64, v = some (.long r2) ∧ ((0 < (lg_cmp r2 0) → (¬ x1 = 0 → (¬ r2 = 0) ∧ (Q (some (.long (((2520 * (Int32.toInt64 (xI h 29 1))) * (Int32.toInt64 (xI h r 1))) / r2))) h2)) ∧ (x1 = 0 → (¬ r2 = 0) ∧ (Q (some (.long (x2 / r2))) h2))) ∧ (¬ 0 < (lg_cmp r2 0) → Q (some (.long (Int32.toInt64 x1))) h2))) ∧ (¬ 6 < x4 → ∃ Q1, XSpec mX5_oddsOf 1 0 0 100 100 [.ref r, .int x4] h Q1 xno ∧ ∀ v h3, Q1 v h3 → ∃ r3 : Int32, v = some (.int r3) ∧ ((r3 ≤ 0 → XW (xrm 8 1 6) mX10_unlike (xE 100 Q X 1 6) 100 0 0 h3 11 [some (.ref 0), some (.int x1), some (.long x2), none, some (.int (x4 + 1)), none, none, none] []) ∧ (¬ r3 ≤ 0 → ∃ Q1, XSpec mX10_timesMore 3 0 0 100 100 [.ref 0, .int x4] h3 Q1 xno ∧ ∀ v h4, Q1 v h4 → ∃ r4 : Int64, v = some (.long r4) ∧ ((¬ r3 = 0) ∧ (XW (xrm 8 1 6) mX10_unlike (xE 100 Q X 1 6) 100 0 0 h4 11 [some (.ref 0), some (.int x1), some (.long (x2 + ((r4 * r4) * (Int32.toInt64 (2520 / r3))))), none, some (.int (x4 + 1)), none, none, none] [])))))) :
    XW (xrm 8 1 6) mX10_unlike (xE 100 Q X 1 6) 100 0 0 h 11 [some (.ref 0), some (.int x1), some (.long x2), none, some (.int x4), none, none, none] [] := by
  obtain ⟨hb, hr, hnr, ha21, ha25, hu29, hu34, hw, hnt, hwr⟩ := hbp
  refine xi_iload (by decide +kernel : decode mX10_unlike.2.1 11 = .ok (.iload 4, 2)) rfl (?_ : XW _ _ _ _ _ _ _ 13 _ _)
  refine xi_bipush (v := 6) (by decide +kernel : decode mX10_unlike.2.1 13 = .ok (.bipush 6, 2)) (by decide) (?_ : XW _ _ _ _ _ _ _ 15 _ _)
  refine xi_icmp_gt (by decide +kernel : decode mX10_unlike.2.1 15 = .ok (.if_icmp .gt 49, 3)) (by decide) (fun c => (?_ : XW _ _ _ _ _ _ _ 64 _ _)) (fun c => (?_ : XW _ _ _ _ _ _ _ 18 _ _))
  · replace vc := vc.1 c
    refine xi_ldc2 (v := 2520) (by decide +kernel : decode mX10_unlike.2.1 64 = .ok (.ldc2_w 313, 3)) cK_X10_313 (?_ : XW _ _ _ _ _ _ _ 67 _ _)
    refine xi_aload_n (by decide +kernel : decode mX10_unlike.2.1 67 = .ok (.aload_n 0, 1)) rfl rfl (?_ : XW _ _ _ _ _ _ _ 68 _ _)
    refine xi_getR (y := 29) (by decide +kernel : decode mX10_unlike.2.1 68 = .ok (.getfield 49, 3)) fX10_49 rfl (by omega) rfl hb.2.2.2.2.2.1 (?_ : XW _ _ _ _ _ _ _ 71 _ _)
    refine xi_getI (by decide +kernel : decode mX10_unlike.2.1 71 = .ok (.getfield 160, 3)) fX10_160 rfl (by omega) rfl (?_ : XW _ _ _ _ _ _ _ 74 _ _)
    refine xi_i2l (by decide +kernel : decode mX10_unlike.2.1 74 = .ok (.i2l, 1)) (?_ : XW _ _ _ _ _ _ _ 75 _ _)
    refine xi_lmul (by decide +kernel : decode mX10_unlike.2.1 75 = .ok (.lmul, 1)) (?_ : XW _ _ _ _ _ _ _ 76 _ _)
    refine xi_aload_n (by decide +kernel : decode mX10_unlike.2.1 76 = .ok (.aload_n 0, 1)) rfl rfl (?_ : XW _ _ _ _ _ _ _ 77 _ _)
    refine xi_getR (y := r) (by decide +kernel : decode mX10_unlike.2.1 77 = .ok (.getfield 23, 3)) fX10_23 rfl (by omega) rfl hb.2.1 (?_ : XW _ _ _ _ _ _ _ 80 _ _)
    refine xi_getI (by decide +kernel : decode mX10_unlike.2.1 80 = .ok (.getfield 205, 3)) fX10_205 (xRul_s0 hr) (by omega) rfl (?_ : XW _ _ _ _ _ _ _ 83 _ _)
    refine xi_i2l (by decide +kernel : decode mX10_unlike.2.1 83 = .ok (.i2l, 1)) (?_ : XW _ _ _ _ _ _ _ 84 _ _)
    refine xi_lmul (by decide +kernel : decode mX10_unlike.2.1 84 = .ok (.lmul, 1)) (?_ : XW _ _ _ _ _ _ _ 85 _ _)
    refine xi_lstore (ls' := [some (.ref 0), some (.int x1), some (.long x2), none, some (.long ((2520 * (Int32.toInt64 (xI h 29 1))) * (Int32.toInt64 (xI h r 1)))), none, none, none]) (by decide +kernel : decode mX10_unlike.2.1 85 = .ok (.lstore 4, 2)) (by decide) rfl (?_ : XW _ _ _ _ _ _ _ 87 _ _)
    refine xi_lload_n (by decide +kernel : decode mX10_unlike.2.1 87 = .ok (.lload_n 2, 1)) rfl rfl (?_ : XW _ _ _ _ _ _ _ 88 _ _)
    refine xi_lload (by decide +kernel : decode mX10_unlike.2.1 88 = .ok (.lload 4, 2)) rfl (?_ : XW _ _ _ _ _ _ _ 90 _ _)
    obtain ⟨Q1, sp, vc⟩ := vc
    refine xi_callS (b := 0) (bs := 0) (As := [.long x2, .long ((2520 * (Int32.toInt64 (xI h 29 1))) * (Int32.toInt64 (xI h r 1)))]) (st := []) (by decide +kernel : decode mX10_unlike.2.1 90 = .ok (.invokestatic 315, 3)) kX10_315 rfl rfl sp (by decide) (by decide) (Nat.le_of_ble_eq_true rfl) (by omega) (fun v9 h2 hq9 => ?_)
    obtain ⟨r2, e9, vc⟩ := vc v9 h2 hq9
    subst e9
    show XW _ _ _ _ _ _ _ 93 _ [.long r2]
    refine xi_lstore (ls' := [some (.ref 0), some (.int x1), some (.long x2), none, some (.long ((2520 * (Int32.toInt64 (xI h 29 1))) * (Int32.toInt64 (xI h r 1)))), none, some (.long r2), none]) (by decide +kernel : decode mX10_unlike.2.1 93 = .ok (.lstore 6, 2)) (by decide) rfl (?_ : XW _ _ _ _ _ _ _ 95 _ _)
    refine xi_lload (by decide +kernel : decode mX10_unlike.2.1 95 = .ok (.lload 6, 2)) rfl (?_ : XW _ _ _ _ _ _ _ 97 _ _)
    refine xi_lconst (v := 0) (by decide +kernel : decode mX10_unlike.2.1 97 = .ok (.lconst 0, 1)) (by decide) (?_ : XW _ _ _ _ _ _ _ 98 _ _)
    refine xi_lcmp (by decide +kernel : decode mX10_unlike.2.1 98 = .ok (.lcmp, 1)) (?_ : XW _ _ _ _ _ _ _ 99 _ _)
    refine xi_if_gt (by decide +kernel : decode mX10_unlike.2.1 99 = .ok (.ifCond .gt 6, 3)) (by decide) (fun c => (?_ : XW _ _ _ _ _ _ _ 105 _ _)) (fun c => (?_ : XW _ _ _ _ _ _ _ 102 _ _))
    · replace vc := vc.1 c
      refine xi_iload_n (by decide +kernel : decode mX10_unlike.2.1 105 = .ok (.iload_n 1, 1)) rfl rfl (?_ : XW _ _ _ _ _ _ _ 106 _ _)
      refine xi_if_ne (by decide +kernel : decode mX10_unlike.2.1 106 = .ok (.ifCond .ne 10, 3)) (by decide) (fun c => (?_ : XW _ _ _ _ _ _ _ 116 _ _)) (fun c => (?_ : XW _ _ _ _ _ _ _ 109 _ _))
      · replace vc := vc.1 c
        refine xi_lload (by decide +kernel : decode mX10_unlike.2.1 116 = .ok (.lload 4, 2)) rfl (?_ : XW _ _ _ _ _ _ _ 118 _ _)
        refine xi_lload (by decide +kernel : decode mX10_unlike.2.1 118 = .ok (.lload 6, 2)) rfl (?_ : XW _ _ _ _ _ _ _ 120 _ _)
        obtain ⟨s1, vc⟩ := vc
        refine xi_ldiv (by decide +kernel : decode mX10_unlike.2.1 120 = .ok (.ldiv, 1)) s1 (?_ : XW _ _ _ _ _ _ _ 121 _ _)
        exact xi_lret (by decide +kernel : decode mX10_unlike.2.1 121 = .ok (.lreturn, 1)) rfl vc
      · replace vc := vc.2 c
        refine xi_lload_n (by decide +kernel : decode mX10_unlike.2.1 109 = .ok (.lload_n 2, 1)) rfl rfl (?_ : XW _ _ _ _ _ _ _ 110 _ _)
        refine xi_lload (by decide +kernel : decode mX10_unlike.2.1 110 = .ok (.lload 6, 2)) rfl (?_ : XW _ _ _ _ _ _ _ 112 _ _)
        obtain ⟨s1, vc⟩ := vc
        refine xi_ldiv (by decide +kernel : decode mX10_unlike.2.1 112 = .ok (.ldiv, 1)) s1 (?_ : XW _ _ _ _ _ _ _ 113 _ _)
        refine xi_goto (by decide +kernel : decode mX10_unlike.2.1 113 = .ok (.goto 8, 3)) (by decide) (?_ : XW _ _ _ _ _ _ _ 121 _ _)
        exact xi_lret (by decide +kernel : decode mX10_unlike.2.1 121 = .ok (.lreturn, 1)) rfl vc
    · replace vc := vc.2 c
      refine xi_iload_n (by decide +kernel : decode mX10_unlike.2.1 102 = .ok (.iload_n 1, 1)) rfl rfl (?_ : XW _ _ _ _ _ _ _ 103 _ _)
      refine xi_i2l (by decide +kernel : decode mX10_unlike.2.1 103 = .ok (.i2l, 1)) (?_ : XW _ _ _ _ _ _ _ 104 _ _)
      exact xi_lret (by decide +kernel : decode mX10_unlike.2.1 104 = .ok (.lreturn, 1)) rfl vc
  · replace vc := vc.2 c
    refine xi_aload_n (by decide +kernel : decode mX10_unlike.2.1 18 = .ok (.aload_n 0, 1)) rfl rfl (?_ : XW _ _ _ _ _ _ _ 19 _ _)
    refine xi_getR (y := r) (by decide +kernel : decode mX10_unlike.2.1 19 = .ok (.getfield 23, 3)) fX10_23 rfl (by omega) rfl hb.2.1 (?_ : XW _ _ _ _ _ _ _ 22 _ _)
    refine xi_iload (by decide +kernel : decode mX10_unlike.2.1 22 = .ok (.iload 4, 2)) rfl (?_ : XW _ _ _ _ _ _ _ 24 _ _)
    obtain ⟨Q1, sp, vc⟩ := vc
    refine xi_callV (b := 0) (bs := 0) (As := [.int x4]) (st := []) (by decide +kernel : decode mX10_unlike.2.1 24 = .ok (.invokevirtual 145, 3)) kX10_145 rfl (xRul_s0 hr) (by omega) rfl sp (by decide) (by decide) (Nat.le_of_ble_eq_true rfl) (by omega) (fun v9 h3 hq9 => ?_)
    obtain ⟨r3, e9, vc⟩ := vc v9 h3 hq9
    subst e9
    show XW _ _ _ _ _ _ _ 27 _ [.int r3]
    refine xi_istore (ls' := [some (.ref 0), some (.int x1), some (.long x2), none, some (.int x4), some (.int r3), none, none]) (by decide +kernel : decode mX10_unlike.2.1 27 = .ok (.istore 5, 2)) (by decide) rfl (?_ : XW _ _ _ _ _ _ _ 29 _ _)
    refine xi_iload (by decide +kernel : decode mX10_unlike.2.1 29 = .ok (.iload 5, 2)) rfl (?_ : XW _ _ _ _ _ _ _ 31 _ _)
    refine xi_if_le (by decide +kernel : decode mX10_unlike.2.1 31 = .ok (.ifCond .le 27, 3)) (by decide) (fun c => (?_ : XW _ _ _ _ _ _ _ 58 _ _)) (fun c => (?_ : XW _ _ _ _ _ _ _ 34 _ _))
    · replace vc := vc.1 c
      refine xi_iinc (v := x4 + 1) (ls' := [some (.ref 0), some (.int x1), some (.long x2), none, some (.int (x4 + 1)), some (.int r3), none, none]) (by decide +kernel : decode mX10_unlike.2.1 58 = .ok (.iinc 4 1, 3)) rfl rfl (by decide) rfl (?_ : XW _ _ _ _ _ _ _ 61 _ _)
      refine xi_goto (by decide +kernel : decode mX10_unlike.2.1 61 = .ok (.goto (-50), 3)) (by decide) (?_ : XW _ _ _ _ _ _ _ 11 _ _)
      refine xw_drop 5 (ls' := [some (.ref 0), some (.int x1), some (.long x2), none, some (.int (x4 + 1)), none, none, none]) rfl ?_
      exact vc
    · replace vc := vc.2 c
      refine xi_aload_n (by decide +kernel : decode mX10_unlike.2.1 34 = .ok (.aload_n 0, 1)) rfl rfl (?_ : XW _ _ _ _ _ _ _ 35 _ _)
      refine xi_iload (by decide +kernel : decode mX10_unlike.2.1 35 = .ok (.iload 4, 2)) rfl (?_ : XW _ _ _ _ _ _ _ 37 _ _)
      obtain ⟨Q1, sp, vc⟩ := vc
      refine xi_callV (b := 0) (bs := 0) (As := [.int x4]) (st := []) (by decide +kernel : decode mX10_unlike.2.1 37 = .ok (.invokevirtual 310, 3)) kX10_310 rfl rfl (by omega) rfl sp (by decide) (by decide) (Nat.le_of_ble_eq_true rfl) (by omega) (fun v9 h4 hq9 => ?_)
      obtain ⟨r4, e9, vc⟩ := vc v9 h4 hq9
      subst e9
      show XW _ _ _ _ _ _ _ 40 _ [.long r4]
      refine xi_lstore (ls' := [some (.ref 0), some (.int x1), some (.long x2), none, some (.int x4), some (.int r3), some (.long r4), none]) (by decide +kernel : decode mX10_unlike.2.1 40 = .ok (.lstore 6, 2)) (by decide) rfl (?_ : XW _ _ _ _ _ _ _ 42 _ _)
      refine xi_lload_n (by decide +kernel : decode mX10_unlike.2.1 42 = .ok (.lload_n 2, 1)) rfl rfl (?_ : XW _ _ _ _ _ _ _ 43 _ _)
      refine xi_lload (by decide +kernel : decode mX10_unlike.2.1 43 = .ok (.lload 6, 2)) rfl (?_ : XW _ _ _ _ _ _ _ 45 _ _)
      refine xi_lload (by decide +kernel : decode mX10_unlike.2.1 45 = .ok (.lload 6, 2)) rfl (?_ : XW _ _ _ _ _ _ _ 47 _ _)
      refine xi_lmul (by decide +kernel : decode mX10_unlike.2.1 47 = .ok (.lmul, 1)) (?_ : XW _ _ _ _ _ _ _ 48 _ _)
      refine xi_sipush (v := 2520) (by decide +kernel : decode mX10_unlike.2.1 48 = .ok (.sipush 2520, 3)) (by decide) (?_ : XW _ _ _ _ _ _ _ 51 _ _)
      refine xi_iload (by decide +kernel : decode mX10_unlike.2.1 51 = .ok (.iload 5, 2)) rfl (?_ : XW _ _ _ _ _ _ _ 53 _ _)
      obtain ⟨s1, vc⟩ := vc
      refine xi_idiv (by decide +kernel : decode mX10_unlike.2.1 53 = .ok (.idiv, 1)) s1 (?_ : XW _ _ _ _ _ _ _ 54 _ _)
      refine xi_i2l (by decide +kernel : decode mX10_unlike.2.1 54 = .ok (.i2l, 1)) (?_ : XW _ _ _ _ _ _ _ 55 _ _)
      refine xi_lmul (by decide +kernel : decode mX10_unlike.2.1 55 = .ok (.lmul, 1)) (?_ : XW _ _ _ _ _ _ _ 56 _ _)
      refine xi_ladd (by decide +kernel : decode mX10_unlike.2.1 56 = .ok (.ladd, 1)) (?_ : XW _ _ _ _ _ _ _ 57 _ _)
      refine xi_lstore_n (ls' := [some (.ref 0), some (.int x1), some (.long (x2 + ((r4 * r4) * (Int32.toInt64 (2520 / r3))))), none, some (.int x4), some (.int r3), some (.long r4), none]) (by decide +kernel : decode mX10_unlike.2.1 57 = .ok (.lstore_n 2, 1)) rfl (by decide) rfl (?_ : XW _ _ _ _ _ _ _ 58 _ _)
      refine xi_iinc (v := x4 + 1) (ls' := [some (.ref 0), some (.int x1), some (.long (x2 + ((r4 * r4) * (Int32.toInt64 (2520 / r3))))), none, some (.int (x4 + 1)), some (.int r3), some (.long r4), none]) (by decide +kernel : decode mX10_unlike.2.1 58 = .ok (.iinc 4 1, 3)) rfl rfl (by decide) rfl (?_ : XW _ _ _ _ _ _ _ 61 _ _)
      refine xi_goto (by decide +kernel : decode mX10_unlike.2.1 61 = .ok (.goto (-50), 3)) (by decide) (?_ : XW _ _ _ _ _ _ _ 11 _ _)
      refine xw_drop 5 (ls' := [some (.ref 0), some (.int x1), some (.long (x2 + ((r4 * r4) * (Int32.toInt64 (2520 / r3))))), none, some (.int (x4 + 1)), none, some (.long r4), none]) rfl ?_
      refine xw_drop 6 (ls' := [some (.ref 0), some (.int x1), some (.long (x2 + ((r4 * r4) * (Int32.toInt64 (2520 / r3))))), none, some (.int (x4 + 1)), none, none, none]) rfl ?_
      exact vc

set_option maxRecDepth 20000 in
theorem v_X10_worn_0 {h : XH} {Q : Option Value → XH → Prop} {X : String → XH → Prop} (r : Nat) (hbp : BP r h) 
    (vc : (¬ (xI h 29 1) = 0 → XW (xrm 4 0 0) mX10_worn (xE 100 Q X 0 0) 100 0 0 h 16 [some (.ref 0), some (.int 1), some (.int 2)] []) ∧ ((xI h 29 1) = 0 → Q (some (.int (-1))) h)) :
    XW (xrm 4 0 0) mX10_worn (xE 100 Q X 0 0) 100 0 0 h 0 [some (.ref 0), none, none] [] := by
  obtain ⟨hb, hr, hnr, ha21, ha25, hu29, hu34, hw, hnt, hwr⟩ := hbp
  refine xi_aload_n (by decide +kernel : decode mX10_worn.2.1 0 = .ok (.aload_n 0, 1)) rfl rfl (?_ : XW _ _ _ _ _ _ _ 1 _ _)
  refine xi_getR (y := 29) (by decide +kernel : decode mX10_worn.2.1 1 = .ok (.getfield 49, 3)) fX10_49 rfl (by omega) rfl hb.2.2.2.2.2.1 (?_ : XW _ _ _ _ _ _ _ 4 _ _)
  refine xi_getI (by decide +kernel : decode mX10_worn.2.1 4 = .ok (.getfield 160, 3)) fX10_160 rfl (by omega) rfl (?_ : XW _ _ _ _ _ _ _ 7 _ _)
  refine xi_if_ne (by decide +kernel : decode mX10_worn.2.1 7 = .ok (.ifCond .ne 5, 3)) (by decide) (fun c => (?_ : XW _ _ _ _ _ _ _ 12 _ _)) (fun c => (?_ : XW _ _ _ _ _ _ _ 10 _ _))
  · replace vc := vc.1 c
    refine xi_iconst (v := 1) (by decide +kernel : decode mX10_worn.2.1 12 = .ok (.iconst 1, 1)) (by decide) (?_ : XW _ _ _ _ _ _ _ 13 _ _)
    refine xi_istore_n (ls' := [some (.ref 0), some (.int 1), none]) (by decide +kernel : decode mX10_worn.2.1 13 = .ok (.istore_n 1, 1)) rfl (by decide) rfl (?_ : XW _ _ _ _ _ _ _ 14 _ _)
    refine xi_iconst (v := 2) (by decide +kernel : decode mX10_worn.2.1 14 = .ok (.iconst 2, 1)) (by decide) (?_ : XW _ _ _ _ _ _ _ 15 _ _)
    refine xi_istore_n (ls' := [some (.ref 0), some (.int 1), some (.int 2)]) (by decide +kernel : decode mX10_worn.2.1 15 = .ok (.istore_n 2, 1)) rfl (by decide) rfl (?_ : XW _ _ _ _ _ _ _ 16 _ _)
    exact vc
  · replace vc := vc.2 c
    refine xi_iconst (v := (-1)) (by decide +kernel : decode mX10_worn.2.1 10 = .ok (.iconst (-1), 1)) (by decide) (?_ : XW _ _ _ _ _ _ _ 11 _ _)
    exact xi_iret (by decide +kernel : decode mX10_worn.2.1 11 = .ok (.ireturn, 1)) rfl rfl vc

set_option maxRecDepth 20000 in
theorem v_X10_worn_16 {h : XH} {Q : Option Value → XH → Prop} {X : String → XH → Prop} (r : Nat) (hbp : BP r h)  (x1 : Int32) (x2 : Int32)
    (vc : (6 < x2 → Q (some (.int x1)) h) ∧ (¬ 6 < x2 → ∃ Q1, XSpec mX10_timesMore 3 0 0 100 100 [.ref 0, .int x2] h Q1 xno ∧ ∀ v h1, Q1 v h1 → ∃ r1 : Int64, v = some (.long r1) ∧ (∃ Q1, XSpec mX10_timesMore 3 0 0 100 100 [.ref 0, .int x1] h1 Q1 xno ∧ ∀ v h2, Q1 v h2 → ∃ r2 : Int64, v = some (.long r2) ∧ (((lg_cmp r1 r2) ≤ 0 → XW (xrm 4 0 0) mX10_worn (xE 100 Q X 0 0) 100 0 0 h2 16 [some (.ref 0), some (.int x1), some (.int (x2 + 1))] []) ∧ (¬ (lg_cmp r1 r2) ≤ 0 → XW (xrm 4 0 0) mX10_worn (xE 100 Q X 0 0) 100 0 0 h2 16 [some (.ref 0), some (.int x2), some (.int (x2 + 1))] []))))) :
    XW (xrm 4 0 0) mX10_worn (xE 100 Q X 0 0) 100 0 0 h 16 [some (.ref 0), some (.int x1), some (.int x2)] [] := by
  obtain ⟨hb, hr, hnr, ha21, ha25, hu29, hu34, hw, hnt, hwr⟩ := hbp
  refine xi_iload_n (by decide +kernel : decode mX10_worn.2.1 16 = .ok (.iload_n 2, 1)) rfl rfl (?_ : XW _ _ _ _ _ _ _ 17 _ _)
  refine xi_bipush (v := 6) (by decide +kernel : decode mX10_worn.2.1 17 = .ok (.bipush 6, 2)) (by decide) (?_ : XW _ _ _ _ _ _ _ 19 _ _)
  refine xi_icmp_gt (by decide +kernel : decode mX10_worn.2.1 19 = .ok (.if_icmp .gt 25, 3)) (by decide) (fun c => (?_ : XW _ _ _ _ _ _ _ 44 _ _)) (fun c => (?_ : XW _ _ _ _ _ _ _ 22 _ _))
  · replace vc := vc.1 c
    refine xi_iload_n (by decide +kernel : decode mX10_worn.2.1 44 = .ok (.iload_n 1, 1)) rfl rfl (?_ : XW _ _ _ _ _ _ _ 45 _ _)
    exact xi_iret (by decide +kernel : decode mX10_worn.2.1 45 = .ok (.ireturn, 1)) rfl rfl vc
  · replace vc := vc.2 c
    refine xi_aload_n (by decide +kernel : decode mX10_worn.2.1 22 = .ok (.aload_n 0, 1)) rfl rfl (?_ : XW _ _ _ _ _ _ _ 23 _ _)
    refine xi_iload_n (by decide +kernel : decode mX10_worn.2.1 23 = .ok (.iload_n 2, 1)) rfl rfl (?_ : XW _ _ _ _ _ _ _ 24 _ _)
    obtain ⟨Q1, sp, vc⟩ := vc
    refine xi_callV (b := 0) (bs := 0) (As := [.int x2]) (st := []) (by decide +kernel : decode mX10_worn.2.1 24 = .ok (.invokevirtual 310, 3)) kX10_310 rfl rfl (by omega) rfl sp (by decide) (by decide) (Nat.le_of_ble_eq_true rfl) (by omega) (fun v9 h1 hq9 => ?_)
    obtain ⟨r1, e9, vc⟩ := vc v9 h1 hq9
    subst e9
    show XW _ _ _ _ _ _ _ 27 _ [.long r1]
    refine xi_aload_n (by decide +kernel : decode mX10_worn.2.1 27 = .ok (.aload_n 0, 1)) rfl rfl (?_ : XW _ _ _ _ _ _ _ 28 _ _)
    refine xi_iload_n (by decide +kernel : decode mX10_worn.2.1 28 = .ok (.iload_n 1, 1)) rfl rfl (?_ : XW _ _ _ _ _ _ _ 29 _ _)
    obtain ⟨Q1, sp, vc⟩ := vc
    refine xi_callV (b := 0) (bs := 0) (As := [.int x1]) (st := [.long r1]) (by decide +kernel : decode mX10_worn.2.1 29 = .ok (.invokevirtual 310, 3)) kX10_310 rfl rfl (by omega) rfl sp (by decide) (by decide) (Nat.le_of_ble_eq_true rfl) (by omega) (fun v9 h2 hq9 => ?_)
    obtain ⟨r2, e9, vc⟩ := vc v9 h2 hq9
    subst e9
    show XW _ _ _ _ _ _ _ 32 _ [.long r2, .long r1]
    refine xi_lcmp (by decide +kernel : decode mX10_worn.2.1 32 = .ok (.lcmp, 1)) (?_ : XW _ _ _ _ _ _ _ 33 _ _)
    refine xi_if_le (by decide +kernel : decode mX10_worn.2.1 33 = .ok (.ifCond .le 5, 3)) (by decide) (fun c => (?_ : XW _ _ _ _ _ _ _ 38 _ _)) (fun c => (?_ : XW _ _ _ _ _ _ _ 36 _ _))
    · replace vc := vc.1 c
      refine xi_iinc (v := x2 + 1) (ls' := [some (.ref 0), some (.int x1), some (.int (x2 + 1))]) (by decide +kernel : decode mX10_worn.2.1 38 = .ok (.iinc 2 1, 3)) rfl rfl (by decide) rfl (?_ : XW _ _ _ _ _ _ _ 41 _ _)
      refine xi_goto (by decide +kernel : decode mX10_worn.2.1 41 = .ok (.goto (-25), 3)) (by decide) (?_ : XW _ _ _ _ _ _ _ 16 _ _)
      exact vc
    · replace vc := vc.2 c
      refine xi_iload_n (by decide +kernel : decode mX10_worn.2.1 36 = .ok (.iload_n 2, 1)) rfl rfl (?_ : XW _ _ _ _ _ _ _ 37 _ _)
      refine xi_istore_n (ls' := [some (.ref 0), some (.int x2), some (.int x2)]) (by decide +kernel : decode mX10_worn.2.1 37 = .ok (.istore_n 1, 1)) rfl (by decide) rfl (?_ : XW _ _ _ _ _ _ _ 38 _ _)
      refine xi_iinc (v := x2 + 1) (ls' := [some (.ref 0), some (.int x2), some (.int (x2 + 1))]) (by decide +kernel : decode mX10_worn.2.1 38 = .ok (.iinc 2 1, 3)) rfl rfl (by decide) rfl (?_ : XW _ _ _ _ _ _ _ 41 _ _)
      refine xi_goto (by decide +kernel : decode mX10_worn.2.1 41 = .ok (.goto (-25), 3)) (by decide) (?_ : XW _ _ _ _ _ _ _ 16 _ _)
      exact vc

set_option maxRecDepth 20000 in
theorem v_X11_pass_0 {h : XH} {Q : Option Value → XH → Prop} {X : String → XH → Prop} (hM : xMod (xP h))  (f : Int32)
    (vc : (¬ (xI h 59 4) = f → XW (xrm 1 0 0) mX11_pass (xE 100 Q X 0 0) 100 0 0 h 31 [some (.ref 56), none, some (.int 1), none] []) ∧ ((xI h 59 4) = f → (vp_in (xI h 56 33) 4) ∧ (((xI h 71 (xI h 56 33).toNatClampNeg) = (xI h 59 0) → XW (xrm 1 0 0) mX11_pass (xE 100 Q X 0 0) 100 0 0 h 31 [some (.ref 56), none, some (.int 1), none] []) ∧ (¬ (xI h 71 (xI h 56 33).toNatClampNeg) = (xI h 59 0) → Q none h)))) :
    XW (xrm 1 0 0) mX11_pass (xE 100 Q X 0 0) 100 0 0 h 0 [some (.ref 56), some (.int f), none, none] [] := by
  refine xi_aload_n (by decide +kernel : decode mX11_pass.2.1 0 = .ok (.aload_n 0, 1)) rfl rfl (?_ : XW _ _ _ _ _ _ _ 1 _ _)
  refine xi_getR (y := 59) (by decide +kernel : decode mX11_pass.2.1 1 = .ok (.getfield 32, 3)) fX11_32 rfl (by omega) rfl (mp_told hM) (?_ : XW _ _ _ _ _ _ _ 4 _ _)
  refine xi_iconst (v := 4) (by decide +kernel : decode mX11_pass.2.1 4 = .ok (.iconst 4, 1)) (by decide) (?_ : XW _ _ _ _ _ _ _ 5 _ _)
  refine xi_iald (by decide +kernel : decode mX11_pass.2.1 5 = .ok (.iaload, 1)) rfl (by omega) (by unfold vp_in; decide) (?_ : XW _ _ _ _ _ _ _ 6 _ [.int (xI h 59 4)])
  refine xi_iload_n (by decide +kernel : decode mX11_pass.2.1 6 = .ok (.iload_n 1, 1)) rfl rfl (?_ : XW _ _ _ _ _ _ _ 7 _ _)
  refine xi_icmp_ne (by decide +kernel : decode mX11_pass.2.1 7 = .ok (.if_icmp .ne 22, 3)) (by decide) (fun c => (?_ : XW _ _ _ _ _ _ _ 29 _ _)) (fun c => (?_ : XW _ _ _ _ _ _ _ 10 _ _))
  · replace vc := vc.1 c
    refine xi_iconst (v := 1) (by decide +kernel : decode mX11_pass.2.1 29 = .ok (.iconst 1, 1)) (by decide) (?_ : XW _ _ _ _ _ _ _ 30 _ _)
    refine xi_istore_n (ls' := [some (.ref 56), some (.int f), some (.int 1), none]) (by decide +kernel : decode mX11_pass.2.1 30 = .ok (.istore_n 2, 1)) rfl (by decide) rfl (?_ : XW _ _ _ _ _ _ _ 31 _ _)
    refine xw_drop 1 (ls' := [some (.ref 56), none, some (.int 1), none]) rfl ?_
    exact vc
  · replace vc := vc.2 c
    refine xi_aload_n (by decide +kernel : decode mX11_pass.2.1 10 = .ok (.aload_n 0, 1)) rfl rfl (?_ : XW _ _ _ _ _ _ _ 11 _ _)
    refine xi_getR (y := 71) (by decide +kernel : decode mX11_pass.2.1 11 = .ok (.getfield 73, 3)) fX11_73 rfl (by omega) rfl (mp_place hM) (?_ : XW _ _ _ _ _ _ _ 14 _ _)
    refine xi_aload_n (by decide +kernel : decode mX11_pass.2.1 14 = .ok (.aload_n 0, 1)) rfl rfl (?_ : XW _ _ _ _ _ _ _ 15 _ _)
    refine xi_getI (by decide +kernel : decode mX11_pass.2.1 15 = .ok (.getfield 327, 3)) fX11_327 rfl (by omega) rfl (?_ : XW _ _ _ _ _ _ _ 18 _ _)
    obtain ⟨s1, vc⟩ := vc
    refine xi_iald (by decide +kernel : decode mX11_pass.2.1 18 = .ok (.iaload, 1)) rfl (by omega) s1 (?_ : XW _ _ _ _ _ _ _ 19 _ _)
    refine xi_aload_n (by decide +kernel : decode mX11_pass.2.1 19 = .ok (.aload_n 0, 1)) rfl rfl (?_ : XW _ _ _ _ _ _ _ 20 _ _)
    refine xi_getR (y := 59) (by decide +kernel : decode mX11_pass.2.1 20 = .ok (.getfield 32, 3)) fX11_32 rfl (by omega) rfl (mp_told hM) (?_ : XW _ _ _ _ _ _ _ 23 _ _)
    refine xi_iconst (v := 0) (by decide +kernel : decode mX11_pass.2.1 23 = .ok (.iconst 0, 1)) (by decide) (?_ : XW _ _ _ _ _ _ _ 24 _ _)
    refine xi_iald (by decide +kernel : decode mX11_pass.2.1 24 = .ok (.iaload, 1)) rfl (by omega) (by unfold vp_in; decide) (?_ : XW _ _ _ _ _ _ _ 25 _ [.int (xI h 59 0), .int (xI h 71 (xI h 56 33).toNatClampNeg)])
    refine xi_icmp_eq (by decide +kernel : decode mX11_pass.2.1 25 = .ok (.if_icmp .eq 4, 3)) (by decide) (fun c => (?_ : XW _ _ _ _ _ _ _ 29 _ _)) (fun c => (?_ : XW _ _ _ _ _ _ _ 28 _ _))
    · replace vc := vc.1 c
      refine xi_iconst (v := 1) (by decide +kernel : decode mX11_pass.2.1 29 = .ok (.iconst 1, 1)) (by decide) (?_ : XW _ _ _ _ _ _ _ 30 _ _)
      refine xi_istore_n (ls' := [some (.ref 56), some (.int f), some (.int 1), none]) (by decide +kernel : decode mX11_pass.2.1 30 = .ok (.istore_n 2, 1)) rfl (by decide) rfl (?_ : XW _ _ _ _ _ _ _ 31 _ _)
      refine xw_drop 1 (ls' := [some (.ref 56), none, some (.int 1), none]) rfl ?_
      exact vc
    · replace vc := vc.2 c
      exact xi_vret (by decide +kernel : decode mX11_pass.2.1 28 = .ok (.return_, 1)) rfl vc

set_option maxRecDepth 20000 in
theorem v_X11_pass_31 {h : XH} {Q : Option Value → XH → Prop} {X : String → XH → Prop} (hM : xMod (xP h))  (x2 : Int32)
    (vc : ((xI h 59 2) < x2 → Q none h) ∧ (¬ (xI h 59 2) < x2 → (¬ (xI h 59 2) = 0) ∧ ((vp_in (((xI h 56 33) + x2) - ((xI h 56 33) + x2) / (xI h 59 2) * (xI h 59 2)) 4) ∧ ((¬ (xI h 71 (((xI h 56 33) + x2) - ((xI h 56 33) + x2) / (xI h 59 2) * (xI h 59 2)).toNatClampNeg) = (xI h 59 0) → Q none (xSI 56 (va_up (xI h 56) 33 (((xI h 56 33) + x2) - ((xI h 56 33) + x2) / (xI h 59 2) * (xI h 59 2))) h)) ∧ ((xI h 71 (((xI h 56 33) + x2) - ((xI h 56 33) + x2) / (xI h 59 2) * (xI h 59 2)).toNatClampNeg) = (xI h 59 0) → XW (xrm 1 0 0) mX11_pass (xE 100 Q X 0 0) 100 0 0 h 31 [some (.ref 56), none, some (.int (x2 + 1)), none] []))))) :
    XW (xrm 1 0 0) mX11_pass (xE 100 Q X 0 0) 100 0 0 h 31 [some (.ref 56), none, some (.int x2), none] [] := by
  refine xi_iload_n (by decide +kernel : decode mX11_pass.2.1 31 = .ok (.iload_n 2, 1)) rfl rfl (?_ : XW _ _ _ _ _ _ _ 32 _ _)
  refine xi_aload_n (by decide +kernel : decode mX11_pass.2.1 32 = .ok (.aload_n 0, 1)) rfl rfl (?_ : XW _ _ _ _ _ _ _ 33 _ _)
  refine xi_getR (y := 59) (by decide +kernel : decode mX11_pass.2.1 33 = .ok (.getfield 32, 3)) fX11_32 rfl (by omega) rfl (mp_told hM) (?_ : XW _ _ _ _ _ _ _ 36 _ _)
  refine xi_iconst (v := 2) (by decide +kernel : decode mX11_pass.2.1 36 = .ok (.iconst 2, 1)) (by decide) (?_ : XW _ _ _ _ _ _ _ 37 _ _)
  refine xi_iald (by decide +kernel : decode mX11_pass.2.1 37 = .ok (.iaload, 1)) rfl (by omega) (by unfold vp_in; decide) (?_ : XW _ _ _ _ _ _ _ 38 _ [.int (xI h 59 2), .int x2])
  refine xi_icmp_gt (by decide +kernel : decode mX11_pass.2.1 38 = .ok (.if_icmp .gt 47, 3)) (by decide) (fun c => (?_ : XW _ _ _ _ _ _ _ 85 _ _)) (fun c => (?_ : XW _ _ _ _ _ _ _ 41 _ _))
  · replace vc := vc.1 c
    exact xi_vret (by decide +kernel : decode mX11_pass.2.1 85 = .ok (.return_, 1)) rfl vc
  · replace vc := vc.2 c
    refine xi_aload_n (by decide +kernel : decode mX11_pass.2.1 41 = .ok (.aload_n 0, 1)) rfl rfl (?_ : XW _ _ _ _ _ _ _ 42 _ _)
    refine xi_getI (by decide +kernel : decode mX11_pass.2.1 42 = .ok (.getfield 327, 3)) fX11_327 rfl (by omega) rfl (?_ : XW _ _ _ _ _ _ _ 45 _ _)
    refine xi_iload_n (by decide +kernel : decode mX11_pass.2.1 45 = .ok (.iload_n 2, 1)) rfl rfl (?_ : XW _ _ _ _ _ _ _ 46 _ _)
    refine xi_iadd (by decide +kernel : decode mX11_pass.2.1 46 = .ok (.iadd, 1)) (?_ : XW _ _ _ _ _ _ _ 47 _ _)
    refine xi_aload_n (by decide +kernel : decode mX11_pass.2.1 47 = .ok (.aload_n 0, 1)) rfl rfl (?_ : XW _ _ _ _ _ _ _ 48 _ _)
    refine xi_getR (y := 59) (by decide +kernel : decode mX11_pass.2.1 48 = .ok (.getfield 32, 3)) fX11_32 rfl (by omega) rfl (mp_told hM) (?_ : XW _ _ _ _ _ _ _ 51 _ _)
    refine xi_iconst (v := 2) (by decide +kernel : decode mX11_pass.2.1 51 = .ok (.iconst 2, 1)) (by decide) (?_ : XW _ _ _ _ _ _ _ 52 _ _)
    refine xi_iald (by decide +kernel : decode mX11_pass.2.1 52 = .ok (.iaload, 1)) rfl (by omega) (by unfold vp_in; decide) (?_ : XW _ _ _ _ _ _ _ 53 _ [.int (xI h 59 2), .int ((xI h 56 33) + x2)])
    obtain ⟨s1, vc⟩ := vc
    refine xi_irem (by decide +kernel : decode mX11_pass.2.1 53 = .ok (.irem, 1)) s1 (?_ : XW _ _ _ _ _ _ _ 54 _ _)
    refine xi_istore_n (ls' := [some (.ref 56), none, some (.int x2), some (.int (((xI h 56 33) + x2) - ((xI h 56 33) + x2) / (xI h 59 2) * (xI h 59 2)))]) (by decide +kernel : decode mX11_pass.2.1 54 = .ok (.istore_n 3, 1)) rfl (by decide) rfl (?_ : XW _ _ _ _ _ _ _ 55 _ _)
    refine xi_aload_n (by decide +kernel : decode mX11_pass.2.1 55 = .ok (.aload_n 0, 1)) rfl rfl (?_ : XW _ _ _ _ _ _ _ 56 _ _)
    refine xi_getR (y := 71) (by decide +kernel : decode mX11_pass.2.1 56 = .ok (.getfield 73, 3)) fX11_73 rfl (by omega) rfl (mp_place hM) (?_ : XW _ _ _ _ _ _ _ 59 _ _)
    refine xi_iload_n (by decide +kernel : decode mX11_pass.2.1 59 = .ok (.iload_n 3, 1)) rfl rfl (?_ : XW _ _ _ _ _ _ _ 60 _ _)
    obtain ⟨s1, vc⟩ := vc
    refine xi_iald (by decide +kernel : decode mX11_pass.2.1 60 = .ok (.iaload, 1)) rfl (by omega) s1 (?_ : XW _ _ _ _ _ _ _ 61 _ _)
    refine xi_aload_n (by decide +kernel : decode mX11_pass.2.1 61 = .ok (.aload_n 0, 1)) rfl rfl (?_ : XW _ _ _ _ _ _ _ 62 _ _)
    refine xi_getR (y := 59) (by decide +kernel : decode mX11_pass.2.1 62 = .ok (.getfield 32, 3)) fX11_32 rfl (by omega) rfl (mp_told hM) (?_ : XW _ _ _ _ _ _ _ 65 _ _)
    refine xi_iconst (v := 0) (by decide +kernel : decode mX11_pass.2.1 65 = .ok (.iconst 0, 1)) (by decide) (?_ : XW _ _ _ _ _ _ _ 66 _ _)
    refine xi_iald (by decide +kernel : decode mX11_pass.2.1 66 = .ok (.iaload, 1)) rfl (by omega) (by unfold vp_in; decide) (?_ : XW _ _ _ _ _ _ _ 67 _ [.int (xI h 59 0), .int (xI h 71 (((xI h 56 33) + x2) - ((xI h 56 33) + x2) / (xI h 59 2) * (xI h 59 2)).toNatClampNeg)])
    refine xi_icmp_ne (by decide +kernel : decode mX11_pass.2.1 67 = .ok (.if_icmp .ne 6, 3)) (by decide) (fun c => (?_ : XW _ _ _ _ _ _ _ 73 _ _)) (fun c => (?_ : XW _ _ _ _ _ _ _ 70 _ _))
    · replace vc := vc.1 c
      refine xi_aload_n (by decide +kernel : decode mX11_pass.2.1 73 = .ok (.aload_n 0, 1)) rfl rfl (?_ : XW _ _ _ _ _ _ _ 74 _ _)
      refine xi_iload_n (by decide +kernel : decode mX11_pass.2.1 74 = .ok (.iload_n 3, 1)) rfl rfl (?_ : XW _ _ _ _ _ _ _ 75 _ _)
      refine xi_putI (by decide +kernel : decode mX11_pass.2.1 75 = .ok (.putfield 327, 3)) fX11_327 rfl (by omega) rfl rfl rfl (?_ : XW _ _ _ _ _ _ (xSI 56 (va_up (xI h 56) 33 (((xI h 56 33) + x2) - ((xI h 56 33) + x2) / (xI h 59 2) * (xI h 59 2))) h) 78 _ _)
      exact xi_vret (by decide +kernel : decode mX11_pass.2.1 78 = .ok (.return_, 1)) rfl vc
    · replace vc := vc.2 c
      refine xi_goto (by decide +kernel : decode mX11_pass.2.1 70 = .ok (.goto 9, 3)) (by decide) (?_ : XW _ _ _ _ _ _ _ 79 _ _)
      refine xi_iinc (v := x2 + 1) (ls' := [some (.ref 56), none, some (.int (x2 + 1)), some (.int (((xI h 56 33) + x2) - ((xI h 56 33) + x2) / (xI h 59 2) * (xI h 59 2)))]) (by decide +kernel : decode mX11_pass.2.1 79 = .ok (.iinc 2 1, 3)) rfl rfl (by decide) rfl (?_ : XW _ _ _ _ _ _ _ 82 _ _)
      refine xi_goto (by decide +kernel : decode mX11_pass.2.1 82 = .ok (.goto (-51), 3)) (by decide) (?_ : XW _ _ _ _ _ _ _ 31 _ _)
      refine xw_drop 3 (ls' := [some (.ref 56), none, some (.int (x2 + 1)), none]) rfl ?_
      exact vc

set_option maxRecDepth 20000 in
theorem v_X11_throwOnce_0 {h : XH} {Q : Option Value → XH → Prop} {X : String → XH → Prop} (hM : xMod (xP h))  (f : Int32)
    (vc : (vp_in (xI h 56 34) 200) ∧ ((vp_in (xI h 56 34) 200) ∧ ((vp_in (xI h 56 33) 4) ∧ ((vp_in (xI h 56 34) 200) ∧ ((vp_in (xI h 56 33) 4) ∧ ((vp_in ((101 * f) + (xI h 71 (xI h 56 33).toNatClampNeg)) 707) ∧ ((vp_in (xI h 56 34) 200) ∧ ((vp_in (xI h 56 34) 200) ∧ ((vp_in (xI h 56 34) 200) ∧ ((vp_in (xI h 56 34) 200) ∧ ((vp_in (xI h 56 33) 4) ∧ ((¬ (xI h 59 5) = 1 → XW (xrm 2 0 0) mX11_throwOnce (xE 100 Q X 0 0) 100 0 0 (xSI 71 (va_up (xI h 71) (xI h 56 33).toNatClampNeg (va_up (xI h 75) (xI h 56 34).toNatClampNeg (xI h 67 ((101 * f) + (xI h 71 (xI h 56 33).toNatClampNeg)).toNatClampNeg) (xI h 56 34).toNatClampNeg)) (xSI 78 (va_up (xI h 78) (xI h 56 34).toNatClampNeg (xI h 56 33)) (xSI 76 (va_up (xI h 76) (xI h 56 34).toNatClampNeg 0) (xSI 75 (va_up (xI h 75) (xI h 56 34).toNatClampNeg (xI h 67 ((101 * f) + (xI h 71 (xI h 56 33).toNatClampNeg)).toNatClampNeg)) (xSI 74 (va_up (xI h 74) (xI h 56 34).toNatClampNeg (xI h 71 (xI h 56 33).toNatClampNeg)) (xSI 73 (va_up (xI h 73) (xI h 56 34).toNatClampNeg f) (xSI 72 (va_up (xI h 72) (xI h 56 34).toNatClampNeg (xI h 56 33)) h))))))) 143 [some (.ref 56), some (.int f), some (.int (xI h 56 34)), some (.int 0), some (.int 0)] []) ∧ ((xI h 59 5) = 1 → (vp_in (xI h 56 33) 4) ∧ (((va_up (xI h 71) (xI h 56 33).toNatClampNeg (va_up (xI h 75) (xI h 56 34).toNatClampNeg (xI h 67 ((101 * f) + (xI h 71 (xI h 56 33).toNatClampNeg)).toNatClampNeg) (xI h 56 34).toNatClampNeg) (xI h 56 33).toNatClampNeg) = 0 → XW (xrm 2 0 0) mX11_throwOnce (xE 100 Q X 0 0) 100 0 0 (xSI 71 (va_up (xI h 71) (xI h 56 33).toNatClampNeg (va_up (xI h 75) (xI h 56 34).toNatClampNeg (xI h 67 ((101 * f) + (xI h 71 (xI h 56 33).toNatClampNeg)).toNatClampNeg) (xI h 56 34).toNatClampNeg)) (xSI 78 (va_up (xI h 78) (xI h 56 34).toNatClampNeg (xI h 56 33)) (xSI 76 (va_up (xI h 76) (xI h 56 34).toNatClampNeg 0) (xSI 75 (va_up (xI h 75) (xI h 56 34).toNatClampNeg (xI h 67 ((101 * f) + (xI h 71 (xI h 56 33).toNatClampNeg)).toNatClampNeg)) (xSI 74 (va_up (xI h 74) (xI h 56 34).toNatClampNeg (xI h 71 (xI h 56 33).toNatClampNeg)) (xSI 73 (va_up (xI h 73) (xI h 56 34).toNatClampNeg f) (xSI 72 (va_up (xI h 72) (xI h 56 34).toNatClampNeg (xI h 56 33)) h))))))) 143 [some (.ref 56), some (.int f), some (.int (xI h 56 34)), some (.int 0), some (.int 0)] []) ∧ (¬ (va_up (xI h 71) (xI h 56 33).toNatClampNeg (va_up (xI h 75) (xI h 56 34).toNatClampNeg (xI h 67 ((101 * f) + (xI h 71 (xI h 56 33).toNatClampNeg)).toNatClampNeg) (xI h 56 34).toNatClampNeg) (xI h 56 33).toNatClampNeg) = 0 → (vp_in (xI h 56 33) 4) ∧ (((va_up (xI h 71) (xI h 56 33).toNatClampNeg (va_up (xI h 75) (xI h 56 34).toNatClampNeg (xI h 67 ((101 * f) + (xI h 71 (xI h 56 33).toNatClampNeg)).toNatClampNeg) (xI h 56 34).toNatClampNeg) (xI h 56 33).toNatClampNeg) = (xI h 59 0) → XW (xrm 2 0 0) mX11_throwOnce (xE 100 Q X 0 0) 100 0 0 (xSI 71 (va_up (xI h 71) (xI h 56 33).toNatClampNeg (va_up (xI h 75) (xI h 56 34).toNatClampNeg (xI h 67 ((101 * f) + (xI h 71 (xI h 56 33).toNatClampNeg)).toNatClampNeg) (xI h 56 34).toNatClampNeg)) (xSI 78 (va_up (xI h 78) (xI h 56 34).toNatClampNeg (xI h 56 33)) (xSI 76 (va_up (xI h 76) (xI h 56 34).toNatClampNeg 0) (xSI 75 (va_up (xI h 75) (xI h 56 34).toNatClampNeg (xI h 67 ((101 * f) + (xI h 71 (xI h 56 33).toNatClampNeg)).toNatClampNeg)) (xSI 74 (va_up (xI h 74) (xI h 56 34).toNatClampNeg (xI h 71 (xI h 56 33).toNatClampNeg)) (xSI 73 (va_up (xI h 73) (xI h 56 34).toNatClampNeg f) (xSI 72 (va_up (xI h 72) (xI h 56 34).toNatClampNeg (xI h 56 33)) h))))))) 143 [some (.ref 56), some (.int f), some (.int (xI h 56 34)), some (.int 0), some (.int 0)] []) ∧ (¬ (va_up (xI h 71) (xI h 56 33).toNatClampNeg (va_up (xI h 75) (xI h 56 34).toNatClampNeg (xI h 67 ((101 * f) + (xI h 71 (xI h 56 33).toNatClampNeg)).toNatClampNeg) (xI h 56 34).toNatClampNeg) (xI h 56 33).toNatClampNeg) = (xI h 59 0) → XW (xrm 2 0 0) mX11_throwOnce (xE 100 Q X 0 0) 100 0 0 (xSI 71 (va_up (xI h 71) (xI h 56 33).toNatClampNeg (va_up (xI h 75) (xI h 56 34).toNatClampNeg (xI h 67 ((101 * f) + (xI h 71 (xI h 56 33).toNatClampNeg)).toNatClampNeg) (xI h 56 34).toNatClampNeg)) (xSI 78 (va_up (xI h 78) (xI h 56 34).toNatClampNeg (xI h 56 33)) (xSI 76 (va_up (xI h 76) (xI h 56 34).toNatClampNeg 0) (xSI 75 (va_up (xI h 75) (xI h 56 34).toNatClampNeg (xI h 67 ((101 * f) + (xI h 71 (xI h 56 33).toNatClampNeg)).toNatClampNeg)) (xSI 74 (va_up (xI h 74) (xI h 56 34).toNatClampNeg (xI h 71 (xI h 56 33).toNatClampNeg)) (xSI 73 (va_up (xI h 73) (xI h 56 34).toNatClampNeg f) (xSI 72 (va_up (xI h 72) (xI h 56 34).toNatClampNeg (xI h 56 33)) h))))))) 143 [some (.ref 56), some (.int f), some (.int (xI h 56 34)), some (.int 1), some (.int 0)] []))))))))))))))))) :
    XW (xrm 2 0 0) mX11_throwOnce (xE 100 Q X 0 0) 100 0 0 h 0 [some (.ref 56), some (.int f), none, none, none] [] := by
  refine xi_aload_n (by decide +kernel : decode mX11_throwOnce.2.1 0 = .ok (.aload_n 0, 1)) rfl rfl (?_ : XW _ _ _ _ _ _ _ 1 _ _)
  refine xi_getI (by decide +kernel : decode mX11_throwOnce.2.1 1 = .ok (.getfield 330, 3)) fX11_330 rfl (by omega) rfl (?_ : XW _ _ _ _ _ _ _ 4 _ _)
  refine xi_istore_n (ls' := [some (.ref 56), some (.int f), some (.int (xI h 56 34)), none, none]) (by decide +kernel : decode mX11_throwOnce.2.1 4 = .ok (.istore_n 2, 1)) rfl (by decide) rfl (?_ : XW _ _ _ _ _ _ _ 5 _ _)
  refine xi_aload_n (by decide +kernel : decode mX11_throwOnce.2.1 5 = .ok (.aload_n 0, 1)) rfl rfl (?_ : XW _ _ _ _ _ _ _ 6 _ _)
  refine xi_getR (y := 72) (by decide +kernel : decode mX11_throwOnce.2.1 6 = .ok (.getfield 76, 3)) fX11_76 rfl (by omega) rfl (mp_rolledBy hM) (?_ : XW _ _ _ _ _ _ _ 9 _ _)
  refine xi_iload_n (by decide +kernel : decode mX11_throwOnce.2.1 9 = .ok (.iload_n 2, 1)) rfl rfl (?_ : XW _ _ _ _ _ _ _ 10 _ _)
  refine xi_aload_n (by decide +kernel : decode mX11_throwOnce.2.1 10 = .ok (.aload_n 0, 1)) rfl rfl (?_ : XW _ _ _ _ _ _ _ 11 _ _)
  refine xi_getI (by decide +kernel : decode mX11_throwOnce.2.1 11 = .ok (.getfield 327, 3)) fX11_327 rfl (by omega) rfl (?_ : XW _ _ _ _ _ _ _ 14 _ _)
  obtain ⟨s1, vc⟩ := vc
  refine xi_iast (by decide +kernel : decode mX11_throwOnce.2.1 14 = .ok (.iastore, 1)) rfl (by omega) s1 (?_ : XW _ _ _ _ _ _ (xSI 72 (va_up (xI h 72) (xI h 56 34).toNatClampNeg (xI h 56 33)) h) 15 _ _)
  refine xi_aload_n (by decide +kernel : decode mX11_throwOnce.2.1 15 = .ok (.aload_n 0, 1)) rfl rfl (?_ : XW _ _ _ _ _ _ _ 16 _ _)
  refine xi_getR (y := 73) (by decide +kernel : decode mX11_throwOnce.2.1 16 = .ok (.getfield 79, 3)) fX11_79 rfl (by omega) rfl (mp_rolledFace hM) (?_ : XW _ _ _ _ _ _ _ 19 _ _)
  refine xi_iload_n (by decide +kernel : decode mX11_throwOnce.2.1 19 = .ok (.iload_n 2, 1)) rfl rfl (?_ : XW _ _ _ _ _ _ _ 20 _ _)
  refine xi_iload_n (by decide +kernel : decode mX11_throwOnce.2.1 20 = .ok (.iload_n 1, 1)) rfl rfl (?_ : XW _ _ _ _ _ _ _ 21 _ _)
  obtain ⟨s1, vc⟩ := vc
  refine xi_iast (by decide +kernel : decode mX11_throwOnce.2.1 21 = .ok (.iastore, 1)) rfl (by omega) s1 (?_ : XW _ _ _ _ _ _ (xSI 73 (va_up (xI h 73) (xI h 56 34).toNatClampNeg f) (xSI 72 (va_up (xI h 72) (xI h 56 34).toNatClampNeg (xI h 56 33)) h)) 22 _ _)
  refine xi_aload_n (by decide +kernel : decode mX11_throwOnce.2.1 22 = .ok (.aload_n 0, 1)) rfl rfl (?_ : XW _ _ _ _ _ _ _ 23 _ _)
  refine xi_getR (y := 74) (by decide +kernel : decode mX11_throwOnce.2.1 23 = .ok (.getfield 82, 3)) fX11_82 rfl (by omega) rfl (mp_rolledFrom hM) (?_ : XW _ _ _ _ _ _ _ 26 _ _)
  refine xi_iload_n (by decide +kernel : decode mX11_throwOnce.2.1 26 = .ok (.iload_n 2, 1)) rfl rfl (?_ : XW _ _ _ _ _ _ _ 27 _ _)
  refine xi_aload_n (by decide +kernel : decode mX11_throwOnce.2.1 27 = .ok (.aload_n 0, 1)) rfl rfl (?_ : XW _ _ _ _ _ _ _ 28 _ _)
  refine xi_getR (y := 71) (by decide +kernel : decode mX11_throwOnce.2.1 28 = .ok (.getfield 73, 3)) fX11_73 rfl (by omega) rfl (mp_place hM) (?_ : XW _ _ _ _ _ _ _ 31 _ _)
  refine xi_aload_n (by decide +kernel : decode mX11_throwOnce.2.1 31 = .ok (.aload_n 0, 1)) rfl rfl (?_ : XW _ _ _ _ _ _ _ 32 _ _)
  refine xi_getI (by decide +kernel : decode mX11_throwOnce.2.1 32 = .ok (.getfield 327, 3)) fX11_327 rfl (by omega) rfl (?_ : XW _ _ _ _ _ _ _ 35 _ [.int (xI h 56 33), .ref 71, .int (xI h 56 34), .ref 74])
  obtain ⟨s1, vc⟩ := vc
  refine xi_iald (by decide +kernel : decode mX11_throwOnce.2.1 35 = .ok (.iaload, 1)) rfl (by omega) s1 (?_ : XW _ _ _ _ _ _ _ 36 _ [.int (xI h 71 (xI h 56 33).toNatClampNeg), .int (xI h 56 34), .ref 74])
  obtain ⟨s1, vc⟩ := vc
  refine xi_iast (by decide +kernel : decode mX11_throwOnce.2.1 36 = .ok (.iastore, 1)) rfl (by omega) s1 (?_ : XW _ _ _ _ _ _ (xSI 74 (va_up (xI h 74) (xI h 56 34).toNatClampNeg (xI h 71 (xI h 56 33).toNatClampNeg)) (xSI 73 (va_up (xI h 73) (xI h 56 34).toNatClampNeg f) (xSI 72 (va_up (xI h 72) (xI h 56 34).toNatClampNeg (xI h 56 33)) h))) 37 _ _)
  refine xi_aload_n (by decide +kernel : decode mX11_throwOnce.2.1 37 = .ok (.aload_n 0, 1)) rfl rfl (?_ : XW _ _ _ _ _ _ _ 38 _ _)
  refine xi_getR (y := 75) (by decide +kernel : decode mX11_throwOnce.2.1 38 = .ok (.getfield 85, 3)) fX11_85 rfl (by omega) rfl (mp_rolledTo hM) (?_ : XW _ _ _ _ _ _ _ 41 _ _)
  refine xi_iload_n (by decide +kernel : decode mX11_throwOnce.2.1 41 = .ok (.iload_n 2, 1)) rfl rfl (?_ : XW _ _ _ _ _ _ _ 42 _ _)
  refine xi_aload_n (by decide +kernel : decode mX11_throwOnce.2.1 42 = .ok (.aload_n 0, 1)) rfl rfl (?_ : XW _ _ _ _ _ _ _ 43 _ _)
  refine xi_getR (y := 67) (by decide +kernel : decode mX11_throwOnce.2.1 43 = .ok (.getfield 61, 3)) fX11_61 rfl (by omega) rfl (mp_to hM) (?_ : XW _ _ _ _ _ _ _ 46 _ _)
  refine xi_bipush (v := 101) (by decide +kernel : decode mX11_throwOnce.2.1 46 = .ok (.bipush 101, 2)) (by decide) (?_ : XW _ _ _ _ _ _ _ 48 _ _)
  refine xi_iload_n (by decide +kernel : decode mX11_throwOnce.2.1 48 = .ok (.iload_n 1, 1)) rfl rfl (?_ : XW _ _ _ _ _ _ _ 49 _ _)
  refine xi_imul (by decide +kernel : decode mX11_throwOnce.2.1 49 = .ok (.imul, 1)) (?_ : XW _ _ _ _ _ _ _ 50 _ _)
  refine xi_aload_n (by decide +kernel : decode mX11_throwOnce.2.1 50 = .ok (.aload_n 0, 1)) rfl rfl (?_ : XW _ _ _ _ _ _ _ 51 _ _)
  refine xi_getR (y := 71) (by decide +kernel : decode mX11_throwOnce.2.1 51 = .ok (.getfield 73, 3)) fX11_73 rfl (by omega) rfl (mp_place hM) (?_ : XW _ _ _ _ _ _ _ 54 _ _)
  refine xi_aload_n (by decide +kernel : decode mX11_throwOnce.2.1 54 = .ok (.aload_n 0, 1)) rfl rfl (?_ : XW _ _ _ _ _ _ _ 55 _ _)
  refine xi_getI (by decide +kernel : decode mX11_throwOnce.2.1 55 = .ok (.getfield 327, 3)) fX11_327 rfl (by omega) rfl (?_ : XW _ _ _ _ _ _ _ 58 _ [.int (xI h 56 33), .ref 71, .int (101 * f), .ref 67, .int (xI h 56 34), .ref 75])
  obtain ⟨s1, vc⟩ := vc
  refine xi_iald (by decide +kernel : decode mX11_throwOnce.2.1 58 = .ok (.iaload, 1)) rfl (by omega) s1 (?_ : XW _ _ _ _ _ _ _ 59 _ [.int (xI h 71 (xI h 56 33).toNatClampNeg), .int (101 * f), .ref 67, .int (xI h 56 34), .ref 75])
  refine xi_iadd (by decide +kernel : decode mX11_throwOnce.2.1 59 = .ok (.iadd, 1)) (?_ : XW _ _ _ _ _ _ _ 60 _ _)
  obtain ⟨s1, vc⟩ := vc
  refine xi_iald (by decide +kernel : decode mX11_throwOnce.2.1 60 = .ok (.iaload, 1)) rfl (by omega) s1 (?_ : XW _ _ _ _ _ _ _ 61 _ [.int (xI h 67 ((101 * f) + (xI h 71 (xI h 56 33).toNatClampNeg)).toNatClampNeg), .int (xI h 56 34), .ref 75])
  obtain ⟨s1, vc⟩ := vc
  refine xi_iast (by decide +kernel : decode mX11_throwOnce.2.1 61 = .ok (.iastore, 1)) rfl (by omega) s1 (?_ : XW _ _ _ _ _ _ (xSI 75 (va_up (xI h 75) (xI h 56 34).toNatClampNeg (xI h 67 ((101 * f) + (xI h 71 (xI h 56 33).toNatClampNeg)).toNatClampNeg)) (xSI 74 (va_up (xI h 74) (xI h 56 34).toNatClampNeg (xI h 71 (xI h 56 33).toNatClampNeg)) (xSI 73 (va_up (xI h 73) (xI h 56 34).toNatClampNeg f) (xSI 72 (va_up (xI h 72) (xI h 56 34).toNatClampNeg (xI h 56 33)) h)))) 62 _ _)
  refine xi_aload_n (by decide +kernel : decode mX11_throwOnce.2.1 62 = .ok (.aload_n 0, 1)) rfl rfl (?_ : XW _ _ _ _ _ _ _ 63 _ _)
  refine xi_getR (y := 76) (by decide +kernel : decode mX11_throwOnce.2.1 63 = .ok (.getfield 88, 3)) fX11_88 rfl (by omega) rfl (mp_rolledMet hM) (?_ : XW _ _ _ _ _ _ _ 66 _ _)
  refine xi_iload_n (by decide +kernel : decode mX11_throwOnce.2.1 66 = .ok (.iload_n 2, 1)) rfl rfl (?_ : XW _ _ _ _ _ _ _ 67 _ _)
  refine xi_iconst (v := 0) (by decide +kernel : decode mX11_throwOnce.2.1 67 = .ok (.iconst 0, 1)) (by decide) (?_ : XW _ _ _ _ _ _ _ 68 _ _)
  obtain ⟨s1, vc⟩ := vc
  refine xi_iast (by decide +kernel : decode mX11_throwOnce.2.1 68 = .ok (.iastore, 1)) rfl (by omega) s1 (?_ : XW _ _ _ _ _ _ (xSI 76 (va_up (xI h 76) (xI h 56 34).toNatClampNeg 0) (xSI 75 (va_up (xI h 75) (xI h 56 34).toNatClampNeg (xI h 67 ((101 * f) + (xI h 71 (xI h 56 33).toNatClampNeg)).toNatClampNeg)) (xSI 74 (va_up (xI h 74) (xI h 56 34).toNatClampNeg (xI h 71 (xI h 56 33).toNatClampNeg)) (xSI 73 (va_up (xI h 73) (xI h 56 34).toNatClampNeg f) (xSI 72 (va_up (xI h 72) (xI h 56 34).toNatClampNeg (xI h 56 33)) h))))) 69 _ _)
  refine xi_aload_n (by decide +kernel : decode mX11_throwOnce.2.1 69 = .ok (.aload_n 0, 1)) rfl rfl (?_ : XW _ _ _ _ _ _ _ 70 _ _)
  refine xi_getR (y := 78) (by decide +kernel : decode mX11_throwOnce.2.1 70 = .ok (.getfield 94, 3)) fX11_94 rfl (by omega) rfl (mp_turnThen hM) (?_ : XW _ _ _ _ _ _ _ 73 _ _)
  refine xi_iload_n (by decide +kernel : decode mX11_throwOnce.2.1 73 = .ok (.iload_n 2, 1)) rfl rfl (?_ : XW _ _ _ _ _ _ _ 74 _ _)
  refine xi_aload_n (by decide +kernel : decode mX11_throwOnce.2.1 74 = .ok (.aload_n 0, 1)) rfl rfl (?_ : XW _ _ _ _ _ _ _ 75 _ _)
  refine xi_getI (by decide +kernel : decode mX11_throwOnce.2.1 75 = .ok (.getfield 327, 3)) fX11_327 rfl (by omega) rfl (?_ : XW _ _ _ _ _ _ _ 78 _ [.int (xI h 56 33), .int (xI h 56 34), .ref 78])
  obtain ⟨s1, vc⟩ := vc
  refine xi_iast (by decide +kernel : decode mX11_throwOnce.2.1 78 = .ok (.iastore, 1)) rfl (by omega) s1 (?_ : XW _ _ _ _ _ _ (xSI 78 (va_up (xI h 78) (xI h 56 34).toNatClampNeg (xI h 56 33)) (xSI 76 (va_up (xI h 76) (xI h 56 34).toNatClampNeg 0) (xSI 75 (va_up (xI h 75) (xI h 56 34).toNatClampNeg (xI h 67 ((101 * f) + (xI h 71 (xI h 56 33).toNatClampNeg)).toNatClampNeg)) (xSI 74 (va_up (xI h 74) (xI h 56 34).toNatClampNeg (xI h 71 (xI h 56 33).toNatClampNeg)) (xSI 73 (va_up (xI h 73) (xI h 56 34).toNatClampNeg f) (xSI 72 (va_up (xI h 72) (xI h 56 34).toNatClampNeg (xI h 56 33)) h)))))) 79 _ _)
  refine xi_aload_n (by decide +kernel : decode mX11_throwOnce.2.1 79 = .ok (.aload_n 0, 1)) rfl rfl (?_ : XW _ _ _ _ _ _ _ 80 _ _)
  refine xi_getR (y := 71) (by decide +kernel : decode mX11_throwOnce.2.1 80 = .ok (.getfield 73, 3)) fX11_73 rfl (by omega) rfl (mp_place hM) (?_ : XW _ _ _ _ _ _ _ 83 _ _)
  refine xi_aload_n (by decide +kernel : decode mX11_throwOnce.2.1 83 = .ok (.aload_n 0, 1)) rfl rfl (?_ : XW _ _ _ _ _ _ _ 84 _ _)
  refine xi_getI (by decide +kernel : decode mX11_throwOnce.2.1 84 = .ok (.getfield 327, 3)) fX11_327 rfl (by omega) rfl (?_ : XW _ _ _ _ _ _ _ 87 _ [.int (xI h 56 33), .ref 71])
  refine xi_aload_n (by decide +kernel : decode mX11_throwOnce.2.1 87 = .ok (.aload_n 0, 1)) rfl rfl (?_ : XW _ _ _ _ _ _ _ 88 _ _)
  refine xi_getR (y := 75) (by decide +kernel : decode mX11_throwOnce.2.1 88 = .ok (.getfield 85, 3)) fX11_85 rfl (by omega) rfl (mp_rolledTo hM) (?_ : XW _ _ _ _ _ _ _ 91 _ _)
  refine xi_iload_n (by decide +kernel : decode mX11_throwOnce.2.1 91 = .ok (.iload_n 2, 1)) rfl rfl (?_ : XW _ _ _ _ _ _ _ 92 _ _)
  obtain ⟨s1, vc⟩ := vc
  refine xi_iald (by decide +kernel : decode mX11_throwOnce.2.1 92 = .ok (.iaload, 1)) rfl (by omega) s1 (?_ : XW _ _ _ _ _ _ _ 93 _ [.int (va_up (xI h 75) (xI h 56 34).toNatClampNeg (xI h 67 ((101 * f) + (xI h 71 (xI h 56 33).toNatClampNeg)).toNatClampNeg) (xI h 56 34).toNatClampNeg), .int (xI h 56 33), .ref 71])
  obtain ⟨s1, vc⟩ := vc
  refine xi_iast (by decide +kernel : decode mX11_throwOnce.2.1 93 = .ok (.iastore, 1)) rfl (by omega) s1 (?_ : XW _ _ _ _ _ _ (xSI 71 (va_up (xI h 71) (xI h 56 33).toNatClampNeg (va_up (xI h 75) (xI h 56 34).toNatClampNeg (xI h 67 ((101 * f) + (xI h 71 (xI h 56 33).toNatClampNeg)).toNatClampNeg) (xI h 56 34).toNatClampNeg)) (xSI 78 (va_up (xI h 78) (xI h 56 34).toNatClampNeg (xI h 56 33)) (xSI 76 (va_up (xI h 76) (xI h 56 34).toNatClampNeg 0) (xSI 75 (va_up (xI h 75) (xI h 56 34).toNatClampNeg (xI h 67 ((101 * f) + (xI h 71 (xI h 56 33).toNatClampNeg)).toNatClampNeg)) (xSI 74 (va_up (xI h 74) (xI h 56 34).toNatClampNeg (xI h 71 (xI h 56 33).toNatClampNeg)) (xSI 73 (va_up (xI h 73) (xI h 56 34).toNatClampNeg f) (xSI 72 (va_up (xI h 72) (xI h 56 34).toNatClampNeg (xI h 56 33)) h))))))) 94 _ _)
  refine xi_aload_n (by decide +kernel : decode mX11_throwOnce.2.1 94 = .ok (.aload_n 0, 1)) rfl rfl (?_ : XW _ _ _ _ _ _ _ 95 _ _)
  refine xi_getR (y := 59) (by decide +kernel : decode mX11_throwOnce.2.1 95 = .ok (.getfield 32, 3)) fX11_32 rfl (by omega) rfl (mp_told hM) (?_ : XW _ _ _ _ _ _ _ 98 _ _)
  refine xi_iconst (v := 5) (by decide +kernel : decode mX11_throwOnce.2.1 98 = .ok (.iconst 5, 1)) (by decide) (?_ : XW _ _ _ _ _ _ _ 99 _ _)
  refine xi_iald (by decide +kernel : decode mX11_throwOnce.2.1 99 = .ok (.iaload, 1)) rfl (by omega) (by unfold vp_in; decide) (?_ : XW _ _ _ _ _ _ _ 100 _ [.int (xI h 59 5)])
  refine xi_iconst (v := 1) (by decide +kernel : decode mX11_throwOnce.2.1 100 = .ok (.iconst 1, 1)) (by decide) (?_ : XW _ _ _ _ _ _ _ 101 _ _)
  refine xi_icmp_ne (by decide +kernel : decode mX11_throwOnce.2.1 101 = .ok (.if_icmp .ne 37, 3)) (by decide) (fun c => (?_ : XW _ _ _ _ _ _ _ 138 _ _)) (fun c => (?_ : XW _ _ _ _ _ _ _ 104 _ _))
  · replace vc := vc.1 c
    refine xi_iconst (v := 0) (by decide +kernel : decode mX11_throwOnce.2.1 138 = .ok (.iconst 0, 1)) (by decide) (?_ : XW _ _ _ _ _ _ _ 139 _ _)
    refine xi_istore_n (ls' := [some (.ref 56), some (.int f), some (.int (xI h 56 34)), some (.int 0), none]) (by decide +kernel : decode mX11_throwOnce.2.1 139 = .ok (.istore_n 3, 1)) rfl (by decide) rfl (?_ : XW _ _ _ _ _ _ _ 140 _ _)
    refine xi_iconst (v := 0) (by decide +kernel : decode mX11_throwOnce.2.1 140 = .ok (.iconst 0, 1)) (by decide) (?_ : XW _ _ _ _ _ _ _ 141 _ _)
    refine xi_istore (ls' := [some (.ref 56), some (.int f), some (.int (xI h 56 34)), some (.int 0), some (.int 0)]) (by decide +kernel : decode mX11_throwOnce.2.1 141 = .ok (.istore 4, 2)) (by decide) rfl (?_ : XW _ _ _ _ _ _ _ 143 _ _)
    exact vc
  · replace vc := vc.2 c
    refine xi_aload_n (by decide +kernel : decode mX11_throwOnce.2.1 104 = .ok (.aload_n 0, 1)) rfl rfl (?_ : XW _ _ _ _ _ _ _ 105 _ _)
    refine xi_getR (y := 71) (by decide +kernel : decode mX11_throwOnce.2.1 105 = .ok (.getfield 73, 3)) fX11_73 rfl (by omega) rfl (mp_place hM) (?_ : XW _ _ _ _ _ _ _ 108 _ _)
    refine xi_aload_n (by decide +kernel : decode mX11_throwOnce.2.1 108 = .ok (.aload_n 0, 1)) rfl rfl (?_ : XW _ _ _ _ _ _ _ 109 _ _)
    refine xi_getI (by decide +kernel : decode mX11_throwOnce.2.1 109 = .ok (.getfield 327, 3)) fX11_327 rfl (by omega) rfl (?_ : XW _ _ _ _ _ _ _ 112 _ [.int (xI h 56 33), .ref 71])
    obtain ⟨s1, vc⟩ := vc
    refine xi_iald (by decide +kernel : decode mX11_throwOnce.2.1 112 = .ok (.iaload, 1)) rfl (by omega) s1 (?_ : XW _ _ _ _ _ _ _ 113 _ [.int (va_up (xI h 71) (xI h 56 33).toNatClampNeg (va_up (xI h 75) (xI h 56 34).toNatClampNeg (xI h 67 ((101 * f) + (xI h 71 (xI h 56 33).toNatClampNeg)).toNatClampNeg) (xI h 56 34).toNatClampNeg) (xI h 56 33).toNatClampNeg)])
    refine xi_if_eq (by decide +kernel : decode mX11_throwOnce.2.1 113 = .ok (.ifCond .eq 25, 3)) (by decide) (fun c => (?_ : XW _ _ _ _ _ _ _ 138 _ _)) (fun c => (?_ : XW _ _ _ _ _ _ _ 116 _ _))
    · replace vc := vc.1 c
      refine xi_iconst (v := 0) (by decide +kernel : decode mX11_throwOnce.2.1 138 = .ok (.iconst 0, 1)) (by decide) (?_ : XW _ _ _ _ _ _ _ 139 _ _)
      refine xi_istore_n (ls' := [some (.ref 56), some (.int f), some (.int (xI h 56 34)), some (.int 0), none]) (by decide +kernel : decode mX11_throwOnce.2.1 139 = .ok (.istore_n 3, 1)) rfl (by decide) rfl (?_ : XW _ _ _ _ _ _ _ 140 _ _)
      refine xi_iconst (v := 0) (by decide +kernel : decode mX11_throwOnce.2.1 140 = .ok (.iconst 0, 1)) (by decide) (?_ : XW _ _ _ _ _ _ _ 141 _ _)
      refine xi_istore (ls' := [some (.ref 56), some (.int f), some (.int (xI h 56 34)), some (.int 0), some (.int 0)]) (by decide +kernel : decode mX11_throwOnce.2.1 141 = .ok (.istore 4, 2)) (by decide) rfl (?_ : XW _ _ _ _ _ _ _ 143 _ _)
      exact vc
    · replace vc := vc.2 c
      refine xi_aload_n (by decide +kernel : decode mX11_throwOnce.2.1 116 = .ok (.aload_n 0, 1)) rfl rfl (?_ : XW _ _ _ _ _ _ _ 117 _ _)
      refine xi_getR (y := 71) (by decide +kernel : decode mX11_throwOnce.2.1 117 = .ok (.getfield 73, 3)) fX11_73 rfl (by omega) rfl (mp_place hM) (?_ : XW _ _ _ _ _ _ _ 120 _ _)
      refine xi_aload_n (by decide +kernel : decode mX11_throwOnce.2.1 120 = .ok (.aload_n 0, 1)) rfl rfl (?_ : XW _ _ _ _ _ _ _ 121 _ _)
      refine xi_getI (by decide +kernel : decode mX11_throwOnce.2.1 121 = .ok (.getfield 327, 3)) fX11_327 rfl (by omega) rfl (?_ : XW _ _ _ _ _ _ _ 124 _ [.int (xI h 56 33), .ref 71])
      obtain ⟨s1, vc⟩ := vc
      refine xi_iald (by decide +kernel : decode mX11_throwOnce.2.1 124 = .ok (.iaload, 1)) rfl (by omega) s1 (?_ : XW _ _ _ _ _ _ _ 125 _ [.int (va_up (xI h 71) (xI h 56 33).toNatClampNeg (va_up (xI h 75) (xI h 56 34).toNatClampNeg (xI h 67 ((101 * f) + (xI h 71 (xI h 56 33).toNatClampNeg)).toNatClampNeg) (xI h 56 34).toNatClampNeg) (xI h 56 33).toNatClampNeg)])
      refine xi_aload_n (by decide +kernel : decode mX11_throwOnce.2.1 125 = .ok (.aload_n 0, 1)) rfl rfl (?_ : XW _ _ _ _ _ _ _ 126 _ _)
      refine xi_getR (y := 59) (by decide +kernel : decode mX11_throwOnce.2.1 126 = .ok (.getfield 32, 3)) fX11_32 rfl (by omega) rfl (mp_told hM) (?_ : XW _ _ _ _ _ _ _ 129 _ _)
      refine xi_iconst (v := 0) (by decide +kernel : decode mX11_throwOnce.2.1 129 = .ok (.iconst 0, 1)) (by decide) (?_ : XW _ _ _ _ _ _ _ 130 _ _)
      refine xi_iald (by decide +kernel : decode mX11_throwOnce.2.1 130 = .ok (.iaload, 1)) rfl (by omega) (by unfold vp_in; decide) (?_ : XW _ _ _ _ _ _ _ 131 _ [.int (xI h 59 0), .int (va_up (xI h 71) (xI h 56 33).toNatClampNeg (va_up (xI h 75) (xI h 56 34).toNatClampNeg (xI h 67 ((101 * f) + (xI h 71 (xI h 56 33).toNatClampNeg)).toNatClampNeg) (xI h 56 34).toNatClampNeg) (xI h 56 33).toNatClampNeg)])
      refine xi_icmp_eq (by decide +kernel : decode mX11_throwOnce.2.1 131 = .ok (.if_icmp .eq 7, 3)) (by decide) (fun c => (?_ : XW _ _ _ _ _ _ _ 138 _ _)) (fun c => (?_ : XW _ _ _ _ _ _ _ 134 _ _))
      · replace vc := vc.1 c
        refine xi_iconst (v := 0) (by decide +kernel : decode mX11_throwOnce.2.1 138 = .ok (.iconst 0, 1)) (by decide) (?_ : XW _ _ _ _ _ _ _ 139 _ _)
        refine xi_istore_n (ls' := [some (.ref 56), some (.int f), some (.int (xI h 56 34)), some (.int 0), none]) (by decide +kernel : decode mX11_throwOnce.2.1 139 = .ok (.istore_n 3, 1)) rfl (by decide) rfl (?_ : XW _ _ _ _ _ _ _ 140 _ _)
        refine xi_iconst (v := 0) (by decide +kernel : decode mX11_throwOnce.2.1 140 = .ok (.iconst 0, 1)) (by decide) (?_ : XW _ _ _ _ _ _ _ 141 _ _)
        refine xi_istore (ls' := [some (.ref 56), some (.int f), some (.int (xI h 56 34)), some (.int 0), some (.int 0)]) (by decide +kernel : decode mX11_throwOnce.2.1 141 = .ok (.istore 4, 2)) (by decide) rfl (?_ : XW _ _ _ _ _ _ _ 143 _ _)
        exact vc
      · replace vc := vc.2 c
        refine xi_iconst (v := 1) (by decide +kernel : decode mX11_throwOnce.2.1 134 = .ok (.iconst 1, 1)) (by decide) (?_ : XW _ _ _ _ _ _ _ 135 _ _)
        refine xi_goto (by decide +kernel : decode mX11_throwOnce.2.1 135 = .ok (.goto 4, 3)) (by decide) (?_ : XW _ _ _ _ _ _ _ 139 _ _)
        refine xi_istore_n (ls' := [some (.ref 56), some (.int f), some (.int (xI h 56 34)), some (.int 1), none]) (by decide +kernel : decode mX11_throwOnce.2.1 139 = .ok (.istore_n 3, 1)) rfl (by decide) rfl (?_ : XW _ _ _ _ _ _ _ 140 _ _)
        refine xi_iconst (v := 0) (by decide +kernel : decode mX11_throwOnce.2.1 140 = .ok (.iconst 0, 1)) (by decide) (?_ : XW _ _ _ _ _ _ _ 141 _ _)
        refine xi_istore (ls' := [some (.ref 56), some (.int f), some (.int (xI h 56 34)), some (.int 1), some (.int 0)]) (by decide +kernel : decode mX11_throwOnce.2.1 141 = .ok (.istore 4, 2)) (by decide) rfl (?_ : XW _ _ _ _ _ _ _ 143 _ _)
        exact vc

set_option maxRecDepth 20000 in
theorem v_X11_throwOnce_143 {h : XH} {Q : Option Value → XH → Prop} {X : String → XH → Prop} (hM : xMod (xP h))  (x1 : Int32) (x2 : Int32) (x3 : Int32) (x4 : Int32)
    (vc : ((xI h 59 2) ≤ x4 → ∃ Q1, XSpec mX11_pass 1 0 0 100 100 [.ref 56, .int x1] (xSI 56 (va_up (xI h 56) 34 ((xI h 56 34) + 1)) h) Q1 xno ∧ ∀ v h1, Q1 v h1 → v = none ∧ ((xP h1 56 29 = some 75) ∧ ((vp_in x2 200) ∧ (Q (some (.int (xI h1 75 x2.toNatClampNeg))) h1)))) ∧ (¬ (xI h 59 2) ≤ x4 → (x3 = 0 → ∃ Q1, XSpec mX11_pass 1 0 0 100 100 [.ref 56, .int x1] (xSI 56 (va_up (xI h 56) 34 ((xI h 56 34) + 1)) h) Q1 xno ∧ ∀ v h2, Q1 v h2 → v = none ∧ ((xP h2 56 29 = some 75) ∧ ((vp_in x2 200) ∧ (Q (some (.int (xI h2 75 x2.toNatClampNeg))) h2)))) ∧ (¬ x3 = 0 → (x4 = (xI h 56 33) → XW (xrm 2 0 0) mX11_throwOnce (xE 100 Q X 0 0) 100 0 0 h 143 [some (.ref 56), some (.int x1), some (.int x2), some (.int x3), some (.int (x4 + 1))] []) ∧ (¬ x4 = (xI h 56 33) → (vp_in x4 4) ∧ ((vp_in x2 200) ∧ (((xI h 71 x4.toNatClampNeg) = (xI h 75 x2.toNatClampNeg) → (vp_in x2 200) ∧ ((vp_in x2 200) ∧ ((vp_in x4 4) ∧ (XW (xrm 2 0 0) mX11_throwOnce (xE 100 Q X 0 0) 100 0 0 (xSI 71 (va_up (xI h 71) x4.toNatClampNeg 0) (xSI 76 (va_up (xI h 76) x2.toNatClampNeg ((xI h 76 x2.toNatClampNeg) ||| (1 <<< ((x4 : Int32) &&& 31)))) h)) 143 [some (.ref 56), some (.int x1), some (.int x2), some (.int x3), some (.int (x4 + 1))] [])))) ∧ (¬ (xI h 71 x4.toNatClampNeg) = (xI h 75 x2.toNatClampNeg) → XW (xrm 2 0 0) mX11_throwOnce (xE 100 Q X 0 0) 100 0 0 h 143 [some (.ref 56), some (.int x1), some (.int x2), some (.int x3), some (.int (x4 + 1))] []))))))) :
    XW (xrm 2 0 0) mX11_throwOnce (xE 100 Q X 0 0) 100 0 0 h 143 [some (.ref 56), some (.int x1), some (.int x2), some (.int x3), some (.int x4)] [] := by
  refine xi_iload (by decide +kernel : decode mX11_throwOnce.2.1 143 = .ok (.iload 4, 2)) rfl (?_ : XW _ _ _ _ _ _ _ 145 _ _)
  refine xi_aload_n (by decide +kernel : decode mX11_throwOnce.2.1 145 = .ok (.aload_n 0, 1)) rfl rfl (?_ : XW _ _ _ _ _ _ _ 146 _ _)
  refine xi_getR (y := 59) (by decide +kernel : decode mX11_throwOnce.2.1 146 = .ok (.getfield 32, 3)) fX11_32 rfl (by omega) rfl (mp_told hM) (?_ : XW _ _ _ _ _ _ _ 149 _ _)
  refine xi_iconst (v := 2) (by decide +kernel : decode mX11_throwOnce.2.1 149 = .ok (.iconst 2, 1)) (by decide) (?_ : XW _ _ _ _ _ _ _ 150 _ _)
  refine xi_iald (by decide +kernel : decode mX11_throwOnce.2.1 150 = .ok (.iaload, 1)) rfl (by omega) (by unfold vp_in; decide) (?_ : XW _ _ _ _ _ _ _ 151 _ [.int (xI h 59 2), .int x4])
  refine xi_icmp_ge (by decide +kernel : decode mX11_throwOnce.2.1 151 = .ok (.if_icmp .ge 62, 3)) (by decide) (fun c => (?_ : XW _ _ _ _ _ _ _ 213 _ _)) (fun c => (?_ : XW _ _ _ _ _ _ _ 154 _ _))
  · replace vc := vc.1 c
    refine xi_aload_n (by decide +kernel : decode mX11_throwOnce.2.1 213 = .ok (.aload_n 0, 1)) rfl rfl (?_ : XW _ _ _ _ _ _ _ 214 _ _)
    refine xi_dup (by decide +kernel : decode mX11_throwOnce.2.1 214 = .ok (.dup, 1)) rfl (?_ : XW _ _ _ _ _ _ _ 215 _ _)
    refine xi_getI (by decide +kernel : decode mX11_throwOnce.2.1 215 = .ok (.getfield 330, 3)) fX11_330 rfl (by omega) rfl (?_ : XW _ _ _ _ _ _ _ 218 _ _)
    refine xi_iconst (v := 1) (by decide +kernel : decode mX11_throwOnce.2.1 218 = .ok (.iconst 1, 1)) (by decide) (?_ : XW _ _ _ _ _ _ _ 219 _ _)
    refine xi_iadd (by decide +kernel : decode mX11_throwOnce.2.1 219 = .ok (.iadd, 1)) (?_ : XW _ _ _ _ _ _ _ 220 _ _)
    refine xi_putI (by decide +kernel : decode mX11_throwOnce.2.1 220 = .ok (.putfield 330, 3)) fX11_330 rfl (by omega) rfl rfl rfl (?_ : XW _ _ _ _ _ _ (xSI 56 (va_up (xI h 56) 34 ((xI h 56 34) + 1)) h) 223 _ _)
    refine xi_aload_n (by decide +kernel : decode mX11_throwOnce.2.1 223 = .ok (.aload_n 0, 1)) rfl rfl (?_ : XW _ _ _ _ _ _ _ 224 _ _)
    refine xi_iload_n (by decide +kernel : decode mX11_throwOnce.2.1 224 = .ok (.iload_n 1, 1)) rfl rfl (?_ : XW _ _ _ _ _ _ _ 225 _ _)
    obtain ⟨Q1, sp, vc⟩ := vc
    refine xi_callV (b := 0) (bs := 0) (As := [.int x1]) (st := []) (by decide +kernel : decode mX11_throwOnce.2.1 225 = .ok (.invokevirtual 376, 3)) kX11_376 rfl rfl (by omega) rfl sp (by decide) (by decide) (Nat.le_of_ble_eq_true rfl) (by omega) (fun v9 h1 hq9 => ?_)
    obtain ⟨e9, vc⟩ := vc v9 h1 hq9
    subst e9
    show XW _ _ _ _ _ _ _ 228 _ []
    refine xi_aload_n (by decide +kernel : decode mX11_throwOnce.2.1 228 = .ok (.aload_n 0, 1)) rfl rfl (?_ : XW _ _ _ _ _ _ _ 229 _ _)
    obtain ⟨s1, vc⟩ := vc
    refine xi_getR (y := 75) (by decide +kernel : decode mX11_throwOnce.2.1 229 = .ok (.getfield 85, 3)) fX11_85 rfl (by omega) rfl s1 (?_ : XW _ _ _ _ _ _ _ 232 _ _)
    refine xi_iload_n (by decide +kernel : decode mX11_throwOnce.2.1 232 = .ok (.iload_n 2, 1)) rfl rfl (?_ : XW _ _ _ _ _ _ _ 233 _ _)
    obtain ⟨s1, vc⟩ := vc
    refine xi_iald (by decide +kernel : decode mX11_throwOnce.2.1 233 = .ok (.iaload, 1)) rfl (by omega) s1 (?_ : XW _ _ _ _ _ _ _ 234 _ _)
    exact xi_iret (by decide +kernel : decode mX11_throwOnce.2.1 234 = .ok (.ireturn, 1)) rfl rfl vc
  · replace vc := vc.2 c
    refine xi_iload_n (by decide +kernel : decode mX11_throwOnce.2.1 154 = .ok (.iload_n 3, 1)) rfl rfl (?_ : XW _ _ _ _ _ _ _ 155 _ _)
    refine xi_if_eq (by decide +kernel : decode mX11_throwOnce.2.1 155 = .ok (.ifCond .eq 58, 3)) (by decide) (fun c => (?_ : XW _ _ _ _ _ _ _ 213 _ _)) (fun c => (?_ : XW _ _ _ _ _ _ _ 158 _ _))
    · replace vc := vc.1 c
      refine xi_aload_n (by decide +kernel : decode mX11_throwOnce.2.1 213 = .ok (.aload_n 0, 1)) rfl rfl (?_ : XW _ _ _ _ _ _ _ 214 _ _)
      refine xi_dup (by decide +kernel : decode mX11_throwOnce.2.1 214 = .ok (.dup, 1)) rfl (?_ : XW _ _ _ _ _ _ _ 215 _ _)
      refine xi_getI (by decide +kernel : decode mX11_throwOnce.2.1 215 = .ok (.getfield 330, 3)) fX11_330 rfl (by omega) rfl (?_ : XW _ _ _ _ _ _ _ 218 _ _)
      refine xi_iconst (v := 1) (by decide +kernel : decode mX11_throwOnce.2.1 218 = .ok (.iconst 1, 1)) (by decide) (?_ : XW _ _ _ _ _ _ _ 219 _ _)
      refine xi_iadd (by decide +kernel : decode mX11_throwOnce.2.1 219 = .ok (.iadd, 1)) (?_ : XW _ _ _ _ _ _ _ 220 _ _)
      refine xi_putI (by decide +kernel : decode mX11_throwOnce.2.1 220 = .ok (.putfield 330, 3)) fX11_330 rfl (by omega) rfl rfl rfl (?_ : XW _ _ _ _ _ _ (xSI 56 (va_up (xI h 56) 34 ((xI h 56 34) + 1)) h) 223 _ _)
      refine xi_aload_n (by decide +kernel : decode mX11_throwOnce.2.1 223 = .ok (.aload_n 0, 1)) rfl rfl (?_ : XW _ _ _ _ _ _ _ 224 _ _)
      refine xi_iload_n (by decide +kernel : decode mX11_throwOnce.2.1 224 = .ok (.iload_n 1, 1)) rfl rfl (?_ : XW _ _ _ _ _ _ _ 225 _ _)
      obtain ⟨Q1, sp, vc⟩ := vc
      refine xi_callV (b := 0) (bs := 0) (As := [.int x1]) (st := []) (by decide +kernel : decode mX11_throwOnce.2.1 225 = .ok (.invokevirtual 376, 3)) kX11_376 rfl rfl (by omega) rfl sp (by decide) (by decide) (Nat.le_of_ble_eq_true rfl) (by omega) (fun v9 h2 hq9 => ?_)
      obtain ⟨e9, vc⟩ := vc v9 h2 hq9
      subst e9
      show XW _ _ _ _ _ _ _ 228 _ []
      refine xi_aload_n (by decide +kernel : decode mX11_throwOnce.2.1 228 = .ok (.aload_n 0, 1)) rfl rfl (?_ : XW _ _ _ _ _ _ _ 229 _ _)
      obtain ⟨s1, vc⟩ := vc
      refine xi_getR (y := 75) (by decide +kernel : decode mX11_throwOnce.2.1 229 = .ok (.getfield 85, 3)) fX11_85 rfl (by omega) rfl s1 (?_ : XW _ _ _ _ _ _ _ 232 _ _)
      refine xi_iload_n (by decide +kernel : decode mX11_throwOnce.2.1 232 = .ok (.iload_n 2, 1)) rfl rfl (?_ : XW _ _ _ _ _ _ _ 233 _ _)
      obtain ⟨s1, vc⟩ := vc
      refine xi_iald (by decide +kernel : decode mX11_throwOnce.2.1 233 = .ok (.iaload, 1)) rfl (by omega) s1 (?_ : XW _ _ _ _ _ _ _ 234 _ _)
      exact xi_iret (by decide +kernel : decode mX11_throwOnce.2.1 234 = .ok (.ireturn, 1)) rfl rfl vc
    · replace vc := vc.2 c
      refine xi_iload (by decide +kernel : decode mX11_throwOnce.2.1 158 = .ok (.iload 4, 2)) rfl (?_ : XW _ _ _ _ _ _ _ 160 _ _)
      refine xi_aload_n (by decide +kernel : decode mX11_throwOnce.2.1 160 = .ok (.aload_n 0, 1)) rfl rfl (?_ : XW _ _ _ _ _ _ _ 161 _ _)
      refine xi_getI (by decide +kernel : decode mX11_throwOnce.2.1 161 = .ok (.getfield 327, 3)) fX11_327 rfl (by omega) rfl (?_ : XW _ _ _ _ _ _ _ 164 _ _)
      refine xi_icmp_eq (by decide +kernel : decode mX11_throwOnce.2.1 164 = .ok (.if_icmp .eq 43, 3)) (by decide) (fun c => (?_ : XW _ _ _ _ _ _ _ 207 _ _)) (fun c => (?_ : XW _ _ _ _ _ _ _ 167 _ _))
      · replace vc := vc.1 c
        refine xi_iinc (v := x4 + 1) (ls' := [some (.ref 56), some (.int x1), some (.int x2), some (.int x3), some (.int (x4 + 1))]) (by decide +kernel : decode mX11_throwOnce.2.1 207 = .ok (.iinc 4 1, 3)) rfl rfl (by decide) rfl (?_ : XW _ _ _ _ _ _ _ 210 _ _)
        refine xi_goto (by decide +kernel : decode mX11_throwOnce.2.1 210 = .ok (.goto (-67), 3)) (by decide) (?_ : XW _ _ _ _ _ _ _ 143 _ _)
        exact vc
      · replace vc := vc.2 c
        refine xi_aload_n (by decide +kernel : decode mX11_throwOnce.2.1 167 = .ok (.aload_n 0, 1)) rfl rfl (?_ : XW _ _ _ _ _ _ _ 168 _ _)
        refine xi_getR (y := 71) (by decide +kernel : decode mX11_throwOnce.2.1 168 = .ok (.getfield 73, 3)) fX11_73 rfl (by omega) rfl (mp_place hM) (?_ : XW _ _ _ _ _ _ _ 171 _ _)
        refine xi_iload (by decide +kernel : decode mX11_throwOnce.2.1 171 = .ok (.iload 4, 2)) rfl (?_ : XW _ _ _ _ _ _ _ 173 _ _)
        obtain ⟨s1, vc⟩ := vc
        refine xi_iald (by decide +kernel : decode mX11_throwOnce.2.1 173 = .ok (.iaload, 1)) rfl (by omega) s1 (?_ : XW _ _ _ _ _ _ _ 174 _ _)
        refine xi_aload_n (by decide +kernel : decode mX11_throwOnce.2.1 174 = .ok (.aload_n 0, 1)) rfl rfl (?_ : XW _ _ _ _ _ _ _ 175 _ _)
        refine xi_getR (y := 75) (by decide +kernel : decode mX11_throwOnce.2.1 175 = .ok (.getfield 85, 3)) fX11_85 rfl (by omega) rfl (mp_rolledTo hM) (?_ : XW _ _ _ _ _ _ _ 178 _ _)
        refine xi_iload_n (by decide +kernel : decode mX11_throwOnce.2.1 178 = .ok (.iload_n 2, 1)) rfl rfl (?_ : XW _ _ _ _ _ _ _ 179 _ _)
        obtain ⟨s1, vc⟩ := vc
        refine xi_iald (by decide +kernel : decode mX11_throwOnce.2.1 179 = .ok (.iaload, 1)) rfl (by omega) s1 (?_ : XW _ _ _ _ _ _ _ 180 _ _)
        refine xi_icmp_eq (by decide +kernel : decode mX11_throwOnce.2.1 180 = .ok (.if_icmp .eq 6, 3)) (by decide) (fun c => (?_ : XW _ _ _ _ _ _ _ 186 _ _)) (fun c => (?_ : XW _ _ _ _ _ _ _ 183 _ _))
        · replace vc := vc.1 c
          refine xi_aload_n (by decide +kernel : decode mX11_throwOnce.2.1 186 = .ok (.aload_n 0, 1)) rfl rfl (?_ : XW _ _ _ _ _ _ _ 187 _ _)
          refine xi_getR (y := 76) (by decide +kernel : decode mX11_throwOnce.2.1 187 = .ok (.getfield 88, 3)) fX11_88 rfl (by omega) rfl (mp_rolledMet hM) (?_ : XW _ _ _ _ _ _ _ 190 _ _)
          refine xi_iload_n (by decide +kernel : decode mX11_throwOnce.2.1 190 = .ok (.iload_n 2, 1)) rfl rfl (?_ : XW _ _ _ _ _ _ _ 191 _ _)
          refine xi_dup2 (by decide +kernel : decode mX11_throwOnce.2.1 191 = .ok (.dup2, 1)) rfl rfl (?_ : XW _ _ _ _ _ _ _ 192 _ _)
          obtain ⟨s1, vc⟩ := vc
          refine xi_iald (by decide +kernel : decode mX11_throwOnce.2.1 192 = .ok (.iaload, 1)) rfl (by omega) s1 (?_ : XW _ _ _ _ _ _ _ 193 _ _)
          refine xi_iconst (v := 1) (by decide +kernel : decode mX11_throwOnce.2.1 193 = .ok (.iconst 1, 1)) (by decide) (?_ : XW _ _ _ _ _ _ _ 194 _ _)
          refine xi_iload (by decide +kernel : decode mX11_throwOnce.2.1 194 = .ok (.iload 4, 2)) rfl (?_ : XW _ _ _ _ _ _ _ 196 _ _)
          refine xi_ishl (by decide +kernel : decode mX11_throwOnce.2.1 196 = .ok (.ishl, 1)) (?_ : XW _ _ _ _ _ _ _ 197 _ _)
          refine xi_ior (by decide +kernel : decode mX11_throwOnce.2.1 197 = .ok (.ior, 1)) (?_ : XW _ _ _ _ _ _ _ 198 _ _)
          obtain ⟨s1, vc⟩ := vc
          refine xi_iast (by decide +kernel : decode mX11_throwOnce.2.1 198 = .ok (.iastore, 1)) rfl (by omega) s1 (?_ : XW _ _ _ _ _ _ (xSI 76 (va_up (xI h 76) x2.toNatClampNeg ((xI h 76 x2.toNatClampNeg) ||| (1 <<< ((x4 : Int32) &&& 31)))) h) 199 _ _)
          refine xi_aload_n (by decide +kernel : decode mX11_throwOnce.2.1 199 = .ok (.aload_n 0, 1)) rfl rfl (?_ : XW _ _ _ _ _ _ _ 200 _ _)
          refine xi_getR (y := 71) (by decide +kernel : decode mX11_throwOnce.2.1 200 = .ok (.getfield 73, 3)) fX11_73 rfl (by omega) rfl (mp_place hM) (?_ : XW _ _ _ _ _ _ _ 203 _ _)
          refine xi_iload (by decide +kernel : decode mX11_throwOnce.2.1 203 = .ok (.iload 4, 2)) rfl (?_ : XW _ _ _ _ _ _ _ 205 _ _)
          refine xi_iconst (v := 0) (by decide +kernel : decode mX11_throwOnce.2.1 205 = .ok (.iconst 0, 1)) (by decide) (?_ : XW _ _ _ _ _ _ _ 206 _ _)
          obtain ⟨s1, vc⟩ := vc
          refine xi_iast (by decide +kernel : decode mX11_throwOnce.2.1 206 = .ok (.iastore, 1)) rfl (by omega) s1 (?_ : XW _ _ _ _ _ _ (xSI 71 (va_up (xI h 71) x4.toNatClampNeg 0) (xSI 76 (va_up (xI h 76) x2.toNatClampNeg ((xI h 76 x2.toNatClampNeg) ||| (1 <<< ((x4 : Int32) &&& 31)))) h)) 207 _ _)
          refine xi_iinc (v := x4 + 1) (ls' := [some (.ref 56), some (.int x1), some (.int x2), some (.int x3), some (.int (x4 + 1))]) (by decide +kernel : decode mX11_throwOnce.2.1 207 = .ok (.iinc 4 1, 3)) rfl rfl (by decide) rfl (?_ : XW _ _ _ _ _ _ _ 210 _ _)
          refine xi_goto (by decide +kernel : decode mX11_throwOnce.2.1 210 = .ok (.goto (-67), 3)) (by decide) (?_ : XW _ _ _ _ _ _ _ 143 _ _)
          exact vc
        · replace vc := vc.2 c
          refine xi_goto (by decide +kernel : decode mX11_throwOnce.2.1 183 = .ok (.goto 24, 3)) (by decide) (?_ : XW _ _ _ _ _ _ _ 207 _ _)
          refine xi_iinc (v := x4 + 1) (ls' := [some (.ref 56), some (.int x1), some (.int x2), some (.int x3), some (.int (x4 + 1))]) (by decide +kernel : decode mX11_throwOnce.2.1 207 = .ok (.iinc 4 1, 3)) rfl rfl (by decide) rfl (?_ : XW _ _ _ _ _ _ _ 210 _ _)
          refine xi_goto (by decide +kernel : decode mX11_throwOnce.2.1 210 = .ok (.goto (-67), 3)) (by decide) (?_ : XW _ _ _ _ _ _ _ 143 _ _)
          exact vc

set_option maxRecDepth 20000 in
theorem v_X11_roll_0 {h : XH} {Q : Option Value → XH → Prop} {X : String → XH → Prop} (hM : xMod (xP h))  (f : Int32)
    (vc : ∃ Q1, XSpec mX11_isFace 2 0 0 100 100 [.int f] (xSI 56 (va_up (xI h 56) 2 0) h) Q1 xno ∧ ∀ v h1, Q1 v h1 → ∃ r1 : Int32, v = some (.int r1) ∧ ((¬ r1 = 0 → ((xI h1 56 34) = 200 → (xP h1 56 9 = some 65) ∧ (Q (some (.int (-1))) (xSI 65 (va_up (xI h1 65) 1 ((xI h1 65 1) + 1)) h1))) ∧ (¬ (xI h1 56 34) = 200 → ∃ Q1, XSpec mX11_isOver 1 0 0 100 100 [.ref 56] h1 Q1 xno ∧ ∀ v h2, Q1 v h2 → ∃ r2 : Int32, v = some (.int r2) ∧ ((r2 = 0 → ∃ Q1, XSpec mX11_tellBoard 5 0 0 100 100 [.ref 56] h2 Q1 xno ∧ ∀ v h3, Q1 v h3 → v = none ∧ (∃ Q1, XSpec mX11_throwOnce 2 0 0 100 100 [.ref 56, .int f] h3 Q1 xno ∧ ∀ v h4, Q1 v h4 → ∃ r4 : Int32, v = some (.int r4) ∧ (Q (some (.int r4)) h4))) ∧ (¬ r2 = 0 → (xP h2 56 9 = some 65) ∧ (Q (some (.int (-1))) (xSI 65 (va_up (xI h2 65) 1 ((xI h2 65 1) + 1)) h2)))))) ∧ (r1 = 0 → ∃ Q1, XSpec mX11_fail 1 0 0 100 100 [.ref 56, .int 1] h1 Q1 xno ∧ ∀ v h5, Q1 v h5 → ∃ r5 : Int32, v = some (.int r5) ∧ (Q (some (.int r5)) h5)))) :
    XW (xrm 6 0 0) mX11_roll (xE 100 Q X 0 0) 100 0 0 h 0 [some (.ref 56), some (.int f)] [] := by
  refine xi_aload_n (by decide +kernel : decode mX11_roll.2.1 0 = .ok (.aload_n 0, 1)) rfl rfl (?_ : XW _ _ _ _ _ _ _ 1 _ _)
  refine xi_iconst (v := 0) (by decide +kernel : decode mX11_roll.2.1 1 = .ok (.iconst 0, 1)) (by decide) (?_ : XW _ _ _ _ _ _ _ 2 _ _)
  refine xi_putI (by decide +kernel : decode mX11_roll.2.1 2 = .ok (.putfield 161, 3)) fX11_161 rfl (by omega) rfl rfl rfl (?_ : XW _ _ _ _ _ _ (xSI 56 (va_up (xI h 56) 2 0) h) 5 _ _)
  refine xi_iload_n (by decide +kernel : decode mX11_roll.2.1 5 = .ok (.iload_n 1, 1)) rfl rfl (?_ : XW _ _ _ _ _ _ _ 6 _ _)
  obtain ⟨Q1, sp, vc⟩ := vc
  refine xi_callS (b := 0) (bs := 0) (As := [.int f]) (st := []) (by decide +kernel : decode mX11_roll.2.1 6 = .ok (.invokestatic 370, 3)) kX11_370 rfl rfl sp (by decide) (by decide) (Nat.le_of_ble_eq_true rfl) (by omega) (fun v9 h1 hq9 => ?_)
  obtain ⟨r1, e9, vc⟩ := vc v9 h1 hq9
  subst e9
  show XW _ _ _ _ _ _ _ 9 _ [.int r1]
  refine xi_if_ne (by decide +kernel : decode mX11_roll.2.1 9 = .ok (.ifCond .ne 9, 3)) (by decide) (fun c => (?_ : XW _ _ _ _ _ _ _ 18 _ _)) (fun c => (?_ : XW _ _ _ _ _ _ _ 12 _ _))
  · replace vc := vc.1 c
    refine xi_aload_n (by decide +kernel : decode mX11_roll.2.1 18 = .ok (.aload_n 0, 1)) rfl rfl (?_ : XW _ _ _ _ _ _ _ 19 _ _)
    refine xi_getI (by decide +kernel : decode mX11_roll.2.1 19 = .ok (.getfield 330, 3)) fX11_330 rfl (by omega) rfl (?_ : XW _ _ _ _ _ _ _ 22 _ _)
    refine xi_sipush (v := 200) (by decide +kernel : decode mX11_roll.2.1 22 = .ok (.sipush 200, 3)) (by decide) (?_ : XW _ _ _ _ _ _ _ 25 _ _)
    refine xi_icmp_eq (by decide +kernel : decode mX11_roll.2.1 25 = .ok (.if_icmp .eq 10, 3)) (by decide) (fun c => (?_ : XW _ _ _ _ _ _ _ 35 _ _)) (fun c => (?_ : XW _ _ _ _ _ _ _ 28 _ _))
    · replace vc := vc.1 c
      refine xi_aload_n (by decide +kernel : decode mX11_roll.2.1 35 = .ok (.aload_n 0, 1)) rfl rfl (?_ : XW _ _ _ _ _ _ _ 36 _ _)
      obtain ⟨s1, vc⟩ := vc
      refine xi_getR (y := 65) (by decide +kernel : decode mX11_roll.2.1 36 = .ok (.getfield 51, 3)) fX11_51 rfl (by omega) rfl s1 (?_ : XW _ _ _ _ _ _ _ 39 _ _)
      refine xi_iconst (v := 1) (by decide +kernel : decode mX11_roll.2.1 39 = .ok (.iconst 1, 1)) (by decide) (?_ : XW _ _ _ _ _ _ _ 40 _ _)
      refine xi_dup2 (by decide +kernel : decode mX11_roll.2.1 40 = .ok (.dup2, 1)) rfl rfl (?_ : XW _ _ _ _ _ _ _ 41 _ _)
      refine xi_iald (by decide +kernel : decode mX11_roll.2.1 41 = .ok (.iaload, 1)) rfl (by omega) (by unfold vp_in; decide) (?_ : XW _ _ _ _ _ _ _ 42 _ [.int (xI h1 65 1), .int 1, .ref 65])
      refine xi_iconst (v := 1) (by decide +kernel : decode mX11_roll.2.1 42 = .ok (.iconst 1, 1)) (by decide) (?_ : XW _ _ _ _ _ _ _ 43 _ _)
      refine xi_iadd (by decide +kernel : decode mX11_roll.2.1 43 = .ok (.iadd, 1)) (?_ : XW _ _ _ _ _ _ _ 44 _ _)
      refine xi_iast (by decide +kernel : decode mX11_roll.2.1 44 = .ok (.iastore, 1)) rfl (by omega) (by unfold vp_in; decide) (?_ : XW _ _ _ _ _ _ (xSI 65 (va_up (xI h1 65) 1 ((xI h1 65 1) + 1)) h1) 45 _ _)
      refine xi_iconst (v := (-1)) (by decide +kernel : decode mX11_roll.2.1 45 = .ok (.iconst (-1), 1)) (by decide) (?_ : XW _ _ _ _ _ _ _ 46 _ _)
      exact xi_iret (by decide +kernel : decode mX11_roll.2.1 46 = .ok (.ireturn, 1)) rfl rfl vc
    · replace vc := vc.2 c
      refine xi_aload_n (by decide +kernel : decode mX11_roll.2.1 28 = .ok (.aload_n 0, 1)) rfl rfl (?_ : XW _ _ _ _ _ _ _ 29 _ _)
      obtain ⟨Q1, sp, vc⟩ := vc
      refine xi_callV (b := 0) (bs := 0) (As := []) (st := []) (by decide +kernel : decode mX11_roll.2.1 29 = .ok (.invokevirtual 363, 3)) kX11_363 rfl rfl (by omega) rfl sp (by decide) (by decide) (Nat.le_of_ble_eq_true rfl) (by omega) (fun v9 h2 hq9 => ?_)
      obtain ⟨r2, e9, vc⟩ := vc v9 h2 hq9
      subst e9
      show XW _ _ _ _ _ _ _ 32 _ [.int r2]
      refine xi_if_eq (by decide +kernel : decode mX11_roll.2.1 32 = .ok (.ifCond .eq 15, 3)) (by decide) (fun c => (?_ : XW _ _ _ _ _ _ _ 47 _ _)) (fun c => (?_ : XW _ _ _ _ _ _ _ 35 _ _))
      · replace vc := vc.1 c
        refine xi_aload_n (by decide +kernel : decode mX11_roll.2.1 47 = .ok (.aload_n 0, 1)) rfl rfl (?_ : XW _ _ _ _ _ _ _ 48 _ _)
        obtain ⟨Q1, sp, vc⟩ := vc
        refine xi_callV (b := 0) (bs := 0) (As := []) (st := []) (by decide +kernel : decode mX11_roll.2.1 48 = .ok (.invokevirtual 373, 3)) kX11_373 rfl rfl (by omega) rfl sp (by decide) (by decide) (Nat.le_of_ble_eq_true rfl) (by omega) (fun v9 h3 hq9 => ?_)
        obtain ⟨e9, vc⟩ := vc v9 h3 hq9
        subst e9
        show XW _ _ _ _ _ _ _ 51 _ []
        refine xi_aload_n (by decide +kernel : decode mX11_roll.2.1 51 = .ok (.aload_n 0, 1)) rfl rfl (?_ : XW _ _ _ _ _ _ _ 52 _ _)
        refine xi_iload_n (by decide +kernel : decode mX11_roll.2.1 52 = .ok (.iload_n 1, 1)) rfl rfl (?_ : XW _ _ _ _ _ _ _ 53 _ _)
        obtain ⟨Q1, sp, vc⟩ := vc
        refine xi_callV (b := 0) (bs := 0) (As := [.int f]) (st := []) (by decide +kernel : decode mX11_roll.2.1 53 = .ok (.invokevirtual 379, 3)) kX11_379 rfl rfl (by omega) rfl sp (by decide) (by decide) (Nat.le_of_ble_eq_true rfl) (by omega) (fun v9 h4 hq9 => ?_)
        obtain ⟨r4, e9, vc⟩ := vc v9 h4 hq9
        subst e9
        show XW _ _ _ _ _ _ _ 56 _ [.int r4]
        exact xi_iret (by decide +kernel : decode mX11_roll.2.1 56 = .ok (.ireturn, 1)) rfl rfl vc
      · replace vc := vc.2 c
        refine xi_aload_n (by decide +kernel : decode mX11_roll.2.1 35 = .ok (.aload_n 0, 1)) rfl rfl (?_ : XW _ _ _ _ _ _ _ 36 _ _)
        obtain ⟨s1, vc⟩ := vc
        refine xi_getR (y := 65) (by decide +kernel : decode mX11_roll.2.1 36 = .ok (.getfield 51, 3)) fX11_51 rfl (by omega) rfl s1 (?_ : XW _ _ _ _ _ _ _ 39 _ _)
        refine xi_iconst (v := 1) (by decide +kernel : decode mX11_roll.2.1 39 = .ok (.iconst 1, 1)) (by decide) (?_ : XW _ _ _ _ _ _ _ 40 _ _)
        refine xi_dup2 (by decide +kernel : decode mX11_roll.2.1 40 = .ok (.dup2, 1)) rfl rfl (?_ : XW _ _ _ _ _ _ _ 41 _ _)
        refine xi_iald (by decide +kernel : decode mX11_roll.2.1 41 = .ok (.iaload, 1)) rfl (by omega) (by unfold vp_in; decide) (?_ : XW _ _ _ _ _ _ _ 42 _ [.int (xI h2 65 1), .int 1, .ref 65])
        refine xi_iconst (v := 1) (by decide +kernel : decode mX11_roll.2.1 42 = .ok (.iconst 1, 1)) (by decide) (?_ : XW _ _ _ _ _ _ _ 43 _ _)
        refine xi_iadd (by decide +kernel : decode mX11_roll.2.1 43 = .ok (.iadd, 1)) (?_ : XW _ _ _ _ _ _ _ 44 _ _)
        refine xi_iast (by decide +kernel : decode mX11_roll.2.1 44 = .ok (.iastore, 1)) rfl (by omega) (by unfold vp_in; decide) (?_ : XW _ _ _ _ _ _ (xSI 65 (va_up (xI h2 65) 1 ((xI h2 65 1) + 1)) h2) 45 _ _)
        refine xi_iconst (v := (-1)) (by decide +kernel : decode mX11_roll.2.1 45 = .ok (.iconst (-1), 1)) (by decide) (?_ : XW _ _ _ _ _ _ _ 46 _ _)
        exact xi_iret (by decide +kernel : decode mX11_roll.2.1 46 = .ok (.ireturn, 1)) rfl rfl vc
  · replace vc := vc.2 c
    refine xi_aload_n (by decide +kernel : decode mX11_roll.2.1 12 = .ok (.aload_n 0, 1)) rfl rfl (?_ : XW _ _ _ _ _ _ _ 13 _ _)
    refine xi_iconst (v := 1) (by decide +kernel : decode mX11_roll.2.1 13 = .ok (.iconst 1, 1)) (by decide) (?_ : XW _ _ _ _ _ _ _ 14 _ _)
    obtain ⟨Q1, sp, vc⟩ := vc
    refine xi_callV (b := 0) (bs := 0) (As := [.int 1]) (st := []) (by decide +kernel : decode mX11_roll.2.1 14 = .ok (.invokevirtual 311, 3)) kX11_311 rfl rfl (by omega) rfl sp (by decide) (by decide) (Nat.le_of_ble_eq_true rfl) (by omega) (fun v9 h5 hq9 => ?_)
    obtain ⟨r5, e9, vc⟩ := vc v9 h5 hq9
    subst e9
    show XW _ _ _ _ _ _ _ 17 _ [.int r5]
    exact xi_iret (by decide +kernel : decode mX11_roll.2.1 17 = .ok (.ireturn, 1)) rfl rfl vc

set_option maxRecDepth 20000 in
theorem v_X11_drawOf_0 {h : XH} {Q : Option Value → XH → Prop} {X : String → XH → Prop} (hM : xMod (xP h))  (m : Int32)
    (vc : (¬ m = 0) ∧ (Q (some (.int ((((va_up (xI h 56) 35 (((xI h 56 35) * 1103515245) + 12345) 35) >>> ((16 : Int32) &&& 31)) &&& 32767) - (((va_up (xI h 56) 35 (((xI h 56 35) * 1103515245) + 12345) 35) >>> ((16 : Int32) &&& 31)) &&& 32767) / m * m))) (xSI 56 (va_up (xI h 56) 35 (((xI h 56 35) * 1103515245) + 12345)) h))) :
    XW (xrm 1 0 0) mX11_drawOf (xE 100 Q X 0 0) 100 0 0 h 0 [some (.ref 56), some (.int m)] [] := by
  refine xi_aload_n (by decide +kernel : decode mX11_drawOf.2.1 0 = .ok (.aload_n 0, 1)) rfl rfl (?_ : XW _ _ _ _ _ _ _ 1 _ _)
  refine xi_aload_n (by decide +kernel : decode mX11_drawOf.2.1 1 = .ok (.aload_n 0, 1)) rfl rfl (?_ : XW _ _ _ _ _ _ _ 2 _ _)
  refine xi_getI (by decide +kernel : decode mX11_drawOf.2.1 2 = .ok (.getfield 382, 3)) fX11_382 rfl (by omega) rfl (?_ : XW _ _ _ _ _ _ _ 5 _ _)
  refine xi_ldcw (v := 1103515245) (by decide +kernel : decode mX11_drawOf.2.1 5 = .ok (.ldc_w 385, 3)) cK_X11_385 (?_ : XW _ _ _ _ _ _ _ 8 _ _)
  refine xi_imul (by decide +kernel : decode mX11_drawOf.2.1 8 = .ok (.imul, 1)) (?_ : XW _ _ _ _ _ _ _ 9 _ _)
  refine xi_sipush (v := 12345) (by decide +kernel : decode mX11_drawOf.2.1 9 = .ok (.sipush 12345, 3)) (by decide) (?_ : XW _ _ _ _ _ _ _ 12 _ _)
  refine xi_iadd (by decide +kernel : decode mX11_drawOf.2.1 12 = .ok (.iadd, 1)) (?_ : XW _ _ _ _ _ _ _ 13 _ _)
  refine xi_putI (by decide +kernel : decode mX11_drawOf.2.1 13 = .ok (.putfield 382, 3)) fX11_382 rfl (by omega) rfl rfl rfl (?_ : XW _ _ _ _ _ _ (xSI 56 (va_up (xI h 56) 35 (((xI h 56 35) * 1103515245) + 12345)) h) 16 _ _)
  refine xi_aload_n (by decide +kernel : decode mX11_drawOf.2.1 16 = .ok (.aload_n 0, 1)) rfl rfl (?_ : XW _ _ _ _ _ _ _ 17 _ _)
  refine xi_getI (by decide +kernel : decode mX11_drawOf.2.1 17 = .ok (.getfield 382, 3)) fX11_382 rfl (by omega) rfl (?_ : XW _ _ _ _ _ _ _ 20 _ [.int (va_up (xI h 56) 35 (((xI h 56 35) * 1103515245) + 12345) 35)])
  refine xi_bipush (v := 16) (by decide +kernel : decode mX11_drawOf.2.1 20 = .ok (.bipush 16, 2)) (by decide) (?_ : XW _ _ _ _ _ _ _ 22 _ _)
  refine xi_ishr (by decide +kernel : decode mX11_drawOf.2.1 22 = .ok (.ishr, 1)) (?_ : XW _ _ _ _ _ _ _ 23 _ _)
  refine xi_sipush (v := 32767) (by decide +kernel : decode mX11_drawOf.2.1 23 = .ok (.sipush 32767, 3)) (by decide) (?_ : XW _ _ _ _ _ _ _ 26 _ _)
  refine xi_iand (by decide +kernel : decode mX11_drawOf.2.1 26 = .ok (.iand, 1)) (?_ : XW _ _ _ _ _ _ _ 27 _ _)
  refine xi_iload_n (by decide +kernel : decode mX11_drawOf.2.1 27 = .ok (.iload_n 1, 1)) rfl rfl (?_ : XW _ _ _ _ _ _ _ 28 _ _)
  obtain ⟨s1, vc⟩ := vc
  refine xi_irem (by decide +kernel : decode mX11_drawOf.2.1 28 = .ok (.irem, 1)) s1 (?_ : XW _ _ _ _ _ _ _ 29 _ _)
  exact xi_iret (by decide +kernel : decode mX11_drawOf.2.1 29 = .ok (.ireturn, 1)) rfl rfl vc

set_option maxRecDepth 20000 in
theorem v_X11_rolls_0 {h : XH} {Q : Option Value → XH → Prop} {X : String → XH → Prop} (hM : xMod (xP h))  (q : Int32) (m : Int32)
    (vc : ∃ Q1, XSpec mX11_isIn 1 0 0 100 100 [.long (Int32.toInt64 m), .long 0, .long 200] (xSI 56 (va_up (xI h 56) 2 0) h) Q1 xno ∧ ∀ v h1, Q1 v h1 → ∃ r1 : Int32, v = some (.int r1) ∧ ((¬ r1 = 0 → ∃ Q1, XSpec mX11_tellBoard 5 0 0 100 100 [.ref 56] h1 Q1 xno ∧ ∀ v h2, Q1 v h2 → v = none ∧ (XW (xrm 6 0 0) mX11_rolls (xE 100 Q X 0 0) 100 0 0 (xSI 56 (va_up (xI h2 56) 35 q) h2) 34 [some (.ref 56), none, some (.int m), some (.int 0), none, none] [])) ∧ (r1 = 0 → ∃ Q1, XSpec mX11_fail 1 0 0 100 100 [.ref 56, .int 1] h1 Q1 xno ∧ ∀ v h3, Q1 v h3 → ∃ r3 : Int32, v = some (.int r3) ∧ (Q (some (.int r3)) h3)))) :
    XW (xrm 6 0 0) mX11_rolls (xE 100 Q X 0 0) 100 0 0 h 0 [some (.ref 56), some (.int q), some (.int m), none, none, none] [] := by
  refine xi_aload_n (by decide +kernel : decode mX11_rolls.2.1 0 = .ok (.aload_n 0, 1)) rfl rfl (?_ : XW _ _ _ _ _ _ _ 1 _ _)
  refine xi_iconst (v := 0) (by decide +kernel : decode mX11_rolls.2.1 1 = .ok (.iconst 0, 1)) (by decide) (?_ : XW _ _ _ _ _ _ _ 2 _ _)
  refine xi_putI (by decide +kernel : decode mX11_rolls.2.1 2 = .ok (.putfield 161, 3)) fX11_161 rfl (by omega) rfl rfl rfl (?_ : XW _ _ _ _ _ _ (xSI 56 (va_up (xI h 56) 2 0) h) 5 _ _)
  refine xi_iload_n (by decide +kernel : decode mX11_rolls.2.1 5 = .ok (.iload_n 2, 1)) rfl rfl (?_ : XW _ _ _ _ _ _ _ 6 _ _)
  refine xi_i2l (by decide +kernel : decode mX11_rolls.2.1 6 = .ok (.i2l, 1)) (?_ : XW _ _ _ _ _ _ _ 7 _ _)
  refine xi_lconst (v := 0) (by decide +kernel : decode mX11_rolls.2.1 7 = .ok (.lconst 0, 1)) (by decide) (?_ : XW _ _ _ _ _ _ _ 8 _ _)
  refine xi_ldc2 (v := 200) (by decide +kernel : decode mX11_rolls.2.1 8 = .ok (.ldc2_w 386, 3)) cK_X11_386 (?_ : XW _ _ _ _ _ _ _ 11 _ _)
  obtain ⟨Q1, sp, vc⟩ := vc
  refine xi_callS (b := 0) (bs := 0) (As := [.long (Int32.toInt64 m), .long 0, .long 200]) (st := []) (by decide +kernel : decode mX11_rolls.2.1 11 = .ok (.invokestatic 164, 3)) kX11_164 rfl rfl sp (by decide) (by decide) (Nat.le_of_ble_eq_true rfl) (by omega) (fun v9 h1 hq9 => ?_)
  obtain ⟨r1, e9, vc⟩ := vc v9 h1 hq9
  subst e9
  show XW _ _ _ _ _ _ _ 14 _ [.int r1]
  refine xi_if_ne (by decide +kernel : decode mX11_rolls.2.1 14 = .ok (.ifCond .ne 9, 3)) (by decide) (fun c => (?_ : XW _ _ _ _ _ _ _ 23 _ _)) (fun c => (?_ : XW _ _ _ _ _ _ _ 17 _ _))
  · replace vc := vc.1 c
    refine xi_aload_n (by decide +kernel : decode mX11_rolls.2.1 23 = .ok (.aload_n 0, 1)) rfl rfl (?_ : XW _ _ _ _ _ _ _ 24 _ _)
    obtain ⟨Q1, sp, vc⟩ := vc
    refine xi_callV (b := 0) (bs := 0) (As := []) (st := []) (by decide +kernel : decode mX11_rolls.2.1 24 = .ok (.invokevirtual 373, 3)) kX11_373 rfl rfl (by omega) rfl sp (by decide) (by decide) (Nat.le_of_ble_eq_true rfl) (by omega) (fun v9 h2 hq9 => ?_)
    obtain ⟨e9, vc⟩ := vc v9 h2 hq9
    subst e9
    show XW _ _ _ _ _ _ _ 27 _ []
    refine xi_aload_n (by decide +kernel : decode mX11_rolls.2.1 27 = .ok (.aload_n 0, 1)) rfl rfl (?_ : XW _ _ _ _ _ _ _ 28 _ _)
    refine xi_iload_n (by decide +kernel : decode mX11_rolls.2.1 28 = .ok (.iload_n 1, 1)) rfl rfl (?_ : XW _ _ _ _ _ _ _ 29 _ _)
    refine xi_putI (by decide +kernel : decode mX11_rolls.2.1 29 = .ok (.putfield 382, 3)) fX11_382 rfl (by omega) rfl rfl rfl (?_ : XW _ _ _ _ _ _ (xSI 56 (va_up (xI h2 56) 35 q) h2) 32 _ _)
    refine xi_iconst (v := 0) (by decide +kernel : decode mX11_rolls.2.1 32 = .ok (.iconst 0, 1)) (by decide) (?_ : XW _ _ _ _ _ _ _ 33 _ _)
    refine xi_istore_n (ls' := [some (.ref 56), some (.int q), some (.int m), some (.int 0), none, none]) (by decide +kernel : decode mX11_rolls.2.1 33 = .ok (.istore_n 3, 1)) rfl (by decide) rfl (?_ : XW _ _ _ _ _ _ _ 34 _ _)
    refine xw_drop 1 (ls' := [some (.ref 56), none, some (.int m), some (.int 0), none, none]) rfl ?_
    exact vc
  · replace vc := vc.2 c
    refine xi_aload_n (by decide +kernel : decode mX11_rolls.2.1 17 = .ok (.aload_n 0, 1)) rfl rfl (?_ : XW _ _ _ _ _ _ _ 18 _ _)
    refine xi_iconst (v := 1) (by decide +kernel : decode mX11_rolls.2.1 18 = .ok (.iconst 1, 1)) (by decide) (?_ : XW _ _ _ _ _ _ _ 19 _ _)
    obtain ⟨Q1, sp, vc⟩ := vc
    refine xi_callV (b := 0) (bs := 0) (As := [.int 1]) (st := []) (by decide +kernel : decode mX11_rolls.2.1 19 = .ok (.invokevirtual 311, 3)) kX11_311 rfl rfl (by omega) rfl sp (by decide) (by decide) (Nat.le_of_ble_eq_true rfl) (by omega) (fun v9 h3 hq9 => ?_)
    obtain ⟨r3, e9, vc⟩ := vc v9 h3 hq9
    subst e9
    show XW _ _ _ _ _ _ _ 22 _ [.int r3]
    exact xi_iret (by decide +kernel : decode mX11_rolls.2.1 22 = .ok (.ireturn, 1)) rfl rfl vc

set_option maxRecDepth 20000 in
theorem v_X11_rolls_34 {h : XH} {Q : Option Value → XH → Prop} {X : String → XH → Prop} (hM : xMod (xP h))  (x2 : Int32) (x3 : Int32)
    (vc : (x2 ≤ x3 → Q (some (.int x3)) h) ∧ (¬ x2 ≤ x3 → (200 ≤ (xI h 56 34) → Q (some (.int x3)) h) ∧ (¬ 200 ≤ (xI h 56 34) → ∃ Q1, XSpec mX11_isOver 1 0 0 100 100 [.ref 56] h Q1 xno ∧ ∀ v h4, Q1 v h4 → ∃ r4 : Int32, v = some (.int r4) ∧ ((¬ r4 = 0 → Q (some (.int x3)) h4) ∧ (r4 = 0 → ∃ Q1, XSpec mX11_allOdds 1 0 0 100 100 [.ref 56] h4 Q1 xno ∧ ∀ v h5, Q1 v h5 → ∃ r5 : Int32, v = some (.int r5) ∧ (∃ Q1, XSpec mX11_drawOf 1 0 0 100 100 [.ref 56, .int r5] h5 Q1 xno ∧ ∀ v h6, Q1 v h6 → ∃ r6 : Int32, v = some (.int r6) ∧ (XW (xrm 6 0 0) mX11_rolls (xE 100 Q X 0 0) 100 0 0 h6 69 [some (.ref 56), none, some (.int x2), some (.int x3), some (.int r6), some (.int 0)] []))))))) :
    XW (xrm 6 0 0) mX11_rolls (xE 100 Q X 0 0) 100 0 0 h 34 [some (.ref 56), none, some (.int x2), some (.int x3), none, none] [] := by
  refine xi_iload_n (by decide +kernel : decode mX11_rolls.2.1 34 = .ok (.iload_n 3, 1)) rfl rfl (?_ : XW _ _ _ _ _ _ _ 35 _ _)
  refine xi_iload_n (by decide +kernel : decode mX11_rolls.2.1 35 = .ok (.iload_n 2, 1)) rfl rfl (?_ : XW _ _ _ _ _ _ _ 36 _ _)
  refine xi_icmp_ge (by decide +kernel : decode mX11_rolls.2.1 36 = .ok (.if_icmp .ge 78, 3)) (by decide) (fun c => (?_ : XW _ _ _ _ _ _ _ 114 _ _)) (fun c => (?_ : XW _ _ _ _ _ _ _ 39 _ _))
  · replace vc := vc.1 c
    refine xi_iload_n (by decide +kernel : decode mX11_rolls.2.1 114 = .ok (.iload_n 3, 1)) rfl rfl (?_ : XW _ _ _ _ _ _ _ 115 _ _)
    exact xi_iret (by decide +kernel : decode mX11_rolls.2.1 115 = .ok (.ireturn, 1)) rfl rfl vc
  · replace vc := vc.2 c
    refine xi_aload_n (by decide +kernel : decode mX11_rolls.2.1 39 = .ok (.aload_n 0, 1)) rfl rfl (?_ : XW _ _ _ _ _ _ _ 40 _ _)
    refine xi_getI (by decide +kernel : decode mX11_rolls.2.1 40 = .ok (.getfield 330, 3)) fX11_330 rfl (by omega) rfl (?_ : XW _ _ _ _ _ _ _ 43 _ _)
    refine xi_sipush (v := 200) (by decide +kernel : decode mX11_rolls.2.1 43 = .ok (.sipush 200, 3)) (by decide) (?_ : XW _ _ _ _ _ _ _ 46 _ _)
    refine xi_icmp_ge (by decide +kernel : decode mX11_rolls.2.1 46 = .ok (.if_icmp .ge 68, 3)) (by decide) (fun c => (?_ : XW _ _ _ _ _ _ _ 114 _ _)) (fun c => (?_ : XW _ _ _ _ _ _ _ 49 _ _))
    · replace vc := vc.1 c
      refine xi_iload_n (by decide +kernel : decode mX11_rolls.2.1 114 = .ok (.iload_n 3, 1)) rfl rfl (?_ : XW _ _ _ _ _ _ _ 115 _ _)
      exact xi_iret (by decide +kernel : decode mX11_rolls.2.1 115 = .ok (.ireturn, 1)) rfl rfl vc
    · replace vc := vc.2 c
      refine xi_aload_n (by decide +kernel : decode mX11_rolls.2.1 49 = .ok (.aload_n 0, 1)) rfl rfl (?_ : XW _ _ _ _ _ _ _ 50 _ _)
      obtain ⟨Q1, sp, vc⟩ := vc
      refine xi_callV (b := 0) (bs := 0) (As := []) (st := []) (by decide +kernel : decode mX11_rolls.2.1 50 = .ok (.invokevirtual 363, 3)) kX11_363 rfl rfl (by omega) rfl sp (by decide) (by decide) (Nat.le_of_ble_eq_true rfl) (by omega) (fun v9 h4 hq9 => ?_)
      obtain ⟨r4, e9, vc⟩ := vc v9 h4 hq9
      subst e9
      show XW _ _ _ _ _ _ _ 53 _ [.int r4]
      refine xi_if_ne (by decide +kernel : decode mX11_rolls.2.1 53 = .ok (.ifCond .ne 61, 3)) (by decide) (fun c => (?_ : XW _ _ _ _ _ _ _ 114 _ _)) (fun c => (?_ : XW _ _ _ _ _ _ _ 56 _ _))
      · replace vc := vc.1 c
        refine xi_iload_n (by decide +kernel : decode mX11_rolls.2.1 114 = .ok (.iload_n 3, 1)) rfl rfl (?_ : XW _ _ _ _ _ _ _ 115 _ _)
        exact xi_iret (by decide +kernel : decode mX11_rolls.2.1 115 = .ok (.ireturn, 1)) rfl rfl vc
      · replace vc := vc.2 c
        refine xi_aload_n (by decide +kernel : decode mX11_rolls.2.1 56 = .ok (.aload_n 0, 1)) rfl rfl (?_ : XW _ _ _ _ _ _ _ 57 _ _)
        refine xi_aload_n (by decide +kernel : decode mX11_rolls.2.1 57 = .ok (.aload_n 0, 1)) rfl rfl (?_ : XW _ _ _ _ _ _ _ 58 _ _)
        obtain ⟨Q1, sp, vc⟩ := vc
        refine xi_callV (b := 0) (bs := 0) (As := []) (st := [.ref 56]) (by decide +kernel : decode mX11_rolls.2.1 58 = .ok (.invokevirtual 388, 3)) kX11_388 rfl rfl (by omega) rfl sp (by decide) (by decide) (Nat.le_of_ble_eq_true rfl) (by omega) (fun v9 h5 hq9 => ?_)
        obtain ⟨r5, e9, vc⟩ := vc v9 h5 hq9
        subst e9
        show XW _ _ _ _ _ _ _ 61 _ [.int r5, .ref 56]
        obtain ⟨Q1, sp, vc⟩ := vc
        refine xi_callV (b := 0) (bs := 0) (As := [.int r5]) (st := []) (by decide +kernel : decode mX11_rolls.2.1 61 = .ok (.invokevirtual 391, 3)) kX11_391 rfl rfl (by omega) rfl sp (by decide) (by decide) (Nat.le_of_ble_eq_true rfl) (by omega) (fun v9 h6 hq9 => ?_)
        obtain ⟨r6, e9, vc⟩ := vc v9 h6 hq9
        subst e9
        show XW _ _ _ _ _ _ _ 64 _ [.int r6]
        refine xi_istore (ls' := [some (.ref 56), none, some (.int x2), some (.int x3), some (.int r6), none]) (by decide +kernel : decode mX11_rolls.2.1 64 = .ok (.istore 4, 2)) (by decide) rfl (?_ : XW _ _ _ _ _ _ _ 66 _ _)
        refine xi_iconst (v := 0) (by decide +kernel : decode mX11_rolls.2.1 66 = .ok (.iconst 0, 1)) (by decide) (?_ : XW _ _ _ _ _ _ _ 67 _ _)
        refine xi_istore (ls' := [some (.ref 56), none, some (.int x2), some (.int x3), some (.int r6), some (.int 0)]) (by decide +kernel : decode mX11_rolls.2.1 67 = .ok (.istore 5, 2)) (by decide) rfl (?_ : XW _ _ _ _ _ _ _ 69 _ _)
        exact vc

set_option maxRecDepth 20000 in
theorem v_X11_rolls_69 {h : XH} {Q : Option Value → XH → Prop} {X : String → XH → Prop} (hM : xMod (xP h))  (x2 : Int32) (x3 : Int32) (x4 : Int32) (x5 : Int32)
    (vc : (vp_in x5 12) ∧ ((x4 < (xI h 60 x5.toNatClampNeg) → ∃ Q1, XSpec mX11_throwOnce 2 0 0 100 100 [.ref 56, .int (x5 + 1)] h Q1 xno ∧ ∀ v h7, Q1 v h7 → ∃ r7 : Int32, v = some (.int r7) ∧ (XW (xrm 6 0 0) mX11_rolls (xE 100 Q X 0 0) 100 0 0 h7 34 [some (.ref 56), none, some (.int x2), some (.int (x3 + 1)), none, none] [])) ∧ (¬ x4 < (xI h 60 x5.toNatClampNeg) → (vp_in x5 12) ∧ (XW (xrm 6 0 0) mX11_rolls (xE 100 Q X 0 0) 100 0 0 h 69 [some (.ref 56), none, some (.int x2), some (.int x3), some (.int (x4 - (xI h 60 x5.toNatClampNeg))), some (.int (x5 + 1))] [])))) :
    XW (xrm 6 0 0) mX11_rolls (xE 100 Q X 0 0) 100 0 0 h 69 [some (.ref 56), none, some (.int x2), some (.int x3), some (.int x4), some (.int x5)] [] := by
  refine xi_iload (by decide +kernel : decode mX11_rolls.2.1 69 = .ok (.iload 4, 2)) rfl (?_ : XW _ _ _ _ _ _ _ 71 _ _)
  refine xi_aload_n (by decide +kernel : decode mX11_rolls.2.1 71 = .ok (.aload_n 0, 1)) rfl rfl (?_ : XW _ _ _ _ _ _ _ 72 _ _)
  refine xi_getR (y := 60) (by decide +kernel : decode mX11_rolls.2.1 72 = .ok (.getfield 36, 3)) fX11_36 rfl (by omega) rfl (mp_die hM) (?_ : XW _ _ _ _ _ _ _ 75 _ _)
  refine xi_iload (by decide +kernel : decode mX11_rolls.2.1 75 = .ok (.iload 5, 2)) rfl (?_ : XW _ _ _ _ _ _ _ 77 _ _)
  obtain ⟨s1, vc⟩ := vc
  refine xi_iald (by decide +kernel : decode mX11_rolls.2.1 77 = .ok (.iaload, 1)) rfl (by omega) s1 (?_ : XW _ _ _ _ _ _ _ 78 _ _)
  refine xi_icmp_lt (by decide +kernel : decode mX11_rolls.2.1 78 = .ok (.if_icmp .lt 21, 3)) (by decide) (fun c => (?_ : XW _ _ _ _ _ _ _ 99 _ _)) (fun c => (?_ : XW _ _ _ _ _ _ _ 81 _ _))
  · replace vc := vc.1 c
    refine xi_aload_n (by decide +kernel : decode mX11_rolls.2.1 99 = .ok (.aload_n 0, 1)) rfl rfl (?_ : XW _ _ _ _ _ _ _ 100 _ _)
    refine xi_iload (by decide +kernel : decode mX11_rolls.2.1 100 = .ok (.iload 5, 2)) rfl (?_ : XW _ _ _ _ _ _ _ 102 _ _)
    refine xi_iconst (v := 1) (by decide +kernel : decode mX11_rolls.2.1 102 = .ok (.iconst 1, 1)) (by decide) (?_ : XW _ _ _ _ _ _ _ 103 _ _)
    refine xi_iadd (by decide +kernel : decode mX11_rolls.2.1 103 = .ok (.iadd, 1)) (?_ : XW _ _ _ _ _ _ _ 104 _ _)
    obtain ⟨Q1, sp, vc⟩ := vc
    refine xi_callV (b := 0) (bs := 0) (As := [.int (x5 + 1)]) (st := []) (by decide +kernel : decode mX11_rolls.2.1 104 = .ok (.invokevirtual 379, 3)) kX11_379 rfl rfl (by omega) rfl sp (by decide) (by decide) (Nat.le_of_ble_eq_true rfl) (by omega) (fun v9 h7 hq9 => ?_)
    obtain ⟨r7, e9, vc⟩ := vc v9 h7 hq9
    subst e9
    show XW _ _ _ _ _ _ _ 107 _ [.int r7]
    refine xi_pop (by decide +kernel : decode mX11_rolls.2.1 107 = .ok (.pop, 1)) rfl (?_ : XW _ _ _ _ _ _ _ 108 _ _)
    refine xi_iinc (v := x3 + 1) (ls' := [some (.ref 56), none, some (.int x2), some (.int (x3 + 1)), some (.int x4), some (.int x5)]) (by decide +kernel : decode mX11_rolls.2.1 108 = .ok (.iinc 3 1, 3)) rfl rfl (by decide) rfl (?_ : XW _ _ _ _ _ _ _ 111 _ _)
    refine xi_goto (by decide +kernel : decode mX11_rolls.2.1 111 = .ok (.goto (-77), 3)) (by decide) (?_ : XW _ _ _ _ _ _ _ 34 _ _)
    refine xw_drop 4 (ls' := [some (.ref 56), none, some (.int x2), some (.int (x3 + 1)), none, some (.int x5)]) rfl ?_
    refine xw_drop 5 (ls' := [some (.ref 56), none, some (.int x2), some (.int (x3 + 1)), none, none]) rfl ?_
    exact vc
  · replace vc := vc.2 c
    refine xi_iload (by decide +kernel : decode mX11_rolls.2.1 81 = .ok (.iload 4, 2)) rfl (?_ : XW _ _ _ _ _ _ _ 83 _ _)
    refine xi_aload_n (by decide +kernel : decode mX11_rolls.2.1 83 = .ok (.aload_n 0, 1)) rfl rfl (?_ : XW _ _ _ _ _ _ _ 84 _ _)
    refine xi_getR (y := 60) (by decide +kernel : decode mX11_rolls.2.1 84 = .ok (.getfield 36, 3)) fX11_36 rfl (by omega) rfl (mp_die hM) (?_ : XW _ _ _ _ _ _ _ 87 _ _)
    refine xi_iload (by decide +kernel : decode mX11_rolls.2.1 87 = .ok (.iload 5, 2)) rfl (?_ : XW _ _ _ _ _ _ _ 89 _ _)
    obtain ⟨s1, vc⟩ := vc
    refine xi_iald (by decide +kernel : decode mX11_rolls.2.1 89 = .ok (.iaload, 1)) rfl (by omega) s1 (?_ : XW _ _ _ _ _ _ _ 90 _ _)
    refine xi_isub (by decide +kernel : decode mX11_rolls.2.1 90 = .ok (.isub, 1)) (?_ : XW _ _ _ _ _ _ _ 91 _ _)
    refine xi_istore (ls' := [some (.ref 56), none, some (.int x2), some (.int x3), some (.int (x4 - (xI h 60 x5.toNatClampNeg))), some (.int x5)]) (by decide +kernel : decode mX11_rolls.2.1 91 = .ok (.istore 4, 2)) (by decide) rfl (?_ : XW _ _ _ _ _ _ _ 93 _ _)
    refine xi_iinc (v := x5 + 1) (ls' := [some (.ref 56), none, some (.int x2), some (.int x3), some (.int (x4 - (xI h 60 x5.toNatClampNeg))), some (.int (x5 + 1))]) (by decide +kernel : decode mX11_rolls.2.1 93 = .ok (.iinc 5 1, 3)) rfl rfl (by decide) rfl (?_ : XW _ _ _ _ _ _ _ 96 _ _)
    refine xi_goto (by decide +kernel : decode mX11_rolls.2.1 96 = .ok (.goto (-27), 3)) (by decide) (?_ : XW _ _ _ _ _ _ _ 69 _ _)
    exact vc

set_option maxRecDepth 20000 in
theorem v_X11_undo_0 {h : XH} {Q : Option Value → XH → Prop} {X : String → XH → Prop} (hM : xMod (xP h)) 
    (vc : (¬ (va_up (xI h 56) 2 0 34) = 0 → XW (xrm 1 0 0) mX11_undo (xE 100 Q X 0 0) 100 0 0 (xSI 56 (va_up (va_up (xI h 56) 2 0) 34 ((va_up (xI h 56) 2 0 34) - 1)) (xSI 56 (va_up (xI h 56) 2 0) h)) 31 [some (.ref 56), some (.int (va_up (va_up (xI h 56) 2 0) 34 ((va_up (xI h 56) 2 0 34) - 1) 34)), some (.int 0)] []) ∧ ((va_up (xI h 56) 2 0 34) = 0 → Q (some (.int (-1))) (xSI 56 (va_up (xI h 56) 2 0) h))) :
    XW (xrm 1 0 0) mX11_undo (xE 100 Q X 0 0) 100 0 0 h 0 [some (.ref 56), none, none] [] := by
  refine xi_aload_n (by decide +kernel : decode mX11_undo.2.1 0 = .ok (.aload_n 0, 1)) rfl rfl (?_ : XW _ _ _ _ _ _ _ 1 _ _)
  refine xi_iconst (v := 0) (by decide +kernel : decode mX11_undo.2.1 1 = .ok (.iconst 0, 1)) (by decide) (?_ : XW _ _ _ _ _ _ _ 2 _ _)
  refine xi_putI (by decide +kernel : decode mX11_undo.2.1 2 = .ok (.putfield 161, 3)) fX11_161 rfl (by omega) rfl rfl rfl (?_ : XW _ _ _ _ _ _ (xSI 56 (va_up (xI h 56) 2 0) h) 5 _ _)
  refine xi_aload_n (by decide +kernel : decode mX11_undo.2.1 5 = .ok (.aload_n 0, 1)) rfl rfl (?_ : XW _ _ _ _ _ _ _ 6 _ _)
  refine xi_getI (by decide +kernel : decode mX11_undo.2.1 6 = .ok (.getfield 330, 3)) fX11_330 rfl (by omega) rfl (?_ : XW _ _ _ _ _ _ _ 9 _ [.int (va_up (xI h 56) 2 0 34)])
  refine xi_if_ne (by decide +kernel : decode mX11_undo.2.1 9 = .ok (.ifCond .ne 5, 3)) (by decide) (fun c => (?_ : XW _ _ _ _ _ _ _ 14 _ _)) (fun c => (?_ : XW _ _ _ _ _ _ _ 12 _ _))
  · replace vc := vc.1 c
    refine xi_aload_n (by decide +kernel : decode mX11_undo.2.1 14 = .ok (.aload_n 0, 1)) rfl rfl (?_ : XW _ _ _ _ _ _ _ 15 _ _)
    refine xi_dup (by decide +kernel : decode mX11_undo.2.1 15 = .ok (.dup, 1)) rfl (?_ : XW _ _ _ _ _ _ _ 16 _ _)
    refine xi_getI (by decide +kernel : decode mX11_undo.2.1 16 = .ok (.getfield 330, 3)) fX11_330 rfl (by omega) rfl (?_ : XW _ _ _ _ _ _ _ 19 _ [.int (va_up (xI h 56) 2 0 34), .ref 56])
    refine xi_iconst (v := 1) (by decide +kernel : decode mX11_undo.2.1 19 = .ok (.iconst 1, 1)) (by decide) (?_ : XW _ _ _ _ _ _ _ 20 _ _)
    refine xi_isub (by decide +kernel : decode mX11_undo.2.1 20 = .ok (.isub, 1)) (?_ : XW _ _ _ _ _ _ _ 21 _ _)
    refine xi_putI (by decide +kernel : decode mX11_undo.2.1 21 = .ok (.putfield 330, 3)) fX11_330 rfl (by omega) rfl rfl rfl (?_ : XW _ _ _ _ _ _ (xSI 56 (va_up (va_up (xI h 56) 2 0) 34 ((va_up (xI h 56) 2 0 34) - 1)) (xSI 56 (va_up (xI h 56) 2 0) h)) 24 _ _)
    refine xi_aload_n (by decide +kernel : decode mX11_undo.2.1 24 = .ok (.aload_n 0, 1)) rfl rfl (?_ : XW _ _ _ _ _ _ _ 25 _ _)
    refine xi_getI (by decide +kernel : decode mX11_undo.2.1 25 = .ok (.getfield 330, 3)) fX11_330 rfl (by omega) rfl (?_ : XW _ _ _ _ _ _ _ 28 _ [.int (va_up (va_up (xI h 56) 2 0) 34 ((va_up (xI h 56) 2 0 34) - 1) 34)])
    refine xi_istore_n (ls' := [some (.ref 56), some (.int (va_up (va_up (xI h 56) 2 0) 34 ((va_up (xI h 56) 2 0 34) - 1) 34)), none]) (by decide +kernel : decode mX11_undo.2.1 28 = .ok (.istore_n 1, 1)) rfl (by decide) rfl (?_ : XW _ _ _ _ _ _ _ 29 _ _)
    refine xi_iconst (v := 0) (by decide +kernel : decode mX11_undo.2.1 29 = .ok (.iconst 0, 1)) (by decide) (?_ : XW _ _ _ _ _ _ _ 30 _ _)
    refine xi_istore_n (ls' := [some (.ref 56), some (.int (va_up (va_up (xI h 56) 2 0) 34 ((va_up (xI h 56) 2 0 34) - 1) 34)), some (.int 0)]) (by decide +kernel : decode mX11_undo.2.1 30 = .ok (.istore_n 2, 1)) rfl (by decide) rfl (?_ : XW _ _ _ _ _ _ _ 31 _ _)
    exact vc
  · replace vc := vc.2 c
    refine xi_iconst (v := (-1)) (by decide +kernel : decode mX11_undo.2.1 12 = .ok (.iconst (-1), 1)) (by decide) (?_ : XW _ _ _ _ _ _ _ 13 _ _)
    exact xi_iret (by decide +kernel : decode mX11_undo.2.1 13 = .ok (.ireturn, 1)) rfl rfl vc

set_option maxRecDepth 20000 in
theorem v_X11_undo_31 {h : XH} {Q : Option Value → XH → Prop} {X : String → XH → Prop} (hM : xMod (xP h))  (x1 : Int32) (x2 : Int32)
    (vc : ((xI h 59 2) ≤ x2 → (vp_in x1 200) ∧ ((vp_in x1 200) ∧ ((vp_in (xI h 72 x1.toNatClampNeg) 4) ∧ ((vp_in x1 200) ∧ (Q (some (.int (va_up (xI h 56) 33 (xI h 78 x1.toNatClampNeg) 34))) (xSI 56 (va_up (xI h 56) 33 (xI h 78 x1.toNatClampNeg)) (xSI 71 (va_up (xI h 71) (xI h 72 x1.toNatClampNeg).toNatClampNeg (xI h 74 x1.toNatClampNeg)) h))))))) ∧ (¬ (xI h 59 2) ≤ x2 → (vp_in x1 200) ∧ ((¬ (((xI h 76 x1.toNatClampNeg) >>> ((x2 : Int32) &&& 31)) &&& 1) = 1 → XW (xrm 1 0 0) mX11_undo (xE 100 Q X 0 0) 100 0 0 h 31 [some (.ref 56), some (.int x1), some (.int (x2 + 1))] []) ∧ ((((xI h 76 x1.toNatClampNeg) >>> ((x2 : Int32) &&& 31)) &&& 1) = 1 → (vp_in x1 200) ∧ ((vp_in x2 4) ∧ (XW (xrm 1 0 0) mX11_undo (xE 100 Q X 0 0) 100 0 0 (xSI 71 (va_up (xI h 71) x2.toNatClampNeg (xI h 75 x1.toNatClampNeg)) h) 31 [some (.ref 56), some (.int x1), some (.int (x2 + 1))] [])))))) :
    XW (xrm 1 0 0) mX11_undo (xE 100 Q X 0 0) 100 0 0 h 31 [some (.ref 56), some (.int x1), some (.int x2)] [] := by
  refine xi_iload_n (by decide +kernel : decode mX11_undo.2.1 31 = .ok (.iload_n 2, 1)) rfl rfl (?_ : XW _ _ _ _ _ _ _ 32 _ _)
  refine xi_aload_n (by decide +kernel : decode mX11_undo.2.1 32 = .ok (.aload_n 0, 1)) rfl rfl (?_ : XW _ _ _ _ _ _ _ 33 _ _)
  refine xi_getR (y := 59) (by decide +kernel : decode mX11_undo.2.1 33 = .ok (.getfield 32, 3)) fX11_32 rfl (by omega) rfl (mp_told hM) (?_ : XW _ _ _ _ _ _ _ 36 _ _)
  refine xi_iconst (v := 2) (by decide +kernel : decode mX11_undo.2.1 36 = .ok (.iconst 2, 1)) (by decide) (?_ : XW _ _ _ _ _ _ _ 37 _ _)
  refine xi_iald (by decide +kernel : decode mX11_undo.2.1 37 = .ok (.iaload, 1)) rfl (by omega) (by unfold vp_in; decide) (?_ : XW _ _ _ _ _ _ _ 38 _ [.int (xI h 59 2), .int x2])
  refine xi_icmp_ge (by decide +kernel : decode mX11_undo.2.1 38 = .ok (.if_icmp .ge 35, 3)) (by decide) (fun c => (?_ : XW _ _ _ _ _ _ _ 73 _ _)) (fun c => (?_ : XW _ _ _ _ _ _ _ 41 _ _))
  · replace vc := vc.1 c
    refine xi_aload_n (by decide +kernel : decode mX11_undo.2.1 73 = .ok (.aload_n 0, 1)) rfl rfl (?_ : XW _ _ _ _ _ _ _ 74 _ _)
    refine xi_getR (y := 71) (by decide +kernel : decode mX11_undo.2.1 74 = .ok (.getfield 73, 3)) fX11_73 rfl (by omega) rfl (mp_place hM) (?_ : XW _ _ _ _ _ _ _ 77 _ _)
    refine xi_aload_n (by decide +kernel : decode mX11_undo.2.1 77 = .ok (.aload_n 0, 1)) rfl rfl (?_ : XW _ _ _ _ _ _ _ 78 _ _)
    refine xi_getR (y := 72) (by decide +kernel : decode mX11_undo.2.1 78 = .ok (.getfield 76, 3)) fX11_76 rfl (by omega) rfl (mp_rolledBy hM) (?_ : XW _ _ _ _ _ _ _ 81 _ _)
    refine xi_iload_n (by decide +kernel : decode mX11_undo.2.1 81 = .ok (.iload_n 1, 1)) rfl rfl (?_ : XW _ _ _ _ _ _ _ 82 _ _)
    obtain ⟨s1, vc⟩ := vc
    refine xi_iald (by decide +kernel : decode mX11_undo.2.1 82 = .ok (.iaload, 1)) rfl (by omega) s1 (?_ : XW _ _ _ _ _ _ _ 83 _ _)
    refine xi_aload_n (by decide +kernel : decode mX11_undo.2.1 83 = .ok (.aload_n 0, 1)) rfl rfl (?_ : XW _ _ _ _ _ _ _ 84 _ _)
    refine xi_getR (y := 74) (by decide +kernel : decode mX11_undo.2.1 84 = .ok (.getfield 82, 3)) fX11_82 rfl (by omega) rfl (mp_rolledFrom hM) (?_ : XW _ _ _ _ _ _ _ 87 _ _)
    refine xi_iload_n (by decide +kernel : decode mX11_undo.2.1 87 = .ok (.iload_n 1, 1)) rfl rfl (?_ : XW _ _ _ _ _ _ _ 88 _ _)
    obtain ⟨s1, vc⟩ := vc
    refine xi_iald (by decide +kernel : decode mX11_undo.2.1 88 = .ok (.iaload, 1)) rfl (by omega) s1 (?_ : XW _ _ _ _ _ _ _ 89 _ _)
    obtain ⟨s1, vc⟩ := vc
    refine xi_iast (by decide +kernel : decode mX11_undo.2.1 89 = .ok (.iastore, 1)) rfl (by omega) s1 (?_ : XW _ _ _ _ _ _ (xSI 71 (va_up (xI h 71) (xI h 72 x1.toNatClampNeg).toNatClampNeg (xI h 74 x1.toNatClampNeg)) h) 90 _ _)
    refine xi_aload_n (by decide +kernel : decode mX11_undo.2.1 90 = .ok (.aload_n 0, 1)) rfl rfl (?_ : XW _ _ _ _ _ _ _ 91 _ _)
    refine xi_aload_n (by decide +kernel : decode mX11_undo.2.1 91 = .ok (.aload_n 0, 1)) rfl rfl (?_ : XW _ _ _ _ _ _ _ 92 _ _)
    refine xi_getR (y := 78) (by decide +kernel : decode mX11_undo.2.1 92 = .ok (.getfield 94, 3)) fX11_94 rfl (by omega) rfl (mp_turnThen hM) (?_ : XW _ _ _ _ _ _ _ 95 _ _)
    refine xi_iload_n (by decide +kernel : decode mX11_undo.2.1 95 = .ok (.iload_n 1, 1)) rfl rfl (?_ : XW _ _ _ _ _ _ _ 96 _ _)
    obtain ⟨s1, vc⟩ := vc
    refine xi_iald (by decide +kernel : decode mX11_undo.2.1 96 = .ok (.iaload, 1)) rfl (by omega) s1 (?_ : XW _ _ _ _ _ _ _ 97 _ [.int (xI h 78 x1.toNatClampNeg), .ref 56])
    refine xi_putI (by decide +kernel : decode mX11_undo.2.1 97 = .ok (.putfield 327, 3)) fX11_327 rfl (by omega) rfl rfl rfl (?_ : XW _ _ _ _ _ _ (xSI 56 (va_up (xI h 56) 33 (xI h 78 x1.toNatClampNeg)) (xSI 71 (va_up (xI h 71) (xI h 72 x1.toNatClampNeg).toNatClampNeg (xI h 74 x1.toNatClampNeg)) h)) 100 _ _)
    refine xi_aload_n (by decide +kernel : decode mX11_undo.2.1 100 = .ok (.aload_n 0, 1)) rfl rfl (?_ : XW _ _ _ _ _ _ _ 101 _ _)
    refine xi_getI (by decide +kernel : decode mX11_undo.2.1 101 = .ok (.getfield 330, 3)) fX11_330 rfl (by omega) rfl (?_ : XW _ _ _ _ _ _ _ 104 _ [.int (va_up (xI h 56) 33 (xI h 78 x1.toNatClampNeg) 34)])
    exact xi_iret (by decide +kernel : decode mX11_undo.2.1 104 = .ok (.ireturn, 1)) rfl rfl vc
  · replace vc := vc.2 c
    refine xi_aload_n (by decide +kernel : decode mX11_undo.2.1 41 = .ok (.aload_n 0, 1)) rfl rfl (?_ : XW _ _ _ _ _ _ _ 42 _ _)
    refine xi_getR (y := 76) (by decide +kernel : decode mX11_undo.2.1 42 = .ok (.getfield 88, 3)) fX11_88 rfl (by omega) rfl (mp_rolledMet hM) (?_ : XW _ _ _ _ _ _ _ 45 _ _)
    refine xi_iload_n (by decide +kernel : decode mX11_undo.2.1 45 = .ok (.iload_n 1, 1)) rfl rfl (?_ : XW _ _ _ _ _ _ _ 46 _ _)
    obtain ⟨s1, vc⟩ := vc
    refine xi_iald (by decide +kernel : decode mX11_undo.2.1 46 = .ok (.iaload, 1)) rfl (by omega) s1 (?_ : XW _ _ _ _ _ _ _ 47 _ _)
    refine xi_iload_n (by decide +kernel : decode mX11_undo.2.1 47 = .ok (.iload_n 2, 1)) rfl rfl (?_ : XW _ _ _ _ _ _ _ 48 _ _)
    refine xi_ishr (by decide +kernel : decode mX11_undo.2.1 48 = .ok (.ishr, 1)) (?_ : XW _ _ _ _ _ _ _ 49 _ _)
    refine xi_iconst (v := 1) (by decide +kernel : decode mX11_undo.2.1 49 = .ok (.iconst 1, 1)) (by decide) (?_ : XW _ _ _ _ _ _ _ 50 _ _)
    refine xi_iand (by decide +kernel : decode mX11_undo.2.1 50 = .ok (.iand, 1)) (?_ : XW _ _ _ _ _ _ _ 51 _ _)
    refine xi_iconst (v := 1) (by decide +kernel : decode mX11_undo.2.1 51 = .ok (.iconst 1, 1)) (by decide) (?_ : XW _ _ _ _ _ _ _ 52 _ _)
    refine xi_icmp_ne (by decide +kernel : decode mX11_undo.2.1 52 = .ok (.if_icmp .ne 15, 3)) (by decide) (fun c => (?_ : XW _ _ _ _ _ _ _ 67 _ _)) (fun c => (?_ : XW _ _ _ _ _ _ _ 55 _ _))
    · replace vc := vc.1 c
      refine xi_iinc (v := x2 + 1) (ls' := [some (.ref 56), some (.int x1), some (.int (x2 + 1))]) (by decide +kernel : decode mX11_undo.2.1 67 = .ok (.iinc 2 1, 3)) rfl rfl (by decide) rfl (?_ : XW _ _ _ _ _ _ _ 70 _ _)
      refine xi_goto (by decide +kernel : decode mX11_undo.2.1 70 = .ok (.goto (-39), 3)) (by decide) (?_ : XW _ _ _ _ _ _ _ 31 _ _)
      exact vc
    · replace vc := vc.2 c
      refine xi_aload_n (by decide +kernel : decode mX11_undo.2.1 55 = .ok (.aload_n 0, 1)) rfl rfl (?_ : XW _ _ _ _ _ _ _ 56 _ _)
      refine xi_getR (y := 71) (by decide +kernel : decode mX11_undo.2.1 56 = .ok (.getfield 73, 3)) fX11_73 rfl (by omega) rfl (mp_place hM) (?_ : XW _ _ _ _ _ _ _ 59 _ _)
      refine xi_iload_n (by decide +kernel : decode mX11_undo.2.1 59 = .ok (.iload_n 2, 1)) rfl rfl (?_ : XW _ _ _ _ _ _ _ 60 _ _)
      refine xi_aload_n (by decide +kernel : decode mX11_undo.2.1 60 = .ok (.aload_n 0, 1)) rfl rfl (?_ : XW _ _ _ _ _ _ _ 61 _ _)
      refine xi_getR (y := 75) (by decide +kernel : decode mX11_undo.2.1 61 = .ok (.getfield 85, 3)) fX11_85 rfl (by omega) rfl (mp_rolledTo hM) (?_ : XW _ _ _ _ _ _ _ 64 _ _)
      refine xi_iload_n (by decide +kernel : decode mX11_undo.2.1 64 = .ok (.iload_n 1, 1)) rfl rfl (?_ : XW _ _ _ _ _ _ _ 65 _ _)
      obtain ⟨s1, vc⟩ := vc
      refine xi_iald (by decide +kernel : decode mX11_undo.2.1 65 = .ok (.iaload, 1)) rfl (by omega) s1 (?_ : XW _ _ _ _ _ _ _ 66 _ _)
      obtain ⟨s1, vc⟩ := vc
      refine xi_iast (by decide +kernel : decode mX11_undo.2.1 66 = .ok (.iastore, 1)) rfl (by omega) s1 (?_ : XW _ _ _ _ _ _ (xSI 71 (va_up (xI h 71) x2.toNatClampNeg (xI h 75 x1.toNatClampNeg)) h) 67 _ _)
      refine xi_iinc (v := x2 + 1) (ls' := [some (.ref 56), some (.int x1), some (.int (x2 + 1))]) (by decide +kernel : decode mX11_undo.2.1 67 = .ok (.iinc 2 1, 3)) rfl rfl (by decide) rfl (?_ : XW _ _ _ _ _ _ _ 70 _ _)
      refine xi_goto (by decide +kernel : decode mX11_undo.2.1 70 = .ok (.goto (-39), 3)) (by decide) (?_ : XW _ _ _ _ _ _ _ 31 _ _)
      exact vc

set_option maxRecDepth 20000 in
theorem v_X11_moreOf_0 {h : XH} {Q : Option Value → XH → Prop} {X : String → XH → Prop} (hM : xMod (xP h))  (f : Int32)
    (vc : ∃ Q1, XSpec mX11_oftenOf 1 0 0 100 100 [.ref 56, .int f] h Q1 xno ∧ ∀ v h1, Q1 v h1 → ∃ r1 : Int32, v = some (.int r1) ∧ (∃ Q1, XSpec mX11_allOdds 1 0 0 100 100 [.ref 56] h1 Q1 xno ∧ ∀ v h2, Q1 v h2 → ∃ r2 : Int32, v = some (.int r2) ∧ ((xP h2 56 4 = some 60) ∧ ((vp_in (f - 1) 12) ∧ (Q (some (.long (((Int32.toInt64 r1) * (Int32.toInt64 r2)) - ((Int32.toInt64 (xI h2 56 34)) * (Int32.toInt64 (xI h2 60 (f - 1).toNatClampNeg)))))) h2))))) :
    XW (xrm 2 0 0) mX11_moreOf (xE 100 Q X 0 0) 100 0 0 h 0 [some (.ref 56), some (.int f)] [] := by
  refine xi_aload_n (by decide +kernel : decode mX11_moreOf.2.1 0 = .ok (.aload_n 0, 1)) rfl rfl (?_ : XW _ _ _ _ _ _ _ 1 _ _)
  refine xi_iload_n (by decide +kernel : decode mX11_moreOf.2.1 1 = .ok (.iload_n 1, 1)) rfl rfl (?_ : XW _ _ _ _ _ _ _ 2 _ _)
  obtain ⟨Q1, sp, vc⟩ := vc
  refine xi_callV (b := 0) (bs := 0) (As := [.int f]) (st := []) (by decide +kernel : decode mX11_moreOf.2.1 2 = .ok (.invokevirtual 454, 3)) kX11_454 rfl rfl (by omega) rfl sp (by decide) (by decide) (Nat.le_of_ble_eq_true rfl) (by omega) (fun v9 h1 hq9 => ?_)
  obtain ⟨r1, e9, vc⟩ := vc v9 h1 hq9
  subst e9
  show XW _ _ _ _ _ _ _ 5 _ [.int r1]
  refine xi_i2l (by decide +kernel : decode mX11_moreOf.2.1 5 = .ok (.i2l, 1)) (?_ : XW _ _ _ _ _ _ _ 6 _ _)
  refine xi_aload_n (by decide +kernel : decode mX11_moreOf.2.1 6 = .ok (.aload_n 0, 1)) rfl rfl (?_ : XW _ _ _ _ _ _ _ 7 _ _)
  obtain ⟨Q1, sp, vc⟩ := vc
  refine xi_callV (b := 0) (bs := 0) (As := []) (st := [.long (Int32.toInt64 r1)]) (by decide +kernel : decode mX11_moreOf.2.1 7 = .ok (.invokevirtual 388, 3)) kX11_388 rfl rfl (by omega) rfl sp (by decide) (by decide) (Nat.le_of_ble_eq_true rfl) (by omega) (fun v9 h2 hq9 => ?_)
  obtain ⟨r2, e9, vc⟩ := vc v9 h2 hq9
  subst e9
  show XW _ _ _ _ _ _ _ 10 _ [.int r2, .long (Int32.toInt64 r1)]
  refine xi_i2l (by decide +kernel : decode mX11_moreOf.2.1 10 = .ok (.i2l, 1)) (?_ : XW _ _ _ _ _ _ _ 11 _ _)
  refine xi_lmul (by decide +kernel : decode mX11_moreOf.2.1 11 = .ok (.lmul, 1)) (?_ : XW _ _ _ _ _ _ _ 12 _ _)
  refine xi_aload_n (by decide +kernel : decode mX11_moreOf.2.1 12 = .ok (.aload_n 0, 1)) rfl rfl (?_ : XW _ _ _ _ _ _ _ 13 _ _)
  refine xi_getI (by decide +kernel : decode mX11_moreOf.2.1 13 = .ok (.getfield 330, 3)) fX11_330 rfl (by omega) rfl (?_ : XW _ _ _ _ _ _ _ 16 _ _)
  refine xi_i2l (by decide +kernel : decode mX11_moreOf.2.1 16 = .ok (.i2l, 1)) (?_ : XW _ _ _ _ _ _ _ 17 _ _)
  refine xi_aload_n (by decide +kernel : decode mX11_moreOf.2.1 17 = .ok (.aload_n 0, 1)) rfl rfl (?_ : XW _ _ _ _ _ _ _ 18 _ _)
  obtain ⟨s1, vc⟩ := vc
  refine xi_getR (y := 60) (by decide +kernel : decode mX11_moreOf.2.1 18 = .ok (.getfield 36, 3)) fX11_36 rfl (by omega) rfl s1 (?_ : XW _ _ _ _ _ _ _ 21 _ _)
  refine xi_iload_n (by decide +kernel : decode mX11_moreOf.2.1 21 = .ok (.iload_n 1, 1)) rfl rfl (?_ : XW _ _ _ _ _ _ _ 22 _ _)
  refine xi_iconst (v := 1) (by decide +kernel : decode mX11_moreOf.2.1 22 = .ok (.iconst 1, 1)) (by decide) (?_ : XW _ _ _ _ _ _ _ 23 _ _)
  refine xi_isub (by decide +kernel : decode mX11_moreOf.2.1 23 = .ok (.isub, 1)) (?_ : XW _ _ _ _ _ _ _ 24 _ _)
  obtain ⟨s1, vc⟩ := vc
  refine xi_iald (by decide +kernel : decode mX11_moreOf.2.1 24 = .ok (.iaload, 1)) rfl (by omega) s1 (?_ : XW _ _ _ _ _ _ _ 25 _ _)
  refine xi_i2l (by decide +kernel : decode mX11_moreOf.2.1 25 = .ok (.i2l, 1)) (?_ : XW _ _ _ _ _ _ _ 26 _ _)
  refine xi_lmul (by decide +kernel : decode mX11_moreOf.2.1 26 = .ok (.lmul, 1)) (?_ : XW _ _ _ _ _ _ _ 27 _ _)
  refine xi_lsub (by decide +kernel : decode mX11_moreOf.2.1 27 = .ok (.lsub, 1)) (?_ : XW _ _ _ _ _ _ _ 28 _ _)
  exact xi_lret (by decide +kernel : decode mX11_moreOf.2.1 28 = .ok (.lreturn, 1)) rfl vc

set_option maxRecDepth 20000 in
theorem v_X11_unlike_0 {h : XH} {Q : Option Value → XH → Prop} {X : String → XH → Prop} (hM : xMod (xP h))  (w : Int32)
    (vc : (w < 0 → ∃ Q1, XSpec mX11_fail 1 0 0 100 100 [.ref 56, .int 1] (xSI 56 (va_up (xI h 56) 2 0) h) Q1 xno ∧ ∀ v h1, Q1 v h1 → ∃ r1 : Int32, v = some (.int r1) ∧ (Q (some (.long (Int32.toInt64 r1))) h1)) ∧ (¬ w < 0 → (w ≤ 1 → XW (xrm 3 0 0) mX11_unlike (xE 100 Q X 0 0) 100 0 0 (xSI 56 (va_up (xI h 56) 2 0) h) 26 [some (.ref 56), some (.int w), some (.long 0), none, some (.int 1), none, none, none] []) ∧ (¬ w ≤ 1 → ∃ Q1, XSpec mX11_fail 1 0 0 100 100 [.ref 56, .int 1] (xSI 56 (va_up (xI h 56) 2 0) h) Q1 xno ∧ ∀ v h2, Q1 v h2 → ∃ r2 : Int32, v = some (.int r2) ∧ (Q (some (.long (Int32.toInt64 r2))) h2)))) :
    XW (xrm 3 0 0) mX11_unlike (xE 100 Q X 0 0) 100 0 0 h 0 [some (.ref 56), some (.int w), none, none, none, none, none, none] [] := by
  refine xi_aload_n (by decide +kernel : decode mX11_unlike.2.1 0 = .ok (.aload_n 0, 1)) rfl rfl (?_ : XW _ _ _ _ _ _ _ 1 _ _)
  refine xi_iconst (v := 0) (by decide +kernel : decode mX11_unlike.2.1 1 = .ok (.iconst 0, 1)) (by decide) (?_ : XW _ _ _ _ _ _ _ 2 _ _)
  refine xi_putI (by decide +kernel : decode mX11_unlike.2.1 2 = .ok (.putfield 161, 3)) fX11_161 rfl (by omega) rfl rfl rfl (?_ : XW _ _ _ _ _ _ (xSI 56 (va_up (xI h 56) 2 0) h) 5 _ _)
  refine xi_iload_n (by decide +kernel : decode mX11_unlike.2.1 5 = .ok (.iload_n 1, 1)) rfl rfl (?_ : XW _ _ _ _ _ _ _ 6 _ _)
  refine xi_if_lt (by decide +kernel : decode mX11_unlike.2.1 6 = .ok (.ifCond .lt 8, 3)) (by decide) (fun c => (?_ : XW _ _ _ _ _ _ _ 14 _ _)) (fun c => (?_ : XW _ _ _ _ _ _ _ 9 _ _))
  · replace vc := vc.1 c
    refine xi_aload_n (by decide +kernel : decode mX11_unlike.2.1 14 = .ok (.aload_n 0, 1)) rfl rfl (?_ : XW _ _ _ _ _ _ _ 15 _ _)
    refine xi_iconst (v := 1) (by decide +kernel : decode mX11_unlike.2.1 15 = .ok (.iconst 1, 1)) (by decide) (?_ : XW _ _ _ _ _ _ _ 16 _ _)
    obtain ⟨Q1, sp, vc⟩ := vc
    refine xi_callV (b := 0) (bs := 0) (As := [.int 1]) (st := []) (by decide +kernel : decode mX11_unlike.2.1 16 = .ok (.invokevirtual 311, 3)) kX11_311 rfl rfl (by omega) rfl sp (by decide) (by decide) (Nat.le_of_ble_eq_true rfl) (by omega) (fun v9 h1 hq9 => ?_)
    obtain ⟨r1, e9, vc⟩ := vc v9 h1 hq9
    subst e9
    show XW _ _ _ _ _ _ _ 19 _ [.int r1]
    refine xi_i2l (by decide +kernel : decode mX11_unlike.2.1 19 = .ok (.i2l, 1)) (?_ : XW _ _ _ _ _ _ _ 20 _ _)
    exact xi_lret (by decide +kernel : decode mX11_unlike.2.1 20 = .ok (.lreturn, 1)) rfl vc
  · replace vc := vc.2 c
    refine xi_iload_n (by decide +kernel : decode mX11_unlike.2.1 9 = .ok (.iload_n 1, 1)) rfl rfl (?_ : XW _ _ _ _ _ _ _ 10 _ _)
    refine xi_iconst (v := 1) (by decide +kernel : decode mX11_unlike.2.1 10 = .ok (.iconst 1, 1)) (by decide) (?_ : XW _ _ _ _ _ _ _ 11 _ _)
    refine xi_icmp_le (by decide +kernel : decode mX11_unlike.2.1 11 = .ok (.if_icmp .le 10, 3)) (by decide) (fun c => (?_ : XW _ _ _ _ _ _ _ 21 _ _)) (fun c => (?_ : XW _ _ _ _ _ _ _ 14 _ _))
    · replace vc := vc.1 c
      refine xi_lconst (v := 0) (by decide +kernel : decode mX11_unlike.2.1 21 = .ok (.lconst 0, 1)) (by decide) (?_ : XW _ _ _ _ _ _ _ 22 _ _)
      refine xi_lstore_n (ls' := [some (.ref 56), some (.int w), some (.long 0), none, none, none, none, none]) (by decide +kernel : decode mX11_unlike.2.1 22 = .ok (.lstore_n 2, 1)) rfl (by decide) rfl (?_ : XW _ _ _ _ _ _ _ 23 _ _)
      refine xi_iconst (v := 1) (by decide +kernel : decode mX11_unlike.2.1 23 = .ok (.iconst 1, 1)) (by decide) (?_ : XW _ _ _ _ _ _ _ 24 _ _)
      refine xi_istore (ls' := [some (.ref 56), some (.int w), some (.long 0), none, some (.int 1), none, none, none]) (by decide +kernel : decode mX11_unlike.2.1 24 = .ok (.istore 4, 2)) (by decide) rfl (?_ : XW _ _ _ _ _ _ _ 26 _ _)
      exact vc
    · replace vc := vc.2 c
      refine xi_aload_n (by decide +kernel : decode mX11_unlike.2.1 14 = .ok (.aload_n 0, 1)) rfl rfl (?_ : XW _ _ _ _ _ _ _ 15 _ _)
      refine xi_iconst (v := 1) (by decide +kernel : decode mX11_unlike.2.1 15 = .ok (.iconst 1, 1)) (by decide) (?_ : XW _ _ _ _ _ _ _ 16 _ _)
      obtain ⟨Q1, sp, vc⟩ := vc
      refine xi_callV (b := 0) (bs := 0) (As := [.int 1]) (st := []) (by decide +kernel : decode mX11_unlike.2.1 16 = .ok (.invokevirtual 311, 3)) kX11_311 rfl rfl (by omega) rfl sp (by decide) (by decide) (Nat.le_of_ble_eq_true rfl) (by omega) (fun v9 h2 hq9 => ?_)
      obtain ⟨r2, e9, vc⟩ := vc v9 h2 hq9
      subst e9
      show XW _ _ _ _ _ _ _ 19 _ [.int r2]
      refine xi_i2l (by decide +kernel : decode mX11_unlike.2.1 19 = .ok (.i2l, 1)) (?_ : XW _ _ _ _ _ _ _ 20 _ _)
      exact xi_lret (by decide +kernel : decode mX11_unlike.2.1 20 = .ok (.lreturn, 1)) rfl vc

set_option maxRecDepth 20000 in
theorem v_X11_unlike_26 {h : XH} {Q : Option Value → XH → Prop} {X : String → XH → Prop} (hM : xMod (xP h))  (x1 : Int32) (x2 : Int64) (x4 : Int32)
    (vc : (6 < x4 → (¬ (xI h 56 34) = 0 → ∃ Q1, XSpec mX11_allOdds 1 0 0 100 100 [.ref 56] h Q1 xno ∧ ∀ v h3, Q1 v h3 → ∃ r3 : Int32, v = some (.int r3) ∧ (∃ Q1, XSpec mX11_common 1 0 0 100 100 [.long ((2520 * (Int32.toInt64 (xI h 56 34))) * (Int32.toInt64 r3)), .long x2] h3 Q1 xno ∧ ∀ v h4, Q1 v h4 → ∃ r4 : Int64, v = some (.long r4) ∧ ((¬ x1 = 0 → (¬ r4 = 0) ∧ (Q (some (.long (((2520 * (Int32.toInt64 (xI h 56 34))) * (Int32.toInt64 r3)) / r4))) h4)) ∧ (x1 = 0 → (¬ r4 = 0) ∧ (Q (some (.long (x2 / r4))) h4))))) ∧ ((xI h 56 34) = 0 → ∃ Q1, XSpec mX11_common 1 0 0 100 100 [.long 1, .long x2] h Q1 xno ∧ ∀ v h5, Q1 v h5 → ∃ r5 : Int64, v = some (.long r5) ∧ ((¬ x1 = 0 → (¬ r5 = 0) ∧ (Q (some (.long (1 / r5))) h5)) ∧ (x1 = 0 → (¬ r5 = 0) ∧ (Q (some (.long (x2 / r5))) h5))))) ∧ (¬ 6 < x4 → (vp_in (x4 - 1) 12) ∧ ((¬ (xI h 60 (x4 - 1).toNatClampNeg) = 0 → ∃ Q1, XSpec mX11_moreOf 2 0 0 100 100 [.ref 56, .int x4] h Q1 xno ∧ ∀ v h6, Q1 v h6 → ∃ r6 : Int64, v = some (.long r6) ∧ (∃ Q1, XSpec mX11_moreOf 2 0 0 100 100 [.ref 56, .int x4] h6 Q1 xno ∧ ∀ v h7, Q1 v h7 → ∃ r7 : Int64, v = some (.long r7) ∧ ((xP h7 56 4 = some 60) ∧ ((vp_in (x4 - 1) 12) ∧ ((¬ (xI h7 60 (x4 - 1).toNatClampNeg) = 0) ∧ (XW (xrm 3 0 0) mX11_unlike (xE 100 Q X 0 0) 100 0 0 h7 26 [some (.ref 56), some (.int x1), some (.long (x2 + ((r6 * r7) * (Int32.toInt64 (2520 / (xI h7 60 (x4 - 1).toNatClampNeg)))))), none, some (.int (x4 + 1)), none, none, none] [])))))) ∧ ((xI h 60 (x4 - 1).toNatClampNeg) = 0 → XW (xrm 3 0 0) mX11_unlike (xE 100 Q X 0 0) 100 0 0 h 26 [some (.ref 56), some (.int x1), some (.long (x2 + 0)), none, some (.int (x4 + 1)), none, none, none] [])))) :
    XW (xrm 3 0 0) mX11_unlike (xE 100 Q X 0 0) 100 0 0 h 26 [some (.ref 56), some (.int x1), some (.long x2), none, some (.int x4), none, none, none] [] := by
  refine xi_iload (by decide +kernel : decode mX11_unlike.2.1 26 = .ok (.iload 4, 2)) rfl (?_ : XW _ _ _ _ _ _ _ 28 _ _)
  refine xi_bipush (v := 6) (by decide +kernel : decode mX11_unlike.2.1 28 = .ok (.bipush 6, 2)) (by decide) (?_ : XW _ _ _ _ _ _ _ 30 _ _)
  refine xi_icmp_gt (by decide +kernel : decode mX11_unlike.2.1 30 = .ok (.if_icmp .gt 56, 3)) (by decide) (fun c => (?_ : XW _ _ _ _ _ _ _ 86 _ _)) (fun c => (?_ : XW _ _ _ _ _ _ _ 33 _ _))
  · replace vc := vc.1 c
    refine xi_aload_n (by decide +kernel : decode mX11_unlike.2.1 86 = .ok (.aload_n 0, 1)) rfl rfl (?_ : XW _ _ _ _ _ _ _ 87 _ _)
    refine xi_getI (by decide +kernel : decode mX11_unlike.2.1 87 = .ok (.getfield 330, 3)) fX11_330 rfl (by omega) rfl (?_ : XW _ _ _ _ _ _ _ 90 _ _)
    refine xi_if_ne (by decide +kernel : decode mX11_unlike.2.1 90 = .ok (.ifCond .ne 7, 3)) (by decide) (fun c => (?_ : XW _ _ _ _ _ _ _ 97 _ _)) (fun c => (?_ : XW _ _ _ _ _ _ _ 93 _ _))
    · replace vc := vc.1 c
      refine xi_ldc2 (v := 2520) (by decide +kernel : decode mX11_unlike.2.1 97 = .ok (.ldc2_w 461, 3)) cK_X11_461 (?_ : XW _ _ _ _ _ _ _ 100 _ _)
      refine xi_aload_n (by decide +kernel : decode mX11_unlike.2.1 100 = .ok (.aload_n 0, 1)) rfl rfl (?_ : XW _ _ _ _ _ _ _ 101 _ _)
      refine xi_getI (by decide +kernel : decode mX11_unlike.2.1 101 = .ok (.getfield 330, 3)) fX11_330 rfl (by omega) rfl (?_ : XW _ _ _ _ _ _ _ 104 _ _)
      refine xi_i2l (by decide +kernel : decode mX11_unlike.2.1 104 = .ok (.i2l, 1)) (?_ : XW _ _ _ _ _ _ _ 105 _ _)
      refine xi_lmul (by decide +kernel : decode mX11_unlike.2.1 105 = .ok (.lmul, 1)) (?_ : XW _ _ _ _ _ _ _ 106 _ _)
      refine xi_aload_n (by decide +kernel : decode mX11_unlike.2.1 106 = .ok (.aload_n 0, 1)) rfl rfl (?_ : XW _ _ _ _ _ _ _ 107 _ _)
      obtain ⟨Q1, sp, vc⟩ := vc
      refine xi_callV (b := 0) (bs := 0) (As := []) (st := [.long (2520 * (Int32.toInt64 (xI h 56 34)))]) (by decide +kernel : decode mX11_unlike.2.1 107 = .ok (.invokevirtual 388, 3)) kX11_388 rfl rfl (by omega) rfl sp (by decide) (by decide) (Nat.le_of_ble_eq_true rfl) (by omega) (fun v9 h3 hq9 => ?_)
      obtain ⟨r3, e9, vc⟩ := vc v9 h3 hq9
      subst e9
      show XW _ _ _ _ _ _ _ 110 _ [.int r3, .long (2520 * (Int32.toInt64 (xI h 56 34)))]
      refine xi_i2l (by decide +kernel : decode mX11_unlike.2.1 110 = .ok (.i2l, 1)) (?_ : XW _ _ _ _ _ _ _ 111 _ _)
      refine xi_lmul (by decide +kernel : decode mX11_unlike.2.1 111 = .ok (.lmul, 1)) (?_ : XW _ _ _ _ _ _ _ 112 _ _)
      refine xi_lstore (ls' := [some (.ref 56), some (.int x1), some (.long x2), none, some (.long ((2520 * (Int32.toInt64 (xI h 56 34))) * (Int32.toInt64 r3))), none, none, none]) (by decide +kernel : decode mX11_unlike.2.1 112 = .ok (.lstore 4, 2)) (by decide) rfl (?_ : XW _ _ _ _ _ _ _ 114 _ _)
      refine xi_lload (by decide +kernel : decode mX11_unlike.2.1 114 = .ok (.lload 4, 2)) rfl (?_ : XW _ _ _ _ _ _ _ 116 _ _)
      refine xi_lload_n (by decide +kernel : decode mX11_unlike.2.1 116 = .ok (.lload_n 2, 1)) rfl rfl (?_ : XW _ _ _ _ _ _ _ 117 _ _)
      obtain ⟨Q1, sp, vc⟩ := vc
      refine xi_callS (b := 0) (bs := 0) (As := [.long ((2520 * (Int32.toInt64 (xI h 56 34))) * (Int32.toInt64 r3)), .long x2]) (st := []) (by decide +kernel : decode mX11_unlike.2.1 117 = .ok (.invokestatic 463, 3)) kX11_463 rfl rfl sp (by decide) (by decide) (Nat.le_of_ble_eq_true rfl) (by omega) (fun v9 h4 hq9 => ?_)
      obtain ⟨r4, e9, vc⟩ := vc v9 h4 hq9
      subst e9
      show XW _ _ _ _ _ _ _ 120 _ [.long r4]
      refine xi_lstore (ls' := [some (.ref 56), some (.int x1), some (.long x2), none, some (.long ((2520 * (Int32.toInt64 (xI h 56 34))) * (Int32.toInt64 r3))), none, some (.long r4), none]) (by decide +kernel : decode mX11_unlike.2.1 120 = .ok (.lstore 6, 2)) (by decide) rfl (?_ : XW _ _ _ _ _ _ _ 122 _ _)
      refine xi_iload_n (by decide +kernel : decode mX11_unlike.2.1 122 = .ok (.iload_n 1, 1)) rfl rfl (?_ : XW _ _ _ _ _ _ _ 123 _ _)
      refine xi_if_ne (by decide +kernel : decode mX11_unlike.2.1 123 = .ok (.ifCond .ne 10, 3)) (by decide) (fun c => (?_ : XW _ _ _ _ _ _ _ 133 _ _)) (fun c => (?_ : XW _ _ _ _ _ _ _ 126 _ _))
      · replace vc := vc.1 c
        refine xi_lload (by decide +kernel : decode mX11_unlike.2.1 133 = .ok (.lload 4, 2)) rfl (?_ : XW _ _ _ _ _ _ _ 135 _ _)
        refine xi_lload (by decide +kernel : decode mX11_unlike.2.1 135 = .ok (.lload 6, 2)) rfl (?_ : XW _ _ _ _ _ _ _ 137 _ _)
        obtain ⟨s1, vc⟩ := vc
        refine xi_ldiv (by decide +kernel : decode mX11_unlike.2.1 137 = .ok (.ldiv, 1)) s1 (?_ : XW _ _ _ _ _ _ _ 138 _ _)
        exact xi_lret (by decide +kernel : decode mX11_unlike.2.1 138 = .ok (.lreturn, 1)) rfl vc
      · replace vc := vc.2 c
        refine xi_lload_n (by decide +kernel : decode mX11_unlike.2.1 126 = .ok (.lload_n 2, 1)) rfl rfl (?_ : XW _ _ _ _ _ _ _ 127 _ _)
        refine xi_lload (by decide +kernel : decode mX11_unlike.2.1 127 = .ok (.lload 6, 2)) rfl (?_ : XW _ _ _ _ _ _ _ 129 _ _)
        obtain ⟨s1, vc⟩ := vc
        refine xi_ldiv (by decide +kernel : decode mX11_unlike.2.1 129 = .ok (.ldiv, 1)) s1 (?_ : XW _ _ _ _ _ _ _ 130 _ _)
        refine xi_goto (by decide +kernel : decode mX11_unlike.2.1 130 = .ok (.goto 8, 3)) (by decide) (?_ : XW _ _ _ _ _ _ _ 138 _ _)
        exact xi_lret (by decide +kernel : decode mX11_unlike.2.1 138 = .ok (.lreturn, 1)) rfl vc
    · replace vc := vc.2 c
      refine xi_lconst (v := 1) (by decide +kernel : decode mX11_unlike.2.1 93 = .ok (.lconst 1, 1)) (by decide) (?_ : XW _ _ _ _ _ _ _ 94 _ _)
      refine xi_goto (by decide +kernel : decode mX11_unlike.2.1 94 = .ok (.goto 18, 3)) (by decide) (?_ : XW _ _ _ _ _ _ _ 112 _ _)
      refine xi_lstore (ls' := [some (.ref 56), some (.int x1), some (.long x2), none, some (.long 1), none, none, none]) (by decide +kernel : decode mX11_unlike.2.1 112 = .ok (.lstore 4, 2)) (by decide) rfl (?_ : XW _ _ _ _ _ _ _ 114 _ _)
      refine xi_lload (by decide +kernel : decode mX11_unlike.2.1 114 = .ok (.lload 4, 2)) rfl (?_ : XW _ _ _ _ _ _ _ 116 _ _)
      refine xi_lload_n (by decide +kernel : decode mX11_unlike.2.1 116 = .ok (.lload_n 2, 1)) rfl rfl (?_ : XW _ _ _ _ _ _ _ 117 _ _)
      obtain ⟨Q1, sp, vc⟩ := vc
      refine xi_callS (b := 0) (bs := 0) (As := [.long 1, .long x2]) (st := []) (by decide +kernel : decode mX11_unlike.2.1 117 = .ok (.invokestatic 463, 3)) kX11_463 rfl rfl sp (by decide) (by decide) (Nat.le_of_ble_eq_true rfl) (by omega) (fun v9 h5 hq9 => ?_)
      obtain ⟨r5, e9, vc⟩ := vc v9 h5 hq9
      subst e9
      show XW _ _ _ _ _ _ _ 120 _ [.long r5]
      refine xi_lstore (ls' := [some (.ref 56), some (.int x1), some (.long x2), none, some (.long 1), none, some (.long r5), none]) (by decide +kernel : decode mX11_unlike.2.1 120 = .ok (.lstore 6, 2)) (by decide) rfl (?_ : XW _ _ _ _ _ _ _ 122 _ _)
      refine xi_iload_n (by decide +kernel : decode mX11_unlike.2.1 122 = .ok (.iload_n 1, 1)) rfl rfl (?_ : XW _ _ _ _ _ _ _ 123 _ _)
      refine xi_if_ne (by decide +kernel : decode mX11_unlike.2.1 123 = .ok (.ifCond .ne 10, 3)) (by decide) (fun c => (?_ : XW _ _ _ _ _ _ _ 133 _ _)) (fun c => (?_ : XW _ _ _ _ _ _ _ 126 _ _))
      · replace vc := vc.1 c
        refine xi_lload (by decide +kernel : decode mX11_unlike.2.1 133 = .ok (.lload 4, 2)) rfl (?_ : XW _ _ _ _ _ _ _ 135 _ _)
        refine xi_lload (by decide +kernel : decode mX11_unlike.2.1 135 = .ok (.lload 6, 2)) rfl (?_ : XW _ _ _ _ _ _ _ 137 _ _)
        obtain ⟨s1, vc⟩ := vc
        refine xi_ldiv (by decide +kernel : decode mX11_unlike.2.1 137 = .ok (.ldiv, 1)) s1 (?_ : XW _ _ _ _ _ _ _ 138 _ _)
        exact xi_lret (by decide +kernel : decode mX11_unlike.2.1 138 = .ok (.lreturn, 1)) rfl vc
      · replace vc := vc.2 c
        refine xi_lload_n (by decide +kernel : decode mX11_unlike.2.1 126 = .ok (.lload_n 2, 1)) rfl rfl (?_ : XW _ _ _ _ _ _ _ 127 _ _)
        refine xi_lload (by decide +kernel : decode mX11_unlike.2.1 127 = .ok (.lload 6, 2)) rfl (?_ : XW _ _ _ _ _ _ _ 129 _ _)
        obtain ⟨s1, vc⟩ := vc
        refine xi_ldiv (by decide +kernel : decode mX11_unlike.2.1 129 = .ok (.ldiv, 1)) s1 (?_ : XW _ _ _ _ _ _ _ 130 _ _)
        refine xi_goto (by decide +kernel : decode mX11_unlike.2.1 130 = .ok (.goto 8, 3)) (by decide) (?_ : XW _ _ _ _ _ _ _ 138 _ _)
        exact xi_lret (by decide +kernel : decode mX11_unlike.2.1 138 = .ok (.lreturn, 1)) rfl vc
  · replace vc := vc.2 c
    refine xi_lload_n (by decide +kernel : decode mX11_unlike.2.1 33 = .ok (.lload_n 2, 1)) rfl rfl (?_ : XW _ _ _ _ _ _ _ 34 _ _)
    refine xi_aload_n (by decide +kernel : decode mX11_unlike.2.1 34 = .ok (.aload_n 0, 1)) rfl rfl (?_ : XW _ _ _ _ _ _ _ 35 _ _)
    refine xi_getR (y := 60) (by decide +kernel : decode mX11_unlike.2.1 35 = .ok (.getfield 36, 3)) fX11_36 rfl (by omega) rfl (mp_die hM) (?_ : XW _ _ _ _ _ _ _ 38 _ _)
    refine xi_iload (by decide +kernel : decode mX11_unlike.2.1 38 = .ok (.iload 4, 2)) rfl (?_ : XW _ _ _ _ _ _ _ 40 _ _)
    refine xi_iconst (v := 1) (by decide +kernel : decode mX11_unlike.2.1 40 = .ok (.iconst 1, 1)) (by decide) (?_ : XW _ _ _ _ _ _ _ 41 _ _)
    refine xi_isub (by decide +kernel : decode mX11_unlike.2.1 41 = .ok (.isub, 1)) (?_ : XW _ _ _ _ _ _ _ 42 _ _)
    obtain ⟨s1, vc⟩ := vc
    refine xi_iald (by decide +kernel : decode mX11_unlike.2.1 42 = .ok (.iaload, 1)) rfl (by omega) s1 (?_ : XW _ _ _ _ _ _ _ 43 _ _)
    refine xi_if_ne (by decide +kernel : decode mX11_unlike.2.1 43 = .ok (.ifCond .ne 7, 3)) (by decide) (fun c => (?_ : XW _ _ _ _ _ _ _ 50 _ _)) (fun c => (?_ : XW _ _ _ _ _ _ _ 46 _ _))
    · replace vc := vc.1 c
      refine xi_aload_n (by decide +kernel : decode mX11_unlike.2.1 50 = .ok (.aload_n 0, 1)) rfl rfl (?_ : XW _ _ _ _ _ _ _ 51 _ _)
      refine xi_iload (by decide +kernel : decode mX11_unlike.2.1 51 = .ok (.iload 4, 2)) rfl (?_ : XW _ _ _ _ _ _ _ 53 _ _)
      obtain ⟨Q1, sp, vc⟩ := vc
      refine xi_callV (b := 0) (bs := 0) (As := [.int x4]) (st := [.long x2]) (by decide +kernel : decode mX11_unlike.2.1 53 = .ok (.invokevirtual 457, 3)) kX11_457 rfl rfl (by omega) rfl sp (by decide) (by decide) (Nat.le_of_ble_eq_true rfl) (by omega) (fun v9 h6 hq9 => ?_)
      obtain ⟨r6, e9, vc⟩ := vc v9 h6 hq9
      subst e9
      show XW _ _ _ _ _ _ _ 56 _ [.long r6, .long x2]
      refine xi_aload_n (by decide +kernel : decode mX11_unlike.2.1 56 = .ok (.aload_n 0, 1)) rfl rfl (?_ : XW _ _ _ _ _ _ _ 57 _ _)
      refine xi_iload (by decide +kernel : decode mX11_unlike.2.1 57 = .ok (.iload 4, 2)) rfl (?_ : XW _ _ _ _ _ _ _ 59 _ _)
      obtain ⟨Q1, sp, vc⟩ := vc
      refine xi_callV (b := 0) (bs := 0) (As := [.int x4]) (st := [.long r6, .long x2]) (by decide +kernel : decode mX11_unlike.2.1 59 = .ok (.invokevirtual 457, 3)) kX11_457 rfl rfl (by omega) rfl sp (by decide) (by decide) (Nat.le_of_ble_eq_true rfl) (by omega) (fun v9 h7 hq9 => ?_)
      obtain ⟨r7, e9, vc⟩ := vc v9 h7 hq9
      subst e9
      show XW _ _ _ _ _ _ _ 62 _ [.long r7, .long r6, .long x2]
      refine xi_lmul (by decide +kernel : decode mX11_unlike.2.1 62 = .ok (.lmul, 1)) (?_ : XW _ _ _ _ _ _ _ 63 _ _)
      refine xi_sipush (v := 2520) (by decide +kernel : decode mX11_unlike.2.1 63 = .ok (.sipush 2520, 3)) (by decide) (?_ : XW _ _ _ _ _ _ _ 66 _ _)
      refine xi_aload_n (by decide +kernel : decode mX11_unlike.2.1 66 = .ok (.aload_n 0, 1)) rfl rfl (?_ : XW _ _ _ _ _ _ _ 67 _ _)
      obtain ⟨s1, vc⟩ := vc
      refine xi_getR (y := 60) (by decide +kernel : decode mX11_unlike.2.1 67 = .ok (.getfield 36, 3)) fX11_36 rfl (by omega) rfl s1 (?_ : XW _ _ _ _ _ _ _ 70 _ _)
      refine xi_iload (by decide +kernel : decode mX11_unlike.2.1 70 = .ok (.iload 4, 2)) rfl (?_ : XW _ _ _ _ _ _ _ 72 _ _)
      refine xi_iconst (v := 1) (by decide +kernel : decode mX11_unlike.2.1 72 = .ok (.iconst 1, 1)) (by decide) (?_ : XW _ _ _ _ _ _ _ 73 _ _)
      refine xi_isub (by decide +kernel : decode mX11_unlike.2.1 73 = .ok (.isub, 1)) (?_ : XW _ _ _ _ _ _ _ 74 _ _)
      obtain ⟨s1, vc⟩ := vc
      refine xi_iald (by decide +kernel : decode mX11_unlike.2.1 74 = .ok (.iaload, 1)) rfl (by omega) s1 (?_ : XW _ _ _ _ _ _ _ 75 _ _)
      obtain ⟨s1, vc⟩ := vc
      refine xi_idiv (by decide +kernel : decode mX11_unlike.2.1 75 = .ok (.idiv, 1)) s1 (?_ : XW _ _ _ _ _ _ _ 76 _ _)
      refine xi_i2l (by decide +kernel : decode mX11_unlike.2.1 76 = .ok (.i2l, 1)) (?_ : XW _ _ _ _ _ _ _ 77 _ _)
      refine xi_lmul (by decide +kernel : decode mX11_unlike.2.1 77 = .ok (.lmul, 1)) (?_ : XW _ _ _ _ _ _ _ 78 _ _)
      refine xi_ladd (by decide +kernel : decode mX11_unlike.2.1 78 = .ok (.ladd, 1)) (?_ : XW _ _ _ _ _ _ _ 79 _ _)
      refine xi_lstore_n (ls' := [some (.ref 56), some (.int x1), some (.long (x2 + ((r6 * r7) * (Int32.toInt64 (2520 / (xI h7 60 (x4 - 1).toNatClampNeg)))))), none, some (.int x4), none, none, none]) (by decide +kernel : decode mX11_unlike.2.1 79 = .ok (.lstore_n 2, 1)) rfl (by decide) rfl (?_ : XW _ _ _ _ _ _ _ 80 _ _)
      refine xi_iinc (v := x4 + 1) (ls' := [some (.ref 56), some (.int x1), some (.long (x2 + ((r6 * r7) * (Int32.toInt64 (2520 / (xI h7 60 (x4 - 1).toNatClampNeg)))))), none, some (.int (x4 + 1)), none, none, none]) (by decide +kernel : decode mX11_unlike.2.1 80 = .ok (.iinc 4 1, 3)) rfl rfl (by decide) rfl (?_ : XW _ _ _ _ _ _ _ 83 _ _)
      refine xi_goto (by decide +kernel : decode mX11_unlike.2.1 83 = .ok (.goto (-57), 3)) (by decide) (?_ : XW _ _ _ _ _ _ _ 26 _ _)
      exact vc
    · replace vc := vc.2 c
      refine xi_lconst (v := 0) (by decide +kernel : decode mX11_unlike.2.1 46 = .ok (.lconst 0, 1)) (by decide) (?_ : XW _ _ _ _ _ _ _ 47 _ _)
      refine xi_goto (by decide +kernel : decode mX11_unlike.2.1 47 = .ok (.goto 31, 3)) (by decide) (?_ : XW _ _ _ _ _ _ _ 78 _ _)
      refine xi_ladd (by decide +kernel : decode mX11_unlike.2.1 78 = .ok (.ladd, 1)) (?_ : XW _ _ _ _ _ _ _ 79 _ _)
      refine xi_lstore_n (ls' := [some (.ref 56), some (.int x1), some (.long (x2 + 0)), none, some (.int x4), none, none, none]) (by decide +kernel : decode mX11_unlike.2.1 79 = .ok (.lstore_n 2, 1)) rfl (by decide) rfl (?_ : XW _ _ _ _ _ _ _ 80 _ _)
      refine xi_iinc (v := x4 + 1) (ls' := [some (.ref 56), some (.int x1), some (.long (x2 + 0)), none, some (.int (x4 + 1)), none, none, none]) (by decide +kernel : decode mX11_unlike.2.1 80 = .ok (.iinc 4 1, 3)) rfl rfl (by decide) rfl (?_ : XW _ _ _ _ _ _ _ 83 _ _)
      refine xi_goto (by decide +kernel : decode mX11_unlike.2.1 83 = .ok (.goto (-57), 3)) (by decide) (?_ : XW _ _ _ _ _ _ _ 26 _ _)
      exact vc

set_option maxRecDepth 20000 in
theorem v_X11_worn_0 {h : XH} {Q : Option Value → XH → Prop} {X : String → XH → Prop} (hM : xMod (xP h)) 
    (vc : (¬ (va_up (xI h 56) 2 0 34) = 0 → XW (xrm 3 0 0) mX11_worn (xE 100 Q X 0 0) 100 0 0 (xSI 56 (va_up (xI h 56) 2 0) h) 18 [some (.ref 56), some (.int 1), some (.int 2)] []) ∧ ((va_up (xI h 56) 2 0 34) = 0 → Q (some (.int (-1))) (xSI 56 (va_up (xI h 56) 2 0) h))) :
    XW (xrm 3 0 0) mX11_worn (xE 100 Q X 0 0) 100 0 0 h 0 [some (.ref 56), none, none] [] := by
  refine xi_aload_n (by decide +kernel : decode mX11_worn.2.1 0 = .ok (.aload_n 0, 1)) rfl rfl (?_ : XW _ _ _ _ _ _ _ 1 _ _)
  refine xi_iconst (v := 0) (by decide +kernel : decode mX11_worn.2.1 1 = .ok (.iconst 0, 1)) (by decide) (?_ : XW _ _ _ _ _ _ _ 2 _ _)
  refine xi_putI (by decide +kernel : decode mX11_worn.2.1 2 = .ok (.putfield 161, 3)) fX11_161 rfl (by omega) rfl rfl rfl (?_ : XW _ _ _ _ _ _ (xSI 56 (va_up (xI h 56) 2 0) h) 5 _ _)
  refine xi_aload_n (by decide +kernel : decode mX11_worn.2.1 5 = .ok (.aload_n 0, 1)) rfl rfl (?_ : XW _ _ _ _ _ _ _ 6 _ _)
  refine xi_getI (by decide +kernel : decode mX11_worn.2.1 6 = .ok (.getfield 330, 3)) fX11_330 rfl (by omega) rfl (?_ : XW _ _ _ _ _ _ _ 9 _ [.int (va_up (xI h 56) 2 0 34)])
  refine xi_if_ne (by decide +kernel : decode mX11_worn.2.1 9 = .ok (.ifCond .ne 5, 3)) (by decide) (fun c => (?_ : XW _ _ _ _ _ _ _ 14 _ _)) (fun c => (?_ : XW _ _ _ _ _ _ _ 12 _ _))
  · replace vc := vc.1 c
    refine xi_iconst (v := 1) (by decide +kernel : decode mX11_worn.2.1 14 = .ok (.iconst 1, 1)) (by decide) (?_ : XW _ _ _ _ _ _ _ 15 _ _)
    refine xi_istore_n (ls' := [some (.ref 56), some (.int 1), none]) (by decide +kernel : decode mX11_worn.2.1 15 = .ok (.istore_n 1, 1)) rfl (by decide) rfl (?_ : XW _ _ _ _ _ _ _ 16 _ _)
    refine xi_iconst (v := 2) (by decide +kernel : decode mX11_worn.2.1 16 = .ok (.iconst 2, 1)) (by decide) (?_ : XW _ _ _ _ _ _ _ 17 _ _)
    refine xi_istore_n (ls' := [some (.ref 56), some (.int 1), some (.int 2)]) (by decide +kernel : decode mX11_worn.2.1 17 = .ok (.istore_n 2, 1)) rfl (by decide) rfl (?_ : XW _ _ _ _ _ _ _ 18 _ _)
    exact vc
  · replace vc := vc.2 c
    refine xi_iconst (v := (-1)) (by decide +kernel : decode mX11_worn.2.1 12 = .ok (.iconst (-1), 1)) (by decide) (?_ : XW _ _ _ _ _ _ _ 13 _ _)
    exact xi_iret (by decide +kernel : decode mX11_worn.2.1 13 = .ok (.ireturn, 1)) rfl rfl vc

set_option maxRecDepth 20000 in
theorem v_X11_worn_18 {h : XH} {Q : Option Value → XH → Prop} {X : String → XH → Prop} (hM : xMod (xP h))  (x1 : Int32) (x2 : Int32)
    (vc : (6 < x2 → Q (some (.int x1)) h) ∧ (¬ 6 < x2 → ∃ Q1, XSpec mX11_moreOf 2 0 0 100 100 [.ref 56, .int x2] h Q1 xno ∧ ∀ v h1, Q1 v h1 → ∃ r1 : Int64, v = some (.long r1) ∧ (∃ Q1, XSpec mX11_moreOf 2 0 0 100 100 [.ref 56, .int x1] h1 Q1 xno ∧ ∀ v h2, Q1 v h2 → ∃ r2 : Int64, v = some (.long r2) ∧ (((lg_cmp r1 r2) ≤ 0 → XW (xrm 3 0 0) mX11_worn (xE 100 Q X 0 0) 100 0 0 h2 18 [some (.ref 56), some (.int x1), some (.int (x2 + 1))] []) ∧ (¬ (lg_cmp r1 r2) ≤ 0 → XW (xrm 3 0 0) mX11_worn (xE 100 Q X 0 0) 100 0 0 h2 18 [some (.ref 56), some (.int x2), some (.int (x2 + 1))] []))))) :
    XW (xrm 3 0 0) mX11_worn (xE 100 Q X 0 0) 100 0 0 h 18 [some (.ref 56), some (.int x1), some (.int x2)] [] := by
  refine xi_iload_n (by decide +kernel : decode mX11_worn.2.1 18 = .ok (.iload_n 2, 1)) rfl rfl (?_ : XW _ _ _ _ _ _ _ 19 _ _)
  refine xi_bipush (v := 6) (by decide +kernel : decode mX11_worn.2.1 19 = .ok (.bipush 6, 2)) (by decide) (?_ : XW _ _ _ _ _ _ _ 21 _ _)
  refine xi_icmp_gt (by decide +kernel : decode mX11_worn.2.1 21 = .ok (.if_icmp .gt 25, 3)) (by decide) (fun c => (?_ : XW _ _ _ _ _ _ _ 46 _ _)) (fun c => (?_ : XW _ _ _ _ _ _ _ 24 _ _))
  · replace vc := vc.1 c
    refine xi_iload_n (by decide +kernel : decode mX11_worn.2.1 46 = .ok (.iload_n 1, 1)) rfl rfl (?_ : XW _ _ _ _ _ _ _ 47 _ _)
    exact xi_iret (by decide +kernel : decode mX11_worn.2.1 47 = .ok (.ireturn, 1)) rfl rfl vc
  · replace vc := vc.2 c
    refine xi_aload_n (by decide +kernel : decode mX11_worn.2.1 24 = .ok (.aload_n 0, 1)) rfl rfl (?_ : XW _ _ _ _ _ _ _ 25 _ _)
    refine xi_iload_n (by decide +kernel : decode mX11_worn.2.1 25 = .ok (.iload_n 2, 1)) rfl rfl (?_ : XW _ _ _ _ _ _ _ 26 _ _)
    obtain ⟨Q1, sp, vc⟩ := vc
    refine xi_callV (b := 0) (bs := 0) (As := [.int x2]) (st := []) (by decide +kernel : decode mX11_worn.2.1 26 = .ok (.invokevirtual 457, 3)) kX11_457 rfl rfl (by omega) rfl sp (by decide) (by decide) (Nat.le_of_ble_eq_true rfl) (by omega) (fun v9 h1 hq9 => ?_)
    obtain ⟨r1, e9, vc⟩ := vc v9 h1 hq9
    subst e9
    show XW _ _ _ _ _ _ _ 29 _ [.long r1]
    refine xi_aload_n (by decide +kernel : decode mX11_worn.2.1 29 = .ok (.aload_n 0, 1)) rfl rfl (?_ : XW _ _ _ _ _ _ _ 30 _ _)
    refine xi_iload_n (by decide +kernel : decode mX11_worn.2.1 30 = .ok (.iload_n 1, 1)) rfl rfl (?_ : XW _ _ _ _ _ _ _ 31 _ _)
    obtain ⟨Q1, sp, vc⟩ := vc
    refine xi_callV (b := 0) (bs := 0) (As := [.int x1]) (st := [.long r1]) (by decide +kernel : decode mX11_worn.2.1 31 = .ok (.invokevirtual 457, 3)) kX11_457 rfl rfl (by omega) rfl sp (by decide) (by decide) (Nat.le_of_ble_eq_true rfl) (by omega) (fun v9 h2 hq9 => ?_)
    obtain ⟨r2, e9, vc⟩ := vc v9 h2 hq9
    subst e9
    show XW _ _ _ _ _ _ _ 34 _ [.long r2, .long r1]
    refine xi_lcmp (by decide +kernel : decode mX11_worn.2.1 34 = .ok (.lcmp, 1)) (?_ : XW _ _ _ _ _ _ _ 35 _ _)
    refine xi_if_le (by decide +kernel : decode mX11_worn.2.1 35 = .ok (.ifCond .le 5, 3)) (by decide) (fun c => (?_ : XW _ _ _ _ _ _ _ 40 _ _)) (fun c => (?_ : XW _ _ _ _ _ _ _ 38 _ _))
    · replace vc := vc.1 c
      refine xi_iinc (v := x2 + 1) (ls' := [some (.ref 56), some (.int x1), some (.int (x2 + 1))]) (by decide +kernel : decode mX11_worn.2.1 40 = .ok (.iinc 2 1, 3)) rfl rfl (by decide) rfl (?_ : XW _ _ _ _ _ _ _ 43 _ _)
      refine xi_goto (by decide +kernel : decode mX11_worn.2.1 43 = .ok (.goto (-25), 3)) (by decide) (?_ : XW _ _ _ _ _ _ _ 18 _ _)
      exact vc
    · replace vc := vc.2 c
      refine xi_iload_n (by decide +kernel : decode mX11_worn.2.1 38 = .ok (.iload_n 2, 1)) rfl rfl (?_ : XW _ _ _ _ _ _ _ 39 _ _)
      refine xi_istore_n (ls' := [some (.ref 56), some (.int x2), some (.int x2)]) (by decide +kernel : decode mX11_worn.2.1 39 = .ok (.istore_n 1, 1)) rfl (by decide) rfl (?_ : XW _ _ _ _ _ _ _ 40 _ _)
      refine xi_iinc (v := x2 + 1) (ls' := [some (.ref 56), some (.int x2), some (.int (x2 + 1))]) (by decide +kernel : decode mX11_worn.2.1 40 = .ok (.iinc 2 1, 3)) rfl rfl (by decide) rfl (?_ : XW _ _ _ _ _ _ _ 43 _ _)
      refine xi_goto (by decide +kernel : decode mX11_worn.2.1 43 = .ok (.goto (-25), 3)) (by decide) (?_ : XW _ _ _ _ _ _ _ 18 _ _)
      exact vc

set_option maxRecDepth 20000 in
theorem v_X11_common_0 {h : XH} {Q : Option Value → XH → Prop} {X : String → XH → Prop} (n : Nat)  (a9 : Int64) (b9 : Int64)
    (vc : XW (xrm 1 0 0) mX11_common (xE n Q X 0 0) n 0 0 h 6 [none, none, none, none, some (.long a9), none, some (.long b9), none, none, none] []) :
    XW (xrm 1 0 0) mX11_common (xE n Q X 0 0) n 0 0 h 0 [some (.long a9), none, some (.long b9), none, none, none, none, none, none, none] [] := by
  refine xi_lload_n (by decide +kernel : decode mX11_common.2.1 0 = .ok (.lload_n 0, 1)) rfl rfl (?_ : XW _ _ _ _ _ _ _ 1 _ _)
  refine xi_lstore (ls' := [some (.long a9), none, some (.long b9), none, some (.long a9), none, none, none, none, none]) (by decide +kernel : decode mX11_common.2.1 1 = .ok (.lstore 4, 2)) (by decide) rfl (?_ : XW _ _ _ _ _ _ _ 3 _ _)
  refine xi_lload_n (by decide +kernel : decode mX11_common.2.1 3 = .ok (.lload_n 2, 1)) rfl rfl (?_ : XW _ _ _ _ _ _ _ 4 _ _)
  refine xi_lstore (ls' := [some (.long a9), none, some (.long b9), none, some (.long a9), none, some (.long b9), none, none, none]) (by decide +kernel : decode mX11_common.2.1 4 = .ok (.lstore 6, 2)) (by decide) rfl (?_ : XW _ _ _ _ _ _ _ 6 _ _)
  refine xw_drop 0 (ls' := [none, none, some (.long b9), none, some (.long a9), none, some (.long b9), none, none, none]) rfl ?_
  refine xw_drop 2 (ls' := [none, none, none, none, some (.long a9), none, some (.long b9), none, none, none]) rfl ?_
  exact vc

set_option maxRecDepth 20000 in
theorem v_X11_common_6 {h : XH} {Q : Option Value → XH → Prop} {X : String → XH → Prop} (n : Nat)  (x4 : Int64) (x6 : Int64)
    (vc : ((lg_cmp x6 0) = 0 → Q (some (.long x4)) h) ∧ (¬ (lg_cmp x6 0) = 0 → (¬ x6 = 0) ∧ (XW (xrm 1 0 0) mX11_common (xE n Q X 0 0) n 0 0 h 6 [none, none, none, none, some (.long x6), none, some (.long (x4 - x4 / x6 * x6)), none, none, none] []))) :
    XW (xrm 1 0 0) mX11_common (xE n Q X 0 0) n 0 0 h 6 [none, none, none, none, some (.long x4), none, some (.long x6), none, none, none] [] := by
  refine xi_lload (by decide +kernel : decode mX11_common.2.1 6 = .ok (.lload 6, 2)) rfl (?_ : XW _ _ _ _ _ _ _ 8 _ _)
  refine xi_lconst (v := 0) (by decide +kernel : decode mX11_common.2.1 8 = .ok (.lconst 0, 1)) (by decide) (?_ : XW _ _ _ _ _ _ _ 9 _ _)
  refine xi_lcmp (by decide +kernel : decode mX11_common.2.1 9 = .ok (.lcmp, 1)) (?_ : XW _ _ _ _ _ _ _ 10 _ _)
  refine xi_if_eq (by decide +kernel : decode mX11_common.2.1 10 = .ok (.ifCond .eq 21, 3)) (by decide) (fun c => (?_ : XW _ _ _ _ _ _ _ 31 _ _)) (fun c => (?_ : XW _ _ _ _ _ _ _ 13 _ _))
  · replace vc := vc.1 c
    refine xi_lload (by decide +kernel : decode mX11_common.2.1 31 = .ok (.lload 4, 2)) rfl (?_ : XW _ _ _ _ _ _ _ 33 _ _)
    exact xi_lret (by decide +kernel : decode mX11_common.2.1 33 = .ok (.lreturn, 1)) rfl vc
  · replace vc := vc.2 c
    refine xi_lload (by decide +kernel : decode mX11_common.2.1 13 = .ok (.lload 4, 2)) rfl (?_ : XW _ _ _ _ _ _ _ 15 _ _)
    refine xi_lload (by decide +kernel : decode mX11_common.2.1 15 = .ok (.lload 6, 2)) rfl (?_ : XW _ _ _ _ _ _ _ 17 _ _)
    obtain ⟨s1, vc⟩ := vc
    refine xi_lrem (by decide +kernel : decode mX11_common.2.1 17 = .ok (.lrem, 1)) s1 (?_ : XW _ _ _ _ _ _ _ 18 _ _)
    refine xi_lstore (ls' := [none, none, none, none, some (.long x4), none, some (.long x6), none, some (.long (x4 - x4 / x6 * x6)), none]) (by decide +kernel : decode mX11_common.2.1 18 = .ok (.lstore 8, 2)) (by decide) rfl (?_ : XW _ _ _ _ _ _ _ 20 _ _)
    refine xi_lload (by decide +kernel : decode mX11_common.2.1 20 = .ok (.lload 6, 2)) rfl (?_ : XW _ _ _ _ _ _ _ 22 _ _)
    refine xi_lstore (ls' := [none, none, none, none, some (.long x6), none, some (.long x6), none, some (.long (x4 - x4 / x6 * x6)), none]) (by decide +kernel : decode mX11_common.2.1 22 = .ok (.lstore 4, 2)) (by decide) rfl (?_ : XW _ _ _ _ _ _ _ 24 _ _)
    refine xi_lload (by decide +kernel : decode mX11_common.2.1 24 = .ok (.lload 8, 2)) rfl (?_ : XW _ _ _ _ _ _ _ 26 _ _)
    refine xi_lstore (ls' := [none, none, none, none, some (.long x6), none, some (.long (x4 - x4 / x6 * x6)), none, some (.long (x4 - x4 / x6 * x6)), none]) (by decide +kernel : decode mX11_common.2.1 26 = .ok (.lstore 6, 2)) (by decide) rfl (?_ : XW _ _ _ _ _ _ _ 28 _ _)
    refine xi_goto (by decide +kernel : decode mX11_common.2.1 28 = .ok (.goto (-22), 3)) (by decide) (?_ : XW _ _ _ _ _ _ _ 6 _ _)
    refine xw_drop 8 (ls' := [none, none, none, none, some (.long x6), none, some (.long (x4 - x4 / x6 * x6)), none, none, none]) rfl ?_
    exact vc

