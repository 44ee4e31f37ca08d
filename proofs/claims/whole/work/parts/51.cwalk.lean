/-! THE CLASS: its walks of ways and sand -/
set_option maxRecDepth 20000 in
theorem v_X10_fewest_0 {h : XH} {Q : Option Value → XH → Prop} {X : String → XH → Prop} (r : Nat) (hbp : BP r h)  (q : Int32)
    (vc : ∃ Q1 X1, XSpec mX10_needSquare 7 1 6 100 100 [.ref 0, .int q] h Q1 X1 ∧ (∀ E9 h9, X1 E9 h9 → X E9 h9) ∧ ∀ v h1, Q1 v h1 → v = none ∧ ((xP h1 0 10 = some 39) ∧ ((xP h1 0 3 = some r) ∧ ((xP h1 0 5 = some 21) ∧ (∃ Q1, XSpec mX8_findHome 3 0 0 100 100 [.ref 39, .ref r, .ref 21] h1 Q1 xno ∧ ∀ v h2, Q1 v h2 → v = none ∧ ((xP h2 0 10 = some 39) ∧ ((xP h2 0 3 = some r) ∧ ((xP h2 0 5 = some 21) ∧ (∃ Q1, XSpec mX8_keepFewest 3 0 0 100 100 [.ref 39, .ref r, .ref 21, .int q] h2 Q1 xno ∧ ∀ v h3, Q1 v h3 → ∃ r3 : Int32, v = some (.int r3) ∧ (Q (some (.int r3)) h3)))))))))) :
    XW (xrm 8 1 6) mX10_fewest (xE 100 Q X 1 6) 100 1 6 h 0 [some (.ref 0), some (.int q)] [] := by
  obtain ⟨hb, hr, hnr, ha21, ha25, hu29, hu34, hw, hnt, hwr⟩ := hbp
  refine xi_aload_n (by decide +kernel : decode mX10_fewest.2.1 0 = .ok (.aload_n 0, 1)) rfl rfl (?_ : XW _ _ _ _ _ _ _ 1 _ _)
  refine xi_iload_n (by decide +kernel : decode mX10_fewest.2.1 1 = .ok (.iload_n 1, 1)) rfl rfl (?_ : XW _ _ _ _ _ _ _ 2 _ _)
  obtain ⟨Q1, X1, sp, tx, vc⟩ := vc
  refine xi_callVX (b := 0) (bs := 0) (As := [.int q]) (st := []) (by decide +kernel : decode mX10_fewest.2.1 2 = .ok (.invokevirtual 184, 3)) kX10_184 rfl rfl (by omega) rfl sp (by decide) (by decide) (Nat.le_of_ble_eq_true rfl) (by omega) rfl tx (fun v9 h1 hq9 => ?_)
  obtain ⟨e9, vc⟩ := vc v9 h1 hq9
  subst e9
  show XW _ _ _ _ _ _ _ 5 _ []
  refine xi_aload_n (by decide +kernel : decode mX10_fewest.2.1 5 = .ok (.aload_n 0, 1)) rfl rfl (?_ : XW _ _ _ _ _ _ _ 6 _ _)
  obtain ⟨s1, vc⟩ := vc
  refine xi_getR (y := 39) (by decide +kernel : decode mX10_fewest.2.1 6 = .ok (.getfield 63, 3)) fX10_63 rfl (by omega) rfl s1 (?_ : XW _ _ _ _ _ _ _ 9 _ _)
  refine xi_aload_n (by decide +kernel : decode mX10_fewest.2.1 9 = .ok (.aload_n 0, 1)) rfl rfl (?_ : XW _ _ _ _ _ _ _ 10 _ _)
  obtain ⟨s1, vc⟩ := vc
  refine xi_getR (y := r) (by decide +kernel : decode mX10_fewest.2.1 10 = .ok (.getfield 23, 3)) fX10_23 rfl (by omega) rfl s1 (?_ : XW _ _ _ _ _ _ _ 13 _ _)
  refine xi_aload_n (by decide +kernel : decode mX10_fewest.2.1 13 = .ok (.aload_n 0, 1)) rfl rfl (?_ : XW _ _ _ _ _ _ _ 14 _ _)
  obtain ⟨s1, vc⟩ := vc
  refine xi_getR (y := 21) (by decide +kernel : decode mX10_fewest.2.1 14 = .ok (.getfield 39, 3)) fX10_39 rfl (by omega) rfl s1 (?_ : XW _ _ _ _ _ _ _ 17 _ _)
  obtain ⟨Q1, sp, vc⟩ := vc
  refine xi_callV (b := 0) (bs := 0) (As := [.ref r, .ref 21]) (st := []) (by decide +kernel : decode mX10_fewest.2.1 17 = .ok (.invokevirtual 225, 3)) kX10_225 rfl rfl (by omega) rfl sp (by decide) (by decide) (Nat.le_of_ble_eq_true rfl) (by omega) (fun v9 h2 hq9 => ?_)
  obtain ⟨e9, vc⟩ := vc v9 h2 hq9
  subst e9
  show XW _ _ _ _ _ _ _ 20 _ []
  refine xi_aload_n (by decide +kernel : decode mX10_fewest.2.1 20 = .ok (.aload_n 0, 1)) rfl rfl (?_ : XW _ _ _ _ _ _ _ 21 _ _)
  obtain ⟨s1, vc⟩ := vc
  refine xi_getR (y := 39) (by decide +kernel : decode mX10_fewest.2.1 21 = .ok (.getfield 63, 3)) fX10_63 rfl (by omega) rfl s1 (?_ : XW _ _ _ _ _ _ _ 24 _ _)
  refine xi_aload_n (by decide +kernel : decode mX10_fewest.2.1 24 = .ok (.aload_n 0, 1)) rfl rfl (?_ : XW _ _ _ _ _ _ _ 25 _ _)
  obtain ⟨s1, vc⟩ := vc
  refine xi_getR (y := r) (by decide +kernel : decode mX10_fewest.2.1 25 = .ok (.getfield 23, 3)) fX10_23 rfl (by omega) rfl s1 (?_ : XW _ _ _ _ _ _ _ 28 _ _)
  refine xi_aload_n (by decide +kernel : decode mX10_fewest.2.1 28 = .ok (.aload_n 0, 1)) rfl rfl (?_ : XW _ _ _ _ _ _ _ 29 _ _)
  obtain ⟨s1, vc⟩ := vc
  refine xi_getR (y := 21) (by decide +kernel : decode mX10_fewest.2.1 29 = .ok (.getfield 39, 3)) fX10_39 rfl (by omega) rfl s1 (?_ : XW _ _ _ _ _ _ _ 32 _ _)
  refine xi_iload_n (by decide +kernel : decode mX10_fewest.2.1 32 = .ok (.iload_n 1, 1)) rfl rfl (?_ : XW _ _ _ _ _ _ _ 33 _ _)
  obtain ⟨Q1, sp, vc⟩ := vc
  refine xi_callV (b := 0) (bs := 0) (As := [.ref r, .ref 21, .int q]) (st := []) (by decide +kernel : decode mX10_fewest.2.1 33 = .ok (.invokevirtual 229, 3)) kX10_229 rfl rfl (by omega) rfl sp (by decide) (by decide) (Nat.le_of_ble_eq_true rfl) (by omega) (fun v9 h3 hq9 => ?_)
  obtain ⟨r3, e9, vc⟩ := vc v9 h3 hq9
  subst e9
  show XW _ _ _ _ _ _ _ 36 _ [.int r3]
  exact xi_iret (by decide +kernel : decode mX10_fewest.2.1 36 = .ok (.ireturn, 1)) rfl rfl vc

set_option maxRecDepth 20000 in
theorem v_X10_never_0 {h : XH} {Q : Option Value → XH → Prop} {X : String → XH → Prop} (r : Nat) (hbp : BP r h)  (q : Int32)
    (vc : ∃ Q1 X1, XSpec mX10_needSquare 7 1 6 100 100 [.ref 0, .int q] h Q1 X1 ∧ (∀ E9 h9, X1 E9 h9 → X E9 h9) ∧ ∀ v h1, Q1 v h1 → v = none ∧ ((xP h1 0 10 = some 39) ∧ ((xP h1 0 3 = some r) ∧ ((xP h1 0 5 = some 21) ∧ (∃ Q1, XSpec mX8_findFrom 3 0 0 100 100 [.ref 39, .ref r, .ref 21, .int 0] h1 Q1 xno ∧ ∀ v h2, Q1 v h2 → v = none ∧ ((q = 0 → Q (some (.int 0)) h2) ∧ (¬ q = 0 → (xP h2 0 10 = some 39) ∧ (∃ Q1, XSpec mX8_throwsOf 1 0 0 100 100 [.ref 39, .int q] h2 Q1 xno ∧ ∀ v h3, Q1 v h3 → ∃ r3 : Int32, v = some (.int r3) ∧ ((¬ r3 = (-1) → Q (some (.int 0)) h3) ∧ (r3 = (-1) → Q (some (.int 1)) h3)))))))))) :
    XW (xrm 8 1 6) mX10_never (xE 100 Q X 1 6) 100 1 6 h 0 [some (.ref 0), some (.int q)] [] := by
  obtain ⟨hb, hr, hnr, ha21, ha25, hu29, hu34, hw, hnt, hwr⟩ := hbp
  refine xi_aload_n (by decide +kernel : decode mX10_never.2.1 0 = .ok (.aload_n 0, 1)) rfl rfl (?_ : XW _ _ _ _ _ _ _ 1 _ _)
  refine xi_iload_n (by decide +kernel : decode mX10_never.2.1 1 = .ok (.iload_n 1, 1)) rfl rfl (?_ : XW _ _ _ _ _ _ _ 2 _ _)
  obtain ⟨Q1, X1, sp, tx, vc⟩ := vc
  refine xi_callVX (b := 0) (bs := 0) (As := [.int q]) (st := []) (by decide +kernel : decode mX10_never.2.1 2 = .ok (.invokevirtual 184, 3)) kX10_184 rfl rfl (by omega) rfl sp (by decide) (by decide) (Nat.le_of_ble_eq_true rfl) (by omega) rfl tx (fun v9 h1 hq9 => ?_)
  obtain ⟨e9, vc⟩ := vc v9 h1 hq9
  subst e9
  show XW _ _ _ _ _ _ _ 5 _ []
  refine xi_aload_n (by decide +kernel : decode mX10_never.2.1 5 = .ok (.aload_n 0, 1)) rfl rfl (?_ : XW _ _ _ _ _ _ _ 6 _ _)
  obtain ⟨s1, vc⟩ := vc
  refine xi_getR (y := 39) (by decide +kernel : decode mX10_never.2.1 6 = .ok (.getfield 63, 3)) fX10_63 rfl (by omega) rfl s1 (?_ : XW _ _ _ _ _ _ _ 9 _ _)
  refine xi_aload_n (by decide +kernel : decode mX10_never.2.1 9 = .ok (.aload_n 0, 1)) rfl rfl (?_ : XW _ _ _ _ _ _ _ 10 _ _)
  obtain ⟨s1, vc⟩ := vc
  refine xi_getR (y := r) (by decide +kernel : decode mX10_never.2.1 10 = .ok (.getfield 23, 3)) fX10_23 rfl (by omega) rfl s1 (?_ : XW _ _ _ _ _ _ _ 13 _ _)
  refine xi_aload_n (by decide +kernel : decode mX10_never.2.1 13 = .ok (.aload_n 0, 1)) rfl rfl (?_ : XW _ _ _ _ _ _ _ 14 _ _)
  obtain ⟨s1, vc⟩ := vc
  refine xi_getR (y := 21) (by decide +kernel : decode mX10_never.2.1 14 = .ok (.getfield 39, 3)) fX10_39 rfl (by omega) rfl s1 (?_ : XW _ _ _ _ _ _ _ 17 _ _)
  refine xi_iconst (v := 0) (by decide +kernel : decode mX10_never.2.1 17 = .ok (.iconst 0, 1)) (by decide) (?_ : XW _ _ _ _ _ _ _ 18 _ _)
  obtain ⟨Q1, sp, vc⟩ := vc
  refine xi_callV (b := 0) (bs := 0) (As := [.ref r, .ref 21, .int 0]) (st := []) (by decide +kernel : decode mX10_never.2.1 18 = .ok (.invokevirtual 236, 3)) kX10_236 rfl rfl (by omega) rfl sp (by decide) (by decide) (Nat.le_of_ble_eq_true rfl) (by omega) (fun v9 h2 hq9 => ?_)
  obtain ⟨e9, vc⟩ := vc v9 h2 hq9
  subst e9
  show XW _ _ _ _ _ _ _ 21 _ []
  refine xi_iload_n (by decide +kernel : decode mX10_never.2.1 21 = .ok (.iload_n 1, 1)) rfl rfl (?_ : XW _ _ _ _ _ _ _ 22 _ _)
  refine xi_if_eq (by decide +kernel : decode mX10_never.2.1 22 = .ok (.ifCond .eq 19, 3)) (by decide) (fun c => (?_ : XW _ _ _ _ _ _ _ 41 _ _)) (fun c => (?_ : XW _ _ _ _ _ _ _ 25 _ _))
  · replace vc := vc.1 c
    refine xi_iconst (v := 0) (by decide +kernel : decode mX10_never.2.1 41 = .ok (.iconst 0, 1)) (by decide) (?_ : XW _ _ _ _ _ _ _ 42 _ _)
    exact xi_iret (by decide +kernel : decode mX10_never.2.1 42 = .ok (.ireturn, 1)) rfl rfl vc
  · replace vc := vc.2 c
    refine xi_aload_n (by decide +kernel : decode mX10_never.2.1 25 = .ok (.aload_n 0, 1)) rfl rfl (?_ : XW _ _ _ _ _ _ _ 26 _ _)
    obtain ⟨s1, vc⟩ := vc
    refine xi_getR (y := 39) (by decide +kernel : decode mX10_never.2.1 26 = .ok (.getfield 63, 3)) fX10_63 rfl (by omega) rfl s1 (?_ : XW _ _ _ _ _ _ _ 29 _ _)
    refine xi_iload_n (by decide +kernel : decode mX10_never.2.1 29 = .ok (.iload_n 1, 1)) rfl rfl (?_ : XW _ _ _ _ _ _ _ 30 _ _)
    obtain ⟨Q1, sp, vc⟩ := vc
    refine xi_callV (b := 0) (bs := 0) (As := [.int q]) (st := []) (by decide +kernel : decode mX10_never.2.1 30 = .ok (.invokevirtual 240, 3)) kX10_240 rfl rfl (by omega) rfl sp (by decide) (by decide) (Nat.le_of_ble_eq_true rfl) (by omega) (fun v9 h3 hq9 => ?_)
    obtain ⟨r3, e9, vc⟩ := vc v9 h3 hq9
    subst e9
    show XW _ _ _ _ _ _ _ 33 _ [.int r3]
    refine xi_iconst (v := (-1)) (by decide +kernel : decode mX10_never.2.1 33 = .ok (.iconst (-1), 1)) (by decide) (?_ : XW _ _ _ _ _ _ _ 34 _ _)
    refine xi_icmp_ne (by decide +kernel : decode mX10_never.2.1 34 = .ok (.if_icmp .ne 7, 3)) (by decide) (fun c => (?_ : XW _ _ _ _ _ _ _ 41 _ _)) (fun c => (?_ : XW _ _ _ _ _ _ _ 37 _ _))
    · replace vc := vc.1 c
      refine xi_iconst (v := 0) (by decide +kernel : decode mX10_never.2.1 41 = .ok (.iconst 0, 1)) (by decide) (?_ : XW _ _ _ _ _ _ _ 42 _ _)
      exact xi_iret (by decide +kernel : decode mX10_never.2.1 42 = .ok (.ireturn, 1)) rfl rfl vc
    · replace vc := vc.2 c
      refine xi_iconst (v := 1) (by decide +kernel : decode mX10_never.2.1 37 = .ok (.iconst 1, 1)) (by decide) (?_ : XW _ _ _ _ _ _ _ 38 _ _)
      refine xi_goto (by decide +kernel : decode mX10_never.2.1 38 = .ok (.goto 4, 3)) (by decide) (?_ : XW _ _ _ _ _ _ _ 42 _ _)
      exact xi_iret (by decide +kernel : decode mX10_never.2.1 42 = .ok (.ireturn, 1)) rfl rfl vc

set_option maxRecDepth 20000 in
theorem v_X10_lost_0 {h : XH} {Q : Option Value → XH → Prop} {X : String → XH → Prop} (r : Nat) (hbp : BP r h)  (q : Int32)
    (vc : ∃ Q1 X1, XSpec mX10_needSquare 7 1 6 100 100 [.ref 0, .int q] h Q1 X1 ∧ (∀ E9 h9, X1 E9 h9 → X E9 h9) ∧ ∀ v h1, Q1 v h1 → v = none ∧ ((xP h1 0 10 = some 39) ∧ ((xP h1 0 3 = some r) ∧ ((xP h1 0 5 = some 21) ∧ (∃ Q1, XSpec mX8_findHome 3 0 0 100 100 [.ref 39, .ref r, .ref 21] h1 Q1 xno ∧ ∀ v h2, Q1 v h2 → v = none ∧ ((xP h2 0 10 = some 39) ∧ (∃ Q1, XSpec mX8_throwsOf 1 0 0 100 100 [.ref 39, .int q] h2 Q1 xno ∧ ∀ v h3, Q1 v h3 → ∃ r3 : Int32, v = some (.int r3) ∧ ((¬ r3 = (-1) → Q (some (.int 0)) h3) ∧ (r3 = (-1) → Q (some (.int 1)) h3))))))))) :
    XW (xrm 8 1 6) mX10_lost (xE 100 Q X 1 6) 100 1 6 h 0 [some (.ref 0), some (.int q)] [] := by
  obtain ⟨hb, hr, hnr, ha21, ha25, hu29, hu34, hw, hnt, hwr⟩ := hbp
  refine xi_aload_n (by decide +kernel : decode mX10_lost.2.1 0 = .ok (.aload_n 0, 1)) rfl rfl (?_ : XW _ _ _ _ _ _ _ 1 _ _)
  refine xi_iload_n (by decide +kernel : decode mX10_lost.2.1 1 = .ok (.iload_n 1, 1)) rfl rfl (?_ : XW _ _ _ _ _ _ _ 2 _ _)
  obtain ⟨Q1, X1, sp, tx, vc⟩ := vc
  refine xi_callVX (b := 0) (bs := 0) (As := [.int q]) (st := []) (by decide +kernel : decode mX10_lost.2.1 2 = .ok (.invokevirtual 184, 3)) kX10_184 rfl rfl (by omega) rfl sp (by decide) (by decide) (Nat.le_of_ble_eq_true rfl) (by omega) rfl tx (fun v9 h1 hq9 => ?_)
  obtain ⟨e9, vc⟩ := vc v9 h1 hq9
  subst e9
  show XW _ _ _ _ _ _ _ 5 _ []
  refine xi_aload_n (by decide +kernel : decode mX10_lost.2.1 5 = .ok (.aload_n 0, 1)) rfl rfl (?_ : XW _ _ _ _ _ _ _ 6 _ _)
  obtain ⟨s1, vc⟩ := vc
  refine xi_getR (y := 39) (by decide +kernel : decode mX10_lost.2.1 6 = .ok (.getfield 63, 3)) fX10_63 rfl (by omega) rfl s1 (?_ : XW _ _ _ _ _ _ _ 9 _ _)
  refine xi_aload_n (by decide +kernel : decode mX10_lost.2.1 9 = .ok (.aload_n 0, 1)) rfl rfl (?_ : XW _ _ _ _ _ _ _ 10 _ _)
  obtain ⟨s1, vc⟩ := vc
  refine xi_getR (y := r) (by decide +kernel : decode mX10_lost.2.1 10 = .ok (.getfield 23, 3)) fX10_23 rfl (by omega) rfl s1 (?_ : XW _ _ _ _ _ _ _ 13 _ _)
  refine xi_aload_n (by decide +kernel : decode mX10_lost.2.1 13 = .ok (.aload_n 0, 1)) rfl rfl (?_ : XW _ _ _ _ _ _ _ 14 _ _)
  obtain ⟨s1, vc⟩ := vc
  refine xi_getR (y := 21) (by decide +kernel : decode mX10_lost.2.1 14 = .ok (.getfield 39, 3)) fX10_39 rfl (by omega) rfl s1 (?_ : XW _ _ _ _ _ _ _ 17 _ _)
  obtain ⟨Q1, sp, vc⟩ := vc
  refine xi_callV (b := 0) (bs := 0) (As := [.ref r, .ref 21]) (st := []) (by decide +kernel : decode mX10_lost.2.1 17 = .ok (.invokevirtual 225, 3)) kX10_225 rfl rfl (by omega) rfl sp (by decide) (by decide) (Nat.le_of_ble_eq_true rfl) (by omega) (fun v9 h2 hq9 => ?_)
  obtain ⟨e9, vc⟩ := vc v9 h2 hq9
  subst e9
  show XW _ _ _ _ _ _ _ 20 _ []
  refine xi_aload_n (by decide +kernel : decode mX10_lost.2.1 20 = .ok (.aload_n 0, 1)) rfl rfl (?_ : XW _ _ _ _ _ _ _ 21 _ _)
  obtain ⟨s1, vc⟩ := vc
  refine xi_getR (y := 39) (by decide +kernel : decode mX10_lost.2.1 21 = .ok (.getfield 63, 3)) fX10_63 rfl (by omega) rfl s1 (?_ : XW _ _ _ _ _ _ _ 24 _ _)
  refine xi_iload_n (by decide +kernel : decode mX10_lost.2.1 24 = .ok (.iload_n 1, 1)) rfl rfl (?_ : XW _ _ _ _ _ _ _ 25 _ _)
  obtain ⟨Q1, sp, vc⟩ := vc
  refine xi_callV (b := 0) (bs := 0) (As := [.int q]) (st := []) (by decide +kernel : decode mX10_lost.2.1 25 = .ok (.invokevirtual 240, 3)) kX10_240 rfl rfl (by omega) rfl sp (by decide) (by decide) (Nat.le_of_ble_eq_true rfl) (by omega) (fun v9 h3 hq9 => ?_)
  obtain ⟨r3, e9, vc⟩ := vc v9 h3 hq9
  subst e9
  show XW _ _ _ _ _ _ _ 28 _ [.int r3]
  refine xi_iconst (v := (-1)) (by decide +kernel : decode mX10_lost.2.1 28 = .ok (.iconst (-1), 1)) (by decide) (?_ : XW _ _ _ _ _ _ _ 29 _ _)
  refine xi_icmp_ne (by decide +kernel : decode mX10_lost.2.1 29 = .ok (.if_icmp .ne 7, 3)) (by decide) (fun c => (?_ : XW _ _ _ _ _ _ _ 36 _ _)) (fun c => (?_ : XW _ _ _ _ _ _ _ 32 _ _))
  · replace vc := vc.1 c
    refine xi_iconst (v := 0) (by decide +kernel : decode mX10_lost.2.1 36 = .ok (.iconst 0, 1)) (by decide) (?_ : XW _ _ _ _ _ _ _ 37 _ _)
    exact xi_iret (by decide +kernel : decode mX10_lost.2.1 37 = .ok (.ireturn, 1)) rfl rfl vc
  · replace vc := vc.2 c
    refine xi_iconst (v := 1) (by decide +kernel : decode mX10_lost.2.1 32 = .ok (.iconst 1, 1)) (by decide) (?_ : XW _ _ _ _ _ _ _ 33 _ _)
    refine xi_goto (by decide +kernel : decode mX10_lost.2.1 33 = .ok (.goto 4, 3)) (by decide) (?_ : XW _ _ _ _ _ _ _ 37 _ _)
    exact xi_iret (by decide +kernel : decode mX10_lost.2.1 37 = .ok (.ireturn, 1)) rfl rfl vc

set_option maxRecDepth 20000 in
theorem v_X10_round_0 {h : XH} {Q : Option Value → XH → Prop} {X : String → XH → Prop} (r : Nat) (hbp : BP r h)  (q : Int32)
    (vc : ∃ Q1 X1, XSpec mX10_needSquare 7 1 6 100 100 [.ref 0, .int q] h Q1 X1 ∧ (∀ E9 h9, X1 E9 h9 → X E9 h9) ∧ ∀ v h1, Q1 v h1 → v = none ∧ ((xP h1 0 10 = some 39) ∧ ((xP h1 0 3 = some r) ∧ ((xP h1 0 5 = some 21) ∧ (∃ Q1, XSpec mX8_findFrom 3 0 0 100 100 [.ref 39, .ref r, .ref 21, .int q] h1 Q1 xno ∧ ∀ v h2, Q1 v h2 → v = none ∧ ((xP h2 0 10 = some 39) ∧ (∃ Q1, XSpec mX8_throwsOf 1 0 0 100 100 [.ref 39, .int q] h2 Q1 xno ∧ ∀ v h3, Q1 v h3 → ∃ r3 : Int32, v = some (.int r3) ∧ (Q (some (.int r3)) h3)))))))) :
    XW (xrm 8 1 6) mX10_round (xE 100 Q X 1 6) 100 1 6 h 0 [some (.ref 0), some (.int q)] [] := by
  obtain ⟨hb, hr, hnr, ha21, ha25, hu29, hu34, hw, hnt, hwr⟩ := hbp
  refine xi_aload_n (by decide +kernel : decode mX10_round.2.1 0 = .ok (.aload_n 0, 1)) rfl rfl (?_ : XW _ _ _ _ _ _ _ 1 _ _)
  refine xi_iload_n (by decide +kernel : decode mX10_round.2.1 1 = .ok (.iload_n 1, 1)) rfl rfl (?_ : XW _ _ _ _ _ _ _ 2 _ _)
  obtain ⟨Q1, X1, sp, tx, vc⟩ := vc
  refine xi_callVX (b := 0) (bs := 0) (As := [.int q]) (st := []) (by decide +kernel : decode mX10_round.2.1 2 = .ok (.invokevirtual 184, 3)) kX10_184 rfl rfl (by omega) rfl sp (by decide) (by decide) (Nat.le_of_ble_eq_true rfl) (by omega) rfl tx (fun v9 h1 hq9 => ?_)
  obtain ⟨e9, vc⟩ := vc v9 h1 hq9
  subst e9
  show XW _ _ _ _ _ _ _ 5 _ []
  refine xi_aload_n (by decide +kernel : decode mX10_round.2.1 5 = .ok (.aload_n 0, 1)) rfl rfl (?_ : XW _ _ _ _ _ _ _ 6 _ _)
  obtain ⟨s1, vc⟩ := vc
  refine xi_getR (y := 39) (by decide +kernel : decode mX10_round.2.1 6 = .ok (.getfield 63, 3)) fX10_63 rfl (by omega) rfl s1 (?_ : XW _ _ _ _ _ _ _ 9 _ _)
  refine xi_aload_n (by decide +kernel : decode mX10_round.2.1 9 = .ok (.aload_n 0, 1)) rfl rfl (?_ : XW _ _ _ _ _ _ _ 10 _ _)
  obtain ⟨s1, vc⟩ := vc
  refine xi_getR (y := r) (by decide +kernel : decode mX10_round.2.1 10 = .ok (.getfield 23, 3)) fX10_23 rfl (by omega) rfl s1 (?_ : XW _ _ _ _ _ _ _ 13 _ _)
  refine xi_aload_n (by decide +kernel : decode mX10_round.2.1 13 = .ok (.aload_n 0, 1)) rfl rfl (?_ : XW _ _ _ _ _ _ _ 14 _ _)
  obtain ⟨s1, vc⟩ := vc
  refine xi_getR (y := 21) (by decide +kernel : decode mX10_round.2.1 14 = .ok (.getfield 39, 3)) fX10_39 rfl (by omega) rfl s1 (?_ : XW _ _ _ _ _ _ _ 17 _ _)
  refine xi_iload_n (by decide +kernel : decode mX10_round.2.1 17 = .ok (.iload_n 1, 1)) rfl rfl (?_ : XW _ _ _ _ _ _ _ 18 _ _)
  obtain ⟨Q1, sp, vc⟩ := vc
  refine xi_callV (b := 0) (bs := 0) (As := [.ref r, .ref 21, .int q]) (st := []) (by decide +kernel : decode mX10_round.2.1 18 = .ok (.invokevirtual 236, 3)) kX10_236 rfl rfl (by omega) rfl sp (by decide) (by decide) (Nat.le_of_ble_eq_true rfl) (by omega) (fun v9 h2 hq9 => ?_)
  obtain ⟨e9, vc⟩ := vc v9 h2 hq9
  subst e9
  show XW _ _ _ _ _ _ _ 21 _ []
  refine xi_aload_n (by decide +kernel : decode mX10_round.2.1 21 = .ok (.aload_n 0, 1)) rfl rfl (?_ : XW _ _ _ _ _ _ _ 22 _ _)
  obtain ⟨s1, vc⟩ := vc
  refine xi_getR (y := 39) (by decide +kernel : decode mX10_round.2.1 22 = .ok (.getfield 63, 3)) fX10_63 rfl (by omega) rfl s1 (?_ : XW _ _ _ _ _ _ _ 25 _ _)
  refine xi_iload_n (by decide +kernel : decode mX10_round.2.1 25 = .ok (.iload_n 1, 1)) rfl rfl (?_ : XW _ _ _ _ _ _ _ 26 _ _)
  obtain ⟨Q1, sp, vc⟩ := vc
  refine xi_callV (b := 0) (bs := 0) (As := [.int q]) (st := []) (by decide +kernel : decode mX10_round.2.1 26 = .ok (.invokevirtual 240, 3)) kX10_240 rfl rfl (by omega) rfl sp (by decide) (by decide) (Nat.le_of_ble_eq_true rfl) (by omega) (fun v9 h3 hq9 => ?_)
  obtain ⟨r3, e9, vc⟩ := vc v9 h3 hq9
  subst e9
  show XW _ _ _ _ _ _ _ 29 _ [.int r3]
  exact xi_iret (by decide +kernel : decode mX10_round.2.1 29 = .ok (.ireturn, 1)) rfl rfl vc

set_option maxRecDepth 20000 in
theorem v_X10_row_0 {h : XH} {Q : Option Value → XH → Prop} {X : String → XH → Prop} (r : Nat) (hbp : BP r h)  (q : Int32)
    (vc : (q < 0 → X "java/util/NoSuchElementException" h) ∧ (¬ q < 0 → ((xI h 39 0) ≤ q → X "java/util/NoSuchElementException" h) ∧ (¬ (xI h 39 0) ≤ q → (q < 101 → (vp_in q 101) ∧ (Q (some (.int (xI h 40 q.toNatClampNeg))) h)) ∧ (¬ q < 101 → X "java/util/NoSuchElementException" h)))) :
    XW (xrm 7 1 6) mX10_row (xE 100 Q X 1 6) 100 1 6 h 0 [some (.ref 0), some (.int q)] [] := by
  obtain ⟨hb, hr, hnr, ha21, ha25, hu29, hu34, hw, hnt, hwr⟩ := hbp
  refine xi_iload_n (by decide +kernel : decode mX10_row.2.1 0 = .ok (.iload_n 1, 1)) rfl rfl (?_ : XW _ _ _ _ _ _ _ 1 _ _)
  refine xi_if_lt (by decide +kernel : decode mX10_row.2.1 1 = .ok (.ifCond .lt 26, 3)) (by decide) (fun c => (?_ : XW _ _ _ _ _ _ _ 27 _ _)) (fun c => (?_ : XW _ _ _ _ _ _ _ 4 _ _))
  · replace vc := vc.1 c
    exact xi_throw (b := 0) (bs := 0) xT_174 (by decide +kernel : decode mX10_row.2.1 27 = .ok (.new 172, 3)) (by decide +kernel : decode mX10_row.2.1 30 = .ok (.dup, 1)) (by decide +kernel : decode mX10_row.2.1 31 = .ok (.invokespecial 174, 3)) (by decide +kernel : decode mX10_row.2.1 34 = .ok (.athrow, 1)) rfl (by decide) (Nat.le_of_ble_eq_true rfl) vc
  · replace vc := vc.2 c
    refine xi_iload_n (by decide +kernel : decode mX10_row.2.1 4 = .ok (.iload_n 1, 1)) rfl rfl (?_ : XW _ _ _ _ _ _ _ 5 _ _)
    refine xi_aload_n (by decide +kernel : decode mX10_row.2.1 5 = .ok (.aload_n 0, 1)) rfl rfl (?_ : XW _ _ _ _ _ _ _ 6 _ _)
    refine xi_getR (y := 39) (by decide +kernel : decode mX10_row.2.1 6 = .ok (.getfield 63, 3)) fX10_63 rfl (by omega) rfl hb.2.2.2.2.2.2.2.1 (?_ : XW _ _ _ _ _ _ _ 9 _ _)
    refine xi_getI (by decide +kernel : decode mX10_row.2.1 9 = .ok (.getfield 142, 3)) fX10_142 rfl (by omega) rfl (?_ : XW _ _ _ _ _ _ _ 12 _ _)
    refine xi_icmp_ge (by decide +kernel : decode mX10_row.2.1 12 = .ok (.if_icmp .ge 15, 3)) (by decide) (fun c => (?_ : XW _ _ _ _ _ _ _ 27 _ _)) (fun c => (?_ : XW _ _ _ _ _ _ _ 15 _ _))
    · replace vc := vc.1 c
      exact xi_throw (b := 0) (bs := 0) xT_174 (by decide +kernel : decode mX10_row.2.1 27 = .ok (.new 172, 3)) (by decide +kernel : decode mX10_row.2.1 30 = .ok (.dup, 1)) (by decide +kernel : decode mX10_row.2.1 31 = .ok (.invokespecial 174, 3)) (by decide +kernel : decode mX10_row.2.1 34 = .ok (.athrow, 1)) rfl (by decide) (Nat.le_of_ble_eq_true rfl) vc
    · replace vc := vc.2 c
      refine xi_iload_n (by decide +kernel : decode mX10_row.2.1 15 = .ok (.iload_n 1, 1)) rfl rfl (?_ : XW _ _ _ _ _ _ _ 16 _ _)
      refine xi_aload_n (by decide +kernel : decode mX10_row.2.1 16 = .ok (.aload_n 0, 1)) rfl rfl (?_ : XW _ _ _ _ _ _ _ 17 _ _)
      refine xi_getR (y := 39) (by decide +kernel : decode mX10_row.2.1 17 = .ok (.getfield 63, 3)) fX10_63 rfl (by omega) rfl hb.2.2.2.2.2.2.2.1 (?_ : XW _ _ _ _ _ _ _ 20 _ _)
      refine xi_getR (y := 40) (by decide +kernel : decode mX10_row.2.1 20 = .ok (.getfield 232, 3)) fX10_232 rfl (by omega) rfl hw.1 (?_ : XW _ _ _ _ _ _ _ 23 _ _)
      refine xi_alen (v := 101) (by decide +kernel : decode mX10_row.2.1 23 = .ok (.arraylength, 1)) rfl (by omega) (Or.inl rfl) rfl (?_ : XW _ _ _ _ _ _ _ 24 _ _)
      refine xi_icmp_lt (by decide +kernel : decode mX10_row.2.1 24 = .ok (.if_icmp .lt 11, 3)) (by decide) (fun c => (?_ : XW _ _ _ _ _ _ _ 35 _ _)) (fun c => (?_ : XW _ _ _ _ _ _ _ 27 _ _))
      · replace vc := vc.1 c
        refine xi_aload_n (by decide +kernel : decode mX10_row.2.1 35 = .ok (.aload_n 0, 1)) rfl rfl (?_ : XW _ _ _ _ _ _ _ 36 _ _)
        refine xi_getR (y := 39) (by decide +kernel : decode mX10_row.2.1 36 = .ok (.getfield 63, 3)) fX10_63 rfl (by omega) rfl hb.2.2.2.2.2.2.2.1 (?_ : XW _ _ _ _ _ _ _ 39 _ _)
        refine xi_getR (y := 40) (by decide +kernel : decode mX10_row.2.1 39 = .ok (.getfield 232, 3)) fX10_232 rfl (by omega) rfl hw.1 (?_ : XW _ _ _ _ _ _ _ 42 _ _)
        refine xi_iload_n (by decide +kernel : decode mX10_row.2.1 42 = .ok (.iload_n 1, 1)) rfl rfl (?_ : XW _ _ _ _ _ _ _ 43 _ _)
        obtain ⟨s1, vc⟩ := vc
        refine xi_iald (by decide +kernel : decode mX10_row.2.1 43 = .ok (.iaload, 1)) rfl (by omega) s1 (?_ : XW _ _ _ _ _ _ _ 44 _ _)
        exact xi_iret (by decide +kernel : decode mX10_row.2.1 44 = .ok (.ireturn, 1)) rfl rfl vc
      · replace vc := vc.2 c
        exact xi_throw (b := 0) (bs := 0) xT_174 (by decide +kernel : decode mX10_row.2.1 27 = .ok (.new 172, 3)) (by decide +kernel : decode mX10_row.2.1 30 = .ok (.dup, 1)) (by decide +kernel : decode mX10_row.2.1 31 = .ok (.invokespecial 174, 3)) (by decide +kernel : decode mX10_row.2.1 34 = .ok (.athrow, 1)) rfl (by decide) (Nat.le_of_ble_eq_true rfl) vc

set_option maxRecDepth 20000 in
theorem v_X10_grains_0 {h : XH} {Q : Option Value → XH → Prop} {X : String → XH → Prop} (r : Nat) (hbp : BP r h)  (q : Int32) (n : Int32) (w : Int32)
    (vc : ∃ Q1 X1, XSpec mX10_needSquare 7 1 6 100 100 [.ref 0, .int q] h Q1 X1 ∧ (∀ E9 h9, X1 E9 h9 → X E9 h9) ∧ ∀ v h1, Q1 v h1 → v = none ∧ (∃ Q1 X1, XSpec mX10_needWhat 7 1 6 100 100 [.ref 0, .int w, .int 2] h1 Q1 X1 ∧ (∀ E9 h9, X1 E9 h9 → X E9 h9) ∧ ∀ v h2, Q1 v h2 → v = none ∧ (∃ Q1 X1, XSpec mX10_needThrows 7 1 6 100 100 [.ref 0, .int n] h2 Q1 X1 ∧ (∀ E9 h9, X1 E9 h9 → X E9 h9) ∧ ∀ v h3, Q1 v h3 → v = none ∧ ((¬ w = 1 → (xP h3 0 11 = some 43) ∧ ((xP h3 0 3 = some r) ∧ (∃ Q1, XSpec mX6_pour 2 0 0 100 100 [.ref 43, .ref r, .int q] h3 Q1 xno ∧ ∀ v h4, Q1 v h4 → v = none ∧ ((xP h4 0 11 = some 43) ∧ (∃ Q1, XSpec mX6_out 2 0 0 100 100 [.ref 43] h4 Q1 xno ∧ ∀ v h5, Q1 v h5 → ∃ r5 : Int64, v = some (.long r5) ∧ (XW (xrm 8 3 18) mX10_grains (xE 100 Q X 3 18) 100 0 0 h5 63 [some (.ref 0), none, some (.int n), some (.int w), some (.long r5), none, some (.int 0)] [])))))) ∧ (w = 1 → (xP h3 0 11 = some 43) ∧ ((xP h3 0 3 = some r) ∧ ((xP h3 0 5 = some 21) ∧ (∃ Q1, XSpec mX6_sumOut 4 0 0 100 100 [.ref 43, .ref r, .ref 21, .int q, .int n] h3 Q1 xno ∧ ∀ v h6, Q1 v h6 → ∃ r6 : Int64, v = some (.long r6) ∧ (Q (some (.long r6)) h6))))))))) :
    XW (xrm 8 3 18) mX10_grains (xE 100 Q X 3 18) 100 3 18 h 0 [some (.ref 0), some (.int q), some (.int n), some (.int w), none, none, none] [] := by
  obtain ⟨hb, hr, hnr, ha21, ha25, hu29, hu34, hw, hnt, hwr⟩ := hbp
  refine xi_aload_n (by decide +kernel : decode mX10_grains.2.1 0 = .ok (.aload_n 0, 1)) rfl rfl (?_ : XW _ _ _ _ _ _ _ 1 _ _)
  refine xi_iload_n (by decide +kernel : decode mX10_grains.2.1 1 = .ok (.iload_n 1, 1)) rfl rfl (?_ : XW _ _ _ _ _ _ _ 2 _ _)
  obtain ⟨Q1, X1, sp, tx, vc⟩ := vc
  refine xi_callVX (b := 2) (bs := 12) (As := [.int q]) (st := []) (by decide +kernel : decode mX10_grains.2.1 2 = .ok (.invokevirtual 184, 3)) kX10_184 rfl rfl (by omega) rfl sp (by decide) (by decide) (Nat.le_of_ble_eq_true rfl) (by omega) rfl tx (fun v9 h1 hq9 => ?_)
  obtain ⟨e9, vc⟩ := vc v9 h1 hq9
  subst e9
  show XW _ _ _ _ _ _ _ 5 _ []
  refine xi_aload_n (by decide +kernel : decode mX10_grains.2.1 5 = .ok (.aload_n 0, 1)) rfl rfl (?_ : XW _ _ _ _ _ _ _ 6 _ _)
  refine xi_iload_n (by decide +kernel : decode mX10_grains.2.1 6 = .ok (.iload_n 3, 1)) rfl rfl (?_ : XW _ _ _ _ _ _ _ 7 _ _)
  refine xi_iconst (v := 2) (by decide +kernel : decode mX10_grains.2.1 7 = .ok (.iconst 2, 1)) (by decide) (?_ : XW _ _ _ _ _ _ _ 8 _ _)
  obtain ⟨Q1, X1, sp, tx, vc⟩ := vc
  refine xi_callVX (b := 1) (bs := 6) (As := [.int w, .int 2]) (st := []) (by decide +kernel : decode mX10_grains.2.1 8 = .ok (.invokevirtual 243, 3)) kX10_243 rfl rfl (by omega) rfl sp (by decide) (by decide) (Nat.le_of_ble_eq_true rfl) (by omega) rfl tx (fun v9 h2 hq9 => ?_)
  obtain ⟨e9, vc⟩ := vc v9 h2 hq9
  subst e9
  show XW _ _ _ _ _ _ _ 11 _ []
  refine xi_aload_n (by decide +kernel : decode mX10_grains.2.1 11 = .ok (.aload_n 0, 1)) rfl rfl (?_ : XW _ _ _ _ _ _ _ 12 _ _)
  refine xi_iload_n (by decide +kernel : decode mX10_grains.2.1 12 = .ok (.iload_n 2, 1)) rfl rfl (?_ : XW _ _ _ _ _ _ _ 13 _ _)
  obtain ⟨Q1, X1, sp, tx, vc⟩ := vc
  refine xi_callVX (b := 0) (bs := 0) (As := [.int n]) (st := []) (by decide +kernel : decode mX10_grains.2.1 13 = .ok (.invokevirtual 247, 3)) kX10_247 rfl rfl (by omega) rfl sp (by decide) (by decide) (Nat.le_of_ble_eq_true rfl) (by omega) rfl tx (fun v9 h3 hq9 => ?_)
  obtain ⟨e9, vc⟩ := vc v9 h3 hq9
  subst e9
  show XW _ _ _ _ _ _ _ 16 _ []
  refine xi_iload_n (by decide +kernel : decode mX10_grains.2.1 16 = .ok (.iload_n 3, 1)) rfl rfl (?_ : XW _ _ _ _ _ _ _ 17 _ _)
  refine xi_iconst (v := 1) (by decide +kernel : decode mX10_grains.2.1 17 = .ok (.iconst 1, 1)) (by decide) (?_ : XW _ _ _ _ _ _ _ 18 _ _)
  refine xi_icmp_ne (by decide +kernel : decode mX10_grains.2.1 18 = .ok (.if_icmp .ne 21, 3)) (by decide) (fun c => (?_ : XW _ _ _ _ _ _ _ 39 _ _)) (fun c => (?_ : XW _ _ _ _ _ _ _ 21 _ _))
  · replace vc := vc.1 c
    refine xi_aload_n (by decide +kernel : decode mX10_grains.2.1 39 = .ok (.aload_n 0, 1)) rfl rfl (?_ : XW _ _ _ _ _ _ _ 40 _ _)
    obtain ⟨s1, vc⟩ := vc
    refine xi_getR (y := 43) (by decide +kernel : decode mX10_grains.2.1 40 = .ok (.getfield 70, 3)) fX10_70 rfl (by omega) rfl s1 (?_ : XW _ _ _ _ _ _ _ 43 _ _)
    refine xi_aload_n (by decide +kernel : decode mX10_grains.2.1 43 = .ok (.aload_n 0, 1)) rfl rfl (?_ : XW _ _ _ _ _ _ _ 44 _ _)
    obtain ⟨s1, vc⟩ := vc
    refine xi_getR (y := r) (by decide +kernel : decode mX10_grains.2.1 44 = .ok (.getfield 23, 3)) fX10_23 rfl (by omega) rfl s1 (?_ : XW _ _ _ _ _ _ _ 47 _ _)
    refine xi_iload_n (by decide +kernel : decode mX10_grains.2.1 47 = .ok (.iload_n 1, 1)) rfl rfl (?_ : XW _ _ _ _ _ _ _ 48 _ _)
    obtain ⟨Q1, sp, vc⟩ := vc
    refine xi_callV (b := 0) (bs := 0) (As := [.ref r, .int q]) (st := []) (by decide +kernel : decode mX10_grains.2.1 48 = .ok (.invokevirtual 254, 3)) kX10_254 rfl rfl (by omega) rfl sp (by decide) (by decide) (Nat.le_of_ble_eq_true rfl) (by omega) (fun v9 h4 hq9 => ?_)
    obtain ⟨e9, vc⟩ := vc v9 h4 hq9
    subst e9
    show XW _ _ _ _ _ _ _ 51 _ []
    refine xi_aload_n (by decide +kernel : decode mX10_grains.2.1 51 = .ok (.aload_n 0, 1)) rfl rfl (?_ : XW _ _ _ _ _ _ _ 52 _ _)
    obtain ⟨s1, vc⟩ := vc
    refine xi_getR (y := 43) (by decide +kernel : decode mX10_grains.2.1 52 = .ok (.getfield 70, 3)) fX10_70 rfl (by omega) rfl s1 (?_ : XW _ _ _ _ _ _ _ 55 _ _)
    obtain ⟨Q1, sp, vc⟩ := vc
    refine xi_callV (b := 0) (bs := 0) (As := []) (st := []) (by decide +kernel : decode mX10_grains.2.1 55 = .ok (.invokevirtual 257, 3)) kX10_257 rfl rfl (by omega) rfl sp (by decide) (by decide) (Nat.le_of_ble_eq_true rfl) (by omega) (fun v9 h5 hq9 => ?_)
    obtain ⟨r5, e9, vc⟩ := vc v9 h5 hq9
    subst e9
    show XW _ _ _ _ _ _ _ 58 _ [.long r5]
    refine xi_lstore (ls' := [some (.ref 0), some (.int q), some (.int n), some (.int w), some (.long r5), none, none]) (by decide +kernel : decode mX10_grains.2.1 58 = .ok (.lstore 4, 2)) (by decide) rfl (?_ : XW _ _ _ _ _ _ _ 60 _ _)
    refine xi_iconst (v := 0) (by decide +kernel : decode mX10_grains.2.1 60 = .ok (.iconst 0, 1)) (by decide) (?_ : XW _ _ _ _ _ _ _ 61 _ _)
    refine xi_istore (ls' := [some (.ref 0), some (.int q), some (.int n), some (.int w), some (.long r5), none, some (.int 0)]) (by decide +kernel : decode mX10_grains.2.1 61 = .ok (.istore 6, 2)) (by decide) rfl (?_ : XW _ _ _ _ _ _ _ 63 _ _)
    refine xw_drop 1 (ls' := [some (.ref 0), none, some (.int n), some (.int w), some (.long r5), none, some (.int 0)]) rfl ?_
    exact vc
  · replace vc := vc.2 c
    refine xi_aload_n (by decide +kernel : decode mX10_grains.2.1 21 = .ok (.aload_n 0, 1)) rfl rfl (?_ : XW _ _ _ _ _ _ _ 22 _ _)
    obtain ⟨s1, vc⟩ := vc
    refine xi_getR (y := 43) (by decide +kernel : decode mX10_grains.2.1 22 = .ok (.getfield 70, 3)) fX10_70 rfl (by omega) rfl s1 (?_ : XW _ _ _ _ _ _ _ 25 _ _)
    refine xi_aload_n (by decide +kernel : decode mX10_grains.2.1 25 = .ok (.aload_n 0, 1)) rfl rfl (?_ : XW _ _ _ _ _ _ _ 26 _ _)
    obtain ⟨s1, vc⟩ := vc
    refine xi_getR (y := r) (by decide +kernel : decode mX10_grains.2.1 26 = .ok (.getfield 23, 3)) fX10_23 rfl (by omega) rfl s1 (?_ : XW _ _ _ _ _ _ _ 29 _ _)
    refine xi_aload_n (by decide +kernel : decode mX10_grains.2.1 29 = .ok (.aload_n 0, 1)) rfl rfl (?_ : XW _ _ _ _ _ _ _ 30 _ _)
    obtain ⟨s1, vc⟩ := vc
    refine xi_getR (y := 21) (by decide +kernel : decode mX10_grains.2.1 30 = .ok (.getfield 39, 3)) fX10_39 rfl (by omega) rfl s1 (?_ : XW _ _ _ _ _ _ _ 33 _ _)
    refine xi_iload_n (by decide +kernel : decode mX10_grains.2.1 33 = .ok (.iload_n 1, 1)) rfl rfl (?_ : XW _ _ _ _ _ _ _ 34 _ _)
    refine xi_iload_n (by decide +kernel : decode mX10_grains.2.1 34 = .ok (.iload_n 2, 1)) rfl rfl (?_ : XW _ _ _ _ _ _ _ 35 _ _)
    obtain ⟨Q1, sp, vc⟩ := vc
    refine xi_callV (b := 0) (bs := 0) (As := [.ref r, .ref 21, .int q, .int n]) (st := []) (by decide +kernel : decode mX10_grains.2.1 35 = .ok (.invokevirtual 250, 3)) kX10_250 rfl rfl (by omega) rfl sp (by decide) (by decide) (Nat.le_of_ble_eq_true rfl) (by omega) (fun v9 h6 hq9 => ?_)
    obtain ⟨r6, e9, vc⟩ := vc v9 h6 hq9
    subst e9
    show XW _ _ _ _ _ _ _ 38 _ [.long r6]
    exact xi_lret (by decide +kernel : decode mX10_grains.2.1 38 = .ok (.lreturn, 1)) rfl vc

set_option maxRecDepth 20000 in
theorem v_X10_grains_63 {h : XH} {Q : Option Value → XH → Prop} {X : String → XH → Prop} (r : Nat) (hbp : BP r h)  (x2 : Int32) (x3 : Int32) (x4 : Int64) (x6 : Int32)
    (vc : (x2 ≤ x6 → (¬ x3 = 0 → ∃ Q1, XSpec mX6_out 2 0 0 100 100 [.ref 43] h Q1 xno ∧ ∀ v h7, Q1 v h7 → ∃ r7 : Int64, v = some (.long r7) ∧ (Q (some (.long (x4 - r7))) h7)) ∧ (x3 = 0 → ∃ Q1, XSpec mX6_out 2 0 0 100 100 [.ref 43] h Q1 xno ∧ ∀ v h8, Q1 v h8 → ∃ r8 : Int64, v = some (.long r8) ∧ (Q (some (.long r8)) h8))) ∧ (¬ x2 ≤ x6 → ∃ Q1, XSpec mX6_out 2 0 0 100 100 [.ref 43] h Q1 xno ∧ ∀ v h9, Q1 v h9 → ∃ r9 : Int64, v = some (.long r9) ∧ ((xP h9 0 11 = some 43) ∧ ((xP h9 0 3 = some r) ∧ ((xP h9 0 5 = some 21) ∧ (∃ Q1, XSpec mX6_share 3 0 0 100 100 [.ref 43, .ref r, .ref 21] h9 Q1 xno ∧ ∀ v h10, Q1 v h10 → v = none ∧ (XW (xrm 8 3 18) mX10_grains (xE 100 Q X 3 18) 100 0 0 h10 63 [some (.ref 0), none, some (.int x2), some (.int x3), some (.long r9), none, some (.int (x6 + 1))] []))))))) :
    XW (xrm 8 3 18) mX10_grains (xE 100 Q X 3 18) 100 0 0 h 63 [some (.ref 0), none, some (.int x2), some (.int x3), some (.long x4), none, some (.int x6)] [] := by
  obtain ⟨hb, hr, hnr, ha21, ha25, hu29, hu34, hw, hnt, hwr⟩ := hbp
  refine xi_iload (by decide +kernel : decode mX10_grains.2.1 63 = .ok (.iload 6, 2)) rfl (?_ : XW _ _ _ _ _ _ _ 65 _ _)
  refine xi_iload_n (by decide +kernel : decode mX10_grains.2.1 65 = .ok (.iload_n 2, 1)) rfl rfl (?_ : XW _ _ _ _ _ _ _ 66 _ _)
  refine xi_icmp_ge (by decide +kernel : decode mX10_grains.2.1 66 = .ok (.if_icmp .ge 33, 3)) (by decide) (fun c => (?_ : XW _ _ _ _ _ _ _ 99 _ _)) (fun c => (?_ : XW _ _ _ _ _ _ _ 69 _ _))
  · replace vc := vc.1 c
    refine xi_iload_n (by decide +kernel : decode mX10_grains.2.1 99 = .ok (.iload_n 3, 1)) rfl rfl (?_ : XW _ _ _ _ _ _ _ 100 _ _)
    refine xi_if_ne (by decide +kernel : decode mX10_grains.2.1 100 = .ok (.ifCond .ne 13, 3)) (by decide) (fun c => (?_ : XW _ _ _ _ _ _ _ 113 _ _)) (fun c => (?_ : XW _ _ _ _ _ _ _ 103 _ _))
    · replace vc := vc.1 c
      refine xi_lload (by decide +kernel : decode mX10_grains.2.1 113 = .ok (.lload 4, 2)) rfl (?_ : XW _ _ _ _ _ _ _ 115 _ _)
      refine xi_aload_n (by decide +kernel : decode mX10_grains.2.1 115 = .ok (.aload_n 0, 1)) rfl rfl (?_ : XW _ _ _ _ _ _ _ 116 _ _)
      refine xi_getR (y := 43) (by decide +kernel : decode mX10_grains.2.1 116 = .ok (.getfield 70, 3)) fX10_70 rfl (by omega) rfl hb.2.2.2.2.2.2.2.2.1 (?_ : XW _ _ _ _ _ _ _ 119 _ _)
      obtain ⟨Q1, sp, vc⟩ := vc
      refine xi_callV (b := 0) (bs := 0) (As := []) (st := [.long x4]) (by decide +kernel : decode mX10_grains.2.1 119 = .ok (.invokevirtual 257, 3)) kX10_257 rfl rfl (by omega) rfl sp (by decide) (by decide) (Nat.le_of_ble_eq_true rfl) (by omega) (fun v9 h7 hq9 => ?_)
      obtain ⟨r7, e9, vc⟩ := vc v9 h7 hq9
      subst e9
      show XW _ _ _ _ _ _ _ 122 _ [.long r7, .long x4]
      refine xi_lsub (by decide +kernel : decode mX10_grains.2.1 122 = .ok (.lsub, 1)) (?_ : XW _ _ _ _ _ _ _ 123 _ _)
      exact xi_lret (by decide +kernel : decode mX10_grains.2.1 123 = .ok (.lreturn, 1)) rfl vc
    · replace vc := vc.2 c
      refine xi_aload_n (by decide +kernel : decode mX10_grains.2.1 103 = .ok (.aload_n 0, 1)) rfl rfl (?_ : XW _ _ _ _ _ _ _ 104 _ _)
      refine xi_getR (y := 43) (by decide +kernel : decode mX10_grains.2.1 104 = .ok (.getfield 70, 3)) fX10_70 rfl (by omega) rfl hb.2.2.2.2.2.2.2.2.1 (?_ : XW _ _ _ _ _ _ _ 107 _ _)
      obtain ⟨Q1, sp, vc⟩ := vc
      refine xi_callV (b := 0) (bs := 0) (As := []) (st := []) (by decide +kernel : decode mX10_grains.2.1 107 = .ok (.invokevirtual 257, 3)) kX10_257 rfl rfl (by omega) rfl sp (by decide) (by decide) (Nat.le_of_ble_eq_true rfl) (by omega) (fun v9 h8 hq9 => ?_)
      obtain ⟨r8, e9, vc⟩ := vc v9 h8 hq9
      subst e9
      show XW _ _ _ _ _ _ _ 110 _ [.long r8]
      refine xi_goto (by decide +kernel : decode mX10_grains.2.1 110 = .ok (.goto 13, 3)) (by decide) (?_ : XW _ _ _ _ _ _ _ 123 _ _)
      exact xi_lret (by decide +kernel : decode mX10_grains.2.1 123 = .ok (.lreturn, 1)) rfl vc
  · replace vc := vc.2 c
    refine xi_aload_n (by decide +kernel : decode mX10_grains.2.1 69 = .ok (.aload_n 0, 1)) rfl rfl (?_ : XW _ _ _ _ _ _ _ 70 _ _)
    refine xi_getR (y := 43) (by decide +kernel : decode mX10_grains.2.1 70 = .ok (.getfield 70, 3)) fX10_70 rfl (by omega) rfl hb.2.2.2.2.2.2.2.2.1 (?_ : XW _ _ _ _ _ _ _ 73 _ _)
    obtain ⟨Q1, sp, vc⟩ := vc
    refine xi_callV (b := 0) (bs := 0) (As := []) (st := []) (by decide +kernel : decode mX10_grains.2.1 73 = .ok (.invokevirtual 257, 3)) kX10_257 rfl rfl (by omega) rfl sp (by decide) (by decide) (Nat.le_of_ble_eq_true rfl) (by omega) (fun v9 h9 hq9 => ?_)
    obtain ⟨r9, e9, vc⟩ := vc v9 h9 hq9
    subst e9
    show XW _ _ _ _ _ _ _ 76 _ [.long r9]
    refine xi_lstore (ls' := [some (.ref 0), none, some (.int x2), some (.int x3), some (.long r9), none, some (.int x6)]) (by decide +kernel : decode mX10_grains.2.1 76 = .ok (.lstore 4, 2)) (by decide) rfl (?_ : XW _ _ _ _ _ _ _ 78 _ _)
    refine xi_aload_n (by decide +kernel : decode mX10_grains.2.1 78 = .ok (.aload_n 0, 1)) rfl rfl (?_ : XW _ _ _ _ _ _ _ 79 _ _)
    obtain ⟨s1, vc⟩ := vc
    refine xi_getR (y := 43) (by decide +kernel : decode mX10_grains.2.1 79 = .ok (.getfield 70, 3)) fX10_70 rfl (by omega) rfl s1 (?_ : XW _ _ _ _ _ _ _ 82 _ _)
    refine xi_aload_n (by decide +kernel : decode mX10_grains.2.1 82 = .ok (.aload_n 0, 1)) rfl rfl (?_ : XW _ _ _ _ _ _ _ 83 _ _)
    obtain ⟨s1, vc⟩ := vc
    refine xi_getR (y := r) (by decide +kernel : decode mX10_grains.2.1 83 = .ok (.getfield 23, 3)) fX10_23 rfl (by omega) rfl s1 (?_ : XW _ _ _ _ _ _ _ 86 _ _)
    refine xi_aload_n (by decide +kernel : decode mX10_grains.2.1 86 = .ok (.aload_n 0, 1)) rfl rfl (?_ : XW _ _ _ _ _ _ _ 87 _ _)
    obtain ⟨s1, vc⟩ := vc
    refine xi_getR (y := 21) (by decide +kernel : decode mX10_grains.2.1 87 = .ok (.getfield 39, 3)) fX10_39 rfl (by omega) rfl s1 (?_ : XW _ _ _ _ _ _ _ 90 _ _)
    obtain ⟨Q1, sp, vc⟩ := vc
    refine xi_callV (b := 0) (bs := 0) (As := [.ref r, .ref 21]) (st := []) (by decide +kernel : decode mX10_grains.2.1 90 = .ok (.invokevirtual 261, 3)) kX10_261 rfl rfl (by omega) rfl sp (by decide) (by decide) (Nat.le_of_ble_eq_true rfl) (by omega) (fun v9 h10 hq9 => ?_)
    obtain ⟨e9, vc⟩ := vc v9 h10 hq9
    subst e9
    show XW _ _ _ _ _ _ _ 93 _ []
    refine xi_iinc (v := x6 + 1) (ls' := [some (.ref 0), none, some (.int x2), some (.int x3), some (.long r9), none, some (.int (x6 + 1))]) (by decide +kernel : decode mX10_grains.2.1 93 = .ok (.iinc 6 1, 3)) rfl rfl (by decide) rfl (?_ : XW _ _ _ _ _ _ _ 96 _ _)
    refine xi_goto (by decide +kernel : decode mX10_grains.2.1 96 = .ok (.goto (-33), 3)) (by decide) (?_ : XW _ _ _ _ _ _ _ 63 _ _)
    exact vc

set_option maxRecDepth 20000 in
theorem v_X10_stood_0 {h : XH} {Q : Option Value → XH → Prop} {X : String → XH → Prop} (r : Nat) (hbp : BP r h)  (f : Int32) (q : Int32) (n : Int32)
    (vc : ∃ Q1 X1, XSpec mX10_needSquare 7 1 6 100 100 [.ref 0, .int f] h Q1 X1 ∧ (∀ E9 h9, X1 E9 h9 → X E9 h9) ∧ ∀ v h1, Q1 v h1 → v = none ∧ (∃ Q1 X1, XSpec mX10_needSquare 7 1 6 100 100 [.ref 0, .int q] h1 Q1 X1 ∧ (∀ E9 h9, X1 E9 h9 → X E9 h9) ∧ ∀ v h2, Q1 v h2 → v = none ∧ (∃ Q1 X1, XSpec mX10_needThrows 7 1 6 100 100 [.ref 0, .int n] h2 Q1 X1 ∧ (∀ E9 h9, X1 E9 h9 → X E9 h9) ∧ ∀ v h3, Q1 v h3 → v = none ∧ ((xP h3 0 11 = some 43) ∧ ((xP h3 0 3 = some r) ∧ (∃ Q1, XSpec mX6_pour 2 0 0 100 100 [.ref 43, .ref r, .int f] h3 Q1 xno ∧ ∀ v h4, Q1 v h4 → v = none ∧ (XW (xrm 8 3 18) mX10_stood (xE 100 Q X 3 18) 100 0 0 h4 33 [some (.ref 0), none, some (.int q), some (.int n), some (.long 0), none, some (.int 0)] []))))))) :
    XW (xrm 8 3 18) mX10_stood (xE 100 Q X 3 18) 100 3 18 h 0 [some (.ref 0), some (.int f), some (.int q), some (.int n), none, none, none] [] := by
  obtain ⟨hb, hr, hnr, ha21, ha25, hu29, hu34, hw, hnt, hwr⟩ := hbp
  refine xi_aload_n (by decide +kernel : decode mX10_stood.2.1 0 = .ok (.aload_n 0, 1)) rfl rfl (?_ : XW _ _ _ _ _ _ _ 1 _ _)
  refine xi_iload_n (by decide +kernel : decode mX10_stood.2.1 1 = .ok (.iload_n 1, 1)) rfl rfl (?_ : XW _ _ _ _ _ _ _ 2 _ _)
  obtain ⟨Q1, X1, sp, tx, vc⟩ := vc
  refine xi_callVX (b := 2) (bs := 12) (As := [.int f]) (st := []) (by decide +kernel : decode mX10_stood.2.1 2 = .ok (.invokevirtual 184, 3)) kX10_184 rfl rfl (by omega) rfl sp (by decide) (by decide) (Nat.le_of_ble_eq_true rfl) (by omega) rfl tx (fun v9 h1 hq9 => ?_)
  obtain ⟨e9, vc⟩ := vc v9 h1 hq9
  subst e9
  show XW _ _ _ _ _ _ _ 5 _ []
  refine xi_aload_n (by decide +kernel : decode mX10_stood.2.1 5 = .ok (.aload_n 0, 1)) rfl rfl (?_ : XW _ _ _ _ _ _ _ 6 _ _)
  refine xi_iload_n (by decide +kernel : decode mX10_stood.2.1 6 = .ok (.iload_n 2, 1)) rfl rfl (?_ : XW _ _ _ _ _ _ _ 7 _ _)
  obtain ⟨Q1, X1, sp, tx, vc⟩ := vc
  refine xi_callVX (b := 1) (bs := 6) (As := [.int q]) (st := []) (by decide +kernel : decode mX10_stood.2.1 7 = .ok (.invokevirtual 184, 3)) kX10_184 rfl rfl (by omega) rfl sp (by decide) (by decide) (Nat.le_of_ble_eq_true rfl) (by omega) rfl tx (fun v9 h2 hq9 => ?_)
  obtain ⟨e9, vc⟩ := vc v9 h2 hq9
  subst e9
  show XW _ _ _ _ _ _ _ 10 _ []
  refine xi_aload_n (by decide +kernel : decode mX10_stood.2.1 10 = .ok (.aload_n 0, 1)) rfl rfl (?_ : XW _ _ _ _ _ _ _ 11 _ _)
  refine xi_iload_n (by decide +kernel : decode mX10_stood.2.1 11 = .ok (.iload_n 3, 1)) rfl rfl (?_ : XW _ _ _ _ _ _ _ 12 _ _)
  obtain ⟨Q1, X1, sp, tx, vc⟩ := vc
  refine xi_callVX (b := 0) (bs := 0) (As := [.int n]) (st := []) (by decide +kernel : decode mX10_stood.2.1 12 = .ok (.invokevirtual 247, 3)) kX10_247 rfl rfl (by omega) rfl sp (by decide) (by decide) (Nat.le_of_ble_eq_true rfl) (by omega) rfl tx (fun v9 h3 hq9 => ?_)
  obtain ⟨e9, vc⟩ := vc v9 h3 hq9
  subst e9
  show XW _ _ _ _ _ _ _ 15 _ []
  refine xi_aload_n (by decide +kernel : decode mX10_stood.2.1 15 = .ok (.aload_n 0, 1)) rfl rfl (?_ : XW _ _ _ _ _ _ _ 16 _ _)
  obtain ⟨s1, vc⟩ := vc
  refine xi_getR (y := 43) (by decide +kernel : decode mX10_stood.2.1 16 = .ok (.getfield 70, 3)) fX10_70 rfl (by omega) rfl s1 (?_ : XW _ _ _ _ _ _ _ 19 _ _)
  refine xi_aload_n (by decide +kernel : decode mX10_stood.2.1 19 = .ok (.aload_n 0, 1)) rfl rfl (?_ : XW _ _ _ _ _ _ _ 20 _ _)
  obtain ⟨s1, vc⟩ := vc
  refine xi_getR (y := r) (by decide +kernel : decode mX10_stood.2.1 20 = .ok (.getfield 23, 3)) fX10_23 rfl (by omega) rfl s1 (?_ : XW _ _ _ _ _ _ _ 23 _ _)
  refine xi_iload_n (by decide +kernel : decode mX10_stood.2.1 23 = .ok (.iload_n 1, 1)) rfl rfl (?_ : XW _ _ _ _ _ _ _ 24 _ _)
  obtain ⟨Q1, sp, vc⟩ := vc
  refine xi_callV (b := 0) (bs := 0) (As := [.ref r, .int f]) (st := []) (by decide +kernel : decode mX10_stood.2.1 24 = .ok (.invokevirtual 254, 3)) kX10_254 rfl rfl (by omega) rfl sp (by decide) (by decide) (Nat.le_of_ble_eq_true rfl) (by omega) (fun v9 h4 hq9 => ?_)
  obtain ⟨e9, vc⟩ := vc v9 h4 hq9
  subst e9
  show XW _ _ _ _ _ _ _ 27 _ []
  refine xi_lconst (v := 0) (by decide +kernel : decode mX10_stood.2.1 27 = .ok (.lconst 0, 1)) (by decide) (?_ : XW _ _ _ _ _ _ _ 28 _ _)
  refine xi_lstore (ls' := [some (.ref 0), some (.int f), some (.int q), some (.int n), some (.long 0), none, none]) (by decide +kernel : decode mX10_stood.2.1 28 = .ok (.lstore 4, 2)) (by decide) rfl (?_ : XW _ _ _ _ _ _ _ 30 _ _)
  refine xi_iconst (v := 0) (by decide +kernel : decode mX10_stood.2.1 30 = .ok (.iconst 0, 1)) (by decide) (?_ : XW _ _ _ _ _ _ _ 31 _ _)
  refine xi_istore (ls' := [some (.ref 0), some (.int f), some (.int q), some (.int n), some (.long 0), none, some (.int 0)]) (by decide +kernel : decode mX10_stood.2.1 31 = .ok (.istore 6, 2)) (by decide) rfl (?_ : XW _ _ _ _ _ _ _ 33 _ _)
  refine xw_drop 1 (ls' := [some (.ref 0), none, some (.int q), some (.int n), some (.long 0), none, some (.int 0)]) rfl ?_
  exact vc

set_option maxRecDepth 20000 in
theorem v_X10_stood_33 {h : XH} {Q : Option Value → XH → Prop} {X : String → XH → Prop} (r : Nat) (hbp : BP r h)  (x2 : Int32) (x3 : Int32) (x4 : Int64) (x6 : Int32)
    (vc : (x3 ≤ x6 → Q (some (.long x4)) h) ∧ (¬ x3 ≤ x6 → ∃ Q1, XSpec mX6_share 3 0 0 100 100 [.ref 43, .ref r, .ref 21] h Q1 xno ∧ ∀ v h5, Q1 v h5 → v = none ∧ ((xP h5 0 11 = some 43) ∧ (∃ Q1, XSpec mX6_on 1 0 0 100 100 [.ref 43, .int x2] h5 Q1 xno ∧ ∀ v h6, Q1 v h6 → ∃ r6 : Int64, v = some (.long r6) ∧ (XW (xrm 8 3 18) mX10_stood (xE 100 Q X 3 18) 100 0 0 h6 33 [some (.ref 0), none, some (.int x2), some (.int x3), some (.long (x4 + r6)), none, some (.int (x6 + 1))] []))))) :
    XW (xrm 8 3 18) mX10_stood (xE 100 Q X 3 18) 100 0 0 h 33 [some (.ref 0), none, some (.int x2), some (.int x3), some (.long x4), none, some (.int x6)] [] := by
  obtain ⟨hb, hr, hnr, ha21, ha25, hu29, hu34, hw, hnt, hwr⟩ := hbp
  refine xi_iload (by decide +kernel : decode mX10_stood.2.1 33 = .ok (.iload 6, 2)) rfl (?_ : XW _ _ _ _ _ _ _ 35 _ _)
  refine xi_iload_n (by decide +kernel : decode mX10_stood.2.1 35 = .ok (.iload_n 3, 1)) rfl rfl (?_ : XW _ _ _ _ _ _ _ 36 _ _)
  refine xi_icmp_ge (by decide +kernel : decode mX10_stood.2.1 36 = .ok (.if_icmp .ge 37, 3)) (by decide) (fun c => (?_ : XW _ _ _ _ _ _ _ 73 _ _)) (fun c => (?_ : XW _ _ _ _ _ _ _ 39 _ _))
  · replace vc := vc.1 c
    refine xi_lload (by decide +kernel : decode mX10_stood.2.1 73 = .ok (.lload 4, 2)) rfl (?_ : XW _ _ _ _ _ _ _ 75 _ _)
    exact xi_lret (by decide +kernel : decode mX10_stood.2.1 75 = .ok (.lreturn, 1)) rfl vc
  · replace vc := vc.2 c
    refine xi_aload_n (by decide +kernel : decode mX10_stood.2.1 39 = .ok (.aload_n 0, 1)) rfl rfl (?_ : XW _ _ _ _ _ _ _ 40 _ _)
    refine xi_getR (y := 43) (by decide +kernel : decode mX10_stood.2.1 40 = .ok (.getfield 70, 3)) fX10_70 rfl (by omega) rfl hb.2.2.2.2.2.2.2.2.1 (?_ : XW _ _ _ _ _ _ _ 43 _ _)
    refine xi_aload_n (by decide +kernel : decode mX10_stood.2.1 43 = .ok (.aload_n 0, 1)) rfl rfl (?_ : XW _ _ _ _ _ _ _ 44 _ _)
    refine xi_getR (y := r) (by decide +kernel : decode mX10_stood.2.1 44 = .ok (.getfield 23, 3)) fX10_23 rfl (by omega) rfl hb.2.1 (?_ : XW _ _ _ _ _ _ _ 47 _ _)
    refine xi_aload_n (by decide +kernel : decode mX10_stood.2.1 47 = .ok (.aload_n 0, 1)) rfl rfl (?_ : XW _ _ _ _ _ _ _ 48 _ _)
    refine xi_getR (y := 21) (by decide +kernel : decode mX10_stood.2.1 48 = .ok (.getfield 39, 3)) fX10_39 rfl (by omega) rfl hb.2.2.2.1 (?_ : XW _ _ _ _ _ _ _ 51 _ _)
    obtain ⟨Q1, sp, vc⟩ := vc
    refine xi_callV (b := 0) (bs := 0) (As := [.ref r, .ref 21]) (st := []) (by decide +kernel : decode mX10_stood.2.1 51 = .ok (.invokevirtual 261, 3)) kX10_261 rfl rfl (by omega) rfl sp (by decide) (by decide) (Nat.le_of_ble_eq_true rfl) (by omega) (fun v9 h5 hq9 => ?_)
    obtain ⟨e9, vc⟩ := vc v9 h5 hq9
    subst e9
    show XW _ _ _ _ _ _ _ 54 _ []
    refine xi_lload (by decide +kernel : decode mX10_stood.2.1 54 = .ok (.lload 4, 2)) rfl (?_ : XW _ _ _ _ _ _ _ 56 _ _)
    refine xi_aload_n (by decide +kernel : decode mX10_stood.2.1 56 = .ok (.aload_n 0, 1)) rfl rfl (?_ : XW _ _ _ _ _ _ _ 57 _ _)
    obtain ⟨s1, vc⟩ := vc
    refine xi_getR (y := 43) (by decide +kernel : decode mX10_stood.2.1 57 = .ok (.getfield 70, 3)) fX10_70 rfl (by omega) rfl s1 (?_ : XW _ _ _ _ _ _ _ 60 _ _)
    refine xi_iload_n (by decide +kernel : decode mX10_stood.2.1 60 = .ok (.iload_n 2, 1)) rfl rfl (?_ : XW _ _ _ _ _ _ _ 61 _ _)
    obtain ⟨Q1, sp, vc⟩ := vc
    refine xi_callV (b := 0) (bs := 0) (As := [.int x2]) (st := [.long x4]) (by decide +kernel : decode mX10_stood.2.1 61 = .ok (.invokevirtual 264, 3)) kX10_264 rfl rfl (by omega) rfl sp (by decide) (by decide) (Nat.le_of_ble_eq_true rfl) (by omega) (fun v9 h6 hq9 => ?_)
    obtain ⟨r6, e9, vc⟩ := vc v9 h6 hq9
    subst e9
    show XW _ _ _ _ _ _ _ 64 _ [.long r6, .long x4]
    refine xi_ladd (by decide +kernel : decode mX10_stood.2.1 64 = .ok (.ladd, 1)) (?_ : XW _ _ _ _ _ _ _ 65 _ _)
    refine xi_lstore (ls' := [some (.ref 0), none, some (.int x2), some (.int x3), some (.long (x4 + r6)), none, some (.int x6)]) (by decide +kernel : decode mX10_stood.2.1 65 = .ok (.lstore 4, 2)) (by decide) rfl (?_ : XW _ _ _ _ _ _ _ 67 _ _)
    refine xi_iinc (v := x6 + 1) (ls' := [some (.ref 0), none, some (.int x2), some (.int x3), some (.long (x4 + r6)), none, some (.int (x6 + 1))]) (by decide +kernel : decode mX10_stood.2.1 67 = .ok (.iinc 6 1, 3)) rfl rfl (by decide) rfl (?_ : XW _ _ _ _ _ _ _ 70 _ _)
    refine xi_goto (by decide +kernel : decode mX10_stood.2.1 70 = .ok (.goto (-37), 3)) (by decide) (?_ : XW _ _ _ _ _ _ _ 33 _ _)
    exact vc

set_option maxRecDepth 20000 in
theorem v_X10_half_0 {h : XH} {Q : Option Value → XH → Prop} {X : String → XH → Prop} (r : Nat) (hbp : BP r h)  (q : Int32)
    (vc : ∃ Q1 X1, XSpec mX10_needSquare 7 1 6 100 100 [.ref 0, .int q] h Q1 X1 ∧ (∀ E9 h9, X1 E9 h9 → X E9 h9) ∧ ∀ v h1, Q1 v h1 → v = none ∧ ((xP h1 0 11 = some 43) ∧ ((xP h1 0 3 = some r) ∧ (∃ Q1, XSpec mX6_pour 2 0 0 100 100 [.ref 43, .ref r, .int q] h1 Q1 xno ∧ ∀ v h2, Q1 v h2 → v = none ∧ (XW (xrm 8 1 6) mX10_half (xE 100 Q X 1 6) 100 0 0 h2 19 [some (.ref 0), none, some (.int 0)] []))))) :
    XW (xrm 8 1 6) mX10_half (xE 100 Q X 1 6) 100 1 6 h 0 [some (.ref 0), some (.int q), none] [] := by
  obtain ⟨hb, hr, hnr, ha21, ha25, hu29, hu34, hw, hnt, hwr⟩ := hbp
  refine xi_aload_n (by decide +kernel : decode mX10_half.2.1 0 = .ok (.aload_n 0, 1)) rfl rfl (?_ : XW _ _ _ _ _ _ _ 1 _ _)
  refine xi_iload_n (by decide +kernel : decode mX10_half.2.1 1 = .ok (.iload_n 1, 1)) rfl rfl (?_ : XW _ _ _ _ _ _ _ 2 _ _)
  obtain ⟨Q1, X1, sp, tx, vc⟩ := vc
  refine xi_callVX (b := 0) (bs := 0) (As := [.int q]) (st := []) (by decide +kernel : decode mX10_half.2.1 2 = .ok (.invokevirtual 184, 3)) kX10_184 rfl rfl (by omega) rfl sp (by decide) (by decide) (Nat.le_of_ble_eq_true rfl) (by omega) rfl tx (fun v9 h1 hq9 => ?_)
  obtain ⟨e9, vc⟩ := vc v9 h1 hq9
  subst e9
  show XW _ _ _ _ _ _ _ 5 _ []
  refine xi_aload_n (by decide +kernel : decode mX10_half.2.1 5 = .ok (.aload_n 0, 1)) rfl rfl (?_ : XW _ _ _ _ _ _ _ 6 _ _)
  obtain ⟨s1, vc⟩ := vc
  refine xi_getR (y := 43) (by decide +kernel : decode mX10_half.2.1 6 = .ok (.getfield 70, 3)) fX10_70 rfl (by omega) rfl s1 (?_ : XW _ _ _ _ _ _ _ 9 _ _)
  refine xi_aload_n (by decide +kernel : decode mX10_half.2.1 9 = .ok (.aload_n 0, 1)) rfl rfl (?_ : XW _ _ _ _ _ _ _ 10 _ _)
  obtain ⟨s1, vc⟩ := vc
  refine xi_getR (y := r) (by decide +kernel : decode mX10_half.2.1 10 = .ok (.getfield 23, 3)) fX10_23 rfl (by omega) rfl s1 (?_ : XW _ _ _ _ _ _ _ 13 _ _)
  refine xi_iload_n (by decide +kernel : decode mX10_half.2.1 13 = .ok (.iload_n 1, 1)) rfl rfl (?_ : XW _ _ _ _ _ _ _ 14 _ _)
  obtain ⟨Q1, sp, vc⟩ := vc
  refine xi_callV (b := 0) (bs := 0) (As := [.ref r, .int q]) (st := []) (by decide +kernel : decode mX10_half.2.1 14 = .ok (.invokevirtual 254, 3)) kX10_254 rfl rfl (by omega) rfl sp (by decide) (by decide) (Nat.le_of_ble_eq_true rfl) (by omega) (fun v9 h2 hq9 => ?_)
  obtain ⟨e9, vc⟩ := vc v9 h2 hq9
  subst e9
  show XW _ _ _ _ _ _ _ 17 _ []
  refine xi_iconst (v := 0) (by decide +kernel : decode mX10_half.2.1 17 = .ok (.iconst 0, 1)) (by decide) (?_ : XW _ _ _ _ _ _ _ 18 _ _)
  refine xi_istore_n (ls' := [some (.ref 0), some (.int q), some (.int 0)]) (by decide +kernel : decode mX10_half.2.1 18 = .ok (.istore_n 2, 1)) rfl (by decide) rfl (?_ : XW _ _ _ _ _ _ _ 19 _ _)
  refine xw_drop 1 (ls' := [some (.ref 0), none, some (.int 0)]) rfl ?_
  exact vc

set_option maxRecDepth 20000 in
theorem v_X10_half_19 {h : XH} {Q : Option Value → XH → Prop} {X : String → XH → Prop} (r : Nat) (hbp : BP r h)  (x2 : Int32)
    (vc : (400 < x2 → Q (some (.int (-1))) h) ∧ (¬ 400 < x2 → ∃ Q1, XSpec mX6_out 2 0 0 100 100 [.ref 43] h Q1 xno ∧ ∀ v h3, Q1 v h3 → ∃ r3 : Int64, v = some (.long r3) ∧ ((0 < (lg_cmp r3 500000000) → (xP h3 0 11 = some 43) ∧ ((xP h3 0 3 = some r) ∧ ((xP h3 0 5 = some 21) ∧ (∃ Q1, XSpec mX6_share 3 0 0 100 100 [.ref 43, .ref r, .ref 21] h3 Q1 xno ∧ ∀ v h4, Q1 v h4 → v = none ∧ (XW (xrm 8 1 6) mX10_half (xE 100 Q X 1 6) 100 0 0 h4 19 [some (.ref 0), none, some (.int (x2 + 1))] []))))) ∧ (¬ 0 < (lg_cmp r3 500000000) → Q (some (.int x2)) h3)))) :
    XW (xrm 8 1 6) mX10_half (xE 100 Q X 1 6) 100 0 0 h 19 [some (.ref 0), none, some (.int x2)] [] := by
  obtain ⟨hb, hr, hnr, ha21, ha25, hu29, hu34, hw, hnt, hwr⟩ := hbp
  refine xi_iload_n (by decide +kernel : decode mX10_half.2.1 19 = .ok (.iload_n 2, 1)) rfl rfl (?_ : XW _ _ _ _ _ _ _ 20 _ _)
  refine xi_sipush (v := 400) (by decide +kernel : decode mX10_half.2.1 20 = .ok (.sipush 400, 3)) (by decide) (?_ : XW _ _ _ _ _ _ _ 23 _ _)
  refine xi_icmp_gt (by decide +kernel : decode mX10_half.2.1 23 = .ok (.if_icmp .gt 40, 3)) (by decide) (fun c => (?_ : XW _ _ _ _ _ _ _ 63 _ _)) (fun c => (?_ : XW _ _ _ _ _ _ _ 26 _ _))
  · replace vc := vc.1 c
    refine xi_iconst (v := (-1)) (by decide +kernel : decode mX10_half.2.1 63 = .ok (.iconst (-1), 1)) (by decide) (?_ : XW _ _ _ _ _ _ _ 64 _ _)
    exact xi_iret (by decide +kernel : decode mX10_half.2.1 64 = .ok (.ireturn, 1)) rfl rfl vc
  · replace vc := vc.2 c
    refine xi_aload_n (by decide +kernel : decode mX10_half.2.1 26 = .ok (.aload_n 0, 1)) rfl rfl (?_ : XW _ _ _ _ _ _ _ 27 _ _)
    refine xi_getR (y := 43) (by decide +kernel : decode mX10_half.2.1 27 = .ok (.getfield 70, 3)) fX10_70 rfl (by omega) rfl hb.2.2.2.2.2.2.2.2.1 (?_ : XW _ _ _ _ _ _ _ 30 _ _)
    obtain ⟨Q1, sp, vc⟩ := vc
    refine xi_callV (b := 0) (bs := 0) (As := []) (st := []) (by decide +kernel : decode mX10_half.2.1 30 = .ok (.invokevirtual 257, 3)) kX10_257 rfl rfl (by omega) rfl sp (by decide) (by decide) (Nat.le_of_ble_eq_true rfl) (by omega) (fun v9 h3 hq9 => ?_)
    obtain ⟨r3, e9, vc⟩ := vc v9 h3 hq9
    subst e9
    show XW _ _ _ _ _ _ _ 33 _ [.long r3]
    refine xi_ldc2 (v := 500000000) (by decide +kernel : decode mX10_half.2.1 33 = .ok (.ldc2_w 268, 3)) cK_X10_268 (?_ : XW _ _ _ _ _ _ _ 36 _ _)
    refine xi_lcmp (by decide +kernel : decode mX10_half.2.1 36 = .ok (.lcmp, 1)) (?_ : XW _ _ _ _ _ _ _ 37 _ _)
    refine xi_if_gt (by decide +kernel : decode mX10_half.2.1 37 = .ok (.ifCond .gt 5, 3)) (by decide) (fun c => (?_ : XW _ _ _ _ _ _ _ 42 _ _)) (fun c => (?_ : XW _ _ _ _ _ _ _ 40 _ _))
    · replace vc := vc.1 c
      refine xi_aload_n (by decide +kernel : decode mX10_half.2.1 42 = .ok (.aload_n 0, 1)) rfl rfl (?_ : XW _ _ _ _ _ _ _ 43 _ _)
      obtain ⟨s1, vc⟩ := vc
      refine xi_getR (y := 43) (by decide +kernel : decode mX10_half.2.1 43 = .ok (.getfield 70, 3)) fX10_70 rfl (by omega) rfl s1 (?_ : XW _ _ _ _ _ _ _ 46 _ _)
      refine xi_aload_n (by decide +kernel : decode mX10_half.2.1 46 = .ok (.aload_n 0, 1)) rfl rfl (?_ : XW _ _ _ _ _ _ _ 47 _ _)
      obtain ⟨s1, vc⟩ := vc
      refine xi_getR (y := r) (by decide +kernel : decode mX10_half.2.1 47 = .ok (.getfield 23, 3)) fX10_23 rfl (by omega) rfl s1 (?_ : XW _ _ _ _ _ _ _ 50 _ _)
      refine xi_aload_n (by decide +kernel : decode mX10_half.2.1 50 = .ok (.aload_n 0, 1)) rfl rfl (?_ : XW _ _ _ _ _ _ _ 51 _ _)
      obtain ⟨s1, vc⟩ := vc
      refine xi_getR (y := 21) (by decide +kernel : decode mX10_half.2.1 51 = .ok (.getfield 39, 3)) fX10_39 rfl (by omega) rfl s1 (?_ : XW _ _ _ _ _ _ _ 54 _ _)
      obtain ⟨Q1, sp, vc⟩ := vc
      refine xi_callV (b := 0) (bs := 0) (As := [.ref r, .ref 21]) (st := []) (by decide +kernel : decode mX10_half.2.1 54 = .ok (.invokevirtual 261, 3)) kX10_261 rfl rfl (by omega) rfl sp (by decide) (by decide) (Nat.le_of_ble_eq_true rfl) (by omega) (fun v9 h4 hq9 => ?_)
      obtain ⟨e9, vc⟩ := vc v9 h4 hq9
      subst e9
      show XW _ _ _ _ _ _ _ 57 _ []
      refine xi_iinc (v := x2 + 1) (ls' := [some (.ref 0), none, some (.int (x2 + 1))]) (by decide +kernel : decode mX10_half.2.1 57 = .ok (.iinc 2 1, 3)) rfl rfl (by decide) rfl (?_ : XW _ _ _ _ _ _ _ 60 _ _)
      refine xi_goto (by decide +kernel : decode mX10_half.2.1 60 = .ok (.goto (-41), 3)) (by decide) (?_ : XW _ _ _ _ _ _ _ 19 _ _)
      exact vc
    · replace vc := vc.2 c
      refine xi_iload_n (by decide +kernel : decode mX10_half.2.1 40 = .ok (.iload_n 2, 1)) rfl rfl (?_ : XW _ _ _ _ _ _ _ 41 _ _)
      exact xi_iret (by decide +kernel : decode mX10_half.2.1 41 = .ok (.ireturn, 1)) rfl rfl vc

set_option maxRecDepth 20000 in
theorem v_X10_first_0 {h : XH} {Q : Option Value → XH → Prop} {X : String → XH → Prop} (r : Nat) (hbp : BP r h)  (o : Int32) (t : Int32) (n : Int32) (w : Int32)
    (vc : ∃ Q1 X1, XSpec mX10_needSquare 7 1 6 100 100 [.ref 0, .int o] h Q1 X1 ∧ (∀ E9 h9, X1 E9 h9 → X E9 h9) ∧ ∀ v h1, Q1 v h1 → v = none ∧ (∃ Q1 X1, XSpec mX10_needSquare 7 1 6 100 100 [.ref 0, .int t] h1 Q1 X1 ∧ (∀ E9 h9, X1 E9 h9 → X E9 h9) ∧ ∀ v h2, Q1 v h2 → v = none ∧ (∃ Q1 X1, XSpec mX10_needWhat 7 1 6 100 100 [.ref 0, .int w, .int 2] h2 Q1 X1 ∧ (∀ E9 h9, X1 E9 h9 → X E9 h9) ∧ ∀ v h3, Q1 v h3 → v = none ∧ (∃ Q1 X1, XSpec mX10_needThrows 7 1 6 100 100 [.ref 0, .int n] h3 Q1 X1 ∧ (∀ E9 h9, X1 E9 h9 → X E9 h9) ∧ ∀ v h4, Q1 v h4 → v = none ∧ ((xP h4 0 11 = some 43) ∧ ((xP h4 0 3 = some r) ∧ (∃ Q1, XSpec mX6_pour 2 0 0 100 100 [.ref 43, .ref r, .int o] h4 Q1 xno ∧ ∀ v h5, Q1 v h5 → v = none ∧ ((xP h5 0 12 = some 46) ∧ ((xP h5 0 3 = some r) ∧ (∃ Q1, XSpec mX6_pour 2 0 0 100 100 [.ref 46, .ref r, .int t] h5 Q1 xno ∧ ∀ v h6, Q1 v h6 → v = none ∧ (XW (xrm 8 4 24) mX10_first (xE 100 Q X 4 24) 100 0 0 h6 55 [some (.ref 0), none, none, some (.int n), some (.int w), some (.long 0), none, some (.long 0), none, some (.int 0), none, none, none, none] []))))))))))) :
    XW (xrm 8 4 24) mX10_first (xE 100 Q X 4 24) 100 4 24 h 0 [some (.ref 0), some (.int o), some (.int t), some (.int n), some (.int w), none, none, none, none, none, none, none, none, none] [] := by
  obtain ⟨hb, hr, hnr, ha21, ha25, hu29, hu34, hw, hnt, hwr⟩ := hbp
  refine xi_aload_n (by decide +kernel : decode mX10_first.2.1 0 = .ok (.aload_n 0, 1)) rfl rfl (?_ : XW _ _ _ _ _ _ _ 1 _ _)
  refine xi_iload_n (by decide +kernel : decode mX10_first.2.1 1 = .ok (.iload_n 1, 1)) rfl rfl (?_ : XW _ _ _ _ _ _ _ 2 _ _)
  obtain ⟨Q1, X1, sp, tx, vc⟩ := vc
  refine xi_callVX (b := 3) (bs := 18) (As := [.int o]) (st := []) (by decide +kernel : decode mX10_first.2.1 2 = .ok (.invokevirtual 184, 3)) kX10_184 rfl rfl (by omega) rfl sp (by decide) (by decide) (Nat.le_of_ble_eq_true rfl) (by omega) rfl tx (fun v9 h1 hq9 => ?_)
  obtain ⟨e9, vc⟩ := vc v9 h1 hq9
  subst e9
  show XW _ _ _ _ _ _ _ 5 _ []
  refine xi_aload_n (by decide +kernel : decode mX10_first.2.1 5 = .ok (.aload_n 0, 1)) rfl rfl (?_ : XW _ _ _ _ _ _ _ 6 _ _)
  refine xi_iload_n (by decide +kernel : decode mX10_first.2.1 6 = .ok (.iload_n 2, 1)) rfl rfl (?_ : XW _ _ _ _ _ _ _ 7 _ _)
  obtain ⟨Q1, X1, sp, tx, vc⟩ := vc
  refine xi_callVX (b := 2) (bs := 12) (As := [.int t]) (st := []) (by decide +kernel : decode mX10_first.2.1 7 = .ok (.invokevirtual 184, 3)) kX10_184 rfl rfl (by omega) rfl sp (by decide) (by decide) (Nat.le_of_ble_eq_true rfl) (by omega) rfl tx (fun v9 h2 hq9 => ?_)
  obtain ⟨e9, vc⟩ := vc v9 h2 hq9
  subst e9
  show XW _ _ _ _ _ _ _ 10 _ []
  refine xi_aload_n (by decide +kernel : decode mX10_first.2.1 10 = .ok (.aload_n 0, 1)) rfl rfl (?_ : XW _ _ _ _ _ _ _ 11 _ _)
  refine xi_iload (by decide +kernel : decode mX10_first.2.1 11 = .ok (.iload 4, 2)) rfl (?_ : XW _ _ _ _ _ _ _ 13 _ _)
  refine xi_iconst (v := 2) (by decide +kernel : decode mX10_first.2.1 13 = .ok (.iconst 2, 1)) (by decide) (?_ : XW _ _ _ _ _ _ _ 14 _ _)
  obtain ⟨Q1, X1, sp, tx, vc⟩ := vc
  refine xi_callVX (b := 1) (bs := 6) (As := [.int w, .int 2]) (st := []) (by decide +kernel : decode mX10_first.2.1 14 = .ok (.invokevirtual 243, 3)) kX10_243 rfl rfl (by omega) rfl sp (by decide) (by decide) (Nat.le_of_ble_eq_true rfl) (by omega) rfl tx (fun v9 h3 hq9 => ?_)
  obtain ⟨e9, vc⟩ := vc v9 h3 hq9
  subst e9
  show XW _ _ _ _ _ _ _ 17 _ []
  refine xi_aload_n (by decide +kernel : decode mX10_first.2.1 17 = .ok (.aload_n 0, 1)) rfl rfl (?_ : XW _ _ _ _ _ _ _ 18 _ _)
  refine xi_iload_n (by decide +kernel : decode mX10_first.2.1 18 = .ok (.iload_n 3, 1)) rfl rfl (?_ : XW _ _ _ _ _ _ _ 19 _ _)
  obtain ⟨Q1, X1, sp, tx, vc⟩ := vc
  refine xi_callVX (b := 0) (bs := 0) (As := [.int n]) (st := []) (by decide +kernel : decode mX10_first.2.1 19 = .ok (.invokevirtual 247, 3)) kX10_247 rfl rfl (by omega) rfl sp (by decide) (by decide) (Nat.le_of_ble_eq_true rfl) (by omega) rfl tx (fun v9 h4 hq9 => ?_)
  obtain ⟨e9, vc⟩ := vc v9 h4 hq9
  subst e9
  show XW _ _ _ _ _ _ _ 22 _ []
  refine xi_aload_n (by decide +kernel : decode mX10_first.2.1 22 = .ok (.aload_n 0, 1)) rfl rfl (?_ : XW _ _ _ _ _ _ _ 23 _ _)
  obtain ⟨s1, vc⟩ := vc
  refine xi_getR (y := 43) (by decide +kernel : decode mX10_first.2.1 23 = .ok (.getfield 70, 3)) fX10_70 rfl (by omega) rfl s1 (?_ : XW _ _ _ _ _ _ _ 26 _ _)
  refine xi_aload_n (by decide +kernel : decode mX10_first.2.1 26 = .ok (.aload_n 0, 1)) rfl rfl (?_ : XW _ _ _ _ _ _ _ 27 _ _)
  obtain ⟨s1, vc⟩ := vc
  refine xi_getR (y := r) (by decide +kernel : decode mX10_first.2.1 27 = .ok (.getfield 23, 3)) fX10_23 rfl (by omega) rfl s1 (?_ : XW _ _ _ _ _ _ _ 30 _ _)
  refine xi_iload_n (by decide +kernel : decode mX10_first.2.1 30 = .ok (.iload_n 1, 1)) rfl rfl (?_ : XW _ _ _ _ _ _ _ 31 _ _)
  obtain ⟨Q1, sp, vc⟩ := vc
  refine xi_callV (b := 0) (bs := 0) (As := [.ref r, .int o]) (st := []) (by decide +kernel : decode mX10_first.2.1 31 = .ok (.invokevirtual 254, 3)) kX10_254 rfl rfl (by omega) rfl sp (by decide) (by decide) (Nat.le_of_ble_eq_true rfl) (by omega) (fun v9 h5 hq9 => ?_)
  obtain ⟨e9, vc⟩ := vc v9 h5 hq9
  subst e9
  show XW _ _ _ _ _ _ _ 34 _ []
  refine xi_aload_n (by decide +kernel : decode mX10_first.2.1 34 = .ok (.aload_n 0, 1)) rfl rfl (?_ : XW _ _ _ _ _ _ _ 35 _ _)
  obtain ⟨s1, vc⟩ := vc
  refine xi_getR (y := 46) (by decide +kernel : decode mX10_first.2.1 35 = .ok (.getfield 74, 3)) fX10_74 rfl (by omega) rfl s1 (?_ : XW _ _ _ _ _ _ _ 38 _ _)
  refine xi_aload_n (by decide +kernel : decode mX10_first.2.1 38 = .ok (.aload_n 0, 1)) rfl rfl (?_ : XW _ _ _ _ _ _ _ 39 _ _)
  obtain ⟨s1, vc⟩ := vc
  refine xi_getR (y := r) (by decide +kernel : decode mX10_first.2.1 39 = .ok (.getfield 23, 3)) fX10_23 rfl (by omega) rfl s1 (?_ : XW _ _ _ _ _ _ _ 42 _ _)
  refine xi_iload_n (by decide +kernel : decode mX10_first.2.1 42 = .ok (.iload_n 2, 1)) rfl rfl (?_ : XW _ _ _ _ _ _ _ 43 _ _)
  obtain ⟨Q1, sp, vc⟩ := vc
  refine xi_callV (b := 0) (bs := 0) (As := [.ref r, .int t]) (st := []) (by decide +kernel : decode mX10_first.2.1 43 = .ok (.invokevirtual 254, 3)) kX10_254 rfl rfl (by omega) rfl sp (by decide) (by decide) (Nat.le_of_ble_eq_true rfl) (by omega) (fun v9 h6 hq9 => ?_)
  obtain ⟨e9, vc⟩ := vc v9 h6 hq9
  subst e9
  show XW _ _ _ _ _ _ _ 46 _ []
  refine xi_lconst (v := 0) (by decide +kernel : decode mX10_first.2.1 46 = .ok (.lconst 0, 1)) (by decide) (?_ : XW _ _ _ _ _ _ _ 47 _ _)
  refine xi_lstore (ls' := [some (.ref 0), some (.int o), some (.int t), some (.int n), some (.int w), some (.long 0), none, none, none, none, none, none, none, none]) (by decide +kernel : decode mX10_first.2.1 47 = .ok (.lstore 5, 2)) (by decide) rfl (?_ : XW _ _ _ _ _ _ _ 49 _ _)
  refine xi_lconst (v := 0) (by decide +kernel : decode mX10_first.2.1 49 = .ok (.lconst 0, 1)) (by decide) (?_ : XW _ _ _ _ _ _ _ 50 _ _)
  refine xi_lstore (ls' := [some (.ref 0), some (.int o), some (.int t), some (.int n), some (.int w), some (.long 0), none, some (.long 0), none, none, none, none, none, none]) (by decide +kernel : decode mX10_first.2.1 50 = .ok (.lstore 7, 2)) (by decide) rfl (?_ : XW _ _ _ _ _ _ _ 52 _ _)
  refine xi_iconst (v := 0) (by decide +kernel : decode mX10_first.2.1 52 = .ok (.iconst 0, 1)) (by decide) (?_ : XW _ _ _ _ _ _ _ 53 _ _)
  refine xi_istore (ls' := [some (.ref 0), some (.int o), some (.int t), some (.int n), some (.int w), some (.long 0), none, some (.long 0), none, some (.int 0), none, none, none, none]) (by decide +kernel : decode mX10_first.2.1 53 = .ok (.istore 9, 2)) (by decide) rfl (?_ : XW _ _ _ _ _ _ _ 55 _ _)
  refine xw_drop 1 (ls' := [some (.ref 0), none, some (.int t), some (.int n), some (.int w), some (.long 0), none, some (.long 0), none, some (.int 0), none, none, none, none]) rfl ?_
  refine xw_drop 2 (ls' := [some (.ref 0), none, none, some (.int n), some (.int w), some (.long 0), none, some (.long 0), none, some (.int 0), none, none, none, none]) rfl ?_
  exact vc

set_option maxRecDepth 20000 in
theorem v_X10_first_55 {h : XH} {Q : Option Value → XH → Prop} {X : String → XH → Prop} (r : Nat) (hbp : BP r h)  (x3 : Int32) (x4 : Int32) (x5 : Int64) (x7 : Int64) (x9 : Int32)
    (vc : (x3 ≤ x9 → (¬ x4 = 0 → (¬ x4 = 1 → Q (some (.long ((1000000000 - (x5 / 1000000000)) - (x7 / 1000000000)))) h) ∧ (x4 = 1 → Q (some (.long (x7 / 1000000000))) h)) ∧ (x4 = 0 → Q (some (.long (x5 / 1000000000))) h)) ∧ (¬ x3 ≤ x9 → ∃ Q1, XSpec mX6_out 2 0 0 100 100 [.ref 43] h Q1 xno ∧ ∀ v h7, Q1 v h7 → ∃ r7 : Int64, v = some (.long r7) ∧ ((xP h7 0 12 = some 46) ∧ (∃ Q1, XSpec mX6_out 2 0 0 100 100 [.ref 46] h7 Q1 xno ∧ ∀ v h8, Q1 v h8 → ∃ r8 : Int64, v = some (.long r8) ∧ ((xP h8 0 11 = some 43) ∧ ((xP h8 0 3 = some r) ∧ ((xP h8 0 5 = some 21) ∧ (∃ Q1, XSpec mX6_share 3 0 0 100 100 [.ref 43, .ref r, .ref 21] h8 Q1 xno ∧ ∀ v h9, Q1 v h9 → v = none ∧ ((xP h9 0 12 = some 46) ∧ ((xP h9 0 3 = some r) ∧ ((xP h9 0 5 = some 21) ∧ (∃ Q1, XSpec mX6_share 3 0 0 100 100 [.ref 46, .ref r, .ref 21] h9 Q1 xno ∧ ∀ v h10, Q1 v h10 → v = none ∧ ((xP h10 0 11 = some 43) ∧ (∃ Q1, XSpec mX6_out 2 0 0 100 100 [.ref 43] h10 Q1 xno ∧ ∀ v h11, Q1 v h11 → ∃ r11 : Int64, v = some (.long r11) ∧ ((xP h11 0 12 = some 46) ∧ (∃ Q1, XSpec mX6_out 2 0 0 100 100 [.ref 46] h11 Q1 xno ∧ ∀ v h12, Q1 v h12 → ∃ r12 : Int64, v = some (.long r12) ∧ ((xP h12 0 11 = some 43) ∧ (∃ Q1, XSpec mX6_out 2 0 0 100 100 [.ref 43] h12 Q1 xno ∧ ∀ v h13, Q1 v h13 → ∃ r13 : Int64, v = some (.long r13) ∧ (XW (xrm 8 4 24) mX10_first (xE 100 Q X 4 24) 100 0 0 h13 55 [some (.ref 0), none, none, some (.int x3), some (.int x4), some (.long (x5 + ((r7 - r11) * r8))), none, some (.long (x7 + ((r8 - r12) * r13))), none, some (.int (x9 + 1)), none, none, none, none] []))))))))))))))))))) :
    XW (xrm 8 4 24) mX10_first (xE 100 Q X 4 24) 100 0 0 h 55 [some (.ref 0), none, none, some (.int x3), some (.int x4), some (.long x5), none, some (.long x7), none, some (.int x9), none, none, none, none] [] := by
  obtain ⟨hb, hr, hnr, ha21, ha25, hu29, hu34, hw, hnt, hwr⟩ := hbp
  refine xi_iload (by decide +kernel : decode mX10_first.2.1 55 = .ok (.iload 9, 2)) rfl (?_ : XW _ _ _ _ _ _ _ 57 _ _)
  refine xi_iload_n (by decide +kernel : decode mX10_first.2.1 57 = .ok (.iload_n 3, 1)) rfl rfl (?_ : XW _ _ _ _ _ _ _ 58 _ _)
  refine xi_icmp_ge (by decide +kernel : decode mX10_first.2.1 58 = .ok (.if_icmp .ge 98, 3)) (by decide) (fun c => (?_ : XW _ _ _ _ _ _ _ 156 _ _)) (fun c => (?_ : XW _ _ _ _ _ _ _ 61 _ _))
  · replace vc := vc.1 c
    refine xi_lload (by decide +kernel : decode mX10_first.2.1 156 = .ok (.lload 5, 2)) rfl (?_ : XW _ _ _ _ _ _ _ 158 _ _)
    refine xi_ldc2 (v := 1000000000) (by decide +kernel : decode mX10_first.2.1 158 = .ok (.ldc2_w 270, 3)) cK_X10_270 (?_ : XW _ _ _ _ _ _ _ 161 _ _)
    refine xi_ldiv (by decide +kernel : decode mX10_first.2.1 161 = .ok (.ldiv, 1)) (by decide) (?_ : XW _ _ _ _ _ _ _ 162 _ _)
    refine xi_lstore (ls' := [some (.ref 0), none, none, some (.int x3), some (.int x4), some (.long (x5 / 1000000000)), none, some (.long x7), none, some (.int x9), none, none, none, none]) (by decide +kernel : decode mX10_first.2.1 162 = .ok (.lstore 5, 2)) (by decide) rfl (?_ : XW _ _ _ _ _ _ _ 164 _ _)
    refine xi_lload (by decide +kernel : decode mX10_first.2.1 164 = .ok (.lload 7, 2)) rfl (?_ : XW _ _ _ _ _ _ _ 166 _ _)
    refine xi_ldc2 (v := 1000000000) (by decide +kernel : decode mX10_first.2.1 166 = .ok (.ldc2_w 270, 3)) cK_X10_270 (?_ : XW _ _ _ _ _ _ _ 169 _ _)
    refine xi_ldiv (by decide +kernel : decode mX10_first.2.1 169 = .ok (.ldiv, 1)) (by decide) (?_ : XW _ _ _ _ _ _ _ 170 _ _)
    refine xi_lstore (ls' := [some (.ref 0), none, none, some (.int x3), some (.int x4), some (.long (x5 / 1000000000)), none, some (.long (x7 / 1000000000)), none, some (.int x9), none, none, none, none]) (by decide +kernel : decode mX10_first.2.1 170 = .ok (.lstore 7, 2)) (by decide) rfl (?_ : XW _ _ _ _ _ _ _ 172 _ _)
    refine xi_iload (by decide +kernel : decode mX10_first.2.1 172 = .ok (.iload 4, 2)) rfl (?_ : XW _ _ _ _ _ _ _ 174 _ _)
    refine xi_if_ne (by decide +kernel : decode mX10_first.2.1 174 = .ok (.ifCond .ne 6, 3)) (by decide) (fun c => (?_ : XW _ _ _ _ _ _ _ 180 _ _)) (fun c => (?_ : XW _ _ _ _ _ _ _ 177 _ _))
    · replace vc := vc.1 c
      refine xi_iload (by decide +kernel : decode mX10_first.2.1 180 = .ok (.iload 4, 2)) rfl (?_ : XW _ _ _ _ _ _ _ 182 _ _)
      refine xi_iconst (v := 1) (by decide +kernel : decode mX10_first.2.1 182 = .ok (.iconst 1, 1)) (by decide) (?_ : XW _ _ _ _ _ _ _ 183 _ _)
      refine xi_icmp_ne (by decide +kernel : decode mX10_first.2.1 183 = .ok (.if_icmp .ne 8, 3)) (by decide) (fun c => (?_ : XW _ _ _ _ _ _ _ 191 _ _)) (fun c => (?_ : XW _ _ _ _ _ _ _ 186 _ _))
      · replace vc := vc.1 c
        refine xi_ldc2 (v := 1000000000) (by decide +kernel : decode mX10_first.2.1 191 = .ok (.ldc2_w 270, 3)) cK_X10_270 (?_ : XW _ _ _ _ _ _ _ 194 _ _)
        refine xi_lload (by decide +kernel : decode mX10_first.2.1 194 = .ok (.lload 5, 2)) rfl (?_ : XW _ _ _ _ _ _ _ 196 _ _)
        refine xi_lsub (by decide +kernel : decode mX10_first.2.1 196 = .ok (.lsub, 1)) (?_ : XW _ _ _ _ _ _ _ 197 _ _)
        refine xi_lload (by decide +kernel : decode mX10_first.2.1 197 = .ok (.lload 7, 2)) rfl (?_ : XW _ _ _ _ _ _ _ 199 _ _)
        refine xi_lsub (by decide +kernel : decode mX10_first.2.1 199 = .ok (.lsub, 1)) (?_ : XW _ _ _ _ _ _ _ 200 _ _)
        exact xi_lret (by decide +kernel : decode mX10_first.2.1 200 = .ok (.lreturn, 1)) rfl vc
      · replace vc := vc.2 c
        refine xi_lload (by decide +kernel : decode mX10_first.2.1 186 = .ok (.lload 7, 2)) rfl (?_ : XW _ _ _ _ _ _ _ 188 _ _)
        refine xi_goto (by decide +kernel : decode mX10_first.2.1 188 = .ok (.goto 12, 3)) (by decide) (?_ : XW _ _ _ _ _ _ _ 200 _ _)
        exact xi_lret (by decide +kernel : decode mX10_first.2.1 200 = .ok (.lreturn, 1)) rfl vc
    · replace vc := vc.2 c
      refine xi_lload (by decide +kernel : decode mX10_first.2.1 177 = .ok (.lload 5, 2)) rfl (?_ : XW _ _ _ _ _ _ _ 179 _ _)
      exact xi_lret (by decide +kernel : decode mX10_first.2.1 179 = .ok (.lreturn, 1)) rfl vc
  · replace vc := vc.2 c
    refine xi_aload_n (by decide +kernel : decode mX10_first.2.1 61 = .ok (.aload_n 0, 1)) rfl rfl (?_ : XW _ _ _ _ _ _ _ 62 _ _)
    refine xi_getR (y := 43) (by decide +kernel : decode mX10_first.2.1 62 = .ok (.getfield 70, 3)) fX10_70 rfl (by omega) rfl hb.2.2.2.2.2.2.2.2.1 (?_ : XW _ _ _ _ _ _ _ 65 _ _)
    obtain ⟨Q1, sp, vc⟩ := vc
    refine xi_callV (b := 0) (bs := 0) (As := []) (st := []) (by decide +kernel : decode mX10_first.2.1 65 = .ok (.invokevirtual 257, 3)) kX10_257 rfl rfl (by omega) rfl sp (by decide) (by decide) (Nat.le_of_ble_eq_true rfl) (by omega) (fun v9 h7 hq9 => ?_)
    obtain ⟨r7, e9, vc⟩ := vc v9 h7 hq9
    subst e9
    show XW _ _ _ _ _ _ _ 68 _ [.long r7]
    refine xi_lstore (ls' := [some (.ref 0), none, none, some (.int x3), some (.int x4), some (.long x5), none, some (.long x7), none, some (.int x9), some (.long r7), none, none, none]) (by decide +kernel : decode mX10_first.2.1 68 = .ok (.lstore 10, 2)) (by decide) rfl (?_ : XW _ _ _ _ _ _ _ 70 _ _)
    refine xi_aload_n (by decide +kernel : decode mX10_first.2.1 70 = .ok (.aload_n 0, 1)) rfl rfl (?_ : XW _ _ _ _ _ _ _ 71 _ _)
    obtain ⟨s1, vc⟩ := vc
    refine xi_getR (y := 46) (by decide +kernel : decode mX10_first.2.1 71 = .ok (.getfield 74, 3)) fX10_74 rfl (by omega) rfl s1 (?_ : XW _ _ _ _ _ _ _ 74 _ _)
    obtain ⟨Q1, sp, vc⟩ := vc
    refine xi_callV (b := 0) (bs := 0) (As := []) (st := []) (by decide +kernel : decode mX10_first.2.1 74 = .ok (.invokevirtual 257, 3)) kX10_257 rfl rfl (by omega) rfl sp (by decide) (by decide) (Nat.le_of_ble_eq_true rfl) (by omega) (fun v9 h8 hq9 => ?_)
    obtain ⟨r8, e9, vc⟩ := vc v9 h8 hq9
    subst e9
    show XW _ _ _ _ _ _ _ 77 _ [.long r8]
    refine xi_lstore (ls' := [some (.ref 0), none, none, some (.int x3), some (.int x4), some (.long x5), none, some (.long x7), none, some (.int x9), some (.long r7), none, some (.long r8), none]) (by decide +kernel : decode mX10_first.2.1 77 = .ok (.lstore 12, 2)) (by decide) rfl (?_ : XW _ _ _ _ _ _ _ 79 _ _)
    refine xi_aload_n (by decide +kernel : decode mX10_first.2.1 79 = .ok (.aload_n 0, 1)) rfl rfl (?_ : XW _ _ _ _ _ _ _ 80 _ _)
    obtain ⟨s1, vc⟩ := vc
    refine xi_getR (y := 43) (by decide +kernel : decode mX10_first.2.1 80 = .ok (.getfield 70, 3)) fX10_70 rfl (by omega) rfl s1 (?_ : XW _ _ _ _ _ _ _ 83 _ _)
    refine xi_aload_n (by decide +kernel : decode mX10_first.2.1 83 = .ok (.aload_n 0, 1)) rfl rfl (?_ : XW _ _ _ _ _ _ _ 84 _ _)
    obtain ⟨s1, vc⟩ := vc
    refine xi_getR (y := r) (by decide +kernel : decode mX10_first.2.1 84 = .ok (.getfield 23, 3)) fX10_23 rfl (by omega) rfl s1 (?_ : XW _ _ _ _ _ _ _ 87 _ _)
    refine xi_aload_n (by decide +kernel : decode mX10_first.2.1 87 = .ok (.aload_n 0, 1)) rfl rfl (?_ : XW _ _ _ _ _ _ _ 88 _ _)
    obtain ⟨s1, vc⟩ := vc
    refine xi_getR (y := 21) (by decide +kernel : decode mX10_first.2.1 88 = .ok (.getfield 39, 3)) fX10_39 rfl (by omega) rfl s1 (?_ : XW _ _ _ _ _ _ _ 91 _ _)
    obtain ⟨Q1, sp, vc⟩ := vc
    refine xi_callV (b := 0) (bs := 0) (As := [.ref r, .ref 21]) (st := []) (by decide +kernel : decode mX10_first.2.1 91 = .ok (.invokevirtual 261, 3)) kX10_261 rfl rfl (by omega) rfl sp (by decide) (by decide) (Nat.le_of_ble_eq_true rfl) (by omega) (fun v9 h9 hq9 => ?_)
    obtain ⟨e9, vc⟩ := vc v9 h9 hq9
    subst e9
    show XW _ _ _ _ _ _ _ 94 _ []
    refine xi_aload_n (by decide +kernel : decode mX10_first.2.1 94 = .ok (.aload_n 0, 1)) rfl rfl (?_ : XW _ _ _ _ _ _ _ 95 _ _)
    obtain ⟨s1, vc⟩ := vc
    refine xi_getR (y := 46) (by decide +kernel : decode mX10_first.2.1 95 = .ok (.getfield 74, 3)) fX10_74 rfl (by omega) rfl s1 (?_ : XW _ _ _ _ _ _ _ 98 _ _)
    refine xi_aload_n (by decide +kernel : decode mX10_first.2.1 98 = .ok (.aload_n 0, 1)) rfl rfl (?_ : XW _ _ _ _ _ _ _ 99 _ _)
    obtain ⟨s1, vc⟩ := vc
    refine xi_getR (y := r) (by decide +kernel : decode mX10_first.2.1 99 = .ok (.getfield 23, 3)) fX10_23 rfl (by omega) rfl s1 (?_ : XW _ _ _ _ _ _ _ 102 _ _)
    refine xi_aload_n (by decide +kernel : decode mX10_first.2.1 102 = .ok (.aload_n 0, 1)) rfl rfl (?_ : XW _ _ _ _ _ _ _ 103 _ _)
    obtain ⟨s1, vc⟩ := vc
    refine xi_getR (y := 21) (by decide +kernel : decode mX10_first.2.1 103 = .ok (.getfield 39, 3)) fX10_39 rfl (by omega) rfl s1 (?_ : XW _ _ _ _ _ _ _ 106 _ _)
    obtain ⟨Q1, sp, vc⟩ := vc
    refine xi_callV (b := 0) (bs := 0) (As := [.ref r, .ref 21]) (st := []) (by decide +kernel : decode mX10_first.2.1 106 = .ok (.invokevirtual 261, 3)) kX10_261 rfl rfl (by omega) rfl sp (by decide) (by decide) (Nat.le_of_ble_eq_true rfl) (by omega) (fun v9 h10 hq9 => ?_)
    obtain ⟨e9, vc⟩ := vc v9 h10 hq9
    subst e9
    show XW _ _ _ _ _ _ _ 109 _ []
    refine xi_lload (by decide +kernel : decode mX10_first.2.1 109 = .ok (.lload 5, 2)) rfl (?_ : XW _ _ _ _ _ _ _ 111 _ _)
    refine xi_lload (by decide +kernel : decode mX10_first.2.1 111 = .ok (.lload 10, 2)) rfl (?_ : XW _ _ _ _ _ _ _ 113 _ _)
    refine xi_aload_n (by decide +kernel : decode mX10_first.2.1 113 = .ok (.aload_n 0, 1)) rfl rfl (?_ : XW _ _ _ _ _ _ _ 114 _ _)
    obtain ⟨s1, vc⟩ := vc
    refine xi_getR (y := 43) (by decide +kernel : decode mX10_first.2.1 114 = .ok (.getfield 70, 3)) fX10_70 rfl (by omega) rfl s1 (?_ : XW _ _ _ _ _ _ _ 117 _ _)
    obtain ⟨Q1, sp, vc⟩ := vc
    refine xi_callV (b := 0) (bs := 0) (As := []) (st := [.long r7, .long x5]) (by decide +kernel : decode mX10_first.2.1 117 = .ok (.invokevirtual 257, 3)) kX10_257 rfl rfl (by omega) rfl sp (by decide) (by decide) (Nat.le_of_ble_eq_true rfl) (by omega) (fun v9 h11 hq9 => ?_)
    obtain ⟨r11, e9, vc⟩ := vc v9 h11 hq9
    subst e9
    show XW _ _ _ _ _ _ _ 120 _ [.long r11, .long r7, .long x5]
    refine xi_lsub (by decide +kernel : decode mX10_first.2.1 120 = .ok (.lsub, 1)) (?_ : XW _ _ _ _ _ _ _ 121 _ _)
    refine xi_lload (by decide +kernel : decode mX10_first.2.1 121 = .ok (.lload 12, 2)) rfl (?_ : XW _ _ _ _ _ _ _ 123 _ _)
    refine xi_lmul (by decide +kernel : decode mX10_first.2.1 123 = .ok (.lmul, 1)) (?_ : XW _ _ _ _ _ _ _ 124 _ _)
    refine xi_ladd (by decide +kernel : decode mX10_first.2.1 124 = .ok (.ladd, 1)) (?_ : XW _ _ _ _ _ _ _ 125 _ _)
    refine xi_lstore (ls' := [some (.ref 0), none, none, some (.int x3), some (.int x4), some (.long (x5 + ((r7 - r11) * r8))), none, some (.long x7), none, some (.int x9), some (.long r7), none, some (.long r8), none]) (by decide +kernel : decode mX10_first.2.1 125 = .ok (.lstore 5, 2)) (by decide) rfl (?_ : XW _ _ _ _ _ _ _ 127 _ _)
    refine xi_lload (by decide +kernel : decode mX10_first.2.1 127 = .ok (.lload 7, 2)) rfl (?_ : XW _ _ _ _ _ _ _ 129 _ _)
    refine xi_lload (by decide +kernel : decode mX10_first.2.1 129 = .ok (.lload 12, 2)) rfl (?_ : XW _ _ _ _ _ _ _ 131 _ _)
    refine xi_aload_n (by decide +kernel : decode mX10_first.2.1 131 = .ok (.aload_n 0, 1)) rfl rfl (?_ : XW _ _ _ _ _ _ _ 132 _ _)
    obtain ⟨s1, vc⟩ := vc
    refine xi_getR (y := 46) (by decide +kernel : decode mX10_first.2.1 132 = .ok (.getfield 74, 3)) fX10_74 rfl (by omega) rfl s1 (?_ : XW _ _ _ _ _ _ _ 135 _ _)
    obtain ⟨Q1, sp, vc⟩ := vc
    refine xi_callV (b := 0) (bs := 0) (As := []) (st := [.long r8, .long x7]) (by decide +kernel : decode mX10_first.2.1 135 = .ok (.invokevirtual 257, 3)) kX10_257 rfl rfl (by omega) rfl sp (by decide) (by decide) (Nat.le_of_ble_eq_true rfl) (by omega) (fun v9 h12 hq9 => ?_)
    obtain ⟨r12, e9, vc⟩ := vc v9 h12 hq9
    subst e9
    show XW _ _ _ _ _ _ _ 138 _ [.long r12, .long r8, .long x7]
    refine xi_lsub (by decide +kernel : decode mX10_first.2.1 138 = .ok (.lsub, 1)) (?_ : XW _ _ _ _ _ _ _ 139 _ _)
    refine xi_aload_n (by decide +kernel : decode mX10_first.2.1 139 = .ok (.aload_n 0, 1)) rfl rfl (?_ : XW _ _ _ _ _ _ _ 140 _ _)
    obtain ⟨s1, vc⟩ := vc
    refine xi_getR (y := 43) (by decide +kernel : decode mX10_first.2.1 140 = .ok (.getfield 70, 3)) fX10_70 rfl (by omega) rfl s1 (?_ : XW _ _ _ _ _ _ _ 143 _ _)
    obtain ⟨Q1, sp, vc⟩ := vc
    refine xi_callV (b := 0) (bs := 0) (As := []) (st := [.long (r8 - r12), .long x7]) (by decide +kernel : decode mX10_first.2.1 143 = .ok (.invokevirtual 257, 3)) kX10_257 rfl rfl (by omega) rfl sp (by decide) (by decide) (Nat.le_of_ble_eq_true rfl) (by omega) (fun v9 h13 hq9 => ?_)
    obtain ⟨r13, e9, vc⟩ := vc v9 h13 hq9
    subst e9
    show XW _ _ _ _ _ _ _ 146 _ [.long r13, .long (r8 - r12), .long x7]
    refine xi_lmul (by decide +kernel : decode mX10_first.2.1 146 = .ok (.lmul, 1)) (?_ : XW _ _ _ _ _ _ _ 147 _ _)
    refine xi_ladd (by decide +kernel : decode mX10_first.2.1 147 = .ok (.ladd, 1)) (?_ : XW _ _ _ _ _ _ _ 148 _ _)
    refine xi_lstore (ls' := [some (.ref 0), none, none, some (.int x3), some (.int x4), some (.long (x5 + ((r7 - r11) * r8))), none, some (.long (x7 + ((r8 - r12) * r13))), none, some (.int x9), some (.long r7), none, some (.long r8), none]) (by decide +kernel : decode mX10_first.2.1 148 = .ok (.lstore 7, 2)) (by decide) rfl (?_ : XW _ _ _ _ _ _ _ 150 _ _)
    refine xi_iinc (v := x9 + 1) (ls' := [some (.ref 0), none, none, some (.int x3), some (.int x4), some (.long (x5 + ((r7 - r11) * r8))), none, some (.long (x7 + ((r8 - r12) * r13))), none, some (.int (x9 + 1)), some (.long r7), none, some (.long r8), none]) (by decide +kernel : decode mX10_first.2.1 150 = .ok (.iinc 9 1, 3)) rfl rfl (by decide) rfl (?_ : XW _ _ _ _ _ _ _ 153 _ _)
    refine xi_goto (by decide +kernel : decode mX10_first.2.1 153 = .ok (.goto (-98), 3)) (by decide) (?_ : XW _ _ _ _ _ _ _ 55 _ _)
    refine xw_drop 10 (ls' := [some (.ref 0), none, none, some (.int x3), some (.int x4), some (.long (x5 + ((r7 - r11) * r8))), none, some (.long (x7 + ((r8 - r12) * r13))), none, some (.int (x9 + 1)), none, none, some (.long r8), none]) rfl ?_
    refine xw_drop 12 (ls' := [some (.ref 0), none, none, some (.int x3), some (.int x4), some (.long (x5 + ((r7 - r11) * r8))), none, some (.long (x7 + ((r8 - r12) * r13))), none, some (.int (x9 + 1)), none, none, none, none]) rfl ?_
    exact vc

set_option maxRecDepth 20000 in
theorem v_X10_sumWithout_0 {h : XH} {Q : Option Value → XH → Prop} {X : String → XH → Prop} (r : Nat) (hbp : BP r h)  (e : Int32) (n : Int32)
    (vc : ∃ Q1, XSpec mX3_takeFeet 2 0 0 100 100 [.ref 25, .ref r] h Q1 xno ∧ ∀ v h1, Q1 v h1 → v = none ∧ ((xP h1 0 6 = some 25) ∧ ((xP h1 0 3 = some r) ∧ (∃ Q1, XSpec mX5_footOf 1 0 0 100 100 [.ref r, .int e] h1 Q1 xno ∧ ∀ v h2, Q1 v h2 → ∃ r2 : Int32, v = some (.int r2) ∧ (∃ Q1, XSpec mX3_putFoot 1 0 0 100 100 [.ref 25, .int r2, .int 0] h2 Q1 xno ∧ ∀ v h3, Q1 v h3 → v = none ∧ ((xP h3 0 6 = some 25) ∧ ((xP h3 0 3 = some r) ∧ (∃ Q1, XSpec mX3_measure 5 0 0 100 100 [.ref 25, .ref r] h3 Q1 xno ∧ ∀ v h4, Q1 v h4 → v = none ∧ ((xP h4 0 6 = some 25) ∧ ((xP h4 0 3 = some r) ∧ ((xP h4 0 3 = some r) ∧ (∃ Q1, XSpec mX3_lay 3 0 0 100 100 [.ref 25, .ref r, .int (xI h4 r 3)] h4 Q1 xno ∧ ∀ v h5, Q1 v h5 → v = none ∧ ((xP h5 0 11 = some 43) ∧ ((xP h5 0 3 = some r) ∧ ((xP h5 0 6 = some 25) ∧ (∃ Q1, XSpec mX6_sumOut 4 0 0 100 100 [.ref 43, .ref r, .ref 25, .int 0, .int n] h5 Q1 xno ∧ ∀ v h6, Q1 v h6 → ∃ r6 : Int64, v = some (.long r6) ∧ (Q (some (.long r6)) h6))))))))))))))))) :
    XW (xrm 6 0 0) mX10_sumWithout (xE 100 Q X 0 0) 100 0 0 h 0 [some (.ref 0), some (.int e), some (.int n)] [] := by
  obtain ⟨hb, hr, hnr, ha21, ha25, hu29, hu34, hw, hnt, hwr⟩ := hbp
  refine xi_aload_n (by decide +kernel : decode mX10_sumWithout.2.1 0 = .ok (.aload_n 0, 1)) rfl rfl (?_ : XW _ _ _ _ _ _ _ 1 _ _)
  refine xi_getR (y := 25) (by decide +kernel : decode mX10_sumWithout.2.1 1 = .ok (.getfield 43, 3)) fX10_43 rfl (by omega) rfl hb.2.2.2.2.1 (?_ : XW _ _ _ _ _ _ _ 4 _ _)
  refine xi_aload_n (by decide +kernel : decode mX10_sumWithout.2.1 4 = .ok (.aload_n 0, 1)) rfl rfl (?_ : XW _ _ _ _ _ _ _ 5 _ _)
  refine xi_getR (y := r) (by decide +kernel : decode mX10_sumWithout.2.1 5 = .ok (.getfield 23, 3)) fX10_23 rfl (by omega) rfl hb.2.1 (?_ : XW _ _ _ _ _ _ _ 8 _ _)
  obtain ⟨Q1, sp, vc⟩ := vc
  refine xi_callV (b := 0) (bs := 0) (As := [.ref r]) (st := []) (by decide +kernel : decode mX10_sumWithout.2.1 8 = .ok (.invokevirtual 122, 3)) kX10_122 rfl rfl (by omega) rfl sp (by decide) (by decide) (Nat.le_of_ble_eq_true rfl) (by omega) (fun v9 h1 hq9 => ?_)
  obtain ⟨e9, vc⟩ := vc v9 h1 hq9
  subst e9
  show XW _ _ _ _ _ _ _ 11 _ []
  refine xi_aload_n (by decide +kernel : decode mX10_sumWithout.2.1 11 = .ok (.aload_n 0, 1)) rfl rfl (?_ : XW _ _ _ _ _ _ _ 12 _ _)
  obtain ⟨s1, vc⟩ := vc
  refine xi_getR (y := 25) (by decide +kernel : decode mX10_sumWithout.2.1 12 = .ok (.getfield 43, 3)) fX10_43 rfl (by omega) rfl s1 (?_ : XW _ _ _ _ _ _ _ 15 _ _)
  refine xi_aload_n (by decide +kernel : decode mX10_sumWithout.2.1 15 = .ok (.aload_n 0, 1)) rfl rfl (?_ : XW _ _ _ _ _ _ _ 16 _ _)
  obtain ⟨s1, vc⟩ := vc
  refine xi_getR (y := r) (by decide +kernel : decode mX10_sumWithout.2.1 16 = .ok (.getfield 23, 3)) fX10_23 rfl (by omega) rfl s1 (?_ : XW _ _ _ _ _ _ _ 19 _ _)
  refine xi_iload_n (by decide +kernel : decode mX10_sumWithout.2.1 19 = .ok (.iload_n 1, 1)) rfl rfl (?_ : XW _ _ _ _ _ _ _ 20 _ _)
  obtain ⟨Q1, sp, vc⟩ := vc
  refine xi_callV (b := 0) (bs := 0) (As := [.int e]) (st := [.ref 25]) (by decide +kernel : decode mX10_sumWithout.2.1 20 = .ok (.invokevirtual 178, 3)) kX10_178 rfl (xRul_s0 hr) (by omega) rfl sp (by decide) (by decide) (Nat.le_of_ble_eq_true rfl) (by omega) (fun v9 h2 hq9 => ?_)
  obtain ⟨r2, e9, vc⟩ := vc v9 h2 hq9
  subst e9
  show XW _ _ _ _ _ _ _ 23 _ [.int r2, .ref 25]
  refine xi_iconst (v := 0) (by decide +kernel : decode mX10_sumWithout.2.1 23 = .ok (.iconst 0, 1)) (by decide) (?_ : XW _ _ _ _ _ _ _ 24 _ _)
  obtain ⟨Q1, sp, vc⟩ := vc
  refine xi_callV (b := 0) (bs := 0) (As := [.int r2, .int 0]) (st := []) (by decide +kernel : decode mX10_sumWithout.2.1 24 = .ok (.invokevirtual 276, 3)) kX10_276 rfl rfl (by omega) rfl sp (by decide) (by decide) (Nat.le_of_ble_eq_true rfl) (by omega) (fun v9 h3 hq9 => ?_)
  obtain ⟨e9, vc⟩ := vc v9 h3 hq9
  subst e9
  show XW _ _ _ _ _ _ _ 27 _ []
  refine xi_aload_n (by decide +kernel : decode mX10_sumWithout.2.1 27 = .ok (.aload_n 0, 1)) rfl rfl (?_ : XW _ _ _ _ _ _ _ 28 _ _)
  obtain ⟨s1, vc⟩ := vc
  refine xi_getR (y := 25) (by decide +kernel : decode mX10_sumWithout.2.1 28 = .ok (.getfield 43, 3)) fX10_43 rfl (by omega) rfl s1 (?_ : XW _ _ _ _ _ _ _ 31 _ _)
  refine xi_aload_n (by decide +kernel : decode mX10_sumWithout.2.1 31 = .ok (.aload_n 0, 1)) rfl rfl (?_ : XW _ _ _ _ _ _ _ 32 _ _)
  obtain ⟨s1, vc⟩ := vc
  refine xi_getR (y := r) (by decide +kernel : decode mX10_sumWithout.2.1 32 = .ok (.getfield 23, 3)) fX10_23 rfl (by omega) rfl s1 (?_ : XW _ _ _ _ _ _ _ 35 _ _)
  obtain ⟨Q1, sp, vc⟩ := vc
  refine xi_callV (b := 0) (bs := 0) (As := [.ref r]) (st := []) (by decide +kernel : decode mX10_sumWithout.2.1 35 = .ok (.invokevirtual 126, 3)) kX10_126 rfl rfl (by omega) rfl sp (by decide) (by decide) (Nat.le_of_ble_eq_true rfl) (by omega) (fun v9 h4 hq9 => ?_)
  obtain ⟨e9, vc⟩ := vc v9 h4 hq9
  subst e9
  show XW _ _ _ _ _ _ _ 38 _ []
  refine xi_aload_n (by decide +kernel : decode mX10_sumWithout.2.1 38 = .ok (.aload_n 0, 1)) rfl rfl (?_ : XW _ _ _ _ _ _ _ 39 _ _)
  obtain ⟨s1, vc⟩ := vc
  refine xi_getR (y := 25) (by decide +kernel : decode mX10_sumWithout.2.1 39 = .ok (.getfield 43, 3)) fX10_43 rfl (by omega) rfl s1 (?_ : XW _ _ _ _ _ _ _ 42 _ _)
  refine xi_aload_n (by decide +kernel : decode mX10_sumWithout.2.1 42 = .ok (.aload_n 0, 1)) rfl rfl (?_ : XW _ _ _ _ _ _ _ 43 _ _)
  obtain ⟨s1, vc⟩ := vc
  refine xi_getR (y := r) (by decide +kernel : decode mX10_sumWithout.2.1 43 = .ok (.getfield 23, 3)) fX10_23 rfl (by omega) rfl s1 (?_ : XW _ _ _ _ _ _ _ 46 _ _)
  refine xi_aload_n (by decide +kernel : decode mX10_sumWithout.2.1 46 = .ok (.aload_n 0, 1)) rfl rfl (?_ : XW _ _ _ _ _ _ _ 47 _ _)
  obtain ⟨s1, vc⟩ := vc
  refine xi_getR (y := r) (by decide +kernel : decode mX10_sumWithout.2.1 47 = .ok (.getfield 23, 3)) fX10_23 rfl (by omega) rfl s1 (?_ : XW _ _ _ _ _ _ _ 50 _ _)
  refine xi_getI (by decide +kernel : decode mX10_sumWithout.2.1 50 = .ok (.getfield 129, 3)) fX10_129 (xRul_s0 hr) (by omega) rfl (?_ : XW _ _ _ _ _ _ _ 53 _ _)
  obtain ⟨Q1, sp, vc⟩ := vc
  refine xi_callV (b := 0) (bs := 0) (As := [.ref r, .int (xI h4 r 3)]) (st := []) (by decide +kernel : decode mX10_sumWithout.2.1 53 = .ok (.invokevirtual 132, 3)) kX10_132 rfl rfl (by omega) rfl sp (by decide) (by decide) (Nat.le_of_ble_eq_true rfl) (by omega) (fun v9 h5 hq9 => ?_)
  obtain ⟨e9, vc⟩ := vc v9 h5 hq9
  subst e9
  show XW _ _ _ _ _ _ _ 56 _ []
  refine xi_aload_n (by decide +kernel : decode mX10_sumWithout.2.1 56 = .ok (.aload_n 0, 1)) rfl rfl (?_ : XW _ _ _ _ _ _ _ 57 _ _)
  obtain ⟨s1, vc⟩ := vc
  refine xi_getR (y := 43) (by decide +kernel : decode mX10_sumWithout.2.1 57 = .ok (.getfield 70, 3)) fX10_70 rfl (by omega) rfl s1 (?_ : XW _ _ _ _ _ _ _ 60 _ _)
  refine xi_aload_n (by decide +kernel : decode mX10_sumWithout.2.1 60 = .ok (.aload_n 0, 1)) rfl rfl (?_ : XW _ _ _ _ _ _ _ 61 _ _)
  obtain ⟨s1, vc⟩ := vc
  refine xi_getR (y := r) (by decide +kernel : decode mX10_sumWithout.2.1 61 = .ok (.getfield 23, 3)) fX10_23 rfl (by omega) rfl s1 (?_ : XW _ _ _ _ _ _ _ 64 _ _)
  refine xi_aload_n (by decide +kernel : decode mX10_sumWithout.2.1 64 = .ok (.aload_n 0, 1)) rfl rfl (?_ : XW _ _ _ _ _ _ _ 65 _ _)
  obtain ⟨s1, vc⟩ := vc
  refine xi_getR (y := 25) (by decide +kernel : decode mX10_sumWithout.2.1 65 = .ok (.getfield 43, 3)) fX10_43 rfl (by omega) rfl s1 (?_ : XW _ _ _ _ _ _ _ 68 _ _)
  refine xi_iconst (v := 0) (by decide +kernel : decode mX10_sumWithout.2.1 68 = .ok (.iconst 0, 1)) (by decide) (?_ : XW _ _ _ _ _ _ _ 69 _ _)
  refine xi_iload_n (by decide +kernel : decode mX10_sumWithout.2.1 69 = .ok (.iload_n 2, 1)) rfl rfl (?_ : XW _ _ _ _ _ _ _ 70 _ _)
  obtain ⟨Q1, sp, vc⟩ := vc
  refine xi_callV (b := 0) (bs := 0) (As := [.ref r, .ref 25, .int 0, .int n]) (st := []) (by decide +kernel : decode mX10_sumWithout.2.1 70 = .ok (.invokevirtual 250, 3)) kX10_250 rfl rfl (by omega) rfl sp (by decide) (by decide) (Nat.le_of_ble_eq_true rfl) (by omega) (fun v9 h6 hq9 => ?_)
  obtain ⟨r6, e9, vc⟩ := vc v9 h6 hq9
  subst e9
  show XW _ _ _ _ _ _ _ 73 _ [.long r6]
  exact xi_lret (by decide +kernel : decode mX10_sumWithout.2.1 73 = .ok (.lreturn, 1)) rfl vc

set_option maxRecDepth 20000 in
theorem v_X10_matters_0 {h : XH} {Q : Option Value → XH → Prop} {X : String → XH → Prop} (r : Nat) (hbp : BP r h)  (e : Int32) (n : Int32)
    (vc : ∃ Q1 X1, XSpec mX10_needExit 7 1 6 100 100 [.ref 0, .int e] h Q1 X1 ∧ (∀ E9 h9, X1 E9 h9 → X E9 h9) ∧ ∀ v h1, Q1 v h1 → v = none ∧ (∃ Q1 X1, XSpec mX10_needThrows 7 1 6 100 100 [.ref 0, .int n] h1 Q1 X1 ∧ (∀ E9 h9, X1 E9 h9 → X E9 h9) ∧ ∀ v h2, Q1 v h2 → v = none ∧ (∃ Q1, XSpec mX10_sumWithout 6 0 0 100 100 [.ref 0, .int e, .int n] h2 Q1 xno ∧ ∀ v h3, Q1 v h3 → ∃ r3 : Int64, v = some (.long r3) ∧ ((xP h3 0 11 = some 43) ∧ ((xP h3 0 3 = some r) ∧ ((xP h3 0 5 = some 21) ∧ (∃ Q1, XSpec mX6_sumOut 4 0 0 100 100 [.ref 43, .ref r, .ref 21, .int 0, .int n] h3 Q1 xno ∧ ∀ v h4, Q1 v h4 → ∃ r4 : Int64, v = some (.long r4) ∧ (Q (some (.long (r3 - r4))) h4)))))))) :
    XW (xrm 8 2 12) mX10_matters (xE 100 Q X 2 12) 100 2 12 h 0 [some (.ref 0), some (.int e), some (.int n)] [] := by
  obtain ⟨hb, hr, hnr, ha21, ha25, hu29, hu34, hw, hnt, hwr⟩ := hbp
  refine xi_aload_n (by decide +kernel : decode mX10_matters.2.1 0 = .ok (.aload_n 0, 1)) rfl rfl (?_ : XW _ _ _ _ _ _ _ 1 _ _)
  refine xi_iload_n (by decide +kernel : decode mX10_matters.2.1 1 = .ok (.iload_n 1, 1)) rfl rfl (?_ : XW _ _ _ _ _ _ _ 2 _ _)
  obtain ⟨Q1, X1, sp, tx, vc⟩ := vc
  refine xi_callVX (b := 1) (bs := 6) (As := [.int e]) (st := []) (by decide +kernel : decode mX10_matters.2.1 2 = .ok (.invokevirtual 175, 3)) kX10_175 rfl rfl (by omega) rfl sp (by decide) (by decide) (Nat.le_of_ble_eq_true rfl) (by omega) rfl tx (fun v9 h1 hq9 => ?_)
  obtain ⟨e9, vc⟩ := vc v9 h1 hq9
  subst e9
  show XW _ _ _ _ _ _ _ 5 _ []
  refine xi_aload_n (by decide +kernel : decode mX10_matters.2.1 5 = .ok (.aload_n 0, 1)) rfl rfl (?_ : XW _ _ _ _ _ _ _ 6 _ _)
  refine xi_iload_n (by decide +kernel : decode mX10_matters.2.1 6 = .ok (.iload_n 2, 1)) rfl rfl (?_ : XW _ _ _ _ _ _ _ 7 _ _)
  obtain ⟨Q1, X1, sp, tx, vc⟩ := vc
  refine xi_callVX (b := 0) (bs := 0) (As := [.int n]) (st := []) (by decide +kernel : decode mX10_matters.2.1 7 = .ok (.invokevirtual 247, 3)) kX10_247 rfl rfl (by omega) rfl sp (by decide) (by decide) (Nat.le_of_ble_eq_true rfl) (by omega) rfl tx (fun v9 h2 hq9 => ?_)
  obtain ⟨e9, vc⟩ := vc v9 h2 hq9
  subst e9
  show XW _ _ _ _ _ _ _ 10 _ []
  refine xi_aload_n (by decide +kernel : decode mX10_matters.2.1 10 = .ok (.aload_n 0, 1)) rfl rfl (?_ : XW _ _ _ _ _ _ _ 11 _ _)
  refine xi_iload_n (by decide +kernel : decode mX10_matters.2.1 11 = .ok (.iload_n 1, 1)) rfl rfl (?_ : XW _ _ _ _ _ _ _ 12 _ _)
  refine xi_iload_n (by decide +kernel : decode mX10_matters.2.1 12 = .ok (.iload_n 2, 1)) rfl rfl (?_ : XW _ _ _ _ _ _ _ 13 _ _)
  obtain ⟨Q1, sp, vc⟩ := vc
  refine xi_callV (b := 0) (bs := 0) (As := [.int e, .int n]) (st := []) (by decide +kernel : decode mX10_matters.2.1 13 = .ok (.invokevirtual 272, 3)) kX10_272 rfl rfl (by omega) rfl sp (by decide) (by decide) (Nat.le_of_ble_eq_true rfl) (by omega) (fun v9 h3 hq9 => ?_)
  obtain ⟨r3, e9, vc⟩ := vc v9 h3 hq9
  subst e9
  show XW _ _ _ _ _ _ _ 16 _ [.long r3]
  refine xi_aload_n (by decide +kernel : decode mX10_matters.2.1 16 = .ok (.aload_n 0, 1)) rfl rfl (?_ : XW _ _ _ _ _ _ _ 17 _ _)
  obtain ⟨s1, vc⟩ := vc
  refine xi_getR (y := 43) (by decide +kernel : decode mX10_matters.2.1 17 = .ok (.getfield 70, 3)) fX10_70 rfl (by omega) rfl s1 (?_ : XW _ _ _ _ _ _ _ 20 _ _)
  refine xi_aload_n (by decide +kernel : decode mX10_matters.2.1 20 = .ok (.aload_n 0, 1)) rfl rfl (?_ : XW _ _ _ _ _ _ _ 21 _ _)
  obtain ⟨s1, vc⟩ := vc
  refine xi_getR (y := r) (by decide +kernel : decode mX10_matters.2.1 21 = .ok (.getfield 23, 3)) fX10_23 rfl (by omega) rfl s1 (?_ : XW _ _ _ _ _ _ _ 24 _ _)
  refine xi_aload_n (by decide +kernel : decode mX10_matters.2.1 24 = .ok (.aload_n 0, 1)) rfl rfl (?_ : XW _ _ _ _ _ _ _ 25 _ _)
  obtain ⟨s1, vc⟩ := vc
  refine xi_getR (y := 21) (by decide +kernel : decode mX10_matters.2.1 25 = .ok (.getfield 39, 3)) fX10_39 rfl (by omega) rfl s1 (?_ : XW _ _ _ _ _ _ _ 28 _ _)
  refine xi_iconst (v := 0) (by decide +kernel : decode mX10_matters.2.1 28 = .ok (.iconst 0, 1)) (by decide) (?_ : XW _ _ _ _ _ _ _ 29 _ _)
  refine xi_iload_n (by decide +kernel : decode mX10_matters.2.1 29 = .ok (.iload_n 2, 1)) rfl rfl (?_ : XW _ _ _ _ _ _ _ 30 _ _)
  obtain ⟨Q1, sp, vc⟩ := vc
  refine xi_callV (b := 0) (bs := 0) (As := [.ref r, .ref 21, .int 0, .int n]) (st := [.long r3]) (by decide +kernel : decode mX10_matters.2.1 30 = .ok (.invokevirtual 250, 3)) kX10_250 rfl rfl (by omega) rfl sp (by decide) (by decide) (Nat.le_of_ble_eq_true rfl) (by omega) (fun v9 h4 hq9 => ?_)
  obtain ⟨r4, e9, vc⟩ := vc v9 h4 hq9
  subst e9
  show XW _ _ _ _ _ _ _ 33 _ [.long r4, .long r3]
  refine xi_lsub (by decide +kernel : decode mX10_matters.2.1 33 = .ok (.lsub, 1)) (?_ : XW _ _ _ _ _ _ _ 34 _ _)
  exact xi_lret (by decide +kernel : decode mX10_matters.2.1 34 = .ok (.lreturn, 1)) rfl vc

set_option maxRecDepth 20000 in
theorem v_X10_most_0 {h : XH} {Q : Option Value → XH → Prop} {X : String → XH → Prop} (r : Nat) (hbp : BP r h)  (n : Int32)
    (vc : ∃ Q1 X1, XSpec mX10_needThrows 7 1 6 100 100 [.ref 0, .int n] h Q1 X1 ∧ (∀ E9 h9, X1 E9 h9 → X E9 h9) ∧ ∀ v h1, Q1 v h1 → v = none ∧ ((xP h1 0 11 = some 43) ∧ ((xP h1 0 3 = some r) ∧ ((xP h1 0 5 = some 21) ∧ (∃ Q1, XSpec mX6_sumOut 4 0 0 100 100 [.ref 43, .ref r, .ref 21, .int 0, .int n] h1 Q1 xno ∧ ∀ v h2, Q1 v h2 → ∃ r2 : Int64, v = some (.long r2) ∧ (XW (xrm 8 1 6) mX10_most (xE 100 Q X 1 6) 100 0 0 h2 34 [some (.ref 0), some (.int n), some (.long r2), none, some (.int (-1)), some (.long (-1)), none, some (.int 0), none, none] [])))))) :
    XW (xrm 8 1 6) mX10_most (xE 100 Q X 1 6) 100 1 6 h 0 [some (.ref 0), some (.int n), none, none, none, none, none, none, none, none] [] := by
  obtain ⟨hb, hr, hnr, ha21, ha25, hu29, hu34, hw, hnt, hwr⟩ := hbp
  refine xi_aload_n (by decide +kernel : decode mX10_most.2.1 0 = .ok (.aload_n 0, 1)) rfl rfl (?_ : XW _ _ _ _ _ _ _ 1 _ _)
  refine xi_iload_n (by decide +kernel : decode mX10_most.2.1 1 = .ok (.iload_n 1, 1)) rfl rfl (?_ : XW _ _ _ _ _ _ _ 2 _ _)
  obtain ⟨Q1, X1, sp, tx, vc⟩ := vc
  refine xi_callVX (b := 0) (bs := 0) (As := [.int n]) (st := []) (by decide +kernel : decode mX10_most.2.1 2 = .ok (.invokevirtual 247, 3)) kX10_247 rfl rfl (by omega) rfl sp (by decide) (by decide) (Nat.le_of_ble_eq_true rfl) (by omega) rfl tx (fun v9 h1 hq9 => ?_)
  obtain ⟨e9, vc⟩ := vc v9 h1 hq9
  subst e9
  show XW _ _ _ _ _ _ _ 5 _ []
  refine xi_aload_n (by decide +kernel : decode mX10_most.2.1 5 = .ok (.aload_n 0, 1)) rfl rfl (?_ : XW _ _ _ _ _ _ _ 6 _ _)
  obtain ⟨s1, vc⟩ := vc
  refine xi_getR (y := 43) (by decide +kernel : decode mX10_most.2.1 6 = .ok (.getfield 70, 3)) fX10_70 rfl (by omega) rfl s1 (?_ : XW _ _ _ _ _ _ _ 9 _ _)
  refine xi_aload_n (by decide +kernel : decode mX10_most.2.1 9 = .ok (.aload_n 0, 1)) rfl rfl (?_ : XW _ _ _ _ _ _ _ 10 _ _)
  obtain ⟨s1, vc⟩ := vc
  refine xi_getR (y := r) (by decide +kernel : decode mX10_most.2.1 10 = .ok (.getfield 23, 3)) fX10_23 rfl (by omega) rfl s1 (?_ : XW _ _ _ _ _ _ _ 13 _ _)
  refine xi_aload_n (by decide +kernel : decode mX10_most.2.1 13 = .ok (.aload_n 0, 1)) rfl rfl (?_ : XW _ _ _ _ _ _ _ 14 _ _)
  obtain ⟨s1, vc⟩ := vc
  refine xi_getR (y := 21) (by decide +kernel : decode mX10_most.2.1 14 = .ok (.getfield 39, 3)) fX10_39 rfl (by omega) rfl s1 (?_ : XW _ _ _ _ _ _ _ 17 _ _)
  refine xi_iconst (v := 0) (by decide +kernel : decode mX10_most.2.1 17 = .ok (.iconst 0, 1)) (by decide) (?_ : XW _ _ _ _ _ _ _ 18 _ _)
  refine xi_iload_n (by decide +kernel : decode mX10_most.2.1 18 = .ok (.iload_n 1, 1)) rfl rfl (?_ : XW _ _ _ _ _ _ _ 19 _ _)
  obtain ⟨Q1, sp, vc⟩ := vc
  refine xi_callV (b := 0) (bs := 0) (As := [.ref r, .ref 21, .int 0, .int n]) (st := []) (by decide +kernel : decode mX10_most.2.1 19 = .ok (.invokevirtual 250, 3)) kX10_250 rfl rfl (by omega) rfl sp (by decide) (by decide) (Nat.le_of_ble_eq_true rfl) (by omega) (fun v9 h2 hq9 => ?_)
  obtain ⟨r2, e9, vc⟩ := vc v9 h2 hq9
  subst e9
  show XW _ _ _ _ _ _ _ 22 _ [.long r2]
  refine xi_lstore_n (ls' := [some (.ref 0), some (.int n), some (.long r2), none, none, none, none, none, none, none]) (by decide +kernel : decode mX10_most.2.1 22 = .ok (.lstore_n 2, 1)) rfl (by decide) rfl (?_ : XW _ _ _ _ _ _ _ 23 _ _)
  refine xi_iconst (v := (-1)) (by decide +kernel : decode mX10_most.2.1 23 = .ok (.iconst (-1), 1)) (by decide) (?_ : XW _ _ _ _ _ _ _ 24 _ _)
  refine xi_istore (ls' := [some (.ref 0), some (.int n), some (.long r2), none, some (.int (-1)), none, none, none, none, none]) (by decide +kernel : decode mX10_most.2.1 24 = .ok (.istore 4, 2)) (by decide) rfl (?_ : XW _ _ _ _ _ _ _ 26 _ _)
  refine xi_ldc2 (v := (-1)) (by decide +kernel : decode mX10_most.2.1 26 = .ok (.ldc2_w 279, 3)) cK_X10_279 (?_ : XW _ _ _ _ _ _ _ 29 _ _)
  refine xi_lstore (ls' := [some (.ref 0), some (.int n), some (.long r2), none, some (.int (-1)), some (.long (-1)), none, none, none, none]) (by decide +kernel : decode mX10_most.2.1 29 = .ok (.lstore 5, 2)) (by decide) rfl (?_ : XW _ _ _ _ _ _ _ 31 _ _)
  refine xi_iconst (v := 0) (by decide +kernel : decode mX10_most.2.1 31 = .ok (.iconst 0, 1)) (by decide) (?_ : XW _ _ _ _ _ _ _ 32 _ _)
  refine xi_istore (ls' := [some (.ref 0), some (.int n), some (.long r2), none, some (.int (-1)), some (.long (-1)), none, some (.int 0), none, none]) (by decide +kernel : decode mX10_most.2.1 32 = .ok (.istore 7, 2)) (by decide) rfl (?_ : XW _ _ _ _ _ _ _ 34 _ _)
  exact vc

set_option maxRecDepth 20000 in
theorem v_X10_most_34 {h : XH} {Q : Option Value → XH → Prop} {X : String → XH → Prop} (r : Nat) (hbp : BP r h)  (x1 : Int32) (x2 : Int64) (x4 : Int32) (x5 : Int64) (x7 : Int32)
    (vc : ((xI h r 7) ≤ x7 → Q (some (.int x4)) h) ∧ (¬ (xI h r 7) ≤ x7 → ∃ Q1, XSpec mX10_sumWithout 6 0 0 100 100 [.ref 0, .int x7, .int x1] h Q1 xno ∧ ∀ v h3, Q1 v h3 → ∃ r3 : Int64, v = some (.long r3) ∧ (((lg_cmp (if 0 < (r3 - x2) then (r3 - x2) else -(r3 - x2)) x5) ≤ 0 → XW (xrm 8 1 6) mX10_most (xE 100 Q X 1 6) 100 0 0 h3 34 [some (.ref 0), some (.int x1), some (.long x2), none, some (.int x4), some (.long x5), none, some (.int (x7 + 1)), none, none] []) ∧ (¬ (lg_cmp (if 0 < (r3 - x2) then (r3 - x2) else -(r3 - x2)) x5) ≤ 0 → XW (xrm 8 1 6) mX10_most (xE 100 Q X 1 6) 100 0 0 h3 34 [some (.ref 0), some (.int x1), some (.long x2), none, some (.int x7), some (.long (if 0 < (r3 - x2) then (r3 - x2) else -(r3 - x2))), none, some (.int (x7 + 1)), none, none] [])))) :
    XW (xrm 8 1 6) mX10_most (xE 100 Q X 1 6) 100 0 0 h 34 [some (.ref 0), some (.int x1), some (.long x2), none, some (.int x4), some (.long x5), none, some (.int x7), none, none] [] := by
  obtain ⟨hb, hr, hnr, ha21, ha25, hu29, hu34, hw, hnt, hwr⟩ := hbp
  refine xi_iload (by decide +kernel : decode mX10_most.2.1 34 = .ok (.iload 7, 2)) rfl (?_ : XW _ _ _ _ _ _ _ 36 _ _)
  refine xi_aload_n (by decide +kernel : decode mX10_most.2.1 36 = .ok (.aload_n 0, 1)) rfl rfl (?_ : XW _ _ _ _ _ _ _ 37 _ _)
  refine xi_getR (y := r) (by decide +kernel : decode mX10_most.2.1 37 = .ok (.getfield 23, 3)) fX10_23 rfl (by omega) rfl hb.2.1 (?_ : XW _ _ _ _ _ _ _ 40 _ _)
  refine xi_getI (by decide +kernel : decode mX10_most.2.1 40 = .ok (.getfield 151, 3)) fX10_151 (xRul_s0 hr) (by omega) rfl (?_ : XW _ _ _ _ _ _ _ 43 _ _)
  refine xi_icmp_ge (by decide +kernel : decode mX10_most.2.1 43 = .ok (.if_icmp .ge 39, 3)) (by decide) (fun c => (?_ : XW _ _ _ _ _ _ _ 82 _ _)) (fun c => (?_ : XW _ _ _ _ _ _ _ 46 _ _))
  · replace vc := vc.1 c
    refine xi_iload (by decide +kernel : decode mX10_most.2.1 82 = .ok (.iload 4, 2)) rfl (?_ : XW _ _ _ _ _ _ _ 84 _ _)
    exact xi_iret (by decide +kernel : decode mX10_most.2.1 84 = .ok (.ireturn, 1)) rfl rfl vc
  · replace vc := vc.2 c
    refine xi_aload_n (by decide +kernel : decode mX10_most.2.1 46 = .ok (.aload_n 0, 1)) rfl rfl (?_ : XW _ _ _ _ _ _ _ 47 _ _)
    refine xi_iload (by decide +kernel : decode mX10_most.2.1 47 = .ok (.iload 7, 2)) rfl (?_ : XW _ _ _ _ _ _ _ 49 _ _)
    refine xi_iload_n (by decide +kernel : decode mX10_most.2.1 49 = .ok (.iload_n 1, 1)) rfl rfl (?_ : XW _ _ _ _ _ _ _ 50 _ _)
    obtain ⟨Q1, sp, vc⟩ := vc
    refine xi_callV (b := 0) (bs := 0) (As := [.int x7, .int x1]) (st := []) (by decide +kernel : decode mX10_most.2.1 50 = .ok (.invokevirtual 272, 3)) kX10_272 rfl rfl (by omega) rfl sp (by decide) (by decide) (Nat.le_of_ble_eq_true rfl) (by omega) (fun v9 h3 hq9 => ?_)
    obtain ⟨r3, e9, vc⟩ := vc v9 h3 hq9
    subst e9
    show XW _ _ _ _ _ _ _ 53 _ [.long r3]
    refine xi_lload_n (by decide +kernel : decode mX10_most.2.1 53 = .ok (.lload_n 2, 1)) rfl rfl (?_ : XW _ _ _ _ _ _ _ 54 _ _)
    refine xi_lsub (by decide +kernel : decode mX10_most.2.1 54 = .ok (.lsub, 1)) (?_ : XW _ _ _ _ _ _ _ 55 _ _)
    refine xi_mabsl (by decide +kernel : decode mX10_most.2.1 55 = .ok (.invokestatic 281, 3)) kX10_281.2.1 (by decide) (Nat.le_of_ble_eq_true rfl) (?_ : XW _ _ _ _ _ _ _ 58 _ _)
    refine xi_lstore (ls' := [some (.ref 0), some (.int x1), some (.long x2), none, some (.int x4), some (.long x5), none, some (.int x7), some (.long (if 0 < (r3 - x2) then (r3 - x2) else -(r3 - x2))), none]) (by decide +kernel : decode mX10_most.2.1 58 = .ok (.lstore 8, 2)) (by decide) rfl (?_ : XW _ _ _ _ _ _ _ 60 _ _)
    refine xi_lload (by decide +kernel : decode mX10_most.2.1 60 = .ok (.lload 8, 2)) rfl (?_ : XW _ _ _ _ _ _ _ 62 _ _)
    refine xi_lload (by decide +kernel : decode mX10_most.2.1 62 = .ok (.lload 5, 2)) rfl (?_ : XW _ _ _ _ _ _ _ 64 _ _)
    refine xi_lcmp (by decide +kernel : decode mX10_most.2.1 64 = .ok (.lcmp, 1)) (?_ : XW _ _ _ _ _ _ _ 65 _ _)
    refine xi_if_le (by decide +kernel : decode mX10_most.2.1 65 = .ok (.ifCond .le 11, 3)) (by decide) (fun c => (?_ : XW _ _ _ _ _ _ _ 76 _ _)) (fun c => (?_ : XW _ _ _ _ _ _ _ 68 _ _))
    · replace vc := vc.1 c
      refine xi_iinc (v := x7 + 1) (ls' := [some (.ref 0), some (.int x1), some (.long x2), none, some (.int x4), some (.long x5), none, some (.int (x7 + 1)), some (.long (if 0 < (r3 - x2) then (r3 - x2) else -(r3 - x2))), none]) (by decide +kernel : decode mX10_most.2.1 76 = .ok (.iinc 7 1, 3)) rfl rfl (by decide) rfl (?_ : XW _ _ _ _ _ _ _ 79 _ _)
      refine xi_goto (by decide +kernel : decode mX10_most.2.1 79 = .ok (.goto (-45), 3)) (by decide) (?_ : XW _ _ _ _ _ _ _ 34 _ _)
      refine xw_drop 8 (ls' := [some (.ref 0), some (.int x1), some (.long x2), none, some (.int x4), some (.long x5), none, some (.int (x7 + 1)), none, none]) rfl ?_
      exact vc
    · replace vc := vc.2 c
      refine xi_lload (by decide +kernel : decode mX10_most.2.1 68 = .ok (.lload 8, 2)) rfl (?_ : XW _ _ _ _ _ _ _ 70 _ _)
      refine xi_lstore (ls' := [some (.ref 0), some (.int x1), some (.long x2), none, some (.int x4), some (.long (if 0 < (r3 - x2) then (r3 - x2) else -(r3 - x2))), none, some (.int x7), some (.long (if 0 < (r3 - x2) then (r3 - x2) else -(r3 - x2))), none]) (by decide +kernel : decode mX10_most.2.1 70 = .ok (.lstore 5, 2)) (by decide) rfl (?_ : XW _ _ _ _ _ _ _ 72 _ _)
      refine xi_iload (by decide +kernel : decode mX10_most.2.1 72 = .ok (.iload 7, 2)) rfl (?_ : XW _ _ _ _ _ _ _ 74 _ _)
      refine xi_istore (ls' := [some (.ref 0), some (.int x1), some (.long x2), none, some (.int x7), some (.long (if 0 < (r3 - x2) then (r3 - x2) else -(r3 - x2))), none, some (.int x7), some (.long (if 0 < (r3 - x2) then (r3 - x2) else -(r3 - x2))), none]) (by decide +kernel : decode mX10_most.2.1 74 = .ok (.istore 4, 2)) (by decide) rfl (?_ : XW _ _ _ _ _ _ _ 76 _ _)
      refine xi_iinc (v := x7 + 1) (ls' := [some (.ref 0), some (.int x1), some (.long x2), none, some (.int x7), some (.long (if 0 < (r3 - x2) then (r3 - x2) else -(r3 - x2))), none, some (.int (x7 + 1)), some (.long (if 0 < (r3 - x2) then (r3 - x2) else -(r3 - x2))), none]) (by decide +kernel : decode mX10_most.2.1 76 = .ok (.iinc 7 1, 3)) rfl rfl (by decide) rfl (?_ : XW _ _ _ _ _ _ _ 79 _ _)
      refine xi_goto (by decide +kernel : decode mX10_most.2.1 79 = .ok (.goto (-45), 3)) (by decide) (?_ : XW _ _ _ _ _ _ _ 34 _ _)
      refine xw_drop 8 (ls' := [some (.ref 0), some (.int x1), some (.long x2), none, some (.int x7), some (.long (if 0 < (r3 - x2) then (r3 - x2) else -(r3 - x2))), none, some (.int (x7 + 1)), none, none]) rfl ?_
      exact vc

set_option maxRecDepth 20000 in
theorem v_X10_isSpent_0 {h : XH} {Q : Option Value → XH → Prop} {X : String → XH → Prop} (r : Nat) (hbp : BP r h)  (n : Int32)
    (vc : (40 < (xI h r 0) → Q (some (.int 1)) h) ∧ (¬ 40 < (xI h r 0) → (n ≤ 60 → Q (some (.int 0)) h) ∧ (¬ n ≤ 60 → Q (some (.int 1)) h))) :
    XW (xrm 1 0 0) mX10_isSpent (xE 100 Q X 0 0) 100 0 0 h 0 [some (.ref 0), some (.int n)] [] := by
  obtain ⟨hb, hr, hnr, ha21, ha25, hu29, hu34, hw, hnt, hwr⟩ := hbp
  refine xi_aload_n (by decide +kernel : decode mX10_isSpent.2.1 0 = .ok (.aload_n 0, 1)) rfl rfl (?_ : XW _ _ _ _ _ _ _ 1 _ _)
  refine xi_getR (y := r) (by decide +kernel : decode mX10_isSpent.2.1 1 = .ok (.getfield 23, 3)) fX10_23 rfl (by omega) rfl hb.2.1 (?_ : XW _ _ _ _ _ _ _ 4 _ _)
  refine xi_getI (by decide +kernel : decode mX10_isSpent.2.1 4 = .ok (.getfield 148, 3)) fX10_148 (xRul_s0 hr) (by omega) rfl (?_ : XW _ _ _ _ _ _ _ 7 _ _)
  refine xi_bipush (v := 40) (by decide +kernel : decode mX10_isSpent.2.1 7 = .ok (.bipush 40, 2)) (by decide) (?_ : XW _ _ _ _ _ _ _ 9 _ _)
  refine xi_icmp_gt (by decide +kernel : decode mX10_isSpent.2.1 9 = .ok (.if_icmp .gt 9, 3)) (by decide) (fun c => (?_ : XW _ _ _ _ _ _ _ 18 _ _)) (fun c => (?_ : XW _ _ _ _ _ _ _ 12 _ _))
  · replace vc := vc.1 c
    refine xi_iconst (v := 1) (by decide +kernel : decode mX10_isSpent.2.1 18 = .ok (.iconst 1, 1)) (by decide) (?_ : XW _ _ _ _ _ _ _ 19 _ _)
    refine xi_goto (by decide +kernel : decode mX10_isSpent.2.1 19 = .ok (.goto 4, 3)) (by decide) (?_ : XW _ _ _ _ _ _ _ 23 _ _)
    exact xi_iret (by decide +kernel : decode mX10_isSpent.2.1 23 = .ok (.ireturn, 1)) rfl rfl vc
  · replace vc := vc.2 c
    refine xi_iload_n (by decide +kernel : decode mX10_isSpent.2.1 12 = .ok (.iload_n 1, 1)) rfl rfl (?_ : XW _ _ _ _ _ _ _ 13 _ _)
    refine xi_bipush (v := 60) (by decide +kernel : decode mX10_isSpent.2.1 13 = .ok (.bipush 60, 2)) (by decide) (?_ : XW _ _ _ _ _ _ _ 15 _ _)
    refine xi_icmp_le (by decide +kernel : decode mX10_isSpent.2.1 15 = .ok (.if_icmp .le 7, 3)) (by decide) (fun c => (?_ : XW _ _ _ _ _ _ _ 22 _ _)) (fun c => (?_ : XW _ _ _ _ _ _ _ 18 _ _))
    · replace vc := vc.1 c
      refine xi_iconst (v := 0) (by decide +kernel : decode mX10_isSpent.2.1 22 = .ok (.iconst 0, 1)) (by decide) (?_ : XW _ _ _ _ _ _ _ 23 _ _)
      exact xi_iret (by decide +kernel : decode mX10_isSpent.2.1 23 = .ok (.ireturn, 1)) rfl rfl vc
    · replace vc := vc.2 c
      refine xi_iconst (v := 1) (by decide +kernel : decode mX10_isSpent.2.1 18 = .ok (.iconst 1, 1)) (by decide) (?_ : XW _ _ _ _ _ _ _ 19 _ _)
      refine xi_goto (by decide +kernel : decode mX10_isSpent.2.1 19 = .ok (.goto 4, 3)) (by decide) (?_ : XW _ _ _ _ _ _ _ 23 _ _)
      exact xi_iret (by decide +kernel : decode mX10_isSpent.2.1 23 = .ok (.ireturn, 1)) rfl rfl vc

set_option maxRecDepth 20000 in
theorem v_X10_nearest_0 {h : XH} {Q : Option Value → XH → Prop} {X : String → XH → Prop} (r : Nat) (hbp : BP r h)  (w : Int64) (n : Int32)
    (vc : ∃ Q1, XSpec mX3_takeFeet 2 0 0 100 100 [.ref 25, .ref r] h Q1 xno ∧ ∀ v h1, Q1 v h1 → v = none ∧ (XW (xrm 6 0 0) mX10_nearest (xE 100 Q X 0 0) 100 0 0 h1 20 [some (.ref 0), some (.long w), none, some (.int n), some (.int (-1)), some (.long 0), none, some (.int 1), none, none, none] [])) :
    XW (xrm 6 0 0) mX10_nearest (xE 100 Q X 0 0) 100 0 0 h 0 [some (.ref 0), some (.long w), none, some (.int n), none, none, none, none, none, none, none] [] := by
  obtain ⟨hb, hr, hnr, ha21, ha25, hu29, hu34, hw, hnt, hwr⟩ := hbp
  rcases hr.1 with rfl | rfl
  · refine xi_iconst (v := (-1)) (by decide +kernel : decode mX10_nearest.2.1 0 = .ok (.iconst (-1), 1)) (by decide) (?_ : XW _ _ _ _ _ _ _ 1 _ _)
    refine xi_istore (ls' := [some (.ref 0), some (.long w), none, some (.int n), some (.int (-1)), none, none, none, none, none, none]) (by decide +kernel : decode mX10_nearest.2.1 1 = .ok (.istore 4, 2)) (by decide) rfl (?_ : XW _ _ _ _ _ _ _ 3 _ _)
    refine xi_lconst (v := 0) (by decide +kernel : decode mX10_nearest.2.1 3 = .ok (.lconst 0, 1)) (by decide) (?_ : XW _ _ _ _ _ _ _ 4 _ _)
    refine xi_lstore (ls' := [some (.ref 0), some (.long w), none, some (.int n), some (.int (-1)), some (.long 0), none, none, none, none, none]) (by decide +kernel : decode mX10_nearest.2.1 4 = .ok (.lstore 5, 2)) (by decide) rfl (?_ : XW _ _ _ _ _ _ _ 6 _ _)
    refine xi_aload_n (by decide +kernel : decode mX10_nearest.2.1 6 = .ok (.aload_n 0, 1)) rfl rfl (?_ : XW _ _ _ _ _ _ _ 7 _ _)
    refine xi_getR (y := 25) (by decide +kernel : decode mX10_nearest.2.1 7 = .ok (.getfield 43, 3)) fX10_43 rfl (by omega) rfl hb.2.2.2.2.1 (?_ : XW _ _ _ _ _ _ _ 10 _ _)
    refine xi_aload_n (by decide +kernel : decode mX10_nearest.2.1 10 = .ok (.aload_n 0, 1)) rfl rfl (?_ : XW _ _ _ _ _ _ _ 11 _ _)
    refine xi_getR (y := 2) (by decide +kernel : decode mX10_nearest.2.1 11 = .ok (.getfield 23, 3)) fX10_23 rfl (by omega) rfl hb.2.1 (?_ : XW _ _ _ _ _ _ _ 14 _ _)
    obtain ⟨Q1, sp, vc⟩ := vc
    refine xi_callV (b := 0) (bs := 0) (As := [.ref 2]) (st := []) (by decide +kernel : decode mX10_nearest.2.1 14 = .ok (.invokevirtual 122, 3)) kX10_122 rfl rfl (by omega) rfl sp (by decide) (by decide) (Nat.le_of_ble_eq_true rfl) (by omega) (fun v9 h1 hq9 => ?_)
    obtain ⟨e9, vc⟩ := vc v9 h1 hq9
    subst e9
    show XW _ _ _ _ _ _ _ 17 _ []
    refine xi_iconst (v := 1) (by decide +kernel : decode mX10_nearest.2.1 17 = .ok (.iconst 1, 1)) (by decide) (?_ : XW _ _ _ _ _ _ _ 18 _ _)
    refine xi_istore (ls' := [some (.ref 0), some (.long w), none, some (.int n), some (.int (-1)), some (.long 0), none, some (.int 1), none, none, none]) (by decide +kernel : decode mX10_nearest.2.1 18 = .ok (.istore 7, 2)) (by decide) rfl (?_ : XW _ _ _ _ _ _ _ 20 _ _)
    exact vc
  · refine xi_iconst (v := (-1)) (by decide +kernel : decode mX10_nearest.2.1 0 = .ok (.iconst (-1), 1)) (by decide) (?_ : XW _ _ _ _ _ _ _ 1 _ _)
    refine xi_istore (ls' := [some (.ref 0), some (.long w), none, some (.int n), some (.int (-1)), none, none, none, none, none, none]) (by decide +kernel : decode mX10_nearest.2.1 1 = .ok (.istore 4, 2)) (by decide) rfl (?_ : XW _ _ _ _ _ _ _ 3 _ _)
    refine xi_lconst (v := 0) (by decide +kernel : decode mX10_nearest.2.1 3 = .ok (.lconst 0, 1)) (by decide) (?_ : XW _ _ _ _ _ _ _ 4 _ _)
    refine xi_lstore (ls' := [some (.ref 0), some (.long w), none, some (.int n), some (.int (-1)), some (.long 0), none, none, none, none, none]) (by decide +kernel : decode mX10_nearest.2.1 4 = .ok (.lstore 5, 2)) (by decide) rfl (?_ : XW _ _ _ _ _ _ _ 6 _ _)
    refine xi_aload_n (by decide +kernel : decode mX10_nearest.2.1 6 = .ok (.aload_n 0, 1)) rfl rfl (?_ : XW _ _ _ _ _ _ _ 7 _ _)
    refine xi_getR (y := 25) (by decide +kernel : decode mX10_nearest.2.1 7 = .ok (.getfield 43, 3)) fX10_43 rfl (by omega) rfl hb.2.2.2.2.1 (?_ : XW _ _ _ _ _ _ _ 10 _ _)
    refine xi_aload_n (by decide +kernel : decode mX10_nearest.2.1 10 = .ok (.aload_n 0, 1)) rfl rfl (?_ : XW _ _ _ _ _ _ _ 11 _ _)
    refine xi_getR (y := 12) (by decide +kernel : decode mX10_nearest.2.1 11 = .ok (.getfield 23, 3)) fX10_23 rfl (by omega) rfl hb.2.1 (?_ : XW _ _ _ _ _ _ _ 14 _ _)
    obtain ⟨Q1, sp, vc⟩ := vc
    refine xi_callV (b := 0) (bs := 0) (As := [.ref 12]) (st := []) (by decide +kernel : decode mX10_nearest.2.1 14 = .ok (.invokevirtual 122, 3)) kX10_122 rfl rfl (by omega) rfl sp (by decide) (by decide) (Nat.le_of_ble_eq_true rfl) (by omega) (fun v9 h1 hq9 => ?_)
    obtain ⟨e9, vc⟩ := vc v9 h1 hq9
    subst e9
    show XW _ _ _ _ _ _ _ 17 _ []
    refine xi_iconst (v := 1) (by decide +kernel : decode mX10_nearest.2.1 17 = .ok (.iconst 1, 1)) (by decide) (?_ : XW _ _ _ _ _ _ _ 18 _ _)
    refine xi_istore (ls' := [some (.ref 0), some (.long w), none, some (.int n), some (.int (-1)), some (.long 0), none, some (.int 1), none, none, none]) (by decide +kernel : decode mX10_nearest.2.1 18 = .ok (.istore 7, 2)) (by decide) rfl (?_ : XW _ _ _ _ _ _ _ 20 _ _)
    exact vc

set_option maxRecDepth 20000 in
theorem v_X10_nearest_20 {h : XH} {Q : Option Value → XH → Prop} {X : String → XH → Prop} (r : Nat) (hbp : BP r h)  (x1 : Int64) (x3 : Int32) (x4 : Int32) (x5 : Int64) (x7 : Int32)
    (vc : ((xI h r 0) ≤ x7 → Q (some (.int x4)) h) ∧ (¬ (xI h r 0) ≤ x7 → ((if x7 < 0 then (0 : Int32) else if 101 ≤ x7 then 0 else if xI h (r + 8) x7.toNatClampNeg = 0 then 0 else 1) = 0 → ∃ Q1, XSpec mX3_measure 5 0 0 100 100 [.ref 25, .ref r] (xSI 26 (wr (xI h 26) 101 x7 (xI h r 0)) h) Q1 xno ∧ ∀ v h2, Q1 v h2 → v = none ∧ (XW (xrm 6 0 0) mX10_nearest (xE 100 Q X 0 0) 100 0 0 h2 77 [some (.ref 0), some (.long x1), none, some (.int x3), some (.int x4), some (.long x5), none, some (.int x7), some (.int 1), none, none] [])) ∧ (¬ (if x7 < 0 then (0 : Int32) else if 101 ≤ x7 then 0 else if xI h (r + 8) x7.toNatClampNeg = 0 then 0 else 1) = 0 → XW (xrm 6 0 0) mX10_nearest (xE 100 Q X 0 0) 100 0 0 h 20 [some (.ref 0), some (.long x1), none, some (.int x3), some (.int x4), some (.long x5), none, some (.int (x7 + 1)), none, none, none] []))) :
    XW (xrm 6 0 0) mX10_nearest (xE 100 Q X 0 0) 100 0 0 h 20 [some (.ref 0), some (.long x1), none, some (.int x3), some (.int x4), some (.long x5), none, some (.int x7), none, none, none] [] := by
  obtain ⟨hb, hr, hnr, ha21, ha25, hu29, hu34, hw, hnt, hwr⟩ := hbp
  rcases hr.1 with rfl | rfl
  · refine xi_iload (by decide +kernel : decode mX10_nearest.2.1 20 = .ok (.iload 7, 2)) rfl (?_ : XW _ _ _ _ _ _ _ 22 _ _)
    refine xi_aload_n (by decide +kernel : decode mX10_nearest.2.1 22 = .ok (.aload_n 0, 1)) rfl rfl (?_ : XW _ _ _ _ _ _ _ 23 _ _)
    refine xi_getR (y := 2) (by decide +kernel : decode mX10_nearest.2.1 23 = .ok (.getfield 23, 3)) fX10_23 rfl (by omega) rfl hb.2.1 (?_ : XW _ _ _ _ _ _ _ 26 _ _)
    refine xi_getI (by decide +kernel : decode mX10_nearest.2.1 26 = .ok (.getfield 148, 3)) fX10_148 (xRul_s0 hr) (by omega) rfl (?_ : XW _ _ _ _ _ _ _ 29 _ _)
    refine xi_icmp_ge (by decide +kernel : decode mX10_nearest.2.1 29 = .ok (.if_icmp .ge 180, 3)) (by decide) (fun c => (?_ : XW _ _ _ _ _ _ _ 209 _ _)) (fun c => (?_ : XW _ _ _ _ _ _ _ 32 _ _))
    · replace vc := vc.1 c
      refine xi_iload (by decide +kernel : decode mX10_nearest.2.1 209 = .ok (.iload 4, 2)) rfl (?_ : XW _ _ _ _ _ _ _ 211 _ _)
      exact xi_iret (by decide +kernel : decode mX10_nearest.2.1 211 = .ok (.ireturn, 1)) rfl rfl vc
    · replace vc := vc.2 c
      refine xi_aload_n (by decide +kernel : decode mX10_nearest.2.1 32 = .ok (.aload_n 0, 1)) rfl rfl (?_ : XW _ _ _ _ _ _ _ 33 _ _)
      refine xi_getR (y := 2) (by decide +kernel : decode mX10_nearest.2.1 33 = .ok (.getfield 23, 3)) fX10_23 rfl (by omega) rfl hb.2.1 (?_ : XW _ _ _ _ _ _ _ 36 _ _)
      refine xi_iload (by decide +kernel : decode mX10_nearest.2.1 36 = .ok (.iload 7, 2)) rfl (?_ : XW _ _ _ _ _ _ _ 38 _ _)
      refine xi_callV (b := 0) (bs := 0) (As := [.int x7]) (st := []) (by decide +kernel : decode mX10_nearest.2.1 38 = .ok (.invokevirtual 295, 3)) kX10_295 rfl (xRul_s0 hr) (by omega) rfl (s_X5_isFoot 100 h 2 hr (by omega) x7) (by decide) (by decide) (Nat.le_of_ble_eq_true rfl) (by omega) (fun v9 h9 hq9 => ?_)
      rw [hq9.1, hq9.2]
      show XW _ _ _ _ _ _ _ 41 _ [.int (if x7 < 0 then (0 : Int32) else if 101 ≤ x7 then 0 else if xI h (10) x7.toNatClampNeg = 0 then 0 else 1)]
      refine xi_if_eq (by decide +kernel : decode mX10_nearest.2.1 41 = .ok (.ifCond .eq 6, 3)) (by decide) (fun c => (?_ : XW _ _ _ _ _ _ _ 47 _ _)) (fun c => (?_ : XW _ _ _ _ _ _ _ 44 _ _))
      · replace vc := vc.1 c
        refine xi_aload_n (by decide +kernel : decode mX10_nearest.2.1 47 = .ok (.aload_n 0, 1)) rfl rfl (?_ : XW _ _ _ _ _ _ _ 48 _ _)
        refine xi_getR (y := 25) (by decide +kernel : decode mX10_nearest.2.1 48 = .ok (.getfield 43, 3)) fX10_43 rfl (by omega) rfl hb.2.2.2.2.1 (?_ : XW _ _ _ _ _ _ _ 51 _ _)
        refine xi_iload (by decide +kernel : decode mX10_nearest.2.1 51 = .ok (.iload 7, 2)) rfl (?_ : XW _ _ _ _ _ _ _ 53 _ _)
        refine xi_aload_n (by decide +kernel : decode mX10_nearest.2.1 53 = .ok (.aload_n 0, 1)) rfl rfl (?_ : XW _ _ _ _ _ _ _ 54 _ _)
        refine xi_getR (y := 2) (by decide +kernel : decode mX10_nearest.2.1 54 = .ok (.getfield 23, 3)) fX10_23 rfl (by omega) rfl hb.2.1 (?_ : XW _ _ _ _ _ _ _ 57 _ _)
        refine xi_getI (by decide +kernel : decode mX10_nearest.2.1 57 = .ok (.getfield 148, 3)) fX10_148 (xRul_s0 hr) (by omega) rfl (?_ : XW _ _ _ _ _ _ _ 60 _ _)
        refine xi_callV (b := 0) (bs := 0) (As := [.int x7, .int (xI h 2 0)]) (st := []) (by decide +kernel : decode mX10_nearest.2.1 60 = .ok (.invokevirtual 276, 3)) kX10_276 rfl rfl (by omega) rfl (s_X3_putFoot 100 h 25 ha25 (by omega) x7 (xI h 2 0)) (by decide) (by decide) (Nat.le_of_ble_eq_true rfl) (by omega) (fun v9 h9 hq9 => ?_)
        rw [hq9.1, hq9.2]
        show XW _ _ _ _ _ _ _ 63 _ []
        refine xi_aload_n (by decide +kernel : decode mX10_nearest.2.1 63 = .ok (.aload_n 0, 1)) rfl rfl (?_ : XW _ _ _ _ _ _ _ 64 _ _)
        refine xi_getR (y := 25) (by decide +kernel : decode mX10_nearest.2.1 64 = .ok (.getfield 43, 3)) fX10_43 rfl (by omega) rfl hb.2.2.2.2.1 (?_ : XW _ _ _ _ _ _ _ 67 _ _)
        refine xi_aload_n (by decide +kernel : decode mX10_nearest.2.1 67 = .ok (.aload_n 0, 1)) rfl rfl (?_ : XW _ _ _ _ _ _ _ 68 _ _)
        refine xi_getR (y := 2) (by decide +kernel : decode mX10_nearest.2.1 68 = .ok (.getfield 23, 3)) fX10_23 rfl (by omega) rfl hb.2.1 (?_ : XW _ _ _ _ _ _ _ 71 _ _)
        obtain ⟨Q1, sp, vc⟩ := vc
        refine xi_callV (b := 0) (bs := 0) (As := [.ref 2]) (st := []) (by decide +kernel : decode mX10_nearest.2.1 71 = .ok (.invokevirtual 126, 3)) kX10_126 rfl rfl (by omega) rfl sp (by decide) (by decide) (Nat.le_of_ble_eq_true rfl) (by omega) (fun v9 h2 hq9 => ?_)
        obtain ⟨e9, vc⟩ := vc v9 h2 hq9
        subst e9
        show XW _ _ _ _ _ _ _ 74 _ []
        refine xi_iconst (v := 1) (by decide +kernel : decode mX10_nearest.2.1 74 = .ok (.iconst 1, 1)) (by decide) (?_ : XW _ _ _ _ _ _ _ 75 _ _)
        refine xi_istore (ls' := [some (.ref 0), some (.long x1), none, some (.int x3), some (.int x4), some (.long x5), none, some (.int x7), some (.int 1), none, none]) (by decide +kernel : decode mX10_nearest.2.1 75 = .ok (.istore 8, 2)) (by decide) rfl (?_ : XW _ _ _ _ _ _ _ 77 _ _)
        exact vc
      · replace vc := vc.2 c
        refine xi_goto (by decide +kernel : decode mX10_nearest.2.1 44 = .ok (.goto 159, 3)) (by decide) (?_ : XW _ _ _ _ _ _ _ 203 _ _)
        refine xi_iinc (v := x7 + 1) (ls' := [some (.ref 0), some (.long x1), none, some (.int x3), some (.int x4), some (.long x5), none, some (.int (x7 + 1)), none, none, none]) (by decide +kernel : decode mX10_nearest.2.1 203 = .ok (.iinc 7 1, 3)) rfl rfl (by decide) rfl (?_ : XW _ _ _ _ _ _ _ 206 _ _)
        refine xi_goto (by decide +kernel : decode mX10_nearest.2.1 206 = .ok (.goto (-186), 3)) (by decide) (?_ : XW _ _ _ _ _ _ _ 20 _ _)
        exact vc
  · refine xi_iload (by decide +kernel : decode mX10_nearest.2.1 20 = .ok (.iload 7, 2)) rfl (?_ : XW _ _ _ _ _ _ _ 22 _ _)
    refine xi_aload_n (by decide +kernel : decode mX10_nearest.2.1 22 = .ok (.aload_n 0, 1)) rfl rfl (?_ : XW _ _ _ _ _ _ _ 23 _ _)
    refine xi_getR (y := 12) (by decide +kernel : decode mX10_nearest.2.1 23 = .ok (.getfield 23, 3)) fX10_23 rfl (by omega) rfl hb.2.1 (?_ : XW _ _ _ _ _ _ _ 26 _ _)
    refine xi_getI (by decide +kernel : decode mX10_nearest.2.1 26 = .ok (.getfield 148, 3)) fX10_148 (xRul_s0 hr) (by omega) rfl (?_ : XW _ _ _ _ _ _ _ 29 _ _)
    refine xi_icmp_ge (by decide +kernel : decode mX10_nearest.2.1 29 = .ok (.if_icmp .ge 180, 3)) (by decide) (fun c => (?_ : XW _ _ _ _ _ _ _ 209 _ _)) (fun c => (?_ : XW _ _ _ _ _ _ _ 32 _ _))
    · replace vc := vc.1 c
      refine xi_iload (by decide +kernel : decode mX10_nearest.2.1 209 = .ok (.iload 4, 2)) rfl (?_ : XW _ _ _ _ _ _ _ 211 _ _)
      exact xi_iret (by decide +kernel : decode mX10_nearest.2.1 211 = .ok (.ireturn, 1)) rfl rfl vc
    · replace vc := vc.2 c
      refine xi_aload_n (by decide +kernel : decode mX10_nearest.2.1 32 = .ok (.aload_n 0, 1)) rfl rfl (?_ : XW _ _ _ _ _ _ _ 33 _ _)
      refine xi_getR (y := 12) (by decide +kernel : decode mX10_nearest.2.1 33 = .ok (.getfield 23, 3)) fX10_23 rfl (by omega) rfl hb.2.1 (?_ : XW _ _ _ _ _ _ _ 36 _ _)
      refine xi_iload (by decide +kernel : decode mX10_nearest.2.1 36 = .ok (.iload 7, 2)) rfl (?_ : XW _ _ _ _ _ _ _ 38 _ _)
      refine xi_callV (b := 0) (bs := 0) (As := [.int x7]) (st := []) (by decide +kernel : decode mX10_nearest.2.1 38 = .ok (.invokevirtual 295, 3)) kX10_295 rfl (xRul_s0 hr) (by omega) rfl (s_X5_isFoot 100 h 12 hr (by omega) x7) (by decide) (by decide) (Nat.le_of_ble_eq_true rfl) (by omega) (fun v9 h9 hq9 => ?_)
      rw [hq9.1, hq9.2]
      show XW _ _ _ _ _ _ _ 41 _ [.int (if x7 < 0 then (0 : Int32) else if 101 ≤ x7 then 0 else if xI h (20) x7.toNatClampNeg = 0 then 0 else 1)]
      refine xi_if_eq (by decide +kernel : decode mX10_nearest.2.1 41 = .ok (.ifCond .eq 6, 3)) (by decide) (fun c => (?_ : XW _ _ _ _ _ _ _ 47 _ _)) (fun c => (?_ : XW _ _ _ _ _ _ _ 44 _ _))
      · replace vc := vc.1 c
        refine xi_aload_n (by decide +kernel : decode mX10_nearest.2.1 47 = .ok (.aload_n 0, 1)) rfl rfl (?_ : XW _ _ _ _ _ _ _ 48 _ _)
        refine xi_getR (y := 25) (by decide +kernel : decode mX10_nearest.2.1 48 = .ok (.getfield 43, 3)) fX10_43 rfl (by omega) rfl hb.2.2.2.2.1 (?_ : XW _ _ _ _ _ _ _ 51 _ _)
        refine xi_iload (by decide +kernel : decode mX10_nearest.2.1 51 = .ok (.iload 7, 2)) rfl (?_ : XW _ _ _ _ _ _ _ 53 _ _)
        refine xi_aload_n (by decide +kernel : decode mX10_nearest.2.1 53 = .ok (.aload_n 0, 1)) rfl rfl (?_ : XW _ _ _ _ _ _ _ 54 _ _)
        refine xi_getR (y := 12) (by decide +kernel : decode mX10_nearest.2.1 54 = .ok (.getfield 23, 3)) fX10_23 rfl (by omega) rfl hb.2.1 (?_ : XW _ _ _ _ _ _ _ 57 _ _)
        refine xi_getI (by decide +kernel : decode mX10_nearest.2.1 57 = .ok (.getfield 148, 3)) fX10_148 (xRul_s0 hr) (by omega) rfl (?_ : XW _ _ _ _ _ _ _ 60 _ _)
        refine xi_callV (b := 0) (bs := 0) (As := [.int x7, .int (xI h 12 0)]) (st := []) (by decide +kernel : decode mX10_nearest.2.1 60 = .ok (.invokevirtual 276, 3)) kX10_276 rfl rfl (by omega) rfl (s_X3_putFoot 100 h 25 ha25 (by omega) x7 (xI h 12 0)) (by decide) (by decide) (Nat.le_of_ble_eq_true rfl) (by omega) (fun v9 h9 hq9 => ?_)
        rw [hq9.1, hq9.2]
        show XW _ _ _ _ _ _ _ 63 _ []
        refine xi_aload_n (by decide +kernel : decode mX10_nearest.2.1 63 = .ok (.aload_n 0, 1)) rfl rfl (?_ : XW _ _ _ _ _ _ _ 64 _ _)
        refine xi_getR (y := 25) (by decide +kernel : decode mX10_nearest.2.1 64 = .ok (.getfield 43, 3)) fX10_43 rfl (by omega) rfl hb.2.2.2.2.1 (?_ : XW _ _ _ _ _ _ _ 67 _ _)
        refine xi_aload_n (by decide +kernel : decode mX10_nearest.2.1 67 = .ok (.aload_n 0, 1)) rfl rfl (?_ : XW _ _ _ _ _ _ _ 68 _ _)
        refine xi_getR (y := 12) (by decide +kernel : decode mX10_nearest.2.1 68 = .ok (.getfield 23, 3)) fX10_23 rfl (by omega) rfl hb.2.1 (?_ : XW _ _ _ _ _ _ _ 71 _ _)
        obtain ⟨Q1, sp, vc⟩ := vc
        refine xi_callV (b := 0) (bs := 0) (As := [.ref 12]) (st := []) (by decide +kernel : decode mX10_nearest.2.1 71 = .ok (.invokevirtual 126, 3)) kX10_126 rfl rfl (by omega) rfl sp (by decide) (by decide) (Nat.le_of_ble_eq_true rfl) (by omega) (fun v9 h2 hq9 => ?_)
        obtain ⟨e9, vc⟩ := vc v9 h2 hq9
        subst e9
        show XW _ _ _ _ _ _ _ 74 _ []
        refine xi_iconst (v := 1) (by decide +kernel : decode mX10_nearest.2.1 74 = .ok (.iconst 1, 1)) (by decide) (?_ : XW _ _ _ _ _ _ _ 75 _ _)
        refine xi_istore (ls' := [some (.ref 0), some (.long x1), none, some (.int x3), some (.int x4), some (.long x5), none, some (.int x7), some (.int 1), none, none]) (by decide +kernel : decode mX10_nearest.2.1 75 = .ok (.istore 8, 2)) (by decide) rfl (?_ : XW _ _ _ _ _ _ _ 77 _ _)
        exact vc
      · replace vc := vc.2 c
        refine xi_goto (by decide +kernel : decode mX10_nearest.2.1 44 = .ok (.goto 159, 3)) (by decide) (?_ : XW _ _ _ _ _ _ _ 203 _ _)
        refine xi_iinc (v := x7 + 1) (ls' := [some (.ref 0), some (.long x1), none, some (.int x3), some (.int x4), some (.long x5), none, some (.int (x7 + 1)), none, none, none]) (by decide +kernel : decode mX10_nearest.2.1 203 = .ok (.iinc 7 1, 3)) rfl rfl (by decide) rfl (?_ : XW _ _ _ _ _ _ _ 206 _ _)
        refine xi_goto (by decide +kernel : decode mX10_nearest.2.1 206 = .ok (.goto (-186), 3)) (by decide) (?_ : XW _ _ _ _ _ _ _ 20 _ _)
        exact vc

set_option maxRecDepth 20000 in
theorem v_X10_nearest_77 {h : XH} {Q : Option Value → XH → Prop} {X : String → XH → Prop} (r : Nat) (hbp : BP r h)  (x1 : Int64) (x3 : Int32) (x4 : Int32) (x5 : Int64) (x7 : Int32) (x8 : Int32)
    (vc : ((xI h r 0) < x8 → XW (xrm 6 0 0) mX10_nearest (xE 100 Q X 0 0) 100 0 0 (xSI 26 (wr (xI h 26) 101 x7 0) h) 20 [some (.ref 0), some (.long x1), none, some (.int x3), some (.int x4), some (.long x5), none, some (.int (x7 + 1)), none, none, none] []) ∧ (¬ (xI h r 0) < x8 → (¬ x8 = x7 → ∃ Q1, XSpec mX3_lay 3 0 0 100 100 [.ref 25, .ref r, .int (xI h r 3)] (xSI 26 (wr (xI h 26) 101 x7 x8) h) Q1 xno ∧ ∀ v h3, Q1 v h3 → v = none ∧ ((xP h3 0 11 = some 43) ∧ ((xP h3 0 3 = some r) ∧ ((xP h3 0 6 = some 25) ∧ (∃ Q1, XSpec mX6_sumOut 4 0 0 100 100 [.ref 43, .ref r, .ref 25, .int 0, .int x3] h3 Q1 xno ∧ ∀ v h4, Q1 v h4 → ∃ r4 : Int64, v = some (.long r4) ∧ ((x4 = (-1) → (xP h4 0 3 = some r) ∧ (XW (xrm 6 0 0) mX10_nearest (xE 100 Q X 0 0) 100 0 0 h4 77 [some (.ref 0), some (.long x1), none, some (.int x3), some (.int ((((xI h4 r 0) + 1) * x7) + x8)), some (.long (if 0 < (r4 - x1) then (r4 - x1) else -(r4 - x1))), none, some (.int x7), some (.int (x8 + 1)), none, none] [])) ∧ (¬ x4 = (-1) → (0 ≤ (lg_cmp (if 0 < (r4 - x1) then (r4 - x1) else -(r4 - x1)) x5) → XW (xrm 6 0 0) mX10_nearest (xE 100 Q X 0 0) 100 0 0 h4 77 [some (.ref 0), some (.long x1), none, some (.int x3), some (.int x4), some (.long x5), none, some (.int x7), some (.int (x8 + 1)), none, none] []) ∧ (¬ 0 ≤ (lg_cmp (if 0 < (r4 - x1) then (r4 - x1) else -(r4 - x1)) x5) → (xP h4 0 3 = some r) ∧ (XW (xrm 6 0 0) mX10_nearest (xE 100 Q X 0 0) 100 0 0 h4 77 [some (.ref 0), some (.long x1), none, some (.int x3), some (.int ((((xI h4 r 0) + 1) * x7) + x8)), some (.long (if 0 < (r4 - x1) then (r4 - x1) else -(r4 - x1))), none, some (.int x7), some (.int (x8 + 1)), none, none] []))))))))) ∧ (x8 = x7 → XW (xrm 6 0 0) mX10_nearest (xE 100 Q X 0 0) 100 0 0 h 77 [some (.ref 0), some (.long x1), none, some (.int x3), some (.int x4), some (.long x5), none, some (.int x7), some (.int (x8 + 1)), none, none] []))) :
    XW (xrm 6 0 0) mX10_nearest (xE 100 Q X 0 0) 100 0 0 h 77 [some (.ref 0), some (.long x1), none, some (.int x3), some (.int x4), some (.long x5), none, some (.int x7), some (.int x8), none, none] [] := by
  obtain ⟨hb, hr, hnr, ha21, ha25, hu29, hu34, hw, hnt, hwr⟩ := hbp
  rcases hr.1 with rfl | rfl
  · refine xi_iload (by decide +kernel : decode mX10_nearest.2.1 77 = .ok (.iload 8, 2)) rfl (?_ : XW _ _ _ _ _ _ _ 79 _ _)
    refine xi_aload_n (by decide +kernel : decode mX10_nearest.2.1 79 = .ok (.aload_n 0, 1)) rfl rfl (?_ : XW _ _ _ _ _ _ _ 80 _ _)
    refine xi_getR (y := 2) (by decide +kernel : decode mX10_nearest.2.1 80 = .ok (.getfield 23, 3)) fX10_23 rfl (by omega) rfl hb.2.1 (?_ : XW _ _ _ _ _ _ _ 83 _ _)
    refine xi_getI (by decide +kernel : decode mX10_nearest.2.1 83 = .ok (.getfield 148, 3)) fX10_148 (xRul_s0 hr) (by omega) rfl (?_ : XW _ _ _ _ _ _ _ 86 _ _)
    refine xi_icmp_gt (by decide +kernel : decode mX10_nearest.2.1 86 = .ok (.if_icmp .gt 107, 3)) (by decide) (fun c => (?_ : XW _ _ _ _ _ _ _ 193 _ _)) (fun c => (?_ : XW _ _ _ _ _ _ _ 89 _ _))
    · replace vc := vc.1 c
      refine xi_aload_n (by decide +kernel : decode mX10_nearest.2.1 193 = .ok (.aload_n 0, 1)) rfl rfl (?_ : XW _ _ _ _ _ _ _ 194 _ _)
      refine xi_getR (y := 25) (by decide +kernel : decode mX10_nearest.2.1 194 = .ok (.getfield 43, 3)) fX10_43 rfl (by omega) rfl hb.2.2.2.2.1 (?_ : XW _ _ _ _ _ _ _ 197 _ _)
      refine xi_iload (by decide +kernel : decode mX10_nearest.2.1 197 = .ok (.iload 7, 2)) rfl (?_ : XW _ _ _ _ _ _ _ 199 _ _)
      refine xi_iconst (v := 0) (by decide +kernel : decode mX10_nearest.2.1 199 = .ok (.iconst 0, 1)) (by decide) (?_ : XW _ _ _ _ _ _ _ 200 _ _)
      refine xi_callV (b := 0) (bs := 0) (As := [.int x7, .int 0]) (st := []) (by decide +kernel : decode mX10_nearest.2.1 200 = .ok (.invokevirtual 276, 3)) kX10_276 rfl rfl (by omega) rfl (s_X3_putFoot 100 h 25 ha25 (by omega) x7 0) (by decide) (by decide) (Nat.le_of_ble_eq_true rfl) (by omega) (fun v9 h9 hq9 => ?_)
      rw [hq9.1, hq9.2]
      show XW _ _ _ _ _ _ _ 203 _ []
      refine xi_iinc (v := x7 + 1) (ls' := [some (.ref 0), some (.long x1), none, some (.int x3), some (.int x4), some (.long x5), none, some (.int (x7 + 1)), some (.int x8), none, none]) (by decide +kernel : decode mX10_nearest.2.1 203 = .ok (.iinc 7 1, 3)) rfl rfl (by decide) rfl (?_ : XW _ _ _ _ _ _ _ 206 _ _)
      refine xi_goto (by decide +kernel : decode mX10_nearest.2.1 206 = .ok (.goto (-186), 3)) (by decide) (?_ : XW _ _ _ _ _ _ _ 20 _ _)
      refine xw_drop 8 (ls' := [some (.ref 0), some (.long x1), none, some (.int x3), some (.int x4), some (.long x5), none, some (.int (x7 + 1)), none, none, none]) rfl ?_
      exact vc
    · replace vc := vc.2 c
      refine xi_iload (by decide +kernel : decode mX10_nearest.2.1 89 = .ok (.iload 8, 2)) rfl (?_ : XW _ _ _ _ _ _ _ 91 _ _)
      refine xi_iload (by decide +kernel : decode mX10_nearest.2.1 91 = .ok (.iload 7, 2)) rfl (?_ : XW _ _ _ _ _ _ _ 93 _ _)
      refine xi_icmp_ne (by decide +kernel : decode mX10_nearest.2.1 93 = .ok (.if_icmp .ne 6, 3)) (by decide) (fun c => (?_ : XW _ _ _ _ _ _ _ 99 _ _)) (fun c => (?_ : XW _ _ _ _ _ _ _ 96 _ _))
      · replace vc := vc.1 c
        refine xi_aload_n (by decide +kernel : decode mX10_nearest.2.1 99 = .ok (.aload_n 0, 1)) rfl rfl (?_ : XW _ _ _ _ _ _ _ 100 _ _)
        refine xi_getR (y := 25) (by decide +kernel : decode mX10_nearest.2.1 100 = .ok (.getfield 43, 3)) fX10_43 rfl (by omega) rfl hb.2.2.2.2.1 (?_ : XW _ _ _ _ _ _ _ 103 _ _)
        refine xi_iload (by decide +kernel : decode mX10_nearest.2.1 103 = .ok (.iload 7, 2)) rfl (?_ : XW _ _ _ _ _ _ _ 105 _ _)
        refine xi_iload (by decide +kernel : decode mX10_nearest.2.1 105 = .ok (.iload 8, 2)) rfl (?_ : XW _ _ _ _ _ _ _ 107 _ _)
        refine xi_callV (b := 0) (bs := 0) (As := [.int x7, .int x8]) (st := []) (by decide +kernel : decode mX10_nearest.2.1 107 = .ok (.invokevirtual 276, 3)) kX10_276 rfl rfl (by omega) rfl (s_X3_putFoot 100 h 25 ha25 (by omega) x7 x8) (by decide) (by decide) (Nat.le_of_ble_eq_true rfl) (by omega) (fun v9 h9 hq9 => ?_)
        rw [hq9.1, hq9.2]
        show XW _ _ _ _ _ _ _ 110 _ []
        refine xi_aload_n (by decide +kernel : decode mX10_nearest.2.1 110 = .ok (.aload_n 0, 1)) rfl rfl (?_ : XW _ _ _ _ _ _ _ 111 _ _)
        refine xi_getR (y := 25) (by decide +kernel : decode mX10_nearest.2.1 111 = .ok (.getfield 43, 3)) fX10_43 rfl (by omega) rfl hb.2.2.2.2.1 (?_ : XW _ _ _ _ _ _ _ 114 _ _)
        refine xi_aload_n (by decide +kernel : decode mX10_nearest.2.1 114 = .ok (.aload_n 0, 1)) rfl rfl (?_ : XW _ _ _ _ _ _ _ 115 _ _)
        refine xi_getR (y := 2) (by decide +kernel : decode mX10_nearest.2.1 115 = .ok (.getfield 23, 3)) fX10_23 rfl (by omega) rfl hb.2.1 (?_ : XW _ _ _ _ _ _ _ 118 _ _)
        refine xi_aload_n (by decide +kernel : decode mX10_nearest.2.1 118 = .ok (.aload_n 0, 1)) rfl rfl (?_ : XW _ _ _ _ _ _ _ 119 _ _)
        refine xi_getR (y := 2) (by decide +kernel : decode mX10_nearest.2.1 119 = .ok (.getfield 23, 3)) fX10_23 rfl (by omega) rfl hb.2.1 (?_ : XW _ _ _ _ _ _ _ 122 _ _)
        refine xi_getI (by decide +kernel : decode mX10_nearest.2.1 122 = .ok (.getfield 129, 3)) fX10_129 (xRul_s0 hr) (by omega) rfl (?_ : XW _ _ _ _ _ _ _ 125 _ [.int (xI h 2 3), .ref 2, .ref 25])
        obtain ⟨Q1, sp, vc⟩ := vc
        refine xi_callV (b := 0) (bs := 0) (As := [.ref 2, .int (xI h 2 3)]) (st := []) (by decide +kernel : decode mX10_nearest.2.1 125 = .ok (.invokevirtual 132, 3)) kX10_132 rfl rfl (by omega) rfl sp (by decide) (by decide) (Nat.le_of_ble_eq_true rfl) (by omega) (fun v9 h3 hq9 => ?_)
        obtain ⟨e9, vc⟩ := vc v9 h3 hq9
        subst e9
        show XW _ _ _ _ _ _ _ 128 _ []
        refine xi_aload_n (by decide +kernel : decode mX10_nearest.2.1 128 = .ok (.aload_n 0, 1)) rfl rfl (?_ : XW _ _ _ _ _ _ _ 129 _ _)
        obtain ⟨s1, vc⟩ := vc
        refine xi_getR (y := 43) (by decide +kernel : decode mX10_nearest.2.1 129 = .ok (.getfield 70, 3)) fX10_70 rfl (by omega) rfl s1 (?_ : XW _ _ _ _ _ _ _ 132 _ _)
        refine xi_aload_n (by decide +kernel : decode mX10_nearest.2.1 132 = .ok (.aload_n 0, 1)) rfl rfl (?_ : XW _ _ _ _ _ _ _ 133 _ _)
        obtain ⟨s1, vc⟩ := vc
        refine xi_getR (y := 2) (by decide +kernel : decode mX10_nearest.2.1 133 = .ok (.getfield 23, 3)) fX10_23 rfl (by omega) rfl s1 (?_ : XW _ _ _ _ _ _ _ 136 _ _)
        refine xi_aload_n (by decide +kernel : decode mX10_nearest.2.1 136 = .ok (.aload_n 0, 1)) rfl rfl (?_ : XW _ _ _ _ _ _ _ 137 _ _)
        obtain ⟨s1, vc⟩ := vc
        refine xi_getR (y := 25) (by decide +kernel : decode mX10_nearest.2.1 137 = .ok (.getfield 43, 3)) fX10_43 rfl (by omega) rfl s1 (?_ : XW _ _ _ _ _ _ _ 140 _ _)
        refine xi_iconst (v := 0) (by decide +kernel : decode mX10_nearest.2.1 140 = .ok (.iconst 0, 1)) (by decide) (?_ : XW _ _ _ _ _ _ _ 141 _ _)
        refine xi_iload_n (by decide +kernel : decode mX10_nearest.2.1 141 = .ok (.iload_n 3, 1)) rfl rfl (?_ : XW _ _ _ _ _ _ _ 142 _ _)
        obtain ⟨Q1, sp, vc⟩ := vc
        refine xi_callV (b := 0) (bs := 0) (As := [.ref 2, .ref 25, .int 0, .int x3]) (st := []) (by decide +kernel : decode mX10_nearest.2.1 142 = .ok (.invokevirtual 250, 3)) kX10_250 rfl rfl (by omega) rfl sp (by decide) (by decide) (Nat.le_of_ble_eq_true rfl) (by omega) (fun v9 h4 hq9 => ?_)
        obtain ⟨r4, e9, vc⟩ := vc v9 h4 hq9
        subst e9
        show XW _ _ _ _ _ _ _ 145 _ [.long r4]
        refine xi_lload_n (by decide +kernel : decode mX10_nearest.2.1 145 = .ok (.lload_n 1, 1)) rfl rfl (?_ : XW _ _ _ _ _ _ _ 146 _ _)
        refine xi_lsub (by decide +kernel : decode mX10_nearest.2.1 146 = .ok (.lsub, 1)) (?_ : XW _ _ _ _ _ _ _ 147 _ _)
        refine xi_mabsl (by decide +kernel : decode mX10_nearest.2.1 147 = .ok (.invokestatic 281, 3)) kX10_281.2.1 (by decide) (Nat.le_of_ble_eq_true rfl) (?_ : XW _ _ _ _ _ _ _ 150 _ _)
        refine xi_lstore (ls' := [some (.ref 0), some (.long x1), none, some (.int x3), some (.int x4), some (.long x5), none, some (.int x7), some (.int x8), some (.long (if 0 < (r4 - x1) then (r4 - x1) else -(r4 - x1))), none]) (by decide +kernel : decode mX10_nearest.2.1 150 = .ok (.lstore 9, 2)) (by decide) rfl (?_ : XW _ _ _ _ _ _ _ 152 _ _)
        refine xi_iload (by decide +kernel : decode mX10_nearest.2.1 152 = .ok (.iload 4, 2)) rfl (?_ : XW _ _ _ _ _ _ _ 154 _ _)
        refine xi_iconst (v := (-1)) (by decide +kernel : decode mX10_nearest.2.1 154 = .ok (.iconst (-1), 1)) (by decide) (?_ : XW _ _ _ _ _ _ _ 155 _ _)
        refine xi_icmp_eq (by decide +kernel : decode mX10_nearest.2.1 155 = .ok (.if_icmp .eq 11, 3)) (by decide) (fun c => (?_ : XW _ _ _ _ _ _ _ 166 _ _)) (fun c => (?_ : XW _ _ _ _ _ _ _ 158 _ _))
        · replace vc := vc.1 c
          refine xi_lload (by decide +kernel : decode mX10_nearest.2.1 166 = .ok (.lload 9, 2)) rfl (?_ : XW _ _ _ _ _ _ _ 168 _ _)
          refine xi_lstore (ls' := [some (.ref 0), some (.long x1), none, some (.int x3), some (.int x4), some (.long (if 0 < (r4 - x1) then (r4 - x1) else -(r4 - x1))), none, some (.int x7), some (.int x8), some (.long (if 0 < (r4 - x1) then (r4 - x1) else -(r4 - x1))), none]) (by decide +kernel : decode mX10_nearest.2.1 168 = .ok (.lstore 5, 2)) (by decide) rfl (?_ : XW _ _ _ _ _ _ _ 170 _ _)
          refine xi_aload_n (by decide +kernel : decode mX10_nearest.2.1 170 = .ok (.aload_n 0, 1)) rfl rfl (?_ : XW _ _ _ _ _ _ _ 171 _ _)
          obtain ⟨s1, vc⟩ := vc
          refine xi_getR (y := 2) (by decide +kernel : decode mX10_nearest.2.1 171 = .ok (.getfield 23, 3)) fX10_23 rfl (by omega) rfl s1 (?_ : XW _ _ _ _ _ _ _ 174 _ _)
          refine xi_getI (by decide +kernel : decode mX10_nearest.2.1 174 = .ok (.getfield 148, 3)) fX10_148 (xRul_s0 hr) (by omega) rfl (?_ : XW _ _ _ _ _ _ _ 177 _ _)
          refine xi_iconst (v := 1) (by decide +kernel : decode mX10_nearest.2.1 177 = .ok (.iconst 1, 1)) (by decide) (?_ : XW _ _ _ _ _ _ _ 178 _ _)
          refine xi_iadd (by decide +kernel : decode mX10_nearest.2.1 178 = .ok (.iadd, 1)) (?_ : XW _ _ _ _ _ _ _ 179 _ _)
          refine xi_iload (by decide +kernel : decode mX10_nearest.2.1 179 = .ok (.iload 7, 2)) rfl (?_ : XW _ _ _ _ _ _ _ 181 _ _)
          refine xi_imul (by decide +kernel : decode mX10_nearest.2.1 181 = .ok (.imul, 1)) (?_ : XW _ _ _ _ _ _ _ 182 _ _)
          refine xi_iload (by decide +kernel : decode mX10_nearest.2.1 182 = .ok (.iload 8, 2)) rfl (?_ : XW _ _ _ _ _ _ _ 184 _ _)
          refine xi_iadd (by decide +kernel : decode mX10_nearest.2.1 184 = .ok (.iadd, 1)) (?_ : XW _ _ _ _ _ _ _ 185 _ _)
          refine xi_istore (ls' := [some (.ref 0), some (.long x1), none, some (.int x3), some (.int ((((xI h4 2 0) + 1) * x7) + x8)), some (.long (if 0 < (r4 - x1) then (r4 - x1) else -(r4 - x1))), none, some (.int x7), some (.int x8), some (.long (if 0 < (r4 - x1) then (r4 - x1) else -(r4 - x1))), none]) (by decide +kernel : decode mX10_nearest.2.1 185 = .ok (.istore 4, 2)) (by decide) rfl (?_ : XW _ _ _ _ _ _ _ 187 _ _)
          refine xi_iinc (v := x8 + 1) (ls' := [some (.ref 0), some (.long x1), none, some (.int x3), some (.int ((((xI h4 2 0) + 1) * x7) + x8)), some (.long (if 0 < (r4 - x1) then (r4 - x1) else -(r4 - x1))), none, some (.int x7), some (.int (x8 + 1)), some (.long (if 0 < (r4 - x1) then (r4 - x1) else -(r4 - x1))), none]) (by decide +kernel : decode mX10_nearest.2.1 187 = .ok (.iinc 8 1, 3)) rfl rfl (by decide) rfl (?_ : XW _ _ _ _ _ _ _ 190 _ _)
          refine xi_goto (by decide +kernel : decode mX10_nearest.2.1 190 = .ok (.goto (-113), 3)) (by decide) (?_ : XW _ _ _ _ _ _ _ 77 _ _)
          refine xw_drop 9 (ls' := [some (.ref 0), some (.long x1), none, some (.int x3), some (.int ((((xI h4 2 0) + 1) * x7) + x8)), some (.long (if 0 < (r4 - x1) then (r4 - x1) else -(r4 - x1))), none, some (.int x7), some (.int (x8 + 1)), none, none]) rfl ?_
          exact vc
        · replace vc := vc.2 c
          refine xi_lload (by decide +kernel : decode mX10_nearest.2.1 158 = .ok (.lload 9, 2)) rfl (?_ : XW _ _ _ _ _ _ _ 160 _ _)
          refine xi_lload (by decide +kernel : decode mX10_nearest.2.1 160 = .ok (.lload 5, 2)) rfl (?_ : XW _ _ _ _ _ _ _ 162 _ _)
          refine xi_lcmp (by decide +kernel : decode mX10_nearest.2.1 162 = .ok (.lcmp, 1)) (?_ : XW _ _ _ _ _ _ _ 163 _ _)
          refine xi_if_ge (by decide +kernel : decode mX10_nearest.2.1 163 = .ok (.ifCond .ge 24, 3)) (by decide) (fun c => (?_ : XW _ _ _ _ _ _ _ 187 _ _)) (fun c => (?_ : XW _ _ _ _ _ _ _ 166 _ _))
          · replace vc := vc.1 c
            refine xi_iinc (v := x8 + 1) (ls' := [some (.ref 0), some (.long x1), none, some (.int x3), some (.int x4), some (.long x5), none, some (.int x7), some (.int (x8 + 1)), some (.long (if 0 < (r4 - x1) then (r4 - x1) else -(r4 - x1))), none]) (by decide +kernel : decode mX10_nearest.2.1 187 = .ok (.iinc 8 1, 3)) rfl rfl (by decide) rfl (?_ : XW _ _ _ _ _ _ _ 190 _ _)
            refine xi_goto (by decide +kernel : decode mX10_nearest.2.1 190 = .ok (.goto (-113), 3)) (by decide) (?_ : XW _ _ _ _ _ _ _ 77 _ _)
            refine xw_drop 9 (ls' := [some (.ref 0), some (.long x1), none, some (.int x3), some (.int x4), some (.long x5), none, some (.int x7), some (.int (x8 + 1)), none, none]) rfl ?_
            exact vc
          · replace vc := vc.2 c
            refine xi_lload (by decide +kernel : decode mX10_nearest.2.1 166 = .ok (.lload 9, 2)) rfl (?_ : XW _ _ _ _ _ _ _ 168 _ _)
            refine xi_lstore (ls' := [some (.ref 0), some (.long x1), none, some (.int x3), some (.int x4), some (.long (if 0 < (r4 - x1) then (r4 - x1) else -(r4 - x1))), none, some (.int x7), some (.int x8), some (.long (if 0 < (r4 - x1) then (r4 - x1) else -(r4 - x1))), none]) (by decide +kernel : decode mX10_nearest.2.1 168 = .ok (.lstore 5, 2)) (by decide) rfl (?_ : XW _ _ _ _ _ _ _ 170 _ _)
            refine xi_aload_n (by decide +kernel : decode mX10_nearest.2.1 170 = .ok (.aload_n 0, 1)) rfl rfl (?_ : XW _ _ _ _ _ _ _ 171 _ _)
            obtain ⟨s1, vc⟩ := vc
            refine xi_getR (y := 2) (by decide +kernel : decode mX10_nearest.2.1 171 = .ok (.getfield 23, 3)) fX10_23 rfl (by omega) rfl s1 (?_ : XW _ _ _ _ _ _ _ 174 _ _)
            refine xi_getI (by decide +kernel : decode mX10_nearest.2.1 174 = .ok (.getfield 148, 3)) fX10_148 (xRul_s0 hr) (by omega) rfl (?_ : XW _ _ _ _ _ _ _ 177 _ _)
            refine xi_iconst (v := 1) (by decide +kernel : decode mX10_nearest.2.1 177 = .ok (.iconst 1, 1)) (by decide) (?_ : XW _ _ _ _ _ _ _ 178 _ _)
            refine xi_iadd (by decide +kernel : decode mX10_nearest.2.1 178 = .ok (.iadd, 1)) (?_ : XW _ _ _ _ _ _ _ 179 _ _)
            refine xi_iload (by decide +kernel : decode mX10_nearest.2.1 179 = .ok (.iload 7, 2)) rfl (?_ : XW _ _ _ _ _ _ _ 181 _ _)
            refine xi_imul (by decide +kernel : decode mX10_nearest.2.1 181 = .ok (.imul, 1)) (?_ : XW _ _ _ _ _ _ _ 182 _ _)
            refine xi_iload (by decide +kernel : decode mX10_nearest.2.1 182 = .ok (.iload 8, 2)) rfl (?_ : XW _ _ _ _ _ _ _ 184 _ _)
            refine xi_iadd (by decide +kernel : decode mX10_nearest.2.1 184 = .ok (.iadd, 1)) (?_ : XW _ _ _ _ _ _ _ 185 _ _)
            refine xi_istore (ls' := [some (.ref 0), some (.long x1), none, some (.int x3), some (.int ((((xI h4 2 0) + 1) * x7) + x8)), some (.long (if 0 < (r4 - x1) then (r4 - x1) else -(r4 - x1))), none, some (.int x7), some (.int x8), some (.long (if 0 < (r4 - x1) then (r4 - x1) else -(r4 - x1))), none]) (by decide +kernel : decode mX10_nearest.2.1 185 = .ok (.istore 4, 2)) (by decide) rfl (?_ : XW _ _ _ _ _ _ _ 187 _ _)
            refine xi_iinc (v := x8 + 1) (ls' := [some (.ref 0), some (.long x1), none, some (.int x3), some (.int ((((xI h4 2 0) + 1) * x7) + x8)), some (.long (if 0 < (r4 - x1) then (r4 - x1) else -(r4 - x1))), none, some (.int x7), some (.int (x8 + 1)), some (.long (if 0 < (r4 - x1) then (r4 - x1) else -(r4 - x1))), none]) (by decide +kernel : decode mX10_nearest.2.1 187 = .ok (.iinc 8 1, 3)) rfl rfl (by decide) rfl (?_ : XW _ _ _ _ _ _ _ 190 _ _)
            refine xi_goto (by decide +kernel : decode mX10_nearest.2.1 190 = .ok (.goto (-113), 3)) (by decide) (?_ : XW _ _ _ _ _ _ _ 77 _ _)
            refine xw_drop 9 (ls' := [some (.ref 0), some (.long x1), none, some (.int x3), some (.int ((((xI h4 2 0) + 1) * x7) + x8)), some (.long (if 0 < (r4 - x1) then (r4 - x1) else -(r4 - x1))), none, some (.int x7), some (.int (x8 + 1)), none, none]) rfl ?_
            exact vc
      · replace vc := vc.2 c
        refine xi_goto (by decide +kernel : decode mX10_nearest.2.1 96 = .ok (.goto 91, 3)) (by decide) (?_ : XW _ _ _ _ _ _ _ 187 _ _)
        refine xi_iinc (v := x8 + 1) (ls' := [some (.ref 0), some (.long x1), none, some (.int x3), some (.int x4), some (.long x5), none, some (.int x7), some (.int (x8 + 1)), none, none]) (by decide +kernel : decode mX10_nearest.2.1 187 = .ok (.iinc 8 1, 3)) rfl rfl (by decide) rfl (?_ : XW _ _ _ _ _ _ _ 190 _ _)
        refine xi_goto (by decide +kernel : decode mX10_nearest.2.1 190 = .ok (.goto (-113), 3)) (by decide) (?_ : XW _ _ _ _ _ _ _ 77 _ _)
        exact vc
  · refine xi_iload (by decide +kernel : decode mX10_nearest.2.1 77 = .ok (.iload 8, 2)) rfl (?_ : XW _ _ _ _ _ _ _ 79 _ _)
    refine xi_aload_n (by decide +kernel : decode mX10_nearest.2.1 79 = .ok (.aload_n 0, 1)) rfl rfl (?_ : XW _ _ _ _ _ _ _ 80 _ _)
    refine xi_getR (y := 12) (by decide +kernel : decode mX10_nearest.2.1 80 = .ok (.getfield 23, 3)) fX10_23 rfl (by omega) rfl hb.2.1 (?_ : XW _ _ _ _ _ _ _ 83 _ _)
    refine xi_getI (by decide +kernel : decode mX10_nearest.2.1 83 = .ok (.getfield 148, 3)) fX10_148 (xRul_s0 hr) (by omega) rfl (?_ : XW _ _ _ _ _ _ _ 86 _ _)
    refine xi_icmp_gt (by decide +kernel : decode mX10_nearest.2.1 86 = .ok (.if_icmp .gt 107, 3)) (by decide) (fun c => (?_ : XW _ _ _ _ _ _ _ 193 _ _)) (fun c => (?_ : XW _ _ _ _ _ _ _ 89 _ _))
    · replace vc := vc.1 c
      refine xi_aload_n (by decide +kernel : decode mX10_nearest.2.1 193 = .ok (.aload_n 0, 1)) rfl rfl (?_ : XW _ _ _ _ _ _ _ 194 _ _)
      refine xi_getR (y := 25) (by decide +kernel : decode mX10_nearest.2.1 194 = .ok (.getfield 43, 3)) fX10_43 rfl (by omega) rfl hb.2.2.2.2.1 (?_ : XW _ _ _ _ _ _ _ 197 _ _)
      refine xi_iload (by decide +kernel : decode mX10_nearest.2.1 197 = .ok (.iload 7, 2)) rfl (?_ : XW _ _ _ _ _ _ _ 199 _ _)
      refine xi_iconst (v := 0) (by decide +kernel : decode mX10_nearest.2.1 199 = .ok (.iconst 0, 1)) (by decide) (?_ : XW _ _ _ _ _ _ _ 200 _ _)
      refine xi_callV (b := 0) (bs := 0) (As := [.int x7, .int 0]) (st := []) (by decide +kernel : decode mX10_nearest.2.1 200 = .ok (.invokevirtual 276, 3)) kX10_276 rfl rfl (by omega) rfl (s_X3_putFoot 100 h 25 ha25 (by omega) x7 0) (by decide) (by decide) (Nat.le_of_ble_eq_true rfl) (by omega) (fun v9 h9 hq9 => ?_)
      rw [hq9.1, hq9.2]
      show XW _ _ _ _ _ _ _ 203 _ []
      refine xi_iinc (v := x7 + 1) (ls' := [some (.ref 0), some (.long x1), none, some (.int x3), some (.int x4), some (.long x5), none, some (.int (x7 + 1)), some (.int x8), none, none]) (by decide +kernel : decode mX10_nearest.2.1 203 = .ok (.iinc 7 1, 3)) rfl rfl (by decide) rfl (?_ : XW _ _ _ _ _ _ _ 206 _ _)
      refine xi_goto (by decide +kernel : decode mX10_nearest.2.1 206 = .ok (.goto (-186), 3)) (by decide) (?_ : XW _ _ _ _ _ _ _ 20 _ _)
      refine xw_drop 8 (ls' := [some (.ref 0), some (.long x1), none, some (.int x3), some (.int x4), some (.long x5), none, some (.int (x7 + 1)), none, none, none]) rfl ?_
      exact vc
    · replace vc := vc.2 c
      refine xi_iload (by decide +kernel : decode mX10_nearest.2.1 89 = .ok (.iload 8, 2)) rfl (?_ : XW _ _ _ _ _ _ _ 91 _ _)
      refine xi_iload (by decide +kernel : decode mX10_nearest.2.1 91 = .ok (.iload 7, 2)) rfl (?_ : XW _ _ _ _ _ _ _ 93 _ _)
      refine xi_icmp_ne (by decide +kernel : decode mX10_nearest.2.1 93 = .ok (.if_icmp .ne 6, 3)) (by decide) (fun c => (?_ : XW _ _ _ _ _ _ _ 99 _ _)) (fun c => (?_ : XW _ _ _ _ _ _ _ 96 _ _))
      · replace vc := vc.1 c
        refine xi_aload_n (by decide +kernel : decode mX10_nearest.2.1 99 = .ok (.aload_n 0, 1)) rfl rfl (?_ : XW _ _ _ _ _ _ _ 100 _ _)
        refine xi_getR (y := 25) (by decide +kernel : decode mX10_nearest.2.1 100 = .ok (.getfield 43, 3)) fX10_43 rfl (by omega) rfl hb.2.2.2.2.1 (?_ : XW _ _ _ _ _ _ _ 103 _ _)
        refine xi_iload (by decide +kernel : decode mX10_nearest.2.1 103 = .ok (.iload 7, 2)) rfl (?_ : XW _ _ _ _ _ _ _ 105 _ _)
        refine xi_iload (by decide +kernel : decode mX10_nearest.2.1 105 = .ok (.iload 8, 2)) rfl (?_ : XW _ _ _ _ _ _ _ 107 _ _)
        refine xi_callV (b := 0) (bs := 0) (As := [.int x7, .int x8]) (st := []) (by decide +kernel : decode mX10_nearest.2.1 107 = .ok (.invokevirtual 276, 3)) kX10_276 rfl rfl (by omega) rfl (s_X3_putFoot 100 h 25 ha25 (by omega) x7 x8) (by decide) (by decide) (Nat.le_of_ble_eq_true rfl) (by omega) (fun v9 h9 hq9 => ?_)
        rw [hq9.1, hq9.2]
        show XW _ _ _ _ _ _ _ 110 _ []
        refine xi_aload_n (by decide +kernel : decode mX10_nearest.2.1 110 = .ok (.aload_n 0, 1)) rfl rfl (?_ : XW _ _ _ _ _ _ _ 111 _ _)
        refine xi_getR (y := 25) (by decide +kernel : decode mX10_nearest.2.1 111 = .ok (.getfield 43, 3)) fX10_43 rfl (by omega) rfl hb.2.2.2.2.1 (?_ : XW _ _ _ _ _ _ _ 114 _ _)
        refine xi_aload_n (by decide +kernel : decode mX10_nearest.2.1 114 = .ok (.aload_n 0, 1)) rfl rfl (?_ : XW _ _ _ _ _ _ _ 115 _ _)
        refine xi_getR (y := 12) (by decide +kernel : decode mX10_nearest.2.1 115 = .ok (.getfield 23, 3)) fX10_23 rfl (by omega) rfl hb.2.1 (?_ : XW _ _ _ _ _ _ _ 118 _ _)
        refine xi_aload_n (by decide +kernel : decode mX10_nearest.2.1 118 = .ok (.aload_n 0, 1)) rfl rfl (?_ : XW _ _ _ _ _ _ _ 119 _ _)
        refine xi_getR (y := 12) (by decide +kernel : decode mX10_nearest.2.1 119 = .ok (.getfield 23, 3)) fX10_23 rfl (by omega) rfl hb.2.1 (?_ : XW _ _ _ _ _ _ _ 122 _ _)
        refine xi_getI (by decide +kernel : decode mX10_nearest.2.1 122 = .ok (.getfield 129, 3)) fX10_129 (xRul_s0 hr) (by omega) rfl (?_ : XW _ _ _ _ _ _ _ 125 _ [.int (xI h 12 3), .ref 12, .ref 25])
        obtain ⟨Q1, sp, vc⟩ := vc
        refine xi_callV (b := 0) (bs := 0) (As := [.ref 12, .int (xI h 12 3)]) (st := []) (by decide +kernel : decode mX10_nearest.2.1 125 = .ok (.invokevirtual 132, 3)) kX10_132 rfl rfl (by omega) rfl sp (by decide) (by decide) (Nat.le_of_ble_eq_true rfl) (by omega) (fun v9 h3 hq9 => ?_)
        obtain ⟨e9, vc⟩ := vc v9 h3 hq9
        subst e9
        show XW _ _ _ _ _ _ _ 128 _ []
        refine xi_aload_n (by decide +kernel : decode mX10_nearest.2.1 128 = .ok (.aload_n 0, 1)) rfl rfl (?_ : XW _ _ _ _ _ _ _ 129 _ _)
        obtain ⟨s1, vc⟩ := vc
        refine xi_getR (y := 43) (by decide +kernel : decode mX10_nearest.2.1 129 = .ok (.getfield 70, 3)) fX10_70 rfl (by omega) rfl s1 (?_ : XW _ _ _ _ _ _ _ 132 _ _)
        refine xi_aload_n (by decide +kernel : decode mX10_nearest.2.1 132 = .ok (.aload_n 0, 1)) rfl rfl (?_ : XW _ _ _ _ _ _ _ 133 _ _)
        obtain ⟨s1, vc⟩ := vc
        refine xi_getR (y := 12) (by decide +kernel : decode mX10_nearest.2.1 133 = .ok (.getfield 23, 3)) fX10_23 rfl (by omega) rfl s1 (?_ : XW _ _ _ _ _ _ _ 136 _ _)
        refine xi_aload_n (by decide +kernel : decode mX10_nearest.2.1 136 = .ok (.aload_n 0, 1)) rfl rfl (?_ : XW _ _ _ _ _ _ _ 137 _ _)
        obtain ⟨s1, vc⟩ := vc
        refine xi_getR (y := 25) (by decide +kernel : decode mX10_nearest.2.1 137 = .ok (.getfield 43, 3)) fX10_43 rfl (by omega) rfl s1 (?_ : XW _ _ _ _ _ _ _ 140 _ _)
        refine xi_iconst (v := 0) (by decide +kernel : decode mX10_nearest.2.1 140 = .ok (.iconst 0, 1)) (by decide) (?_ : XW _ _ _ _ _ _ _ 141 _ _)
        refine xi_iload_n (by decide +kernel : decode mX10_nearest.2.1 141 = .ok (.iload_n 3, 1)) rfl rfl (?_ : XW _ _ _ _ _ _ _ 142 _ _)
        obtain ⟨Q1, sp, vc⟩ := vc
        refine xi_callV (b := 0) (bs := 0) (As := [.ref 12, .ref 25, .int 0, .int x3]) (st := []) (by decide +kernel : decode mX10_nearest.2.1 142 = .ok (.invokevirtual 250, 3)) kX10_250 rfl rfl (by omega) rfl sp (by decide) (by decide) (Nat.le_of_ble_eq_true rfl) (by omega) (fun v9 h4 hq9 => ?_)
        obtain ⟨r4, e9, vc⟩ := vc v9 h4 hq9
        subst e9
        show XW _ _ _ _ _ _ _ 145 _ [.long r4]
        refine xi_lload_n (by decide +kernel : decode mX10_nearest.2.1 145 = .ok (.lload_n 1, 1)) rfl rfl (?_ : XW _ _ _ _ _ _ _ 146 _ _)
        refine xi_lsub (by decide +kernel : decode mX10_nearest.2.1 146 = .ok (.lsub, 1)) (?_ : XW _ _ _ _ _ _ _ 147 _ _)
        refine xi_mabsl (by decide +kernel : decode mX10_nearest.2.1 147 = .ok (.invokestatic 281, 3)) kX10_281.2.1 (by decide) (Nat.le_of_ble_eq_true rfl) (?_ : XW _ _ _ _ _ _ _ 150 _ _)
        refine xi_lstore (ls' := [some (.ref 0), some (.long x1), none, some (.int x3), some (.int x4), some (.long x5), none, some (.int x7), some (.int x8), some (.long (if 0 < (r4 - x1) then (r4 - x1) else -(r4 - x1))), none]) (by decide +kernel : decode mX10_nearest.2.1 150 = .ok (.lstore 9, 2)) (by decide) rfl (?_ : XW _ _ _ _ _ _ _ 152 _ _)
        refine xi_iload (by decide +kernel : decode mX10_nearest.2.1 152 = .ok (.iload 4, 2)) rfl (?_ : XW _ _ _ _ _ _ _ 154 _ _)
        refine xi_iconst (v := (-1)) (by decide +kernel : decode mX10_nearest.2.1 154 = .ok (.iconst (-1), 1)) (by decide) (?_ : XW _ _ _ _ _ _ _ 155 _ _)
        refine xi_icmp_eq (by decide +kernel : decode mX10_nearest.2.1 155 = .ok (.if_icmp .eq 11, 3)) (by decide) (fun c => (?_ : XW _ _ _ _ _ _ _ 166 _ _)) (fun c => (?_ : XW _ _ _ _ _ _ _ 158 _ _))
        · replace vc := vc.1 c
          refine xi_lload (by decide +kernel : decode mX10_nearest.2.1 166 = .ok (.lload 9, 2)) rfl (?_ : XW _ _ _ _ _ _ _ 168 _ _)
          refine xi_lstore (ls' := [some (.ref 0), some (.long x1), none, some (.int x3), some (.int x4), some (.long (if 0 < (r4 - x1) then (r4 - x1) else -(r4 - x1))), none, some (.int x7), some (.int x8), some (.long (if 0 < (r4 - x1) then (r4 - x1) else -(r4 - x1))), none]) (by decide +kernel : decode mX10_nearest.2.1 168 = .ok (.lstore 5, 2)) (by decide) rfl (?_ : XW _ _ _ _ _ _ _ 170 _ _)
          refine xi_aload_n (by decide +kernel : decode mX10_nearest.2.1 170 = .ok (.aload_n 0, 1)) rfl rfl (?_ : XW _ _ _ _ _ _ _ 171 _ _)
          obtain ⟨s1, vc⟩ := vc
          refine xi_getR (y := 12) (by decide +kernel : decode mX10_nearest.2.1 171 = .ok (.getfield 23, 3)) fX10_23 rfl (by omega) rfl s1 (?_ : XW _ _ _ _ _ _ _ 174 _ _)
          refine xi_getI (by decide +kernel : decode mX10_nearest.2.1 174 = .ok (.getfield 148, 3)) fX10_148 (xRul_s0 hr) (by omega) rfl (?_ : XW _ _ _ _ _ _ _ 177 _ _)
          refine xi_iconst (v := 1) (by decide +kernel : decode mX10_nearest.2.1 177 = .ok (.iconst 1, 1)) (by decide) (?_ : XW _ _ _ _ _ _ _ 178 _ _)
          refine xi_iadd (by decide +kernel : decode mX10_nearest.2.1 178 = .ok (.iadd, 1)) (?_ : XW _ _ _ _ _ _ _ 179 _ _)
          refine xi_iload (by decide +kernel : decode mX10_nearest.2.1 179 = .ok (.iload 7, 2)) rfl (?_ : XW _ _ _ _ _ _ _ 181 _ _)
          refine xi_imul (by decide +kernel : decode mX10_nearest.2.1 181 = .ok (.imul, 1)) (?_ : XW _ _ _ _ _ _ _ 182 _ _)
          refine xi_iload (by decide +kernel : decode mX10_nearest.2.1 182 = .ok (.iload 8, 2)) rfl (?_ : XW _ _ _ _ _ _ _ 184 _ _)
          refine xi_iadd (by decide +kernel : decode mX10_nearest.2.1 184 = .ok (.iadd, 1)) (?_ : XW _ _ _ _ _ _ _ 185 _ _)
          refine xi_istore (ls' := [some (.ref 0), some (.long x1), none, some (.int x3), some (.int ((((xI h4 12 0) + 1) * x7) + x8)), some (.long (if 0 < (r4 - x1) then (r4 - x1) else -(r4 - x1))), none, some (.int x7), some (.int x8), some (.long (if 0 < (r4 - x1) then (r4 - x1) else -(r4 - x1))), none]) (by decide +kernel : decode mX10_nearest.2.1 185 = .ok (.istore 4, 2)) (by decide) rfl (?_ : XW _ _ _ _ _ _ _ 187 _ _)
          refine xi_iinc (v := x8 + 1) (ls' := [some (.ref 0), some (.long x1), none, some (.int x3), some (.int ((((xI h4 12 0) + 1) * x7) + x8)), some (.long (if 0 < (r4 - x1) then (r4 - x1) else -(r4 - x1))), none, some (.int x7), some (.int (x8 + 1)), some (.long (if 0 < (r4 - x1) then (r4 - x1) else -(r4 - x1))), none]) (by decide +kernel : decode mX10_nearest.2.1 187 = .ok (.iinc 8 1, 3)) rfl rfl (by decide) rfl (?_ : XW _ _ _ _ _ _ _ 190 _ _)
          refine xi_goto (by decide +kernel : decode mX10_nearest.2.1 190 = .ok (.goto (-113), 3)) (by decide) (?_ : XW _ _ _ _ _ _ _ 77 _ _)
          refine xw_drop 9 (ls' := [some (.ref 0), some (.long x1), none, some (.int x3), some (.int ((((xI h4 12 0) + 1) * x7) + x8)), some (.long (if 0 < (r4 - x1) then (r4 - x1) else -(r4 - x1))), none, some (.int x7), some (.int (x8 + 1)), none, none]) rfl ?_
          exact vc
        · replace vc := vc.2 c
          refine xi_lload (by decide +kernel : decode mX10_nearest.2.1 158 = .ok (.lload 9, 2)) rfl (?_ : XW _ _ _ _ _ _ _ 160 _ _)
          refine xi_lload (by decide +kernel : decode mX10_nearest.2.1 160 = .ok (.lload 5, 2)) rfl (?_ : XW _ _ _ _ _ _ _ 162 _ _)
          refine xi_lcmp (by decide +kernel : decode mX10_nearest.2.1 162 = .ok (.lcmp, 1)) (?_ : XW _ _ _ _ _ _ _ 163 _ _)
          refine xi_if_ge (by decide +kernel : decode mX10_nearest.2.1 163 = .ok (.ifCond .ge 24, 3)) (by decide) (fun c => (?_ : XW _ _ _ _ _ _ _ 187 _ _)) (fun c => (?_ : XW _ _ _ _ _ _ _ 166 _ _))
          · replace vc := vc.1 c
            refine xi_iinc (v := x8 + 1) (ls' := [some (.ref 0), some (.long x1), none, some (.int x3), some (.int x4), some (.long x5), none, some (.int x7), some (.int (x8 + 1)), some (.long (if 0 < (r4 - x1) then (r4 - x1) else -(r4 - x1))), none]) (by decide +kernel : decode mX10_nearest.2.1 187 = .ok (.iinc 8 1, 3)) rfl rfl (by decide) rfl (?_ : XW _ _ _ _ _ _ _ 190 _ _)
            refine xi_goto (by decide +kernel : decode mX10_nearest.2.1 190 = .ok (.goto (-113), 3)) (by decide) (?_ : XW _ _ _ _ _ _ _ 77 _ _)
            refine xw_drop 9 (ls' := [some (.ref 0), some (.long x1), none, some (.int x3), some (.int x4), some (.long x5), none, some (.int x7), some (.int (x8 + 1)), none, none]) rfl ?_
            exact vc
          · replace vc := vc.2 c
            refine xi_lload (by decide +kernel : decode mX10_nearest.2.1 166 = .ok (.lload 9, 2)) rfl (?_ : XW _ _ _ _ _ _ _ 168 _ _)
            refine xi_lstore (ls' := [some (.ref 0), some (.long x1), none, some (.int x3), some (.int x4), some (.long (if 0 < (r4 - x1) then (r4 - x1) else -(r4 - x1))), none, some (.int x7), some (.int x8), some (.long (if 0 < (r4 - x1) then (r4 - x1) else -(r4 - x1))), none]) (by decide +kernel : decode mX10_nearest.2.1 168 = .ok (.lstore 5, 2)) (by decide) rfl (?_ : XW _ _ _ _ _ _ _ 170 _ _)
            refine xi_aload_n (by decide +kernel : decode mX10_nearest.2.1 170 = .ok (.aload_n 0, 1)) rfl rfl (?_ : XW _ _ _ _ _ _ _ 171 _ _)
            obtain ⟨s1, vc⟩ := vc
            refine xi_getR (y := 12) (by decide +kernel : decode mX10_nearest.2.1 171 = .ok (.getfield 23, 3)) fX10_23 rfl (by omega) rfl s1 (?_ : XW _ _ _ _ _ _ _ 174 _ _)
            refine xi_getI (by decide +kernel : decode mX10_nearest.2.1 174 = .ok (.getfield 148, 3)) fX10_148 (xRul_s0 hr) (by omega) rfl (?_ : XW _ _ _ _ _ _ _ 177 _ _)
            refine xi_iconst (v := 1) (by decide +kernel : decode mX10_nearest.2.1 177 = .ok (.iconst 1, 1)) (by decide) (?_ : XW _ _ _ _ _ _ _ 178 _ _)
            refine xi_iadd (by decide +kernel : decode mX10_nearest.2.1 178 = .ok (.iadd, 1)) (?_ : XW _ _ _ _ _ _ _ 179 _ _)
            refine xi_iload (by decide +kernel : decode mX10_nearest.2.1 179 = .ok (.iload 7, 2)) rfl (?_ : XW _ _ _ _ _ _ _ 181 _ _)
            refine xi_imul (by decide +kernel : decode mX10_nearest.2.1 181 = .ok (.imul, 1)) (?_ : XW _ _ _ _ _ _ _ 182 _ _)
            refine xi_iload (by decide +kernel : decode mX10_nearest.2.1 182 = .ok (.iload 8, 2)) rfl (?_ : XW _ _ _ _ _ _ _ 184 _ _)
            refine xi_iadd (by decide +kernel : decode mX10_nearest.2.1 184 = .ok (.iadd, 1)) (?_ : XW _ _ _ _ _ _ _ 185 _ _)
            refine xi_istore (ls' := [some (.ref 0), some (.long x1), none, some (.int x3), some (.int ((((xI h4 12 0) + 1) * x7) + x8)), some (.long (if 0 < (r4 - x1) then (r4 - x1) else -(r4 - x1))), none, some (.int x7), some (.int x8), some (.long (if 0 < (r4 - x1) then (r4 - x1) else -(r4 - x1))), none]) (by decide +kernel : decode mX10_nearest.2.1 185 = .ok (.istore 4, 2)) (by decide) rfl (?_ : XW _ _ _ _ _ _ _ 187 _ _)
            refine xi_iinc (v := x8 + 1) (ls' := [some (.ref 0), some (.long x1), none, some (.int x3), some (.int ((((xI h4 12 0) + 1) * x7) + x8)), some (.long (if 0 < (r4 - x1) then (r4 - x1) else -(r4 - x1))), none, some (.int x7), some (.int (x8 + 1)), some (.long (if 0 < (r4 - x1) then (r4 - x1) else -(r4 - x1))), none]) (by decide +kernel : decode mX10_nearest.2.1 187 = .ok (.iinc 8 1, 3)) rfl rfl (by decide) rfl (?_ : XW _ _ _ _ _ _ _ 190 _ _)
            refine xi_goto (by decide +kernel : decode mX10_nearest.2.1 190 = .ok (.goto (-113), 3)) (by decide) (?_ : XW _ _ _ _ _ _ _ 77 _ _)
            refine xw_drop 9 (ls' := [some (.ref 0), some (.long x1), none, some (.int x3), some (.int ((((xI h4 12 0) + 1) * x7) + x8)), some (.long (if 0 < (r4 - x1) then (r4 - x1) else -(r4 - x1))), none, some (.int x7), some (.int (x8 + 1)), none, none]) rfl ?_
            exact vc
      · replace vc := vc.2 c
        refine xi_goto (by decide +kernel : decode mX10_nearest.2.1 96 = .ok (.goto 91, 3)) (by decide) (?_ : XW _ _ _ _ _ _ _ 187 _ _)
        refine xi_iinc (v := x8 + 1) (ls' := [some (.ref 0), some (.long x1), none, some (.int x3), some (.int x4), some (.long x5), none, some (.int x7), some (.int (x8 + 1)), none, none]) (by decide +kernel : decode mX10_nearest.2.1 187 = .ok (.iinc 8 1, 3)) rfl rfl (by decide) rfl (?_ : XW _ _ _ _ _ _ _ 190 _ _)
        refine xi_goto (by decide +kernel : decode mX10_nearest.2.1 190 = .ok (.goto (-113), 3)) (by decide) (?_ : XW _ _ _ _ _ _ _ 77 _ _)
        exact vc

set_option maxRecDepth 20000 in
theorem v_X10_wanted_0 {h : XH} {Q : Option Value → XH → Prop} {X : String → XH → Prop} (r : Nat) (hbp : BP r h)  (w : Int64) (n : Int32)
    (vc : ∃ Q1 X1, XSpec mX10_needThrows 7 1 6 100 100 [.ref 0, .int n] h Q1 X1 ∧ (∀ E9 h9, X1 E9 h9 → X E9 h9) ∧ ∀ v h1, Q1 v h1 → v = none ∧ ((0 ≤ (lg_cmp w 0) → ∃ Q1, XSpec mX10_isSpent 1 0 0 100 100 [.ref 0, .int n] h1 Q1 xno ∧ ∀ v h2, Q1 v h2 → ∃ r2 : Int32, v = some (.int r2) ∧ ((r2 = 0 → (xP h2 0 3 = some r) ∧ (((xI h2 r 7) < 24 → ∃ Q1, XSpec mX10_nearest 6 0 0 100 100 [.ref 0, .long w, .int n] h2 Q1 xno ∧ ∀ v h3, Q1 v h3 → ∃ r3 : Int32, v = some (.int r3) ∧ (Q (some (.int r3)) h3)) ∧ (¬ (xI h2 r 7) < 24 → Q (some (.int (-1))) h2))) ∧ (¬ r2 = 0 → Q (some (.int (-2))) h2))) ∧ (¬ 0 ≤ (lg_cmp w 0) → X "java/lang/IllegalArgumentException" h1))) :
    XW (xrm 8 2 12) mX10_wanted (xE 100 Q X 2 12) 100 2 12 h 0 [some (.ref 0), some (.long w), none, some (.int n)] [] := by
  obtain ⟨hb, hr, hnr, ha21, ha25, hu29, hu34, hw, hnt, hwr⟩ := hbp
  refine xi_aload_n (by decide +kernel : decode mX10_wanted.2.1 0 = .ok (.aload_n 0, 1)) rfl rfl (?_ : XW _ _ _ _ _ _ _ 1 _ _)
  refine xi_iload_n (by decide +kernel : decode mX10_wanted.2.1 1 = .ok (.iload_n 3, 1)) rfl rfl (?_ : XW _ _ _ _ _ _ _ 2 _ _)
  obtain ⟨Q1, X1, sp, tx, vc⟩ := vc
  refine xi_callVX (b := 1) (bs := 6) (As := [.int n]) (st := []) (by decide +kernel : decode mX10_wanted.2.1 2 = .ok (.invokevirtual 247, 3)) kX10_247 rfl rfl (by omega) rfl sp (by decide) (by decide) (Nat.le_of_ble_eq_true rfl) (by omega) rfl tx (fun v9 h1 hq9 => ?_)
  obtain ⟨e9, vc⟩ := vc v9 h1 hq9
  subst e9
  show XW _ _ _ _ _ _ _ 5 _ []
  refine xi_lload_n (by decide +kernel : decode mX10_wanted.2.1 5 = .ok (.lload_n 1, 1)) rfl rfl (?_ : XW _ _ _ _ _ _ _ 6 _ _)
  refine xi_lconst (v := 0) (by decide +kernel : decode mX10_wanted.2.1 6 = .ok (.lconst 0, 1)) (by decide) (?_ : XW _ _ _ _ _ _ _ 7 _ _)
  refine xi_lcmp (by decide +kernel : decode mX10_wanted.2.1 7 = .ok (.lcmp, 1)) (?_ : XW _ _ _ _ _ _ _ 8 _ _)
  refine xi_if_ge (by decide +kernel : decode mX10_wanted.2.1 8 = .ok (.ifCond .ge 11, 3)) (by decide) (fun c => (?_ : XW _ _ _ _ _ _ _ 19 _ _)) (fun c => (?_ : XW _ _ _ _ _ _ _ 11 _ _))
  · replace vc := vc.1 c
    refine xi_aload_n (by decide +kernel : decode mX10_wanted.2.1 19 = .ok (.aload_n 0, 1)) rfl rfl (?_ : XW _ _ _ _ _ _ _ 20 _ _)
    refine xi_iload_n (by decide +kernel : decode mX10_wanted.2.1 20 = .ok (.iload_n 3, 1)) rfl rfl (?_ : XW _ _ _ _ _ _ _ 21 _ _)
    obtain ⟨Q1, sp, vc⟩ := vc
    refine xi_callV (b := 1) (bs := 6) (As := [.int n]) (st := []) (by decide +kernel : decode mX10_wanted.2.1 21 = .ok (.invokevirtual 287, 3)) kX10_287 rfl rfl (by omega) rfl sp (by decide) (by decide) (Nat.le_of_ble_eq_true rfl) (by omega) (fun v9 h2 hq9 => ?_)
    obtain ⟨r2, e9, vc⟩ := vc v9 h2 hq9
    subst e9
    show XW _ _ _ _ _ _ _ 24 _ [.int r2]
    refine xi_if_eq (by decide +kernel : decode mX10_wanted.2.1 24 = .ok (.ifCond .eq 6, 3)) (by decide) (fun c => (?_ : XW _ _ _ _ _ _ _ 30 _ _)) (fun c => (?_ : XW _ _ _ _ _ _ _ 27 _ _))
    · replace vc := vc.1 c
      refine xi_aload_n (by decide +kernel : decode mX10_wanted.2.1 30 = .ok (.aload_n 0, 1)) rfl rfl (?_ : XW _ _ _ _ _ _ _ 31 _ _)
      obtain ⟨s1, vc⟩ := vc
      refine xi_getR (y := r) (by decide +kernel : decode mX10_wanted.2.1 31 = .ok (.getfield 23, 3)) fX10_23 rfl (by omega) rfl s1 (?_ : XW _ _ _ _ _ _ _ 34 _ _)
      refine xi_getI (by decide +kernel : decode mX10_wanted.2.1 34 = .ok (.getfield 151, 3)) fX10_151 (xRul_s0 hr) (by omega) rfl (?_ : XW _ _ _ _ _ _ _ 37 _ _)
      refine xi_bipush (v := 24) (by decide +kernel : decode mX10_wanted.2.1 37 = .ok (.bipush 24, 2)) (by decide) (?_ : XW _ _ _ _ _ _ _ 39 _ _)
      refine xi_icmp_lt (by decide +kernel : decode mX10_wanted.2.1 39 = .ok (.if_icmp .lt 7, 3)) (by decide) (fun c => (?_ : XW _ _ _ _ _ _ _ 46 _ _)) (fun c => (?_ : XW _ _ _ _ _ _ _ 42 _ _))
      · replace vc := vc.1 c
        refine xi_aload_n (by decide +kernel : decode mX10_wanted.2.1 46 = .ok (.aload_n 0, 1)) rfl rfl (?_ : XW _ _ _ _ _ _ _ 47 _ _)
        refine xi_lload_n (by decide +kernel : decode mX10_wanted.2.1 47 = .ok (.lload_n 1, 1)) rfl rfl (?_ : XW _ _ _ _ _ _ _ 48 _ _)
        refine xi_iload_n (by decide +kernel : decode mX10_wanted.2.1 48 = .ok (.iload_n 3, 1)) rfl rfl (?_ : XW _ _ _ _ _ _ _ 49 _ _)
        obtain ⟨Q1, sp, vc⟩ := vc
        refine xi_callV (b := 1) (bs := 6) (As := [.long w, .int n]) (st := []) (by decide +kernel : decode mX10_wanted.2.1 49 = .ok (.invokevirtual 291, 3)) kX10_291 rfl rfl (by omega) rfl sp (by decide) (by decide) (Nat.le_of_ble_eq_true rfl) (by omega) (fun v9 h3 hq9 => ?_)
        obtain ⟨r3, e9, vc⟩ := vc v9 h3 hq9
        subst e9
        show XW _ _ _ _ _ _ _ 52 _ [.int r3]
        exact xi_iret (by decide +kernel : decode mX10_wanted.2.1 52 = .ok (.ireturn, 1)) rfl rfl vc
      · replace vc := vc.2 c
        refine xi_iconst (v := (-1)) (by decide +kernel : decode mX10_wanted.2.1 42 = .ok (.iconst (-1), 1)) (by decide) (?_ : XW _ _ _ _ _ _ _ 43 _ _)
        refine xi_goto (by decide +kernel : decode mX10_wanted.2.1 43 = .ok (.goto 9, 3)) (by decide) (?_ : XW _ _ _ _ _ _ _ 52 _ _)
        exact xi_iret (by decide +kernel : decode mX10_wanted.2.1 52 = .ok (.ireturn, 1)) rfl rfl vc
    · replace vc := vc.2 c
      refine xi_bipush (v := (-2)) (by decide +kernel : decode mX10_wanted.2.1 27 = .ok (.bipush (-2), 2)) (by decide) (?_ : XW _ _ _ _ _ _ _ 29 _ _)
      exact xi_iret (by decide +kernel : decode mX10_wanted.2.1 29 = .ok (.ireturn, 1)) rfl rfl vc
  · replace vc := vc.2 c
    exact xi_throw (b := 0) (bs := 0) xT_107 (by decide +kernel : decode mX10_wanted.2.1 11 = .ok (.new 105, 3)) (by decide +kernel : decode mX10_wanted.2.1 14 = .ok (.dup, 1)) (by decide +kernel : decode mX10_wanted.2.1 15 = .ok (.invokespecial 107, 3)) (by decide +kernel : decode mX10_wanted.2.1 18 = .ok (.athrow, 1)) rfl (by decide) (Nat.le_of_ble_eq_true rfl) vc

set_option maxRecDepth 20000 in
theorem v_X10_ended_0 {h : XH} {Q : Option Value → XH → Prop} {X : String → XH → Prop} (r : Nat) (hbp : BP r h)  (e : Int32) (n : Int32)
    (vc : ∃ Q1 X1, XSpec mX10_needWhat 7 1 6 100 100 [.ref 0, .int e, .int 2] h Q1 X1 ∧ (∀ E9 h9, X1 E9 h9 → X E9 h9) ∧ ∀ v h1, Q1 v h1 → v = none ∧ (∃ Q1 X1, XSpec mX10_needThrows 7 1 6 100 100 [.ref 0, .int n] h1 Q1 X1 ∧ (∀ E9 h9, X1 E9 h9 → X E9 h9) ∧ ∀ v h2, Q1 v h2 → v = none ∧ ((xP h2 0 6 = some 25) ∧ ((xP h2 0 3 = some r) ∧ (∃ Q1, XSpec mX3_takeFeet 2 0 0 100 100 [.ref 25, .ref r] h2 Q1 xno ∧ ∀ v h3, Q1 v h3 → v = none ∧ ((xP h3 0 6 = some 25) ∧ ((xP h3 0 3 = some r) ∧ (∃ Q1, XSpec mX3_measure 5 0 0 100 100 [.ref 25, .ref r] h3 Q1 xno ∧ ∀ v h4, Q1 v h4 → v = none ∧ ((xP h4 0 6 = some 25) ∧ ((xP h4 0 3 = some r) ∧ (∃ Q1, XSpec mX3_lay 3 0 0 100 100 [.ref 25, .ref r, .int e] h4 Q1 xno ∧ ∀ v h5, Q1 v h5 → v = none ∧ ((xP h5 0 11 = some 43) ∧ ((xP h5 0 3 = some r) ∧ ((xP h5 0 6 = some 25) ∧ (∃ Q1, XSpec mX6_sumOut 4 0 0 100 100 [.ref 43, .ref r, .ref 25, .int 0, .int n] h5 Q1 xno ∧ ∀ v h6, Q1 v h6 → ∃ r6 : Int64, v = some (.long r6) ∧ (Q (some (.long r6)) h6)))))))))))))))) :
    XW (xrm 8 2 12) mX10_ended (xE 100 Q X 2 12) 100 2 12 h 0 [some (.ref 0), some (.int e), some (.int n)] [] := by
  obtain ⟨hb, hr, hnr, ha21, ha25, hu29, hu34, hw, hnt, hwr⟩ := hbp
  refine xi_aload_n (by decide +kernel : decode mX10_ended.2.1 0 = .ok (.aload_n 0, 1)) rfl rfl (?_ : XW _ _ _ _ _ _ _ 1 _ _)
  refine xi_iload_n (by decide +kernel : decode mX10_ended.2.1 1 = .ok (.iload_n 1, 1)) rfl rfl (?_ : XW _ _ _ _ _ _ _ 2 _ _)
  refine xi_iconst (v := 2) (by decide +kernel : decode mX10_ended.2.1 2 = .ok (.iconst 2, 1)) (by decide) (?_ : XW _ _ _ _ _ _ _ 3 _ _)
  obtain ⟨Q1, X1, sp, tx, vc⟩ := vc
  refine xi_callVX (b := 1) (bs := 6) (As := [.int e, .int 2]) (st := []) (by decide +kernel : decode mX10_ended.2.1 3 = .ok (.invokevirtual 243, 3)) kX10_243 rfl rfl (by omega) rfl sp (by decide) (by decide) (Nat.le_of_ble_eq_true rfl) (by omega) rfl tx (fun v9 h1 hq9 => ?_)
  obtain ⟨e9, vc⟩ := vc v9 h1 hq9
  subst e9
  show XW _ _ _ _ _ _ _ 6 _ []
  refine xi_aload_n (by decide +kernel : decode mX10_ended.2.1 6 = .ok (.aload_n 0, 1)) rfl rfl (?_ : XW _ _ _ _ _ _ _ 7 _ _)
  refine xi_iload_n (by decide +kernel : decode mX10_ended.2.1 7 = .ok (.iload_n 2, 1)) rfl rfl (?_ : XW _ _ _ _ _ _ _ 8 _ _)
  obtain ⟨Q1, X1, sp, tx, vc⟩ := vc
  refine xi_callVX (b := 0) (bs := 0) (As := [.int n]) (st := []) (by decide +kernel : decode mX10_ended.2.1 8 = .ok (.invokevirtual 247, 3)) kX10_247 rfl rfl (by omega) rfl sp (by decide) (by decide) (Nat.le_of_ble_eq_true rfl) (by omega) rfl tx (fun v9 h2 hq9 => ?_)
  obtain ⟨e9, vc⟩ := vc v9 h2 hq9
  subst e9
  show XW _ _ _ _ _ _ _ 11 _ []
  refine xi_aload_n (by decide +kernel : decode mX10_ended.2.1 11 = .ok (.aload_n 0, 1)) rfl rfl (?_ : XW _ _ _ _ _ _ _ 12 _ _)
  obtain ⟨s1, vc⟩ := vc
  refine xi_getR (y := 25) (by decide +kernel : decode mX10_ended.2.1 12 = .ok (.getfield 43, 3)) fX10_43 rfl (by omega) rfl s1 (?_ : XW _ _ _ _ _ _ _ 15 _ _)
  refine xi_aload_n (by decide +kernel : decode mX10_ended.2.1 15 = .ok (.aload_n 0, 1)) rfl rfl (?_ : XW _ _ _ _ _ _ _ 16 _ _)
  obtain ⟨s1, vc⟩ := vc
  refine xi_getR (y := r) (by decide +kernel : decode mX10_ended.2.1 16 = .ok (.getfield 23, 3)) fX10_23 rfl (by omega) rfl s1 (?_ : XW _ _ _ _ _ _ _ 19 _ _)
  obtain ⟨Q1, sp, vc⟩ := vc
  refine xi_callV (b := 0) (bs := 0) (As := [.ref r]) (st := []) (by decide +kernel : decode mX10_ended.2.1 19 = .ok (.invokevirtual 122, 3)) kX10_122 rfl rfl (by omega) rfl sp (by decide) (by decide) (Nat.le_of_ble_eq_true rfl) (by omega) (fun v9 h3 hq9 => ?_)
  obtain ⟨e9, vc⟩ := vc v9 h3 hq9
  subst e9
  show XW _ _ _ _ _ _ _ 22 _ []
  refine xi_aload_n (by decide +kernel : decode mX10_ended.2.1 22 = .ok (.aload_n 0, 1)) rfl rfl (?_ : XW _ _ _ _ _ _ _ 23 _ _)
  obtain ⟨s1, vc⟩ := vc
  refine xi_getR (y := 25) (by decide +kernel : decode mX10_ended.2.1 23 = .ok (.getfield 43, 3)) fX10_43 rfl (by omega) rfl s1 (?_ : XW _ _ _ _ _ _ _ 26 _ _)
  refine xi_aload_n (by decide +kernel : decode mX10_ended.2.1 26 = .ok (.aload_n 0, 1)) rfl rfl (?_ : XW _ _ _ _ _ _ _ 27 _ _)
  obtain ⟨s1, vc⟩ := vc
  refine xi_getR (y := r) (by decide +kernel : decode mX10_ended.2.1 27 = .ok (.getfield 23, 3)) fX10_23 rfl (by omega) rfl s1 (?_ : XW _ _ _ _ _ _ _ 30 _ _)
  obtain ⟨Q1, sp, vc⟩ := vc
  refine xi_callV (b := 0) (bs := 0) (As := [.ref r]) (st := []) (by decide +kernel : decode mX10_ended.2.1 30 = .ok (.invokevirtual 126, 3)) kX10_126 rfl rfl (by omega) rfl sp (by decide) (by decide) (Nat.le_of_ble_eq_true rfl) (by omega) (fun v9 h4 hq9 => ?_)
  obtain ⟨e9, vc⟩ := vc v9 h4 hq9
  subst e9
  show XW _ _ _ _ _ _ _ 33 _ []
  refine xi_aload_n (by decide +kernel : decode mX10_ended.2.1 33 = .ok (.aload_n 0, 1)) rfl rfl (?_ : XW _ _ _ _ _ _ _ 34 _ _)
  obtain ⟨s1, vc⟩ := vc
  refine xi_getR (y := 25) (by decide +kernel : decode mX10_ended.2.1 34 = .ok (.getfield 43, 3)) fX10_43 rfl (by omega) rfl s1 (?_ : XW _ _ _ _ _ _ _ 37 _ _)
  refine xi_aload_n (by decide +kernel : decode mX10_ended.2.1 37 = .ok (.aload_n 0, 1)) rfl rfl (?_ : XW _ _ _ _ _ _ _ 38 _ _)
  obtain ⟨s1, vc⟩ := vc
  refine xi_getR (y := r) (by decide +kernel : decode mX10_ended.2.1 38 = .ok (.getfield 23, 3)) fX10_23 rfl (by omega) rfl s1 (?_ : XW _ _ _ _ _ _ _ 41 _ _)
  refine xi_iload_n (by decide +kernel : decode mX10_ended.2.1 41 = .ok (.iload_n 1, 1)) rfl rfl (?_ : XW _ _ _ _ _ _ _ 42 _ _)
  obtain ⟨Q1, sp, vc⟩ := vc
  refine xi_callV (b := 0) (bs := 0) (As := [.ref r, .int e]) (st := []) (by decide +kernel : decode mX10_ended.2.1 42 = .ok (.invokevirtual 132, 3)) kX10_132 rfl rfl (by omega) rfl sp (by decide) (by decide) (Nat.le_of_ble_eq_true rfl) (by omega) (fun v9 h5 hq9 => ?_)
  obtain ⟨e9, vc⟩ := vc v9 h5 hq9
  subst e9
  show XW _ _ _ _ _ _ _ 45 _ []
  refine xi_aload_n (by decide +kernel : decode mX10_ended.2.1 45 = .ok (.aload_n 0, 1)) rfl rfl (?_ : XW _ _ _ _ _ _ _ 46 _ _)
  obtain ⟨s1, vc⟩ := vc
  refine xi_getR (y := 43) (by decide +kernel : decode mX10_ended.2.1 46 = .ok (.getfield 70, 3)) fX10_70 rfl (by omega) rfl s1 (?_ : XW _ _ _ _ _ _ _ 49 _ _)
  refine xi_aload_n (by decide +kernel : decode mX10_ended.2.1 49 = .ok (.aload_n 0, 1)) rfl rfl (?_ : XW _ _ _ _ _ _ _ 50 _ _)
  obtain ⟨s1, vc⟩ := vc
  refine xi_getR (y := r) (by decide +kernel : decode mX10_ended.2.1 50 = .ok (.getfield 23, 3)) fX10_23 rfl (by omega) rfl s1 (?_ : XW _ _ _ _ _ _ _ 53 _ _)
  refine xi_aload_n (by decide +kernel : decode mX10_ended.2.1 53 = .ok (.aload_n 0, 1)) rfl rfl (?_ : XW _ _ _ _ _ _ _ 54 _ _)
  obtain ⟨s1, vc⟩ := vc
  refine xi_getR (y := 25) (by decide +kernel : decode mX10_ended.2.1 54 = .ok (.getfield 43, 3)) fX10_43 rfl (by omega) rfl s1 (?_ : XW _ _ _ _ _ _ _ 57 _ _)
  refine xi_iconst (v := 0) (by decide +kernel : decode mX10_ended.2.1 57 = .ok (.iconst 0, 1)) (by decide) (?_ : XW _ _ _ _ _ _ _ 58 _ _)
  refine xi_iload_n (by decide +kernel : decode mX10_ended.2.1 58 = .ok (.iload_n 2, 1)) rfl rfl (?_ : XW _ _ _ _ _ _ _ 59 _ _)
  obtain ⟨Q1, sp, vc⟩ := vc
  refine xi_callV (b := 0) (bs := 0) (As := [.ref r, .ref 25, .int 0, .int n]) (st := []) (by decide +kernel : decode mX10_ended.2.1 59 = .ok (.invokevirtual 250, 3)) kX10_250 rfl rfl (by omega) rfl sp (by decide) (by decide) (Nat.le_of_ble_eq_true rfl) (by omega) (fun v9 h6 hq9 => ?_)
  obtain ⟨r6, e9, vc⟩ := vc v9 h6 hq9
  subst e9
  show XW _ _ _ _ _ _ _ 62 _ [.long r6]
  exact xi_lret (by decide +kernel : decode mX10_ended.2.1 62 = .ok (.lreturn, 1)) rfl vc

