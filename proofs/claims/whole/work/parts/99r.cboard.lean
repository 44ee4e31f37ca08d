/-! READ: the class' board: the walk -/
set_option maxRecDepth 20000 in
theorem v_X10_board_0 {h : XH} {Q : Option Value → XH → Prop} {X : String → XH → Prop} (r : Nat) (hbp : BP r h)  (nn : Int32)
    (vc : (nn < 0 → X "java/lang/IllegalArgumentException" h) ∧ (¬ nn < 0 → (nn ≤ (xI h 0 1) → ∃ Q1, XSpec mX4_read 82 0 0 100 100 [.ref 11, .int nn] (xSI 0 (va_up (xI h 0) 1 0) h) Q1 xno ∧ ∀ v h1, Q1 v h1 → ∃ r1 : Int32, v = some (.int r1) ∧ ((r1 = 0 → (xP h1 0 4 = some 11) ∧ ((xP h1 0 3 = some r) ∧ (∃ Q1, XSpec mX4_exchange 1 0 0 100 100 [.ref 11, .ref r] (xSI 0 (va_up (xI h1 0) 2 (-1)) h1) Q1 xno ∧ ∀ v h2, Q1 v h2 → ∃ r2 : Nat, v = some (.ref r2) ∧ (∃ Q1, XSpec mX10_startAnew 6 0 0 100 100 [.ref 0] (xSP 0 (va_up (xP h2 0) 3 (some r2)) h2) Q1 xno ∧ ∀ v h3, Q1 v h3 → v = none ∧ (Q (some (.int 0)) h3))))) ∧ (¬ r1 = 0 → (xP h1 0 4 = some 11) ∧ ((xP h1 0 7 = some 29) ∧ (∃ Q1, XSpec mX7_refuse 1 0 0 100 100 [.ref 29, .int 0] (xSI 0 (va_up (xI h1 0) 2 (xI h1 11 0)) h1) Q1 xno ∧ ∀ v h4, Q1 v h4 → v = none ∧ (Q (some (.int r1)) h4)))))) ∧ (¬ nn ≤ (xI h 0 1) → X "java/lang/IllegalArgumentException" h))) :
    XW (xrm 83 1 6) mX10_board (xE 100 Q X 1 6) 100 1 6 h 0 [some (.ref 0), some (.int nn), none] [] := by
  obtain ⟨hb, hr, hnr, ha21, ha25, hu29, hu34, hw, hnt, hwr⟩ := hbp
  refine xi_iload_n (by decide +kernel : decode mX10_board.2.1 0 = .ok (.iload_n 1, 1)) rfl rfl (?_ : XW _ _ _ _ _ _ _ 1 _ _)
  refine xi_if_lt (by decide +kernel : decode mX10_board.2.1 1 = .ok (.ifCond .lt 11, 3)) (by decide) (fun c => (?_ : XW _ _ _ _ _ _ _ 12 _ _)) (fun c => (?_ : XW _ _ _ _ _ _ _ 4 _ _))
  · replace vc := vc.1 c
    exact xi_throw (b := 0) (bs := 0) xT_107 (by decide +kernel : decode mX10_board.2.1 12 = .ok (.new 105, 3)) (by decide +kernel : decode mX10_board.2.1 15 = .ok (.dup, 1)) (by decide +kernel : decode mX10_board.2.1 16 = .ok (.invokespecial 107, 3)) (by decide +kernel : decode mX10_board.2.1 19 = .ok (.athrow, 1)) rfl (by decide) (Nat.le_of_ble_eq_true rfl) vc
  · replace vc := vc.2 c
    refine xi_iload_n (by decide +kernel : decode mX10_board.2.1 4 = .ok (.iload_n 1, 1)) rfl rfl (?_ : XW _ _ _ _ _ _ _ 5 _ _)
    refine xi_aload_n (by decide +kernel : decode mX10_board.2.1 5 = .ok (.aload_n 0, 1)) rfl rfl (?_ : XW _ _ _ _ _ _ _ 6 _ _)
    refine xi_getI (by decide +kernel : decode mX10_board.2.1 6 = .ok (.getfield 13, 3)) fX10_13 rfl (by omega) rfl (?_ : XW _ _ _ _ _ _ _ 9 _ _)
    refine xi_icmp_le (by decide +kernel : decode mX10_board.2.1 9 = .ok (.if_icmp .le 11, 3)) (by decide) (fun c => (?_ : XW _ _ _ _ _ _ _ 20 _ _)) (fun c => (?_ : XW _ _ _ _ _ _ _ 12 _ _))
    · replace vc := vc.1 c
      refine xi_aload_n (by decide +kernel : decode mX10_board.2.1 20 = .ok (.aload_n 0, 1)) rfl rfl (?_ : XW _ _ _ _ _ _ _ 21 _ _)
      refine xi_iconst (v := 0) (by decide +kernel : decode mX10_board.2.1 21 = .ok (.iconst 0, 1)) (by decide) (?_ : XW _ _ _ _ _ _ _ 22 _ _)
      refine xi_putI (by decide +kernel : decode mX10_board.2.1 22 = .ok (.putfield 13, 3)) fX10_13 rfl (by omega) rfl rfl rfl (?_ : XW _ _ _ _ _ _ (xSI 0 (va_up (xI h 0) 1 0) h) 25 _ _)
      refine xi_aload_n (by decide +kernel : decode mX10_board.2.1 25 = .ok (.aload_n 0, 1)) rfl rfl (?_ : XW _ _ _ _ _ _ _ 26 _ _)
      refine xi_getR (y := 11) (by decide +kernel : decode mX10_board.2.1 26 = .ok (.getfield 32, 3)) fX10_32 rfl (by omega) rfl hb.2.2.1 (?_ : XW _ _ _ _ _ _ _ 29 _ _)
      refine xi_iload_n (by decide +kernel : decode mX10_board.2.1 29 = .ok (.iload_n 1, 1)) rfl rfl (?_ : XW _ _ _ _ _ _ _ 30 _ _)
      obtain ⟨Q1, sp, vc⟩ := vc
      refine xi_callV (b := 1) (bs := 6) (As := [.int nn]) (st := []) (by decide +kernel : decode mX10_board.2.1 30 = .ok (.invokevirtual 108, 3)) kX10_108 rfl rfl (by omega) rfl sp (xrm_f (by omega)) (xrm_l (by omega) (Nat.le_of_ble_eq_true rfl)) (Nat.le_of_ble_eq_true rfl) (by omega) (fun v9 h1 hq9 => ?_)
      obtain ⟨r1, e9, vc⟩ := vc v9 h1 hq9
      subst e9
      show XW _ _ _ _ _ _ _ 33 _ [.int r1]
      refine xi_istore_n (ls' := [some (.ref 0), some (.int nn), some (.int r1)]) (by decide +kernel : decode mX10_board.2.1 33 = .ok (.istore_n 2, 1)) rfl (by decide) rfl (?_ : XW _ _ _ _ _ _ _ 34 _ _)
      refine xi_iload_n (by decide +kernel : decode mX10_board.2.1 34 = .ok (.iload_n 2, 1)) rfl rfl (?_ : XW _ _ _ _ _ _ _ 35 _ _)
      refine xi_if_eq (by decide +kernel : decode mX10_board.2.1 35 = .ok (.ifCond .eq 24, 3)) (by decide) (fun c => (?_ : XW _ _ _ _ _ _ _ 59 _ _)) (fun c => (?_ : XW _ _ _ _ _ _ _ 38 _ _))
      · replace vc := vc.1 c
        refine xi_aload_n (by decide +kernel : decode mX10_board.2.1 59 = .ok (.aload_n 0, 1)) rfl rfl (?_ : XW _ _ _ _ _ _ _ 60 _ _)
        refine xi_iconst (v := (-1)) (by decide +kernel : decode mX10_board.2.1 60 = .ok (.iconst (-1), 1)) (by decide) (?_ : XW _ _ _ _ _ _ _ 61 _ _)
        refine xi_putI (by decide +kernel : decode mX10_board.2.1 61 = .ok (.putfield 17, 3)) fX10_17 rfl (by omega) rfl rfl rfl (?_ : XW _ _ _ _ _ _ (xSI 0 (va_up (xI h1 0) 2 (-1)) h1) 64 _ _)
        refine xi_aload_n (by decide +kernel : decode mX10_board.2.1 64 = .ok (.aload_n 0, 1)) rfl rfl (?_ : XW _ _ _ _ _ _ _ 65 _ _)
        refine xi_aload_n (by decide +kernel : decode mX10_board.2.1 65 = .ok (.aload_n 0, 1)) rfl rfl (?_ : XW _ _ _ _ _ _ _ 66 _ _)
        obtain ⟨s1, vc⟩ := vc
        refine xi_getR (y := 11) (by decide +kernel : decode mX10_board.2.1 66 = .ok (.getfield 32, 3)) fX10_32 rfl (by omega) rfl s1 (?_ : XW _ _ _ _ _ _ _ 69 _ _)
        refine xi_aload_n (by decide +kernel : decode mX10_board.2.1 69 = .ok (.aload_n 0, 1)) rfl rfl (?_ : XW _ _ _ _ _ _ _ 70 _ _)
        obtain ⟨s1, vc⟩ := vc
        refine xi_getR (y := r) (by decide +kernel : decode mX10_board.2.1 70 = .ok (.getfield 23, 3)) fX10_23 rfl (by omega) rfl s1 (?_ : XW _ _ _ _ _ _ _ 73 _ _)
        obtain ⟨Q1, sp, vc⟩ := vc
        refine xi_callV (b := 1) (bs := 6) (As := [.ref r]) (st := [.ref 0]) (by decide +kernel : decode mX10_board.2.1 73 = .ok (.invokevirtual 118, 3)) kX10_118 rfl rfl (by omega) rfl sp (xrm_f (by omega)) (xrm_l (by omega) (Nat.le_of_ble_eq_true rfl)) (Nat.le_of_ble_eq_true rfl) (by omega) (fun v9 h2 hq9 => ?_)
        obtain ⟨r2, e9, vc⟩ := vc v9 h2 hq9
        subst e9
        show XW _ _ _ _ _ _ _ 76 _ [.ref r2, .ref 0]
        refine xi_putR (by decide +kernel : decode mX10_board.2.1 76 = .ok (.putfield 23, 3)) fX10_23 rfl (by omega) rfl (?_ : XW _ _ _ _ _ _ (xSP 0 (va_up (xP h2 0) 3 (some r2)) h2) 79 _ _)
        refine xi_aload_n (by decide +kernel : decode mX10_board.2.1 79 = .ok (.aload_n 0, 1)) rfl rfl (?_ : XW _ _ _ _ _ _ _ 80 _ _)
        obtain ⟨Q1, sp, vc⟩ := vc
        refine xi_callV (b := 1) (bs := 6) (As := []) (st := []) (by decide +kernel : decode mX10_board.2.1 80 = .ok (.invokevirtual 98, 3)) kX10_98 rfl rfl (by omega) rfl sp (xrm_f (by omega)) (xrm_l (by omega) (Nat.le_of_ble_eq_true rfl)) (Nat.le_of_ble_eq_true rfl) (by omega) (fun v9 h3 hq9 => ?_)
        obtain ⟨e9, vc⟩ := vc v9 h3 hq9
        subst e9
        show XW _ _ _ _ _ _ _ 83 _ []
        refine xi_iconst (v := 0) (by decide +kernel : decode mX10_board.2.1 83 = .ok (.iconst 0, 1)) (by decide) (?_ : XW _ _ _ _ _ _ _ 84 _ _)
        exact xi_iret (by decide +kernel : decode mX10_board.2.1 84 = .ok (.ireturn, 1)) rfl rfl vc
      · replace vc := vc.2 c
        refine xi_aload_n (by decide +kernel : decode mX10_board.2.1 38 = .ok (.aload_n 0, 1)) rfl rfl (?_ : XW _ _ _ _ _ _ _ 39 _ _)
        refine xi_aload_n (by decide +kernel : decode mX10_board.2.1 39 = .ok (.aload_n 0, 1)) rfl rfl (?_ : XW _ _ _ _ _ _ _ 40 _ _)
        obtain ⟨s1, vc⟩ := vc
        refine xi_getR (y := 11) (by decide +kernel : decode mX10_board.2.1 40 = .ok (.getfield 32, 3)) fX10_32 rfl (by omega) rfl s1 (?_ : XW _ _ _ _ _ _ _ 43 _ _)
        refine xi_getI (by decide +kernel : decode mX10_board.2.1 43 = .ok (.getfield 112, 3)) fX10_112 rfl (by omega) rfl (?_ : XW _ _ _ _ _ _ _ 46 _ _)
        refine xi_putI (by decide +kernel : decode mX10_board.2.1 46 = .ok (.putfield 17, 3)) fX10_17 rfl (by omega) rfl rfl rfl (?_ : XW _ _ _ _ _ _ (xSI 0 (va_up (xI h1 0) 2 (xI h1 11 0)) h1) 49 _ _)
        refine xi_aload_n (by decide +kernel : decode mX10_board.2.1 49 = .ok (.aload_n 0, 1)) rfl rfl (?_ : XW _ _ _ _ _ _ _ 50 _ _)
        obtain ⟨s1, vc⟩ := vc
        refine xi_getR (y := 29) (by decide +kernel : decode mX10_board.2.1 50 = .ok (.getfield 49, 3)) fX10_49 rfl (by omega) rfl s1 (?_ : XW _ _ _ _ _ _ _ 53 _ _)
        refine xi_iconst (v := 0) (by decide +kernel : decode mX10_board.2.1 53 = .ok (.iconst 0, 1)) (by decide) (?_ : XW _ _ _ _ _ _ _ 54 _ _)
        obtain ⟨Q1, sp, vc⟩ := vc
        refine xi_callV (b := 1) (bs := 6) (As := [.int 0]) (st := []) (by decide +kernel : decode mX10_board.2.1 54 = .ok (.invokevirtual 115, 3)) kX10_115 rfl rfl (by omega) rfl sp (xrm_f (by omega)) (xrm_l (by omega) (Nat.le_of_ble_eq_true rfl)) (Nat.le_of_ble_eq_true rfl) (by omega) (fun v9 h4 hq9 => ?_)
        obtain ⟨e9, vc⟩ := vc v9 h4 hq9
        subst e9
        show XW _ _ _ _ _ _ _ 57 _ []
        refine xi_iload_n (by decide +kernel : decode mX10_board.2.1 57 = .ok (.iload_n 2, 1)) rfl rfl (?_ : XW _ _ _ _ _ _ _ 58 _ _)
        exact xi_iret (by decide +kernel : decode mX10_board.2.1 58 = .ok (.ireturn, 1)) rfl rfl vc
    · replace vc := vc.2 c
      exact xi_throw (b := 0) (bs := 0) xT_107 (by decide +kernel : decode mX10_board.2.1 12 = .ok (.new 105, 3)) (by decide +kernel : decode mX10_board.2.1 15 = .ok (.dup, 1)) (by decide +kernel : decode mX10_board.2.1 16 = .ok (.invokespecial 107, 3)) (by decide +kernel : decode mX10_board.2.1 19 = .ok (.athrow, 1)) rfl (by decide) (Nat.le_of_ble_eq_true rfl) vc

