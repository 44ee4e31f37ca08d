/-! THE REFERENCE: its walks of ways and sand -/
set_option maxRecDepth 20000 in
theorem v_X11_row_0 {h : XH} {Q : Option Value → XH → Prop} {X : String → XH → Prop} (hM : xMod (xP h))  (q : Int32)
    (vc : ((va_up (xI h 56) 2 0 38) = (-1) → ∃ Q1, XSpec mX11_fail 1 0 0 100 100 [.ref 56, .int 1] (xSI 56 (va_up (xI h 56) 2 0) h) Q1 xno ∧ ∀ v h1, Q1 v h1 → ∃ r1 : Int32, v = some (.int r1) ∧ (Q (some (.int r1)) h1)) ∧ (¬ (va_up (xI h 56) 2 0 38) = (-1) → ∃ Q1, XSpec mX11_isIn 1 0 0 100 100 [.long (Int32.toInt64 q), .long 0, .long (Int32.toInt64 ((va_up (xI h 56) 2 0 38) - 1))] (xSI 56 (va_up (xI h 56) 2 0) h) Q1 xno ∧ ∀ v h2, Q1 v h2 → ∃ r2 : Int32, v = some (.int r2) ∧ ((r2 = 0 → ∃ Q1, XSpec mX11_fail 1 0 0 100 100 [.ref 56, .int 1] h2 Q1 xno ∧ ∀ v h3, Q1 v h3 → ∃ r3 : Int32, v = some (.int r3) ∧ (Q (some (.int r3)) h3)) ∧ (¬ r2 = 0 → (xP h2 56 36 = some 79) ∧ ((vp_in q 101) ∧ (Q (some (.int (xI h2 79 q.toNatClampNeg))) h2)))))) :
    XW (xrm 2 0 0) mX11_row (xE 100 Q X 0 0) 100 0 0 h 0 [some (.ref 56), some (.int q)] [] := by
  refine xi_aload_n (by decide +kernel : decode mX11_row.2.1 0 = .ok (.aload_n 0, 1)) rfl rfl (?_ : XW _ _ _ _ _ _ _ 1 _ _)
  refine xi_iconst (v := 0) (by decide +kernel : decode mX11_row.2.1 1 = .ok (.iconst 0, 1)) (by decide) (?_ : XW _ _ _ _ _ _ _ 2 _ _)
  refine xi_putI (by decide +kernel : decode mX11_row.2.1 2 = .ok (.putfield 161, 3)) fX11_161 rfl (by omega) rfl rfl rfl (?_ : XW _ _ _ _ _ _ (xSI 56 (va_up (xI h 56) 2 0) h) 5 _ _)
  refine xi_aload_n (by decide +kernel : decode mX11_row.2.1 5 = .ok (.aload_n 0, 1)) rfl rfl (?_ : XW _ _ _ _ _ _ _ 6 _ _)
  refine xi_getI (by decide +kernel : decode mX11_row.2.1 6 = .ok (.getfield 103, 3)) fX11_103 rfl (by omega) rfl (?_ : XW _ _ _ _ _ _ _ 9 _ [.int (va_up (xI h 56) 2 0 38)])
  refine xi_iconst (v := (-1)) (by decide +kernel : decode mX11_row.2.1 9 = .ok (.iconst (-1), 1)) (by decide) (?_ : XW _ _ _ _ _ _ _ 10 _ _)
  refine xi_icmp_eq (by decide +kernel : decode mX11_row.2.1 10 = .ok (.if_icmp .eq 28, 3)) (by decide) (fun c => (?_ : XW _ _ _ _ _ _ _ 38 _ _)) (fun c => (?_ : XW _ _ _ _ _ _ _ 13 _ _))
  · replace vc := vc.1 c
    refine xi_aload_n (by decide +kernel : decode mX11_row.2.1 38 = .ok (.aload_n 0, 1)) rfl rfl (?_ : XW _ _ _ _ _ _ _ 39 _ _)
    refine xi_iconst (v := 1) (by decide +kernel : decode mX11_row.2.1 39 = .ok (.iconst 1, 1)) (by decide) (?_ : XW _ _ _ _ _ _ _ 40 _ _)
    obtain ⟨Q1, sp, vc⟩ := vc
    refine xi_callV (b := 0) (bs := 0) (As := [.int 1]) (st := []) (by decide +kernel : decode mX11_row.2.1 40 = .ok (.invokevirtual 311, 3)) kX11_311 rfl rfl (by omega) rfl sp (by decide) (by decide) (Nat.le_of_ble_eq_true rfl) (by omega) (fun v9 h1 hq9 => ?_)
    obtain ⟨r1, e9, vc⟩ := vc v9 h1 hq9
    subst e9
    show XW _ _ _ _ _ _ _ 43 _ [.int r1]
    exact xi_iret (by decide +kernel : decode mX11_row.2.1 43 = .ok (.ireturn, 1)) rfl rfl vc
  · replace vc := vc.2 c
    refine xi_iload_n (by decide +kernel : decode mX11_row.2.1 13 = .ok (.iload_n 1, 1)) rfl rfl (?_ : XW _ _ _ _ _ _ _ 14 _ _)
    refine xi_i2l (by decide +kernel : decode mX11_row.2.1 14 = .ok (.i2l, 1)) (?_ : XW _ _ _ _ _ _ _ 15 _ _)
    refine xi_lconst (v := 0) (by decide +kernel : decode mX11_row.2.1 15 = .ok (.lconst 0, 1)) (by decide) (?_ : XW _ _ _ _ _ _ _ 16 _ _)
    refine xi_aload_n (by decide +kernel : decode mX11_row.2.1 16 = .ok (.aload_n 0, 1)) rfl rfl (?_ : XW _ _ _ _ _ _ _ 17 _ _)
    refine xi_getI (by decide +kernel : decode mX11_row.2.1 17 = .ok (.getfield 103, 3)) fX11_103 rfl (by omega) rfl (?_ : XW _ _ _ _ _ _ _ 20 _ [.int (va_up (xI h 56) 2 0 38), .long 0, .long (Int32.toInt64 q)])
    refine xi_iconst (v := 1) (by decide +kernel : decode mX11_row.2.1 20 = .ok (.iconst 1, 1)) (by decide) (?_ : XW _ _ _ _ _ _ _ 21 _ _)
    refine xi_isub (by decide +kernel : decode mX11_row.2.1 21 = .ok (.isub, 1)) (?_ : XW _ _ _ _ _ _ _ 22 _ _)
    refine xi_i2l (by decide +kernel : decode mX11_row.2.1 22 = .ok (.i2l, 1)) (?_ : XW _ _ _ _ _ _ _ 23 _ _)
    obtain ⟨Q1, sp, vc⟩ := vc
    refine xi_callS (b := 0) (bs := 0) (As := [.long (Int32.toInt64 q), .long 0, .long (Int32.toInt64 ((va_up (xI h 56) 2 0 38) - 1))]) (st := []) (by decide +kernel : decode mX11_row.2.1 23 = .ok (.invokestatic 164, 3)) kX11_164 rfl rfl sp (by decide) (by decide) (Nat.le_of_ble_eq_true rfl) (by omega) (fun v9 h2 hq9 => ?_)
    obtain ⟨r2, e9, vc⟩ := vc v9 h2 hq9
    subst e9
    show XW _ _ _ _ _ _ _ 26 _ [.int r2]
    refine xi_if_eq (by decide +kernel : decode mX11_row.2.1 26 = .ok (.ifCond .eq 12, 3)) (by decide) (fun c => (?_ : XW _ _ _ _ _ _ _ 38 _ _)) (fun c => (?_ : XW _ _ _ _ _ _ _ 29 _ _))
    · replace vc := vc.1 c
      refine xi_aload_n (by decide +kernel : decode mX11_row.2.1 38 = .ok (.aload_n 0, 1)) rfl rfl (?_ : XW _ _ _ _ _ _ _ 39 _ _)
      refine xi_iconst (v := 1) (by decide +kernel : decode mX11_row.2.1 39 = .ok (.iconst 1, 1)) (by decide) (?_ : XW _ _ _ _ _ _ _ 40 _ _)
      obtain ⟨Q1, sp, vc⟩ := vc
      refine xi_callV (b := 0) (bs := 0) (As := [.int 1]) (st := []) (by decide +kernel : decode mX11_row.2.1 40 = .ok (.invokevirtual 311, 3)) kX11_311 rfl rfl (by omega) rfl sp (by decide) (by decide) (Nat.le_of_ble_eq_true rfl) (by omega) (fun v9 h3 hq9 => ?_)
      obtain ⟨r3, e9, vc⟩ := vc v9 h3 hq9
      subst e9
      show XW _ _ _ _ _ _ _ 43 _ [.int r3]
      exact xi_iret (by decide +kernel : decode mX11_row.2.1 43 = .ok (.ireturn, 1)) rfl rfl vc
    · replace vc := vc.2 c
      refine xi_aload_n (by decide +kernel : decode mX11_row.2.1 29 = .ok (.aload_n 0, 1)) rfl rfl (?_ : XW _ _ _ _ _ _ _ 30 _ _)
      obtain ⟨s1, vc⟩ := vc
      refine xi_getR (y := 79) (by decide +kernel : decode mX11_row.2.1 30 = .ok (.getfield 97, 3)) fX11_97 rfl (by omega) rfl s1 (?_ : XW _ _ _ _ _ _ _ 33 _ _)
      refine xi_iload_n (by decide +kernel : decode mX11_row.2.1 33 = .ok (.iload_n 1, 1)) rfl rfl (?_ : XW _ _ _ _ _ _ _ 34 _ _)
      obtain ⟨s1, vc⟩ := vc
      refine xi_iald (by decide +kernel : decode mX11_row.2.1 34 = .ok (.iaload, 1)) rfl (by omega) s1 (?_ : XW _ _ _ _ _ _ _ 35 _ _)
      refine xi_goto (by decide +kernel : decode mX11_row.2.1 35 = .ok (.goto 8, 3)) (by decide) (?_ : XW _ _ _ _ _ _ _ 43 _ _)
      exact xi_iret (by decide +kernel : decode mX11_row.2.1 43 = .ok (.ireturn, 1)) rfl rfl vc

set_option maxRecDepth 20000 in
theorem v_X11_grains_0 {h : XH} {Q : Option Value → XH → Prop} {X : String → XH → Prop} (hM : xMod (xP h))  (q : Int32) (n : Int32) (w : Int32)
    (vc : ∃ Q1, XSpec mX11_isSquare 2 0 0 100 100 [.ref 56, .int q] (xSI 56 (va_up (xI h 56) 2 0) h) Q1 xno ∧ ∀ v h1, Q1 v h1 → ∃ r1 : Int32, v = some (.int r1) ∧ ((r1 = 0 → ∃ Q1, XSpec mX11_fail 1 0 0 100 100 [.ref 56, .int 1] h1 Q1 xno ∧ ∀ v h2, Q1 v h2 → ∃ r2 : Int32, v = some (.int r2) ∧ (Q (some (.long (Int32.toInt64 r2))) h2)) ∧ (¬ r1 = 0 → ∃ Q1, XSpec mX11_isIn 1 0 0 100 100 [.long (Int32.toInt64 w), .long 0, .long 2] h1 Q1 xno ∧ ∀ v h3, Q1 v h3 → ∃ r3 : Int32, v = some (.int r3) ∧ ((¬ r3 = 0 → ∃ Q1, XSpec mX11_isLong 2 0 0 100 100 [.int n] h3 Q1 xno ∧ ∀ v h4, Q1 v h4 → ∃ r4 : Int32, v = some (.int r4) ∧ ((¬ r4 = 0 → ∃ Q1, XSpec mX11_tellBoard 5 0 0 100 100 [.ref 56] h4 Q1 xno ∧ ∀ v h5, Q1 v h5 → v = none ∧ ((¬ w = 1 → ∃ Q1, XSpec mX11_pour 1 0 0 100 100 [.ref 56, .int q] h5 Q1 xno ∧ ∀ v h6, Q1 v h6 → v = none ∧ (∃ Q1, XSpec mX11_out 1 0 0 100 100 [.ref 56] h6 Q1 xno ∧ ∀ v h7, Q1 v h7 → ∃ r7 : Int64, v = some (.long r7) ∧ (XW (xrm 6 0 0) mX11_grains (xE 100 Q X 0 0) 100 0 0 h7 76 [some (.ref 56), none, some (.int n), some (.int w), some (.long r7), none, some (.int 0)] []))) ∧ (w = 1 → ∃ Q1, XSpec mX11_longBy 3 0 0 100 100 [.ref 56, .int q, .int n] h5 Q1 xno ∧ ∀ v h8, Q1 v h8 → ∃ r8 : Int64, v = some (.long r8) ∧ (Q (some (.long r8)) h8)))) ∧ (r4 = 0 → ∃ Q1, XSpec mX11_fail 1 0 0 100 100 [.ref 56, .int 2] h4 Q1 xno ∧ ∀ v h9, Q1 v h9 → ∃ r9 : Int32, v = some (.int r9) ∧ (Q (some (.long (Int32.toInt64 r9))) h9)))) ∧ (r3 = 0 → ∃ Q1, XSpec mX11_fail 1 0 0 100 100 [.ref 56, .int 1] h3 Q1 xno ∧ ∀ v h10, Q1 v h10 → ∃ r10 : Int32, v = some (.int r10) ∧ (Q (some (.long (Int32.toInt64 r10))) h10)))))) :
    XW (xrm 6 0 0) mX11_grains (xE 100 Q X 0 0) 100 0 0 h 0 [some (.ref 56), some (.int q), some (.int n), some (.int w), none, none, none] [] := by
  refine xi_aload_n (by decide +kernel : decode mX11_grains.2.1 0 = .ok (.aload_n 0, 1)) rfl rfl (?_ : XW _ _ _ _ _ _ _ 1 _ _)
  refine xi_iconst (v := 0) (by decide +kernel : decode mX11_grains.2.1 1 = .ok (.iconst 0, 1)) (by decide) (?_ : XW _ _ _ _ _ _ _ 2 _ _)
  refine xi_putI (by decide +kernel : decode mX11_grains.2.1 2 = .ok (.putfield 161, 3)) fX11_161 rfl (by omega) rfl rfl rfl (?_ : XW _ _ _ _ _ _ (xSI 56 (va_up (xI h 56) 2 0) h) 5 _ _)
  refine xi_aload_n (by decide +kernel : decode mX11_grains.2.1 5 = .ok (.aload_n 0, 1)) rfl rfl (?_ : XW _ _ _ _ _ _ _ 6 _ _)
  refine xi_iload_n (by decide +kernel : decode mX11_grains.2.1 6 = .ok (.iload_n 1, 1)) rfl rfl (?_ : XW _ _ _ _ _ _ _ 7 _ _)
  obtain ⟨Q1, sp, vc⟩ := vc
  refine xi_callV (b := 0) (bs := 0) (As := [.int q]) (st := []) (by decide +kernel : decode mX11_grains.2.1 7 = .ok (.invokevirtual 367, 3)) kX11_367 rfl rfl (by omega) rfl sp (by decide) (by decide) (Nat.le_of_ble_eq_true rfl) (by omega) (fun v9 h1 hq9 => ?_)
  obtain ⟨r1, e9, vc⟩ := vc v9 h1 hq9
  subst e9
  show XW _ _ _ _ _ _ _ 10 _ [.int r1]
  refine xi_if_eq (by decide +kernel : decode mX11_grains.2.1 10 = .ok (.ifCond .eq 15, 3)) (by decide) (fun c => (?_ : XW _ _ _ _ _ _ _ 25 _ _)) (fun c => (?_ : XW _ _ _ _ _ _ _ 13 _ _))
  · replace vc := vc.1 c
    refine xi_aload_n (by decide +kernel : decode mX11_grains.2.1 25 = .ok (.aload_n 0, 1)) rfl rfl (?_ : XW _ _ _ _ _ _ _ 26 _ _)
    refine xi_iconst (v := 1) (by decide +kernel : decode mX11_grains.2.1 26 = .ok (.iconst 1, 1)) (by decide) (?_ : XW _ _ _ _ _ _ _ 27 _ _)
    obtain ⟨Q1, sp, vc⟩ := vc
    refine xi_callV (b := 0) (bs := 0) (As := [.int 1]) (st := []) (by decide +kernel : decode mX11_grains.2.1 27 = .ok (.invokevirtual 311, 3)) kX11_311 rfl rfl (by omega) rfl sp (by decide) (by decide) (Nat.le_of_ble_eq_true rfl) (by omega) (fun v9 h2 hq9 => ?_)
    obtain ⟨r2, e9, vc⟩ := vc v9 h2 hq9
    subst e9
    show XW _ _ _ _ _ _ _ 30 _ [.int r2]
    refine xi_i2l (by decide +kernel : decode mX11_grains.2.1 30 = .ok (.i2l, 1)) (?_ : XW _ _ _ _ _ _ _ 31 _ _)
    exact xi_lret (by decide +kernel : decode mX11_grains.2.1 31 = .ok (.lreturn, 1)) rfl vc
  · replace vc := vc.2 c
    refine xi_iload_n (by decide +kernel : decode mX11_grains.2.1 13 = .ok (.iload_n 3, 1)) rfl rfl (?_ : XW _ _ _ _ _ _ _ 14 _ _)
    refine xi_i2l (by decide +kernel : decode mX11_grains.2.1 14 = .ok (.i2l, 1)) (?_ : XW _ _ _ _ _ _ _ 15 _ _)
    refine xi_lconst (v := 0) (by decide +kernel : decode mX11_grains.2.1 15 = .ok (.lconst 0, 1)) (by decide) (?_ : XW _ _ _ _ _ _ _ 16 _ _)
    refine xi_ldc2 (v := 2) (by decide +kernel : decode mX11_grains.2.1 16 = .ok (.ldc2_w 415, 3)) cK_X11_415 (?_ : XW _ _ _ _ _ _ _ 19 _ _)
    obtain ⟨Q1, sp, vc⟩ := vc
    refine xi_callS (b := 0) (bs := 0) (As := [.long (Int32.toInt64 w), .long 0, .long 2]) (st := []) (by decide +kernel : decode mX11_grains.2.1 19 = .ok (.invokestatic 164, 3)) kX11_164 rfl rfl sp (by decide) (by decide) (Nat.le_of_ble_eq_true rfl) (by omega) (fun v9 h3 hq9 => ?_)
    obtain ⟨r3, e9, vc⟩ := vc v9 h3 hq9
    subst e9
    show XW _ _ _ _ _ _ _ 22 _ [.int r3]
    refine xi_if_ne (by decide +kernel : decode mX11_grains.2.1 22 = .ok (.ifCond .ne 10, 3)) (by decide) (fun c => (?_ : XW _ _ _ _ _ _ _ 32 _ _)) (fun c => (?_ : XW _ _ _ _ _ _ _ 25 _ _))
    · replace vc := vc.1 c
      refine xi_iload_n (by decide +kernel : decode mX11_grains.2.1 32 = .ok (.iload_n 2, 1)) rfl rfl (?_ : XW _ _ _ _ _ _ _ 33 _ _)
      obtain ⟨Q1, sp, vc⟩ := vc
      refine xi_callS (b := 0) (bs := 0) (As := [.int n]) (st := []) (by decide +kernel : decode mX11_grains.2.1 33 = .ok (.invokestatic 417, 3)) kX11_417 rfl rfl sp (by decide) (by decide) (Nat.le_of_ble_eq_true rfl) (by omega) (fun v9 h4 hq9 => ?_)
      obtain ⟨r4, e9, vc⟩ := vc v9 h4 hq9
      subst e9
      show XW _ _ _ _ _ _ _ 36 _ [.int r4]
      refine xi_if_ne (by decide +kernel : decode mX11_grains.2.1 36 = .ok (.ifCond .ne 10, 3)) (by decide) (fun c => (?_ : XW _ _ _ _ _ _ _ 46 _ _)) (fun c => (?_ : XW _ _ _ _ _ _ _ 39 _ _))
      · replace vc := vc.1 c
        refine xi_aload_n (by decide +kernel : decode mX11_grains.2.1 46 = .ok (.aload_n 0, 1)) rfl rfl (?_ : XW _ _ _ _ _ _ _ 47 _ _)
        obtain ⟨Q1, sp, vc⟩ := vc
        refine xi_callV (b := 0) (bs := 0) (As := []) (st := []) (by decide +kernel : decode mX11_grains.2.1 47 = .ok (.invokevirtual 373, 3)) kX11_373 rfl rfl (by omega) rfl sp (by decide) (by decide) (Nat.le_of_ble_eq_true rfl) (by omega) (fun v9 h5 hq9 => ?_)
        obtain ⟨e9, vc⟩ := vc v9 h5 hq9
        subst e9
        show XW _ _ _ _ _ _ _ 50 _ []
        refine xi_iload_n (by decide +kernel : decode mX11_grains.2.1 50 = .ok (.iload_n 3, 1)) rfl rfl (?_ : XW _ _ _ _ _ _ _ 51 _ _)
        refine xi_iconst (v := 1) (by decide +kernel : decode mX11_grains.2.1 51 = .ok (.iconst 1, 1)) (by decide) (?_ : XW _ _ _ _ _ _ _ 52 _ _)
        refine xi_icmp_ne (by decide +kernel : decode mX11_grains.2.1 52 = .ok (.if_icmp .ne 10, 3)) (by decide) (fun c => (?_ : XW _ _ _ _ _ _ _ 62 _ _)) (fun c => (?_ : XW _ _ _ _ _ _ _ 55 _ _))
        · replace vc := vc.1 c
          refine xi_aload_n (by decide +kernel : decode mX11_grains.2.1 62 = .ok (.aload_n 0, 1)) rfl rfl (?_ : XW _ _ _ _ _ _ _ 63 _ _)
          refine xi_iload_n (by decide +kernel : decode mX11_grains.2.1 63 = .ok (.iload_n 1, 1)) rfl rfl (?_ : XW _ _ _ _ _ _ _ 64 _ _)
          obtain ⟨Q1, sp, vc⟩ := vc
          refine xi_callV (b := 0) (bs := 0) (As := [.int q]) (st := []) (by decide +kernel : decode mX11_grains.2.1 64 = .ok (.invokevirtual 405, 3)) kX11_405 rfl rfl (by omega) rfl sp (by decide) (by decide) (Nat.le_of_ble_eq_true rfl) (by omega) (fun v9 h6 hq9 => ?_)
          obtain ⟨e9, vc⟩ := vc v9 h6 hq9
          subst e9
          show XW _ _ _ _ _ _ _ 67 _ []
          refine xi_aload_n (by decide +kernel : decode mX11_grains.2.1 67 = .ok (.aload_n 0, 1)) rfl rfl (?_ : XW _ _ _ _ _ _ _ 68 _ _)
          obtain ⟨Q1, sp, vc⟩ := vc
          refine xi_callV (b := 0) (bs := 0) (As := []) (st := []) (by decide +kernel : decode mX11_grains.2.1 68 = .ok (.invokevirtual 408, 3)) kX11_408 rfl rfl (by omega) rfl sp (by decide) (by decide) (Nat.le_of_ble_eq_true rfl) (by omega) (fun v9 h7 hq9 => ?_)
          obtain ⟨r7, e9, vc⟩ := vc v9 h7 hq9
          subst e9
          show XW _ _ _ _ _ _ _ 71 _ [.long r7]
          refine xi_lstore (ls' := [some (.ref 56), some (.int q), some (.int n), some (.int w), some (.long r7), none, none]) (by decide +kernel : decode mX11_grains.2.1 71 = .ok (.lstore 4, 2)) (by decide) rfl (?_ : XW _ _ _ _ _ _ _ 73 _ _)
          refine xi_iconst (v := 0) (by decide +kernel : decode mX11_grains.2.1 73 = .ok (.iconst 0, 1)) (by decide) (?_ : XW _ _ _ _ _ _ _ 74 _ _)
          refine xi_istore (ls' := [some (.ref 56), some (.int q), some (.int n), some (.int w), some (.long r7), none, some (.int 0)]) (by decide +kernel : decode mX11_grains.2.1 74 = .ok (.istore 6, 2)) (by decide) rfl (?_ : XW _ _ _ _ _ _ _ 76 _ _)
          refine xw_drop 1 (ls' := [some (.ref 56), none, some (.int n), some (.int w), some (.long r7), none, some (.int 0)]) rfl ?_
          exact vc
        · replace vc := vc.2 c
          refine xi_aload_n (by decide +kernel : decode mX11_grains.2.1 55 = .ok (.aload_n 0, 1)) rfl rfl (?_ : XW _ _ _ _ _ _ _ 56 _ _)
          refine xi_iload_n (by decide +kernel : decode mX11_grains.2.1 56 = .ok (.iload_n 1, 1)) rfl rfl (?_ : XW _ _ _ _ _ _ _ 57 _ _)
          refine xi_iload_n (by decide +kernel : decode mX11_grains.2.1 57 = .ok (.iload_n 2, 1)) rfl rfl (?_ : XW _ _ _ _ _ _ _ 58 _ _)
          obtain ⟨Q1, sp, vc⟩ := vc
          refine xi_callV (b := 0) (bs := 0) (As := [.int q, .int n]) (st := []) (by decide +kernel : decode mX11_grains.2.1 58 = .ok (.invokevirtual 420, 3)) kX11_420 rfl rfl (by omega) rfl sp (by decide) (by decide) (Nat.le_of_ble_eq_true rfl) (by omega) (fun v9 h8 hq9 => ?_)
          obtain ⟨r8, e9, vc⟩ := vc v9 h8 hq9
          subst e9
          show XW _ _ _ _ _ _ _ 61 _ [.long r8]
          exact xi_lret (by decide +kernel : decode mX11_grains.2.1 61 = .ok (.lreturn, 1)) rfl vc
      · replace vc := vc.2 c
        refine xi_aload_n (by decide +kernel : decode mX11_grains.2.1 39 = .ok (.aload_n 0, 1)) rfl rfl (?_ : XW _ _ _ _ _ _ _ 40 _ _)
        refine xi_iconst (v := 2) (by decide +kernel : decode mX11_grains.2.1 40 = .ok (.iconst 2, 1)) (by decide) (?_ : XW _ _ _ _ _ _ _ 41 _ _)
        obtain ⟨Q1, sp, vc⟩ := vc
        refine xi_callV (b := 0) (bs := 0) (As := [.int 2]) (st := []) (by decide +kernel : decode mX11_grains.2.1 41 = .ok (.invokevirtual 311, 3)) kX11_311 rfl rfl (by omega) rfl sp (by decide) (by decide) (Nat.le_of_ble_eq_true rfl) (by omega) (fun v9 h9 hq9 => ?_)
        obtain ⟨r9, e9, vc⟩ := vc v9 h9 hq9
        subst e9
        show XW _ _ _ _ _ _ _ 44 _ [.int r9]
        refine xi_i2l (by decide +kernel : decode mX11_grains.2.1 44 = .ok (.i2l, 1)) (?_ : XW _ _ _ _ _ _ _ 45 _ _)
        exact xi_lret (by decide +kernel : decode mX11_grains.2.1 45 = .ok (.lreturn, 1)) rfl vc
    · replace vc := vc.2 c
      refine xi_aload_n (by decide +kernel : decode mX11_grains.2.1 25 = .ok (.aload_n 0, 1)) rfl rfl (?_ : XW _ _ _ _ _ _ _ 26 _ _)
      refine xi_iconst (v := 1) (by decide +kernel : decode mX11_grains.2.1 26 = .ok (.iconst 1, 1)) (by decide) (?_ : XW _ _ _ _ _ _ _ 27 _ _)
      obtain ⟨Q1, sp, vc⟩ := vc
      refine xi_callV (b := 0) (bs := 0) (As := [.int 1]) (st := []) (by decide +kernel : decode mX11_grains.2.1 27 = .ok (.invokevirtual 311, 3)) kX11_311 rfl rfl (by omega) rfl sp (by decide) (by decide) (Nat.le_of_ble_eq_true rfl) (by omega) (fun v9 h10 hq9 => ?_)
      obtain ⟨r10, e9, vc⟩ := vc v9 h10 hq9
      subst e9
      show XW _ _ _ _ _ _ _ 30 _ [.int r10]
      refine xi_i2l (by decide +kernel : decode mX11_grains.2.1 30 = .ok (.i2l, 1)) (?_ : XW _ _ _ _ _ _ _ 31 _ _)
      exact xi_lret (by decide +kernel : decode mX11_grains.2.1 31 = .ok (.lreturn, 1)) rfl vc

set_option maxRecDepth 20000 in
theorem v_X11_grains_76 {h : XH} {Q : Option Value → XH → Prop} {X : String → XH → Prop} (hM : xMod (xP h))  (x2 : Int32) (x3 : Int32) (x4 : Int64) (x6 : Int32)
    (vc : (x2 ≤ x6 → (¬ x3 = 0 → (¬ x2 = 0 → ∃ Q1, XSpec mX11_out 1 0 0 100 100 [.ref 56] h Q1 xno ∧ ∀ v h11, Q1 v h11 → ∃ r11 : Int64, v = some (.long r11) ∧ (Q (some (.long (x4 - r11))) h11)) ∧ (x2 = 0 → Q (some (.long 0)) h)) ∧ (x3 = 0 → ∃ Q1, XSpec mX11_out 1 0 0 100 100 [.ref 56] h Q1 xno ∧ ∀ v h12, Q1 v h12 → ∃ r12 : Int64, v = some (.long r12) ∧ (Q (some (.long r12)) h12))) ∧ (¬ x2 ≤ x6 → ∃ Q1, XSpec mX11_out 1 0 0 100 100 [.ref 56] h Q1 xno ∧ ∀ v h13, Q1 v h13 → ∃ r13 : Int64, v = some (.long r13) ∧ (∃ Q1, XSpec mX11_share 2 0 0 100 100 [.ref 56] h13 Q1 xno ∧ ∀ v h14, Q1 v h14 → v = none ∧ (XW (xrm 6 0 0) mX11_grains (xE 100 Q X 0 0) 100 0 0 h14 76 [some (.ref 56), none, some (.int x2), some (.int x3), some (.long r13), none, some (.int (x6 + 1))] [])))) :
    XW (xrm 6 0 0) mX11_grains (xE 100 Q X 0 0) 100 0 0 h 76 [some (.ref 56), none, some (.int x2), some (.int x3), some (.long x4), none, some (.int x6)] [] := by
  refine xi_iload (by decide +kernel : decode mX11_grains.2.1 76 = .ok (.iload 6, 2)) rfl (?_ : XW _ _ _ _ _ _ _ 78 _ _)
  refine xi_iload_n (by decide +kernel : decode mX11_grains.2.1 78 = .ok (.iload_n 2, 1)) rfl rfl (?_ : XW _ _ _ _ _ _ _ 79 _ _)
  refine xi_icmp_ge (by decide +kernel : decode mX11_grains.2.1 79 = .ok (.if_icmp .ge 19, 3)) (by decide) (fun c => (?_ : XW _ _ _ _ _ _ _ 98 _ _)) (fun c => (?_ : XW _ _ _ _ _ _ _ 82 _ _))
  · replace vc := vc.1 c
    refine xi_iload_n (by decide +kernel : decode mX11_grains.2.1 98 = .ok (.iload_n 3, 1)) rfl rfl (?_ : XW _ _ _ _ _ _ _ 99 _ _)
    refine xi_if_ne (by decide +kernel : decode mX11_grains.2.1 99 = .ok (.ifCond .ne 10, 3)) (by decide) (fun c => (?_ : XW _ _ _ _ _ _ _ 109 _ _)) (fun c => (?_ : XW _ _ _ _ _ _ _ 102 _ _))
    · replace vc := vc.1 c
      refine xi_iload_n (by decide +kernel : decode mX11_grains.2.1 109 = .ok (.iload_n 2, 1)) rfl rfl (?_ : XW _ _ _ _ _ _ _ 110 _ _)
      refine xi_if_ne (by decide +kernel : decode mX11_grains.2.1 110 = .ok (.ifCond .ne 7, 3)) (by decide) (fun c => (?_ : XW _ _ _ _ _ _ _ 117 _ _)) (fun c => (?_ : XW _ _ _ _ _ _ _ 113 _ _))
      · replace vc := vc.1 c
        refine xi_lload (by decide +kernel : decode mX11_grains.2.1 117 = .ok (.lload 4, 2)) rfl (?_ : XW _ _ _ _ _ _ _ 119 _ _)
        refine xi_aload_n (by decide +kernel : decode mX11_grains.2.1 119 = .ok (.aload_n 0, 1)) rfl rfl (?_ : XW _ _ _ _ _ _ _ 120 _ _)
        obtain ⟨Q1, sp, vc⟩ := vc
        refine xi_callV (b := 0) (bs := 0) (As := []) (st := [.long x4]) (by decide +kernel : decode mX11_grains.2.1 120 = .ok (.invokevirtual 408, 3)) kX11_408 rfl rfl (by omega) rfl sp (by decide) (by decide) (Nat.le_of_ble_eq_true rfl) (by omega) (fun v9 h11 hq9 => ?_)
        obtain ⟨r11, e9, vc⟩ := vc v9 h11 hq9
        subst e9
        show XW _ _ _ _ _ _ _ 123 _ [.long r11, .long x4]
        refine xi_lsub (by decide +kernel : decode mX11_grains.2.1 123 = .ok (.lsub, 1)) (?_ : XW _ _ _ _ _ _ _ 124 _ _)
        exact xi_lret (by decide +kernel : decode mX11_grains.2.1 124 = .ok (.lreturn, 1)) rfl vc
      · replace vc := vc.2 c
        refine xi_lconst (v := 0) (by decide +kernel : decode mX11_grains.2.1 113 = .ok (.lconst 0, 1)) (by decide) (?_ : XW _ _ _ _ _ _ _ 114 _ _)
        refine xi_goto (by decide +kernel : decode mX11_grains.2.1 114 = .ok (.goto 10, 3)) (by decide) (?_ : XW _ _ _ _ _ _ _ 124 _ _)
        exact xi_lret (by decide +kernel : decode mX11_grains.2.1 124 = .ok (.lreturn, 1)) rfl vc
    · replace vc := vc.2 c
      refine xi_aload_n (by decide +kernel : decode mX11_grains.2.1 102 = .ok (.aload_n 0, 1)) rfl rfl (?_ : XW _ _ _ _ _ _ _ 103 _ _)
      obtain ⟨Q1, sp, vc⟩ := vc
      refine xi_callV (b := 0) (bs := 0) (As := []) (st := []) (by decide +kernel : decode mX11_grains.2.1 103 = .ok (.invokevirtual 408, 3)) kX11_408 rfl rfl (by omega) rfl sp (by decide) (by decide) (Nat.le_of_ble_eq_true rfl) (by omega) (fun v9 h12 hq9 => ?_)
      obtain ⟨r12, e9, vc⟩ := vc v9 h12 hq9
      subst e9
      show XW _ _ _ _ _ _ _ 106 _ [.long r12]
      refine xi_goto (by decide +kernel : decode mX11_grains.2.1 106 = .ok (.goto 18, 3)) (by decide) (?_ : XW _ _ _ _ _ _ _ 124 _ _)
      exact xi_lret (by decide +kernel : decode mX11_grains.2.1 124 = .ok (.lreturn, 1)) rfl vc
  · replace vc := vc.2 c
    refine xi_aload_n (by decide +kernel : decode mX11_grains.2.1 82 = .ok (.aload_n 0, 1)) rfl rfl (?_ : XW _ _ _ _ _ _ _ 83 _ _)
    obtain ⟨Q1, sp, vc⟩ := vc
    refine xi_callV (b := 0) (bs := 0) (As := []) (st := []) (by decide +kernel : decode mX11_grains.2.1 83 = .ok (.invokevirtual 408, 3)) kX11_408 rfl rfl (by omega) rfl sp (by decide) (by decide) (Nat.le_of_ble_eq_true rfl) (by omega) (fun v9 h13 hq9 => ?_)
    obtain ⟨r13, e9, vc⟩ := vc v9 h13 hq9
    subst e9
    show XW _ _ _ _ _ _ _ 86 _ [.long r13]
    refine xi_lstore (ls' := [some (.ref 56), none, some (.int x2), some (.int x3), some (.long r13), none, some (.int x6)]) (by decide +kernel : decode mX11_grains.2.1 86 = .ok (.lstore 4, 2)) (by decide) rfl (?_ : XW _ _ _ _ _ _ _ 88 _ _)
    refine xi_aload_n (by decide +kernel : decode mX11_grains.2.1 88 = .ok (.aload_n 0, 1)) rfl rfl (?_ : XW _ _ _ _ _ _ _ 89 _ _)
    obtain ⟨Q1, sp, vc⟩ := vc
    refine xi_callV (b := 0) (bs := 0) (As := []) (st := []) (by decide +kernel : decode mX11_grains.2.1 89 = .ok (.invokevirtual 412, 3)) kX11_412 rfl rfl (by omega) rfl sp (by decide) (by decide) (Nat.le_of_ble_eq_true rfl) (by omega) (fun v9 h14 hq9 => ?_)
    obtain ⟨e9, vc⟩ := vc v9 h14 hq9
    subst e9
    show XW _ _ _ _ _ _ _ 92 _ []
    refine xi_iinc (v := x6 + 1) (ls' := [some (.ref 56), none, some (.int x2), some (.int x3), some (.long r13), none, some (.int (x6 + 1))]) (by decide +kernel : decode mX11_grains.2.1 92 = .ok (.iinc 6 1, 3)) rfl rfl (by decide) rfl (?_ : XW _ _ _ _ _ _ _ 95 _ _)
    refine xi_goto (by decide +kernel : decode mX11_grains.2.1 95 = .ok (.goto (-19), 3)) (by decide) (?_ : XW _ _ _ _ _ _ _ 76 _ _)
    exact vc

set_option maxRecDepth 20000 in
theorem v_X11_stood_0 {h : XH} {Q : Option Value → XH → Prop} {X : String → XH → Prop} (hM : xMod (xP h))  (f : Int32) (q : Int32) (n : Int32)
    (vc : ∃ Q1, XSpec mX11_isSquare 2 0 0 100 100 [.ref 56, .int f] (xSI 56 (va_up (xI h 56) 2 0) h) Q1 xno ∧ ∀ v h1, Q1 v h1 → ∃ r1 : Int32, v = some (.int r1) ∧ ((r1 = 0 → ∃ Q1, XSpec mX11_fail 1 0 0 100 100 [.ref 56, .int 1] h1 Q1 xno ∧ ∀ v h2, Q1 v h2 → ∃ r2 : Int32, v = some (.int r2) ∧ (Q (some (.long (Int32.toInt64 r2))) h2)) ∧ (¬ r1 = 0 → ∃ Q1, XSpec mX11_isSquare 2 0 0 100 100 [.ref 56, .int q] h1 Q1 xno ∧ ∀ v h3, Q1 v h3 → ∃ r3 : Int32, v = some (.int r3) ∧ ((¬ r3 = 0 → ∃ Q1, XSpec mX11_isLong 2 0 0 100 100 [.int n] h3 Q1 xno ∧ ∀ v h4, Q1 v h4 → ∃ r4 : Int32, v = some (.int r4) ∧ ((¬ r4 = 0 → ∃ Q1, XSpec mX11_tellBoard 5 0 0 100 100 [.ref 56] h4 Q1 xno ∧ ∀ v h5, Q1 v h5 → v = none ∧ (∃ Q1, XSpec mX11_pour 1 0 0 100 100 [.ref 56, .int f] h5 Q1 xno ∧ ∀ v h6, Q1 v h6 → v = none ∧ (XW (xrm 6 0 0) mX11_stood (xE 100 Q X 0 0) 100 0 0 h6 57 [some (.ref 56), none, some (.int q), some (.int n), some (.long 0), none, some (.int 0)] []))) ∧ (r4 = 0 → ∃ Q1, XSpec mX11_fail 1 0 0 100 100 [.ref 56, .int 2] h4 Q1 xno ∧ ∀ v h7, Q1 v h7 → ∃ r7 : Int32, v = some (.int r7) ∧ (Q (some (.long (Int32.toInt64 r7))) h7)))) ∧ (r3 = 0 → ∃ Q1, XSpec mX11_fail 1 0 0 100 100 [.ref 56, .int 1] h3 Q1 xno ∧ ∀ v h8, Q1 v h8 → ∃ r8 : Int32, v = some (.int r8) ∧ (Q (some (.long (Int32.toInt64 r8))) h8)))))) :
    XW (xrm 6 0 0) mX11_stood (xE 100 Q X 0 0) 100 0 0 h 0 [some (.ref 56), some (.int f), some (.int q), some (.int n), none, none, none] [] := by
  refine xi_aload_n (by decide +kernel : decode mX11_stood.2.1 0 = .ok (.aload_n 0, 1)) rfl rfl (?_ : XW _ _ _ _ _ _ _ 1 _ _)
  refine xi_iconst (v := 0) (by decide +kernel : decode mX11_stood.2.1 1 = .ok (.iconst 0, 1)) (by decide) (?_ : XW _ _ _ _ _ _ _ 2 _ _)
  refine xi_putI (by decide +kernel : decode mX11_stood.2.1 2 = .ok (.putfield 161, 3)) fX11_161 rfl (by omega) rfl rfl rfl (?_ : XW _ _ _ _ _ _ (xSI 56 (va_up (xI h 56) 2 0) h) 5 _ _)
  refine xi_aload_n (by decide +kernel : decode mX11_stood.2.1 5 = .ok (.aload_n 0, 1)) rfl rfl (?_ : XW _ _ _ _ _ _ _ 6 _ _)
  refine xi_iload_n (by decide +kernel : decode mX11_stood.2.1 6 = .ok (.iload_n 1, 1)) rfl rfl (?_ : XW _ _ _ _ _ _ _ 7 _ _)
  obtain ⟨Q1, sp, vc⟩ := vc
  refine xi_callV (b := 0) (bs := 0) (As := [.int f]) (st := []) (by decide +kernel : decode mX11_stood.2.1 7 = .ok (.invokevirtual 367, 3)) kX11_367 rfl rfl (by omega) rfl sp (by decide) (by decide) (Nat.le_of_ble_eq_true rfl) (by omega) (fun v9 h1 hq9 => ?_)
  obtain ⟨r1, e9, vc⟩ := vc v9 h1 hq9
  subst e9
  show XW _ _ _ _ _ _ _ 10 _ [.int r1]
  refine xi_if_eq (by decide +kernel : decode mX11_stood.2.1 10 = .ok (.ifCond .eq 11, 3)) (by decide) (fun c => (?_ : XW _ _ _ _ _ _ _ 21 _ _)) (fun c => (?_ : XW _ _ _ _ _ _ _ 13 _ _))
  · replace vc := vc.1 c
    refine xi_aload_n (by decide +kernel : decode mX11_stood.2.1 21 = .ok (.aload_n 0, 1)) rfl rfl (?_ : XW _ _ _ _ _ _ _ 22 _ _)
    refine xi_iconst (v := 1) (by decide +kernel : decode mX11_stood.2.1 22 = .ok (.iconst 1, 1)) (by decide) (?_ : XW _ _ _ _ _ _ _ 23 _ _)
    obtain ⟨Q1, sp, vc⟩ := vc
    refine xi_callV (b := 0) (bs := 0) (As := [.int 1]) (st := []) (by decide +kernel : decode mX11_stood.2.1 23 = .ok (.invokevirtual 311, 3)) kX11_311 rfl rfl (by omega) rfl sp (by decide) (by decide) (Nat.le_of_ble_eq_true rfl) (by omega) (fun v9 h2 hq9 => ?_)
    obtain ⟨r2, e9, vc⟩ := vc v9 h2 hq9
    subst e9
    show XW _ _ _ _ _ _ _ 26 _ [.int r2]
    refine xi_i2l (by decide +kernel : decode mX11_stood.2.1 26 = .ok (.i2l, 1)) (?_ : XW _ _ _ _ _ _ _ 27 _ _)
    exact xi_lret (by decide +kernel : decode mX11_stood.2.1 27 = .ok (.lreturn, 1)) rfl vc
  · replace vc := vc.2 c
    refine xi_aload_n (by decide +kernel : decode mX11_stood.2.1 13 = .ok (.aload_n 0, 1)) rfl rfl (?_ : XW _ _ _ _ _ _ _ 14 _ _)
    refine xi_iload_n (by decide +kernel : decode mX11_stood.2.1 14 = .ok (.iload_n 2, 1)) rfl rfl (?_ : XW _ _ _ _ _ _ _ 15 _ _)
    obtain ⟨Q1, sp, vc⟩ := vc
    refine xi_callV (b := 0) (bs := 0) (As := [.int q]) (st := []) (by decide +kernel : decode mX11_stood.2.1 15 = .ok (.invokevirtual 367, 3)) kX11_367 rfl rfl (by omega) rfl sp (by decide) (by decide) (Nat.le_of_ble_eq_true rfl) (by omega) (fun v9 h3 hq9 => ?_)
    obtain ⟨r3, e9, vc⟩ := vc v9 h3 hq9
    subst e9
    show XW _ _ _ _ _ _ _ 18 _ [.int r3]
    refine xi_if_ne (by decide +kernel : decode mX11_stood.2.1 18 = .ok (.ifCond .ne 10, 3)) (by decide) (fun c => (?_ : XW _ _ _ _ _ _ _ 28 _ _)) (fun c => (?_ : XW _ _ _ _ _ _ _ 21 _ _))
    · replace vc := vc.1 c
      refine xi_iload_n (by decide +kernel : decode mX11_stood.2.1 28 = .ok (.iload_n 3, 1)) rfl rfl (?_ : XW _ _ _ _ _ _ _ 29 _ _)
      obtain ⟨Q1, sp, vc⟩ := vc
      refine xi_callS (b := 0) (bs := 0) (As := [.int n]) (st := []) (by decide +kernel : decode mX11_stood.2.1 29 = .ok (.invokestatic 417, 3)) kX11_417 rfl rfl sp (by decide) (by decide) (Nat.le_of_ble_eq_true rfl) (by omega) (fun v9 h4 hq9 => ?_)
      obtain ⟨r4, e9, vc⟩ := vc v9 h4 hq9
      subst e9
      show XW _ _ _ _ _ _ _ 32 _ [.int r4]
      refine xi_if_ne (by decide +kernel : decode mX11_stood.2.1 32 = .ok (.ifCond .ne 10, 3)) (by decide) (fun c => (?_ : XW _ _ _ _ _ _ _ 42 _ _)) (fun c => (?_ : XW _ _ _ _ _ _ _ 35 _ _))
      · replace vc := vc.1 c
        refine xi_aload_n (by decide +kernel : decode mX11_stood.2.1 42 = .ok (.aload_n 0, 1)) rfl rfl (?_ : XW _ _ _ _ _ _ _ 43 _ _)
        obtain ⟨Q1, sp, vc⟩ := vc
        refine xi_callV (b := 0) (bs := 0) (As := []) (st := []) (by decide +kernel : decode mX11_stood.2.1 43 = .ok (.invokevirtual 373, 3)) kX11_373 rfl rfl (by omega) rfl sp (by decide) (by decide) (Nat.le_of_ble_eq_true rfl) (by omega) (fun v9 h5 hq9 => ?_)
        obtain ⟨e9, vc⟩ := vc v9 h5 hq9
        subst e9
        show XW _ _ _ _ _ _ _ 46 _ []
        refine xi_aload_n (by decide +kernel : decode mX11_stood.2.1 46 = .ok (.aload_n 0, 1)) rfl rfl (?_ : XW _ _ _ _ _ _ _ 47 _ _)
        refine xi_iload_n (by decide +kernel : decode mX11_stood.2.1 47 = .ok (.iload_n 1, 1)) rfl rfl (?_ : XW _ _ _ _ _ _ _ 48 _ _)
        obtain ⟨Q1, sp, vc⟩ := vc
        refine xi_callV (b := 0) (bs := 0) (As := [.int f]) (st := []) (by decide +kernel : decode mX11_stood.2.1 48 = .ok (.invokevirtual 405, 3)) kX11_405 rfl rfl (by omega) rfl sp (by decide) (by decide) (Nat.le_of_ble_eq_true rfl) (by omega) (fun v9 h6 hq9 => ?_)
        obtain ⟨e9, vc⟩ := vc v9 h6 hq9
        subst e9
        show XW _ _ _ _ _ _ _ 51 _ []
        refine xi_lconst (v := 0) (by decide +kernel : decode mX11_stood.2.1 51 = .ok (.lconst 0, 1)) (by decide) (?_ : XW _ _ _ _ _ _ _ 52 _ _)
        refine xi_lstore (ls' := [some (.ref 56), some (.int f), some (.int q), some (.int n), some (.long 0), none, none]) (by decide +kernel : decode mX11_stood.2.1 52 = .ok (.lstore 4, 2)) (by decide) rfl (?_ : XW _ _ _ _ _ _ _ 54 _ _)
        refine xi_iconst (v := 0) (by decide +kernel : decode mX11_stood.2.1 54 = .ok (.iconst 0, 1)) (by decide) (?_ : XW _ _ _ _ _ _ _ 55 _ _)
        refine xi_istore (ls' := [some (.ref 56), some (.int f), some (.int q), some (.int n), some (.long 0), none, some (.int 0)]) (by decide +kernel : decode mX11_stood.2.1 55 = .ok (.istore 6, 2)) (by decide) rfl (?_ : XW _ _ _ _ _ _ _ 57 _ _)
        refine xw_drop 1 (ls' := [some (.ref 56), none, some (.int q), some (.int n), some (.long 0), none, some (.int 0)]) rfl ?_
        exact vc
      · replace vc := vc.2 c
        refine xi_aload_n (by decide +kernel : decode mX11_stood.2.1 35 = .ok (.aload_n 0, 1)) rfl rfl (?_ : XW _ _ _ _ _ _ _ 36 _ _)
        refine xi_iconst (v := 2) (by decide +kernel : decode mX11_stood.2.1 36 = .ok (.iconst 2, 1)) (by decide) (?_ : XW _ _ _ _ _ _ _ 37 _ _)
        obtain ⟨Q1, sp, vc⟩ := vc
        refine xi_callV (b := 0) (bs := 0) (As := [.int 2]) (st := []) (by decide +kernel : decode mX11_stood.2.1 37 = .ok (.invokevirtual 311, 3)) kX11_311 rfl rfl (by omega) rfl sp (by decide) (by decide) (Nat.le_of_ble_eq_true rfl) (by omega) (fun v9 h7 hq9 => ?_)
        obtain ⟨r7, e9, vc⟩ := vc v9 h7 hq9
        subst e9
        show XW _ _ _ _ _ _ _ 40 _ [.int r7]
        refine xi_i2l (by decide +kernel : decode mX11_stood.2.1 40 = .ok (.i2l, 1)) (?_ : XW _ _ _ _ _ _ _ 41 _ _)
        exact xi_lret (by decide +kernel : decode mX11_stood.2.1 41 = .ok (.lreturn, 1)) rfl vc
    · replace vc := vc.2 c
      refine xi_aload_n (by decide +kernel : decode mX11_stood.2.1 21 = .ok (.aload_n 0, 1)) rfl rfl (?_ : XW _ _ _ _ _ _ _ 22 _ _)
      refine xi_iconst (v := 1) (by decide +kernel : decode mX11_stood.2.1 22 = .ok (.iconst 1, 1)) (by decide) (?_ : XW _ _ _ _ _ _ _ 23 _ _)
      obtain ⟨Q1, sp, vc⟩ := vc
      refine xi_callV (b := 0) (bs := 0) (As := [.int 1]) (st := []) (by decide +kernel : decode mX11_stood.2.1 23 = .ok (.invokevirtual 311, 3)) kX11_311 rfl rfl (by omega) rfl sp (by decide) (by decide) (Nat.le_of_ble_eq_true rfl) (by omega) (fun v9 h8 hq9 => ?_)
      obtain ⟨r8, e9, vc⟩ := vc v9 h8 hq9
      subst e9
      show XW _ _ _ _ _ _ _ 26 _ [.int r8]
      refine xi_i2l (by decide +kernel : decode mX11_stood.2.1 26 = .ok (.i2l, 1)) (?_ : XW _ _ _ _ _ _ _ 27 _ _)
      exact xi_lret (by decide +kernel : decode mX11_stood.2.1 27 = .ok (.lreturn, 1)) rfl vc

set_option maxRecDepth 20000 in
theorem v_X11_stood_57 {h : XH} {Q : Option Value → XH → Prop} {X : String → XH → Prop} (hM : xMod (xP h))  (x2 : Int32) (x3 : Int32) (x4 : Int64) (x6 : Int32)
    (vc : (x3 ≤ x6 → Q (some (.long x4)) h) ∧ (¬ x3 ≤ x6 → ∃ Q1, XSpec mX11_share 2 0 0 100 100 [.ref 56] h Q1 xno ∧ ∀ v h9, Q1 v h9 → v = none ∧ ((xP h9 56 39 = some 81) ∧ ((vp_in x2 101) ∧ (XW (xrm 6 0 0) mX11_stood (xE 100 Q X 0 0) 100 0 0 h9 57 [some (.ref 56), none, some (.int x2), some (.int x3), some (.long (x4 + (xL h9 81 x2.toNatClampNeg))), none, some (.int (x6 + 1))] []))))) :
    XW (xrm 6 0 0) mX11_stood (xE 100 Q X 0 0) 100 0 0 h 57 [some (.ref 56), none, some (.int x2), some (.int x3), some (.long x4), none, some (.int x6)] [] := by
  refine xi_iload (by decide +kernel : decode mX11_stood.2.1 57 = .ok (.iload 6, 2)) rfl (?_ : XW _ _ _ _ _ _ _ 59 _ _)
  refine xi_iload_n (by decide +kernel : decode mX11_stood.2.1 59 = .ok (.iload_n 3, 1)) rfl rfl (?_ : XW _ _ _ _ _ _ _ 60 _ _)
  refine xi_icmp_ge (by decide +kernel : decode mX11_stood.2.1 60 = .ok (.if_icmp .ge 24, 3)) (by decide) (fun c => (?_ : XW _ _ _ _ _ _ _ 84 _ _)) (fun c => (?_ : XW _ _ _ _ _ _ _ 63 _ _))
  · replace vc := vc.1 c
    refine xi_lload (by decide +kernel : decode mX11_stood.2.1 84 = .ok (.lload 4, 2)) rfl (?_ : XW _ _ _ _ _ _ _ 86 _ _)
    exact xi_lret (by decide +kernel : decode mX11_stood.2.1 86 = .ok (.lreturn, 1)) rfl vc
  · replace vc := vc.2 c
    refine xi_aload_n (by decide +kernel : decode mX11_stood.2.1 63 = .ok (.aload_n 0, 1)) rfl rfl (?_ : XW _ _ _ _ _ _ _ 64 _ _)
    obtain ⟨Q1, sp, vc⟩ := vc
    refine xi_callV (b := 0) (bs := 0) (As := []) (st := []) (by decide +kernel : decode mX11_stood.2.1 64 = .ok (.invokevirtual 412, 3)) kX11_412 rfl rfl (by omega) rfl sp (by decide) (by decide) (Nat.le_of_ble_eq_true rfl) (by omega) (fun v9 h9 hq9 => ?_)
    obtain ⟨e9, vc⟩ := vc v9 h9 hq9
    subst e9
    show XW _ _ _ _ _ _ _ 67 _ []
    refine xi_lload (by decide +kernel : decode mX11_stood.2.1 67 = .ok (.lload 4, 2)) rfl (?_ : XW _ _ _ _ _ _ _ 69 _ _)
    refine xi_aload_n (by decide +kernel : decode mX11_stood.2.1 69 = .ok (.aload_n 0, 1)) rfl rfl (?_ : XW _ _ _ _ _ _ _ 70 _ _)
    obtain ⟨s1, vc⟩ := vc
    refine xi_getR (y := 81) (by decide +kernel : decode mX11_stood.2.1 70 = .ok (.getfield 106, 3)) fX11_106 rfl (by omega) rfl s1 (?_ : XW _ _ _ _ _ _ _ 73 _ _)
    refine xi_iload_n (by decide +kernel : decode mX11_stood.2.1 73 = .ok (.iload_n 2, 1)) rfl rfl (?_ : XW _ _ _ _ _ _ _ 74 _ _)
    obtain ⟨s1, vc⟩ := vc
    refine xi_lald (by decide +kernel : decode mX11_stood.2.1 74 = .ok (.laload, 1)) rfl (by omega) s1 (?_ : XW _ _ _ _ _ _ _ 75 _ _)
    refine xi_ladd (by decide +kernel : decode mX11_stood.2.1 75 = .ok (.ladd, 1)) (?_ : XW _ _ _ _ _ _ _ 76 _ _)
    refine xi_lstore (ls' := [some (.ref 56), none, some (.int x2), some (.int x3), some (.long (x4 + (xL h9 81 x2.toNatClampNeg))), none, some (.int x6)]) (by decide +kernel : decode mX11_stood.2.1 76 = .ok (.lstore 4, 2)) (by decide) rfl (?_ : XW _ _ _ _ _ _ _ 78 _ _)
    refine xi_iinc (v := x6 + 1) (ls' := [some (.ref 56), none, some (.int x2), some (.int x3), some (.long (x4 + (xL h9 81 x2.toNatClampNeg))), none, some (.int (x6 + 1))]) (by decide +kernel : decode mX11_stood.2.1 78 = .ok (.iinc 6 1, 3)) rfl rfl (by decide) rfl (?_ : XW _ _ _ _ _ _ _ 81 _ _)
    refine xi_goto (by decide +kernel : decode mX11_stood.2.1 81 = .ok (.goto (-24), 3)) (by decide) (?_ : XW _ _ _ _ _ _ _ 57 _ _)
    exact vc

set_option maxRecDepth 20000 in
theorem v_X11_half_0 {h : XH} {Q : Option Value → XH → Prop} {X : String → XH → Prop} (hM : xMod (xP h))  (q : Int32)
    (vc : ∃ Q1, XSpec mX11_isSquare 2 0 0 100 100 [.ref 56, .int q] (xSI 56 (va_up (xI h 56) 2 0) h) Q1 xno ∧ ∀ v h1, Q1 v h1 → ∃ r1 : Int32, v = some (.int r1) ∧ ((¬ r1 = 0 → ∃ Q1, XSpec mX11_tellBoard 5 0 0 100 100 [.ref 56] h1 Q1 xno ∧ ∀ v h2, Q1 v h2 → v = none ∧ (∃ Q1, XSpec mX11_pour 1 0 0 100 100 [.ref 56, .int q] h2 Q1 xno ∧ ∀ v h3, Q1 v h3 → v = none ∧ (XW (xrm 6 0 0) mX11_half (xE 100 Q X 0 0) 100 0 0 h3 30 [some (.ref 56), none, some (.int 0)] []))) ∧ (r1 = 0 → ∃ Q1, XSpec mX11_fail 1 0 0 100 100 [.ref 56, .int 1] h1 Q1 xno ∧ ∀ v h4, Q1 v h4 → ∃ r4 : Int32, v = some (.int r4) ∧ (Q (some (.int r4)) h4)))) :
    XW (xrm 6 0 0) mX11_half (xE 100 Q X 0 0) 100 0 0 h 0 [some (.ref 56), some (.int q), none] [] := by
  refine xi_aload_n (by decide +kernel : decode mX11_half.2.1 0 = .ok (.aload_n 0, 1)) rfl rfl (?_ : XW _ _ _ _ _ _ _ 1 _ _)
  refine xi_iconst (v := 0) (by decide +kernel : decode mX11_half.2.1 1 = .ok (.iconst 0, 1)) (by decide) (?_ : XW _ _ _ _ _ _ _ 2 _ _)
  refine xi_putI (by decide +kernel : decode mX11_half.2.1 2 = .ok (.putfield 161, 3)) fX11_161 rfl (by omega) rfl rfl rfl (?_ : XW _ _ _ _ _ _ (xSI 56 (va_up (xI h 56) 2 0) h) 5 _ _)
  refine xi_aload_n (by decide +kernel : decode mX11_half.2.1 5 = .ok (.aload_n 0, 1)) rfl rfl (?_ : XW _ _ _ _ _ _ _ 6 _ _)
  refine xi_iload_n (by decide +kernel : decode mX11_half.2.1 6 = .ok (.iload_n 1, 1)) rfl rfl (?_ : XW _ _ _ _ _ _ _ 7 _ _)
  obtain ⟨Q1, sp, vc⟩ := vc
  refine xi_callV (b := 0) (bs := 0) (As := [.int q]) (st := []) (by decide +kernel : decode mX11_half.2.1 7 = .ok (.invokevirtual 367, 3)) kX11_367 rfl rfl (by omega) rfl sp (by decide) (by decide) (Nat.le_of_ble_eq_true rfl) (by omega) (fun v9 h1 hq9 => ?_)
  obtain ⟨r1, e9, vc⟩ := vc v9 h1 hq9
  subst e9
  show XW _ _ _ _ _ _ _ 10 _ [.int r1]
  refine xi_if_ne (by decide +kernel : decode mX11_half.2.1 10 = .ok (.ifCond .ne 9, 3)) (by decide) (fun c => (?_ : XW _ _ _ _ _ _ _ 19 _ _)) (fun c => (?_ : XW _ _ _ _ _ _ _ 13 _ _))
  · replace vc := vc.1 c
    refine xi_aload_n (by decide +kernel : decode mX11_half.2.1 19 = .ok (.aload_n 0, 1)) rfl rfl (?_ : XW _ _ _ _ _ _ _ 20 _ _)
    obtain ⟨Q1, sp, vc⟩ := vc
    refine xi_callV (b := 0) (bs := 0) (As := []) (st := []) (by decide +kernel : decode mX11_half.2.1 20 = .ok (.invokevirtual 373, 3)) kX11_373 rfl rfl (by omega) rfl sp (by decide) (by decide) (Nat.le_of_ble_eq_true rfl) (by omega) (fun v9 h2 hq9 => ?_)
    obtain ⟨e9, vc⟩ := vc v9 h2 hq9
    subst e9
    show XW _ _ _ _ _ _ _ 23 _ []
    refine xi_aload_n (by decide +kernel : decode mX11_half.2.1 23 = .ok (.aload_n 0, 1)) rfl rfl (?_ : XW _ _ _ _ _ _ _ 24 _ _)
    refine xi_iload_n (by decide +kernel : decode mX11_half.2.1 24 = .ok (.iload_n 1, 1)) rfl rfl (?_ : XW _ _ _ _ _ _ _ 25 _ _)
    obtain ⟨Q1, sp, vc⟩ := vc
    refine xi_callV (b := 0) (bs := 0) (As := [.int q]) (st := []) (by decide +kernel : decode mX11_half.2.1 25 = .ok (.invokevirtual 405, 3)) kX11_405 rfl rfl (by omega) rfl sp (by decide) (by decide) (Nat.le_of_ble_eq_true rfl) (by omega) (fun v9 h3 hq9 => ?_)
    obtain ⟨e9, vc⟩ := vc v9 h3 hq9
    subst e9
    show XW _ _ _ _ _ _ _ 28 _ []
    refine xi_iconst (v := 0) (by decide +kernel : decode mX11_half.2.1 28 = .ok (.iconst 0, 1)) (by decide) (?_ : XW _ _ _ _ _ _ _ 29 _ _)
    refine xi_istore_n (ls' := [some (.ref 56), some (.int q), some (.int 0)]) (by decide +kernel : decode mX11_half.2.1 29 = .ok (.istore_n 2, 1)) rfl (by decide) rfl (?_ : XW _ _ _ _ _ _ _ 30 _ _)
    refine xw_drop 1 (ls' := [some (.ref 56), none, some (.int 0)]) rfl ?_
    exact vc
  · replace vc := vc.2 c
    refine xi_aload_n (by decide +kernel : decode mX11_half.2.1 13 = .ok (.aload_n 0, 1)) rfl rfl (?_ : XW _ _ _ _ _ _ _ 14 _ _)
    refine xi_iconst (v := 1) (by decide +kernel : decode mX11_half.2.1 14 = .ok (.iconst 1, 1)) (by decide) (?_ : XW _ _ _ _ _ _ _ 15 _ _)
    obtain ⟨Q1, sp, vc⟩ := vc
    refine xi_callV (b := 0) (bs := 0) (As := [.int 1]) (st := []) (by decide +kernel : decode mX11_half.2.1 15 = .ok (.invokevirtual 311, 3)) kX11_311 rfl rfl (by omega) rfl sp (by decide) (by decide) (Nat.le_of_ble_eq_true rfl) (by omega) (fun v9 h4 hq9 => ?_)
    obtain ⟨r4, e9, vc⟩ := vc v9 h4 hq9
    subst e9
    show XW _ _ _ _ _ _ _ 18 _ [.int r4]
    exact xi_iret (by decide +kernel : decode mX11_half.2.1 18 = .ok (.ireturn, 1)) rfl rfl vc

set_option maxRecDepth 20000 in
theorem v_X11_half_30 {h : XH} {Q : Option Value → XH → Prop} {X : String → XH → Prop} (hM : xMod (xP h))  (x2 : Int32)
    (vc : (400 < x2 → Q (some (.int (-1))) h) ∧ (¬ 400 < x2 → ∃ Q1, XSpec mX11_out 1 0 0 100 100 [.ref 56] h Q1 xno ∧ ∀ v h5, Q1 v h5 → ∃ r5 : Int64, v = some (.long r5) ∧ ((0 < (lg_cmp (2 * r5) 1000000000) → ∃ Q1, XSpec mX11_share 2 0 0 100 100 [.ref 56] h5 Q1 xno ∧ ∀ v h6, Q1 v h6 → v = none ∧ (XW (xrm 6 0 0) mX11_half (xE 100 Q X 0 0) 100 0 0 h6 30 [some (.ref 56), none, some (.int (x2 + 1))] [])) ∧ (¬ 0 < (lg_cmp (2 * r5) 1000000000) → Q (some (.int x2)) h5)))) :
    XW (xrm 6 0 0) mX11_half (xE 100 Q X 0 0) 100 0 0 h 30 [some (.ref 56), none, some (.int x2)] [] := by
  refine xi_iload_n (by decide +kernel : decode mX11_half.2.1 30 = .ok (.iload_n 2, 1)) rfl rfl (?_ : XW _ _ _ _ _ _ _ 31 _ _)
  refine xi_sipush (v := 400) (by decide +kernel : decode mX11_half.2.1 31 = .ok (.sipush 400, 3)) (by decide) (?_ : XW _ _ _ _ _ _ _ 34 _ _)
  refine xi_icmp_gt (by decide +kernel : decode mX11_half.2.1 34 = .ok (.if_icmp .gt 30, 3)) (by decide) (fun c => (?_ : XW _ _ _ _ _ _ _ 64 _ _)) (fun c => (?_ : XW _ _ _ _ _ _ _ 37 _ _))
  · replace vc := vc.1 c
    refine xi_iconst (v := (-1)) (by decide +kernel : decode mX11_half.2.1 64 = .ok (.iconst (-1), 1)) (by decide) (?_ : XW _ _ _ _ _ _ _ 65 _ _)
    exact xi_iret (by decide +kernel : decode mX11_half.2.1 65 = .ok (.ireturn, 1)) rfl rfl vc
  · replace vc := vc.2 c
    refine xi_ldc2 (v := 2) (by decide +kernel : decode mX11_half.2.1 37 = .ok (.ldc2_w 415, 3)) cK_X11_415 (?_ : XW _ _ _ _ _ _ _ 40 _ _)
    refine xi_aload_n (by decide +kernel : decode mX11_half.2.1 40 = .ok (.aload_n 0, 1)) rfl rfl (?_ : XW _ _ _ _ _ _ _ 41 _ _)
    obtain ⟨Q1, sp, vc⟩ := vc
    refine xi_callV (b := 0) (bs := 0) (As := []) (st := [.long 2]) (by decide +kernel : decode mX11_half.2.1 41 = .ok (.invokevirtual 408, 3)) kX11_408 rfl rfl (by omega) rfl sp (by decide) (by decide) (Nat.le_of_ble_eq_true rfl) (by omega) (fun v9 h5 hq9 => ?_)
    obtain ⟨r5, e9, vc⟩ := vc v9 h5 hq9
    subst e9
    show XW _ _ _ _ _ _ _ 44 _ [.long r5, .long 2]
    refine xi_lmul (by decide +kernel : decode mX11_half.2.1 44 = .ok (.lmul, 1)) (?_ : XW _ _ _ _ _ _ _ 45 _ _)
    refine xi_ldc2 (v := 1000000000) (by decide +kernel : decode mX11_half.2.1 45 = .ok (.ldc2_w 401, 3)) cK_X11_401 (?_ : XW _ _ _ _ _ _ _ 48 _ _)
    refine xi_lcmp (by decide +kernel : decode mX11_half.2.1 48 = .ok (.lcmp, 1)) (?_ : XW _ _ _ _ _ _ _ 49 _ _)
    refine xi_if_gt (by decide +kernel : decode mX11_half.2.1 49 = .ok (.ifCond .gt 5, 3)) (by decide) (fun c => (?_ : XW _ _ _ _ _ _ _ 54 _ _)) (fun c => (?_ : XW _ _ _ _ _ _ _ 52 _ _))
    · replace vc := vc.1 c
      refine xi_aload_n (by decide +kernel : decode mX11_half.2.1 54 = .ok (.aload_n 0, 1)) rfl rfl (?_ : XW _ _ _ _ _ _ _ 55 _ _)
      obtain ⟨Q1, sp, vc⟩ := vc
      refine xi_callV (b := 0) (bs := 0) (As := []) (st := []) (by decide +kernel : decode mX11_half.2.1 55 = .ok (.invokevirtual 412, 3)) kX11_412 rfl rfl (by omega) rfl sp (by decide) (by decide) (Nat.le_of_ble_eq_true rfl) (by omega) (fun v9 h6 hq9 => ?_)
      obtain ⟨e9, vc⟩ := vc v9 h6 hq9
      subst e9
      show XW _ _ _ _ _ _ _ 58 _ []
      refine xi_iinc (v := x2 + 1) (ls' := [some (.ref 56), none, some (.int (x2 + 1))]) (by decide +kernel : decode mX11_half.2.1 58 = .ok (.iinc 2 1, 3)) rfl rfl (by decide) rfl (?_ : XW _ _ _ _ _ _ _ 61 _ _)
      refine xi_goto (by decide +kernel : decode mX11_half.2.1 61 = .ok (.goto (-31), 3)) (by decide) (?_ : XW _ _ _ _ _ _ _ 30 _ _)
      exact vc
    · replace vc := vc.2 c
      refine xi_iload_n (by decide +kernel : decode mX11_half.2.1 52 = .ok (.iload_n 2, 1)) rfl rfl (?_ : XW _ _ _ _ _ _ _ 53 _ _)
      exact xi_iret (by decide +kernel : decode mX11_half.2.1 53 = .ok (.ireturn, 1)) rfl rfl vc

set_option maxRecDepth 20000 in
theorem v_X11_changeBy_0 {h : XH} {Q : Option Value → XH → Prop} {X : String → XH → Prop} (hM : xMod (xP h))  (e : Int32) (n : Int32)
    (vc : ∃ Q1, XSpec mX11_tellBoard 5 0 0 100 100 [.ref 56] h Q1 xno ∧ ∀ v h1, Q1 v h1 → v = none ∧ (∃ Q1, XSpec mX11_longBy 3 0 0 100 100 [.ref 56, .int 0, .int n] h1 Q1 xno ∧ ∀ v h2, Q1 v h2 → ∃ r2 : Int64, v = some (.long r2) ∧ ((xP h2 56 3 = some 59) ∧ (∃ Q1, XSpec mX11_tellTable 4 0 0 100 100 [.ref 56, .int e, .int 0, .int 0, .int (xI h2 59 3)] h2 Q1 xno ∧ ∀ v h3, Q1 v h3 → v = none ∧ (∃ Q1, XSpec mX11_longBy 3 0 0 100 100 [.ref 56, .int 0, .int n] h3 Q1 xno ∧ ∀ v h4, Q1 v h4 → ∃ r4 : Int64, v = some (.long r4) ∧ (Q (some (.long (r4 - r2))) h4)))))) :
    XW (xrm 6 0 0) mX11_changeBy (xE 100 Q X 0 0) 100 0 0 h 0 [some (.ref 56), some (.int e), some (.int n), none, none] [] := by
  refine xi_aload_n (by decide +kernel : decode mX11_changeBy.2.1 0 = .ok (.aload_n 0, 1)) rfl rfl (?_ : XW _ _ _ _ _ _ _ 1 _ _)
  obtain ⟨Q1, sp, vc⟩ := vc
  refine xi_callV (b := 0) (bs := 0) (As := []) (st := []) (by decide +kernel : decode mX11_changeBy.2.1 1 = .ok (.invokevirtual 373, 3)) kX11_373 rfl rfl (by omega) rfl sp (by decide) (by decide) (Nat.le_of_ble_eq_true rfl) (by omega) (fun v9 h1 hq9 => ?_)
  obtain ⟨e9, vc⟩ := vc v9 h1 hq9
  subst e9
  show XW _ _ _ _ _ _ _ 4 _ []
  refine xi_aload_n (by decide +kernel : decode mX11_changeBy.2.1 4 = .ok (.aload_n 0, 1)) rfl rfl (?_ : XW _ _ _ _ _ _ _ 5 _ _)
  refine xi_iconst (v := 0) (by decide +kernel : decode mX11_changeBy.2.1 5 = .ok (.iconst 0, 1)) (by decide) (?_ : XW _ _ _ _ _ _ _ 6 _ _)
  refine xi_iload_n (by decide +kernel : decode mX11_changeBy.2.1 6 = .ok (.iload_n 2, 1)) rfl rfl (?_ : XW _ _ _ _ _ _ _ 7 _ _)
  obtain ⟨Q1, sp, vc⟩ := vc
  refine xi_callV (b := 0) (bs := 0) (As := [.int 0, .int n]) (st := []) (by decide +kernel : decode mX11_changeBy.2.1 7 = .ok (.invokevirtual 420, 3)) kX11_420 rfl rfl (by omega) rfl sp (by decide) (by decide) (Nat.le_of_ble_eq_true rfl) (by omega) (fun v9 h2 hq9 => ?_)
  obtain ⟨r2, e9, vc⟩ := vc v9 h2 hq9
  subst e9
  show XW _ _ _ _ _ _ _ 10 _ [.long r2]
  refine xi_lstore_n (ls' := [some (.ref 56), some (.int e), some (.int n), some (.long r2), none]) (by decide +kernel : decode mX11_changeBy.2.1 10 = .ok (.lstore_n 3, 1)) rfl (by decide) rfl (?_ : XW _ _ _ _ _ _ _ 11 _ _)
  refine xi_aload_n (by decide +kernel : decode mX11_changeBy.2.1 11 = .ok (.aload_n 0, 1)) rfl rfl (?_ : XW _ _ _ _ _ _ _ 12 _ _)
  refine xi_iload_n (by decide +kernel : decode mX11_changeBy.2.1 12 = .ok (.iload_n 1, 1)) rfl rfl (?_ : XW _ _ _ _ _ _ _ 13 _ _)
  refine xi_iconst (v := 0) (by decide +kernel : decode mX11_changeBy.2.1 13 = .ok (.iconst 0, 1)) (by decide) (?_ : XW _ _ _ _ _ _ _ 14 _ _)
  refine xi_iconst (v := 0) (by decide +kernel : decode mX11_changeBy.2.1 14 = .ok (.iconst 0, 1)) (by decide) (?_ : XW _ _ _ _ _ _ _ 15 _ _)
  refine xi_aload_n (by decide +kernel : decode mX11_changeBy.2.1 15 = .ok (.aload_n 0, 1)) rfl rfl (?_ : XW _ _ _ _ _ _ _ 16 _ _)
  obtain ⟨s1, vc⟩ := vc
  refine xi_getR (y := 59) (by decide +kernel : decode mX11_changeBy.2.1 16 = .ok (.getfield 32, 3)) fX11_32 rfl (by omega) rfl s1 (?_ : XW _ _ _ _ _ _ _ 19 _ _)
  refine xi_iconst (v := 3) (by decide +kernel : decode mX11_changeBy.2.1 19 = .ok (.iconst 3, 1)) (by decide) (?_ : XW _ _ _ _ _ _ _ 20 _ _)
  refine xi_iald (by decide +kernel : decode mX11_changeBy.2.1 20 = .ok (.iaload, 1)) rfl (by omega) (by unfold vp_in; decide) (?_ : XW _ _ _ _ _ _ _ 21 _ [.int (xI h2 59 3), .int 0, .int 0, .int e, .ref 56])
  obtain ⟨Q1, sp, vc⟩ := vc
  refine xi_callV (b := 0) (bs := 0) (As := [.int e, .int 0, .int 0, .int (xI h2 59 3)]) (st := []) (by decide +kernel : decode mX11_changeBy.2.1 21 = .ok (.invokevirtual 353, 3)) kX11_353 rfl rfl (by omega) rfl sp (by decide) (by decide) (Nat.le_of_ble_eq_true rfl) (by omega) (fun v9 h3 hq9 => ?_)
  obtain ⟨e9, vc⟩ := vc v9 h3 hq9
  subst e9
  show XW _ _ _ _ _ _ _ 24 _ []
  refine xi_aload_n (by decide +kernel : decode mX11_changeBy.2.1 24 = .ok (.aload_n 0, 1)) rfl rfl (?_ : XW _ _ _ _ _ _ _ 25 _ _)
  refine xi_iconst (v := 0) (by decide +kernel : decode mX11_changeBy.2.1 25 = .ok (.iconst 0, 1)) (by decide) (?_ : XW _ _ _ _ _ _ _ 26 _ _)
  refine xi_iload_n (by decide +kernel : decode mX11_changeBy.2.1 26 = .ok (.iload_n 2, 1)) rfl rfl (?_ : XW _ _ _ _ _ _ _ 27 _ _)
  obtain ⟨Q1, sp, vc⟩ := vc
  refine xi_callV (b := 0) (bs := 0) (As := [.int 0, .int n]) (st := []) (by decide +kernel : decode mX11_changeBy.2.1 27 = .ok (.invokevirtual 420, 3)) kX11_420 rfl rfl (by omega) rfl sp (by decide) (by decide) (Nat.le_of_ble_eq_true rfl) (by omega) (fun v9 h4 hq9 => ?_)
  obtain ⟨r4, e9, vc⟩ := vc v9 h4 hq9
  subst e9
  show XW _ _ _ _ _ _ _ 30 _ [.long r4]
  refine xi_lload_n (by decide +kernel : decode mX11_changeBy.2.1 30 = .ok (.lload_n 3, 1)) rfl rfl (?_ : XW _ _ _ _ _ _ _ 31 _ _)
  refine xi_lsub (by decide +kernel : decode mX11_changeBy.2.1 31 = .ok (.lsub, 1)) (?_ : XW _ _ _ _ _ _ _ 32 _ _)
  exact xi_lret (by decide +kernel : decode mX11_changeBy.2.1 32 = .ok (.lreturn, 1)) rfl vc

set_option maxRecDepth 20000 in
theorem v_X11_matters_0 {h : XH} {Q : Option Value → XH → Prop} {X : String → XH → Prop} (hM : xMod (xP h))  (e : Int32) (n : Int32)
    (vc : ∃ Q1, XSpec mX11_isIn 1 0 0 100 100 [.long (Int32.toInt64 e), .long 0, .long (Int32.toInt64 ((xI h 59 1) - 1))] (xSI 56 (va_up (xI h 56) 2 0) h) Q1 xno ∧ ∀ v h1, Q1 v h1 → ∃ r1 : Int32, v = some (.int r1) ∧ ((¬ r1 = 0 → ∃ Q1, XSpec mX11_isLong 2 0 0 100 100 [.int n] h1 Q1 xno ∧ ∀ v h2, Q1 v h2 → ∃ r2 : Int32, v = some (.int r2) ∧ ((r2 = 0 → ∃ Q1, XSpec mX11_fail 1 0 0 100 100 [.ref 56, .int 2] h2 Q1 xno ∧ ∀ v h3, Q1 v h3 → ∃ r3 : Int32, v = some (.int r3) ∧ (Q (some (.long (Int32.toInt64 r3))) h3)) ∧ (¬ r2 = 0 → ∃ Q1, XSpec mX11_changeBy 6 0 0 100 100 [.ref 56, .int e, .int n] h2 Q1 xno ∧ ∀ v h4, Q1 v h4 → ∃ r4 : Int64, v = some (.long r4) ∧ (Q (some (.long r4)) h4)))) ∧ (r1 = 0 → ∃ Q1, XSpec mX11_fail 1 0 0 100 100 [.ref 56, .int 1] h1 Q1 xno ∧ ∀ v h5, Q1 v h5 → ∃ r5 : Int32, v = some (.int r5) ∧ (Q (some (.long (Int32.toInt64 r5))) h5)))) :
    XW (xrm 7 0 0) mX11_matters (xE 100 Q X 0 0) 100 0 0 h 0 [some (.ref 56), some (.int e), some (.int n)] [] := by
  refine xi_aload_n (by decide +kernel : decode mX11_matters.2.1 0 = .ok (.aload_n 0, 1)) rfl rfl (?_ : XW _ _ _ _ _ _ _ 1 _ _)
  refine xi_iconst (v := 0) (by decide +kernel : decode mX11_matters.2.1 1 = .ok (.iconst 0, 1)) (by decide) (?_ : XW _ _ _ _ _ _ _ 2 _ _)
  refine xi_putI (by decide +kernel : decode mX11_matters.2.1 2 = .ok (.putfield 161, 3)) fX11_161 rfl (by omega) rfl rfl rfl (?_ : XW _ _ _ _ _ _ (xSI 56 (va_up (xI h 56) 2 0) h) 5 _ _)
  refine xi_iload_n (by decide +kernel : decode mX11_matters.2.1 5 = .ok (.iload_n 1, 1)) rfl rfl (?_ : XW _ _ _ _ _ _ _ 6 _ _)
  refine xi_i2l (by decide +kernel : decode mX11_matters.2.1 6 = .ok (.i2l, 1)) (?_ : XW _ _ _ _ _ _ _ 7 _ _)
  refine xi_lconst (v := 0) (by decide +kernel : decode mX11_matters.2.1 7 = .ok (.lconst 0, 1)) (by decide) (?_ : XW _ _ _ _ _ _ _ 8 _ _)
  refine xi_aload_n (by decide +kernel : decode mX11_matters.2.1 8 = .ok (.aload_n 0, 1)) rfl rfl (?_ : XW _ _ _ _ _ _ _ 9 _ _)
  refine xi_getR (y := 59) (by decide +kernel : decode mX11_matters.2.1 9 = .ok (.getfield 32, 3)) fX11_32 rfl (by omega) rfl (mp_told hM) (?_ : XW _ _ _ _ _ _ _ 12 _ _)
  refine xi_iconst (v := 1) (by decide +kernel : decode mX11_matters.2.1 12 = .ok (.iconst 1, 1)) (by decide) (?_ : XW _ _ _ _ _ _ _ 13 _ _)
  refine xi_iald (by decide +kernel : decode mX11_matters.2.1 13 = .ok (.iaload, 1)) rfl (by omega) (by unfold vp_in; decide) (?_ : XW _ _ _ _ _ _ _ 14 _ [.int (xI h 59 1), .long 0, .long (Int32.toInt64 e)])
  refine xi_iconst (v := 1) (by decide +kernel : decode mX11_matters.2.1 14 = .ok (.iconst 1, 1)) (by decide) (?_ : XW _ _ _ _ _ _ _ 15 _ _)
  refine xi_isub (by decide +kernel : decode mX11_matters.2.1 15 = .ok (.isub, 1)) (?_ : XW _ _ _ _ _ _ _ 16 _ _)
  refine xi_i2l (by decide +kernel : decode mX11_matters.2.1 16 = .ok (.i2l, 1)) (?_ : XW _ _ _ _ _ _ _ 17 _ _)
  obtain ⟨Q1, sp, vc⟩ := vc
  refine xi_callS (b := 0) (bs := 0) (As := [.long (Int32.toInt64 e), .long 0, .long (Int32.toInt64 ((xI h 59 1) - 1))]) (st := []) (by decide +kernel : decode mX11_matters.2.1 17 = .ok (.invokestatic 164, 3)) kX11_164 rfl rfl sp (by decide) (by decide) (Nat.le_of_ble_eq_true rfl) (by omega) (fun v9 h1 hq9 => ?_)
  obtain ⟨r1, e9, vc⟩ := vc v9 h1 hq9
  subst e9
  show XW _ _ _ _ _ _ _ 20 _ [.int r1]
  refine xi_if_ne (by decide +kernel : decode mX11_matters.2.1 20 = .ok (.ifCond .ne 10, 3)) (by decide) (fun c => (?_ : XW _ _ _ _ _ _ _ 30 _ _)) (fun c => (?_ : XW _ _ _ _ _ _ _ 23 _ _))
  · replace vc := vc.1 c
    refine xi_iload_n (by decide +kernel : decode mX11_matters.2.1 30 = .ok (.iload_n 2, 1)) rfl rfl (?_ : XW _ _ _ _ _ _ _ 31 _ _)
    obtain ⟨Q1, sp, vc⟩ := vc
    refine xi_callS (b := 0) (bs := 0) (As := [.int n]) (st := []) (by decide +kernel : decode mX11_matters.2.1 31 = .ok (.invokestatic 417, 3)) kX11_417 rfl rfl sp (by decide) (by decide) (Nat.le_of_ble_eq_true rfl) (by omega) (fun v9 h2 hq9 => ?_)
    obtain ⟨r2, e9, vc⟩ := vc v9 h2 hq9
    subst e9
    show XW _ _ _ _ _ _ _ 34 _ [.int r2]
    refine xi_if_eq (by decide +kernel : decode mX11_matters.2.1 34 = .ok (.ifCond .eq 12, 3)) (by decide) (fun c => (?_ : XW _ _ _ _ _ _ _ 46 _ _)) (fun c => (?_ : XW _ _ _ _ _ _ _ 37 _ _))
    · replace vc := vc.1 c
      refine xi_aload_n (by decide +kernel : decode mX11_matters.2.1 46 = .ok (.aload_n 0, 1)) rfl rfl (?_ : XW _ _ _ _ _ _ _ 47 _ _)
      refine xi_iconst (v := 2) (by decide +kernel : decode mX11_matters.2.1 47 = .ok (.iconst 2, 1)) (by decide) (?_ : XW _ _ _ _ _ _ _ 48 _ _)
      obtain ⟨Q1, sp, vc⟩ := vc
      refine xi_callV (b := 0) (bs := 0) (As := [.int 2]) (st := []) (by decide +kernel : decode mX11_matters.2.1 48 = .ok (.invokevirtual 311, 3)) kX11_311 rfl rfl (by omega) rfl sp (by decide) (by decide) (Nat.le_of_ble_eq_true rfl) (by omega) (fun v9 h3 hq9 => ?_)
      obtain ⟨r3, e9, vc⟩ := vc v9 h3 hq9
      subst e9
      show XW _ _ _ _ _ _ _ 51 _ [.int r3]
      refine xi_i2l (by decide +kernel : decode mX11_matters.2.1 51 = .ok (.i2l, 1)) (?_ : XW _ _ _ _ _ _ _ 52 _ _)
      exact xi_lret (by decide +kernel : decode mX11_matters.2.1 52 = .ok (.lreturn, 1)) rfl vc
    · replace vc := vc.2 c
      refine xi_aload_n (by decide +kernel : decode mX11_matters.2.1 37 = .ok (.aload_n 0, 1)) rfl rfl (?_ : XW _ _ _ _ _ _ _ 38 _ _)
      refine xi_iload_n (by decide +kernel : decode mX11_matters.2.1 38 = .ok (.iload_n 1, 1)) rfl rfl (?_ : XW _ _ _ _ _ _ _ 39 _ _)
      refine xi_iload_n (by decide +kernel : decode mX11_matters.2.1 39 = .ok (.iload_n 2, 1)) rfl rfl (?_ : XW _ _ _ _ _ _ _ 40 _ _)
      obtain ⟨Q1, sp, vc⟩ := vc
      refine xi_callV (b := 0) (bs := 0) (As := [.int e, .int n]) (st := []) (by decide +kernel : decode mX11_matters.2.1 40 = .ok (.invokevirtual 428, 3)) kX11_428 rfl rfl (by omega) rfl sp (by decide) (by decide) (Nat.le_of_ble_eq_true rfl) (by omega) (fun v9 h4 hq9 => ?_)
      obtain ⟨r4, e9, vc⟩ := vc v9 h4 hq9
      subst e9
      show XW _ _ _ _ _ _ _ 43 _ [.long r4]
      refine xi_goto (by decide +kernel : decode mX11_matters.2.1 43 = .ok (.goto 9, 3)) (by decide) (?_ : XW _ _ _ _ _ _ _ 52 _ _)
      exact xi_lret (by decide +kernel : decode mX11_matters.2.1 52 = .ok (.lreturn, 1)) rfl vc
  · replace vc := vc.2 c
    refine xi_aload_n (by decide +kernel : decode mX11_matters.2.1 23 = .ok (.aload_n 0, 1)) rfl rfl (?_ : XW _ _ _ _ _ _ _ 24 _ _)
    refine xi_iconst (v := 1) (by decide +kernel : decode mX11_matters.2.1 24 = .ok (.iconst 1, 1)) (by decide) (?_ : XW _ _ _ _ _ _ _ 25 _ _)
    obtain ⟨Q1, sp, vc⟩ := vc
    refine xi_callV (b := 0) (bs := 0) (As := [.int 1]) (st := []) (by decide +kernel : decode mX11_matters.2.1 25 = .ok (.invokevirtual 311, 3)) kX11_311 rfl rfl (by omega) rfl sp (by decide) (by decide) (Nat.le_of_ble_eq_true rfl) (by omega) (fun v9 h5 hq9 => ?_)
    obtain ⟨r5, e9, vc⟩ := vc v9 h5 hq9
    subst e9
    show XW _ _ _ _ _ _ _ 28 _ [.int r5]
    refine xi_i2l (by decide +kernel : decode mX11_matters.2.1 28 = .ok (.i2l, 1)) (?_ : XW _ _ _ _ _ _ _ 29 _ _)
    exact xi_lret (by decide +kernel : decode mX11_matters.2.1 29 = .ok (.lreturn, 1)) rfl vc

set_option maxRecDepth 20000 in
theorem v_X11_most_0 {h : XH} {Q : Option Value → XH → Prop} {X : String → XH → Prop} (hM : xMod (xP h))  (n : Int32)
    (vc : ∃ Q1, XSpec mX11_isLong 2 0 0 100 100 [.int n] (xSI 56 (va_up (xI h 56) 2 0) h) Q1 xno ∧ ∀ v h1, Q1 v h1 → ∃ r1 : Int32, v = some (.int r1) ∧ ((¬ r1 = 0 → XW (xrm 7 0 0) mX11_most (xE 100 Q X 0 0) 100 0 0 h1 25 [some (.ref 56), some (.int n), some (.int (-1)), some (.long 0), none, some (.int 0), none, none] []) ∧ (r1 = 0 → ∃ Q1, XSpec mX11_fail 1 0 0 100 100 [.ref 56, .int 1] h1 Q1 xno ∧ ∀ v h2, Q1 v h2 → ∃ r2 : Int32, v = some (.int r2) ∧ (Q (some (.int r2)) h2)))) :
    XW (xrm 7 0 0) mX11_most (xE 100 Q X 0 0) 100 0 0 h 0 [some (.ref 56), some (.int n), none, none, none, none, none, none] [] := by
  refine xi_aload_n (by decide +kernel : decode mX11_most.2.1 0 = .ok (.aload_n 0, 1)) rfl rfl (?_ : XW _ _ _ _ _ _ _ 1 _ _)
  refine xi_iconst (v := 0) (by decide +kernel : decode mX11_most.2.1 1 = .ok (.iconst 0, 1)) (by decide) (?_ : XW _ _ _ _ _ _ _ 2 _ _)
  refine xi_putI (by decide +kernel : decode mX11_most.2.1 2 = .ok (.putfield 161, 3)) fX11_161 rfl (by omega) rfl rfl rfl (?_ : XW _ _ _ _ _ _ (xSI 56 (va_up (xI h 56) 2 0) h) 5 _ _)
  refine xi_iload_n (by decide +kernel : decode mX11_most.2.1 5 = .ok (.iload_n 1, 1)) rfl rfl (?_ : XW _ _ _ _ _ _ _ 6 _ _)
  obtain ⟨Q1, sp, vc⟩ := vc
  refine xi_callS (b := 0) (bs := 0) (As := [.int n]) (st := []) (by decide +kernel : decode mX11_most.2.1 6 = .ok (.invokestatic 417, 3)) kX11_417 rfl rfl sp (by decide) (by decide) (Nat.le_of_ble_eq_true rfl) (by omega) (fun v9 h1 hq9 => ?_)
  obtain ⟨r1, e9, vc⟩ := vc v9 h1 hq9
  subst e9
  show XW _ _ _ _ _ _ _ 9 _ [.int r1]
  refine xi_if_ne (by decide +kernel : decode mX11_most.2.1 9 = .ok (.ifCond .ne 9, 3)) (by decide) (fun c => (?_ : XW _ _ _ _ _ _ _ 18 _ _)) (fun c => (?_ : XW _ _ _ _ _ _ _ 12 _ _))
  · replace vc := vc.1 c
    refine xi_iconst (v := (-1)) (by decide +kernel : decode mX11_most.2.1 18 = .ok (.iconst (-1), 1)) (by decide) (?_ : XW _ _ _ _ _ _ _ 19 _ _)
    refine xi_istore_n (ls' := [some (.ref 56), some (.int n), some (.int (-1)), none, none, none, none, none]) (by decide +kernel : decode mX11_most.2.1 19 = .ok (.istore_n 2, 1)) rfl (by decide) rfl (?_ : XW _ _ _ _ _ _ _ 20 _ _)
    refine xi_lconst (v := 0) (by decide +kernel : decode mX11_most.2.1 20 = .ok (.lconst 0, 1)) (by decide) (?_ : XW _ _ _ _ _ _ _ 21 _ _)
    refine xi_lstore_n (ls' := [some (.ref 56), some (.int n), some (.int (-1)), some (.long 0), none, none, none, none]) (by decide +kernel : decode mX11_most.2.1 21 = .ok (.lstore_n 3, 1)) rfl (by decide) rfl (?_ : XW _ _ _ _ _ _ _ 22 _ _)
    refine xi_iconst (v := 0) (by decide +kernel : decode mX11_most.2.1 22 = .ok (.iconst 0, 1)) (by decide) (?_ : XW _ _ _ _ _ _ _ 23 _ _)
    refine xi_istore (ls' := [some (.ref 56), some (.int n), some (.int (-1)), some (.long 0), none, some (.int 0), none, none]) (by decide +kernel : decode mX11_most.2.1 23 = .ok (.istore 5, 2)) (by decide) rfl (?_ : XW _ _ _ _ _ _ _ 25 _ _)
    exact vc
  · replace vc := vc.2 c
    refine xi_aload_n (by decide +kernel : decode mX11_most.2.1 12 = .ok (.aload_n 0, 1)) rfl rfl (?_ : XW _ _ _ _ _ _ _ 13 _ _)
    refine xi_iconst (v := 1) (by decide +kernel : decode mX11_most.2.1 13 = .ok (.iconst 1, 1)) (by decide) (?_ : XW _ _ _ _ _ _ _ 14 _ _)
    obtain ⟨Q1, sp, vc⟩ := vc
    refine xi_callV (b := 0) (bs := 0) (As := [.int 1]) (st := []) (by decide +kernel : decode mX11_most.2.1 14 = .ok (.invokevirtual 311, 3)) kX11_311 rfl rfl (by omega) rfl sp (by decide) (by decide) (Nat.le_of_ble_eq_true rfl) (by omega) (fun v9 h2 hq9 => ?_)
    obtain ⟨r2, e9, vc⟩ := vc v9 h2 hq9
    subst e9
    show XW _ _ _ _ _ _ _ 17 _ [.int r2]
    exact xi_iret (by decide +kernel : decode mX11_most.2.1 17 = .ok (.ireturn, 1)) rfl rfl vc

set_option maxRecDepth 20000 in
theorem v_X11_most_25 {h : XH} {Q : Option Value → XH → Prop} {X : String → XH → Prop} (hM : xMod (xP h))  (x1 : Int32) (x2 : Int32) (x3 : Int64) (x5 : Int32)
    (vc : ((xI h 59 1) ≤ x5 → Q (some (.int x2)) h) ∧ (¬ (xI h 59 1) ≤ x5 → ∃ Q1, XSpec mX11_changeBy 6 0 0 100 100 [.ref 56, .int x5, .int x1] h Q1 xno ∧ ∀ v h3, Q1 v h3 → ∃ r3 : Int64, v = some (.long r3) ∧ ((x2 = (-1) → XW (xrm 7 0 0) mX11_most (xE 100 Q X 0 0) 100 0 0 h3 25 [some (.ref 56), some (.int x1), some (.int x5), some (.long (if 0 < r3 then r3 else -r3)), none, some (.int (x5 + 1)), none, none] []) ∧ (¬ x2 = (-1) → (0 < (lg_cmp (if 0 < r3 then r3 else -r3) x3) → XW (xrm 7 0 0) mX11_most (xE 100 Q X 0 0) 100 0 0 h3 25 [some (.ref 56), some (.int x1), some (.int x5), some (.long (if 0 < r3 then r3 else -r3)), none, some (.int (x5 + 1)), none, none] []) ∧ (¬ 0 < (lg_cmp (if 0 < r3 then r3 else -r3) x3) → XW (xrm 7 0 0) mX11_most (xE 100 Q X 0 0) 100 0 0 h3 25 [some (.ref 56), some (.int x1), some (.int x2), some (.long x3), none, some (.int (x5 + 1)), none, none] []))))) :
    XW (xrm 7 0 0) mX11_most (xE 100 Q X 0 0) 100 0 0 h 25 [some (.ref 56), some (.int x1), some (.int x2), some (.long x3), none, some (.int x5), none, none] [] := by
  refine xi_iload (by decide +kernel : decode mX11_most.2.1 25 = .ok (.iload 5, 2)) rfl (?_ : XW _ _ _ _ _ _ _ 27 _ _)
  refine xi_aload_n (by decide +kernel : decode mX11_most.2.1 27 = .ok (.aload_n 0, 1)) rfl rfl (?_ : XW _ _ _ _ _ _ _ 28 _ _)
  refine xi_getR (y := 59) (by decide +kernel : decode mX11_most.2.1 28 = .ok (.getfield 32, 3)) fX11_32 rfl (by omega) rfl (mp_told hM) (?_ : XW _ _ _ _ _ _ _ 31 _ _)
  refine xi_iconst (v := 1) (by decide +kernel : decode mX11_most.2.1 31 = .ok (.iconst 1, 1)) (by decide) (?_ : XW _ _ _ _ _ _ _ 32 _ _)
  refine xi_iald (by decide +kernel : decode mX11_most.2.1 32 = .ok (.iaload, 1)) rfl (by omega) (by unfold vp_in; decide) (?_ : XW _ _ _ _ _ _ _ 33 _ [.int (xI h 59 1), .int x5])
  refine xi_icmp_ge (by decide +kernel : decode mX11_most.2.1 33 = .ok (.if_icmp .ge 42, 3)) (by decide) (fun c => (?_ : XW _ _ _ _ _ _ _ 75 _ _)) (fun c => (?_ : XW _ _ _ _ _ _ _ 36 _ _))
  · replace vc := vc.1 c
    refine xi_iload_n (by decide +kernel : decode mX11_most.2.1 75 = .ok (.iload_n 2, 1)) rfl rfl (?_ : XW _ _ _ _ _ _ _ 76 _ _)
    exact xi_iret (by decide +kernel : decode mX11_most.2.1 76 = .ok (.ireturn, 1)) rfl rfl vc
  · replace vc := vc.2 c
    refine xi_aload_n (by decide +kernel : decode mX11_most.2.1 36 = .ok (.aload_n 0, 1)) rfl rfl (?_ : XW _ _ _ _ _ _ _ 37 _ _)
    refine xi_iload (by decide +kernel : decode mX11_most.2.1 37 = .ok (.iload 5, 2)) rfl (?_ : XW _ _ _ _ _ _ _ 39 _ _)
    refine xi_iload_n (by decide +kernel : decode mX11_most.2.1 39 = .ok (.iload_n 1, 1)) rfl rfl (?_ : XW _ _ _ _ _ _ _ 40 _ _)
    obtain ⟨Q1, sp, vc⟩ := vc
    refine xi_callV (b := 0) (bs := 0) (As := [.int x5, .int x1]) (st := []) (by decide +kernel : decode mX11_most.2.1 40 = .ok (.invokevirtual 428, 3)) kX11_428 rfl rfl (by omega) rfl sp (by decide) (by decide) (Nat.le_of_ble_eq_true rfl) (by omega) (fun v9 h3 hq9 => ?_)
    obtain ⟨r3, e9, vc⟩ := vc v9 h3 hq9
    subst e9
    show XW _ _ _ _ _ _ _ 43 _ [.long r3]
    refine xi_mabsl (by decide +kernel : decode mX11_most.2.1 43 = .ok (.invokestatic 431, 3)) kX11_431.2.1 (by decide) (Nat.le_of_ble_eq_true rfl) (?_ : XW _ _ _ _ _ _ _ 46 _ _)
    refine xi_lstore (ls' := [some (.ref 56), some (.int x1), some (.int x2), some (.long x3), none, some (.int x5), some (.long (if 0 < r3 then r3 else -r3)), none]) (by decide +kernel : decode mX11_most.2.1 46 = .ok (.lstore 6, 2)) (by decide) rfl (?_ : XW _ _ _ _ _ _ _ 48 _ _)
    refine xi_iload_n (by decide +kernel : decode mX11_most.2.1 48 = .ok (.iload_n 2, 1)) rfl rfl (?_ : XW _ _ _ _ _ _ _ 49 _ _)
    refine xi_iconst (v := (-1)) (by decide +kernel : decode mX11_most.2.1 49 = .ok (.iconst (-1), 1)) (by decide) (?_ : XW _ _ _ _ _ _ _ 50 _ _)
    refine xi_icmp_eq (by decide +kernel : decode mX11_most.2.1 50 = .ok (.if_icmp .eq 13, 3)) (by decide) (fun c => (?_ : XW _ _ _ _ _ _ _ 63 _ _)) (fun c => (?_ : XW _ _ _ _ _ _ _ 53 _ _))
    · replace vc := vc.1 c
      refine xi_iload (by decide +kernel : decode mX11_most.2.1 63 = .ok (.iload 5, 2)) rfl (?_ : XW _ _ _ _ _ _ _ 65 _ _)
      refine xi_istore_n (ls' := [some (.ref 56), some (.int x1), some (.int x5), some (.long x3), none, some (.int x5), some (.long (if 0 < r3 then r3 else -r3)), none]) (by decide +kernel : decode mX11_most.2.1 65 = .ok (.istore_n 2, 1)) rfl (by decide) rfl (?_ : XW _ _ _ _ _ _ _ 66 _ _)
      refine xi_lload (by decide +kernel : decode mX11_most.2.1 66 = .ok (.lload 6, 2)) rfl (?_ : XW _ _ _ _ _ _ _ 68 _ _)
      refine xi_lstore_n (ls' := [some (.ref 56), some (.int x1), some (.int x5), some (.long (if 0 < r3 then r3 else -r3)), none, some (.int x5), some (.long (if 0 < r3 then r3 else -r3)), none]) (by decide +kernel : decode mX11_most.2.1 68 = .ok (.lstore_n 3, 1)) rfl (by decide) rfl (?_ : XW _ _ _ _ _ _ _ 69 _ _)
      refine xi_iinc (v := x5 + 1) (ls' := [some (.ref 56), some (.int x1), some (.int x5), some (.long (if 0 < r3 then r3 else -r3)), none, some (.int (x5 + 1)), some (.long (if 0 < r3 then r3 else -r3)), none]) (by decide +kernel : decode mX11_most.2.1 69 = .ok (.iinc 5 1, 3)) rfl rfl (by decide) rfl (?_ : XW _ _ _ _ _ _ _ 72 _ _)
      refine xi_goto (by decide +kernel : decode mX11_most.2.1 72 = .ok (.goto (-47), 3)) (by decide) (?_ : XW _ _ _ _ _ _ _ 25 _ _)
      refine xw_drop 6 (ls' := [some (.ref 56), some (.int x1), some (.int x5), some (.long (if 0 < r3 then r3 else -r3)), none, some (.int (x5 + 1)), none, none]) rfl ?_
      exact vc
    · replace vc := vc.2 c
      refine xi_lload (by decide +kernel : decode mX11_most.2.1 53 = .ok (.lload 6, 2)) rfl (?_ : XW _ _ _ _ _ _ _ 55 _ _)
      refine xi_lload_n (by decide +kernel : decode mX11_most.2.1 55 = .ok (.lload_n 3, 1)) rfl rfl (?_ : XW _ _ _ _ _ _ _ 56 _ _)
      refine xi_lcmp (by decide +kernel : decode mX11_most.2.1 56 = .ok (.lcmp, 1)) (?_ : XW _ _ _ _ _ _ _ 57 _ _)
      refine xi_if_gt (by decide +kernel : decode mX11_most.2.1 57 = .ok (.ifCond .gt 6, 3)) (by decide) (fun c => (?_ : XW _ _ _ _ _ _ _ 63 _ _)) (fun c => (?_ : XW _ _ _ _ _ _ _ 60 _ _))
      · replace vc := vc.1 c
        refine xi_iload (by decide +kernel : decode mX11_most.2.1 63 = .ok (.iload 5, 2)) rfl (?_ : XW _ _ _ _ _ _ _ 65 _ _)
        refine xi_istore_n (ls' := [some (.ref 56), some (.int x1), some (.int x5), some (.long x3), none, some (.int x5), some (.long (if 0 < r3 then r3 else -r3)), none]) (by decide +kernel : decode mX11_most.2.1 65 = .ok (.istore_n 2, 1)) rfl (by decide) rfl (?_ : XW _ _ _ _ _ _ _ 66 _ _)
        refine xi_lload (by decide +kernel : decode mX11_most.2.1 66 = .ok (.lload 6, 2)) rfl (?_ : XW _ _ _ _ _ _ _ 68 _ _)
        refine xi_lstore_n (ls' := [some (.ref 56), some (.int x1), some (.int x5), some (.long (if 0 < r3 then r3 else -r3)), none, some (.int x5), some (.long (if 0 < r3 then r3 else -r3)), none]) (by decide +kernel : decode mX11_most.2.1 68 = .ok (.lstore_n 3, 1)) rfl (by decide) rfl (?_ : XW _ _ _ _ _ _ _ 69 _ _)
        refine xi_iinc (v := x5 + 1) (ls' := [some (.ref 56), some (.int x1), some (.int x5), some (.long (if 0 < r3 then r3 else -r3)), none, some (.int (x5 + 1)), some (.long (if 0 < r3 then r3 else -r3)), none]) (by decide +kernel : decode mX11_most.2.1 69 = .ok (.iinc 5 1, 3)) rfl rfl (by decide) rfl (?_ : XW _ _ _ _ _ _ _ 72 _ _)
        refine xi_goto (by decide +kernel : decode mX11_most.2.1 72 = .ok (.goto (-47), 3)) (by decide) (?_ : XW _ _ _ _ _ _ _ 25 _ _)
        refine xw_drop 6 (ls' := [some (.ref 56), some (.int x1), some (.int x5), some (.long (if 0 < r3 then r3 else -r3)), none, some (.int (x5 + 1)), none, none]) rfl ?_
        exact vc
      · replace vc := vc.2 c
        refine xi_goto (by decide +kernel : decode mX11_most.2.1 60 = .ok (.goto 9, 3)) (by decide) (?_ : XW _ _ _ _ _ _ _ 69 _ _)
        refine xi_iinc (v := x5 + 1) (ls' := [some (.ref 56), some (.int x1), some (.int x2), some (.long x3), none, some (.int (x5 + 1)), some (.long (if 0 < r3 then r3 else -r3)), none]) (by decide +kernel : decode mX11_most.2.1 69 = .ok (.iinc 5 1, 3)) rfl rfl (by decide) rfl (?_ : XW _ _ _ _ _ _ _ 72 _ _)
        refine xi_goto (by decide +kernel : decode mX11_most.2.1 72 = .ok (.goto (-47), 3)) (by decide) (?_ : XW _ _ _ _ _ _ _ 25 _ _)
        refine xw_drop 6 (ls' := [some (.ref 56), some (.int x1), some (.int x2), some (.long x3), none, some (.int (x5 + 1)), none, none]) rfl ?_
        exact vc

set_option maxRecDepth 20000 in
theorem v_X11_wanted_0 {h : XH} {Q : Option Value → XH → Prop} {X : String → XH → Prop} (hM : xMod (xP h))  (w : Int64) (n : Int32)
    (vc : ∃ Q1, XSpec mX11_isLong 2 0 0 100 100 [.int n] (xSI 56 (va_up (xI h 56) 2 0) h) Q1 xno ∧ ∀ v h1, Q1 v h1 → ∃ r1 : Int32, v = some (.int r1) ∧ ((r1 = 0 → ∃ Q1, XSpec mX11_fail 1 0 0 100 100 [.ref 56, .int 1] h1 Q1 xno ∧ ∀ v h2, Q1 v h2 → ∃ r2 : Int32, v = some (.int r2) ∧ (Q (some (.int r2)) h2)) ∧ (¬ r1 = 0 → (0 ≤ (lg_cmp w 0) → (xP h1 56 3 = some 59) ∧ ((40 < (xI h1 59 0) → Q (some (.int (-2))) h1) ∧ (¬ 40 < (xI h1 59 0) → (n ≤ 60 → XW (xrm 6 0 0) mX11_wanted (xE 100 Q X 0 0) 100 0 0 h1 53 [some (.ref 56), some (.long w), none, some (.int n), some (.int (-1)), some (.long 0), none, some (.int 1), none, none, none] []) ∧ (¬ n ≤ 60 → Q (some (.int (-2))) h1)))) ∧ (¬ 0 ≤ (lg_cmp w 0) → ∃ Q1, XSpec mX11_fail 1 0 0 100 100 [.ref 56, .int 1] h1 Q1 xno ∧ ∀ v h3, Q1 v h3 → ∃ r3 : Int32, v = some (.int r3) ∧ (Q (some (.int r3)) h3))))) :
    XW (xrm 6 0 0) mX11_wanted (xE 100 Q X 0 0) 100 0 0 h 0 [some (.ref 56), some (.long w), none, some (.int n), none, none, none, none, none, none, none] [] := by
  refine xi_aload_n (by decide +kernel : decode mX11_wanted.2.1 0 = .ok (.aload_n 0, 1)) rfl rfl (?_ : XW _ _ _ _ _ _ _ 1 _ _)
  refine xi_iconst (v := 0) (by decide +kernel : decode mX11_wanted.2.1 1 = .ok (.iconst 0, 1)) (by decide) (?_ : XW _ _ _ _ _ _ _ 2 _ _)
  refine xi_putI (by decide +kernel : decode mX11_wanted.2.1 2 = .ok (.putfield 161, 3)) fX11_161 rfl (by omega) rfl rfl rfl (?_ : XW _ _ _ _ _ _ (xSI 56 (va_up (xI h 56) 2 0) h) 5 _ _)
  refine xi_iload_n (by decide +kernel : decode mX11_wanted.2.1 5 = .ok (.iload_n 3, 1)) rfl rfl (?_ : XW _ _ _ _ _ _ _ 6 _ _)
  obtain ⟨Q1, sp, vc⟩ := vc
  refine xi_callS (b := 0) (bs := 0) (As := [.int n]) (st := []) (by decide +kernel : decode mX11_wanted.2.1 6 = .ok (.invokestatic 417, 3)) kX11_417 rfl rfl sp (by decide) (by decide) (Nat.le_of_ble_eq_true rfl) (by omega) (fun v9 h1 hq9 => ?_)
  obtain ⟨r1, e9, vc⟩ := vc v9 h1 hq9
  subst e9
  show XW _ _ _ _ _ _ _ 9 _ [.int r1]
  refine xi_if_eq (by decide +kernel : decode mX11_wanted.2.1 9 = .ok (.ifCond .eq 9, 3)) (by decide) (fun c => (?_ : XW _ _ _ _ _ _ _ 18 _ _)) (fun c => (?_ : XW _ _ _ _ _ _ _ 12 _ _))
  · replace vc := vc.1 c
    refine xi_aload_n (by decide +kernel : decode mX11_wanted.2.1 18 = .ok (.aload_n 0, 1)) rfl rfl (?_ : XW _ _ _ _ _ _ _ 19 _ _)
    refine xi_iconst (v := 1) (by decide +kernel : decode mX11_wanted.2.1 19 = .ok (.iconst 1, 1)) (by decide) (?_ : XW _ _ _ _ _ _ _ 20 _ _)
    obtain ⟨Q1, sp, vc⟩ := vc
    refine xi_callV (b := 0) (bs := 0) (As := [.int 1]) (st := []) (by decide +kernel : decode mX11_wanted.2.1 20 = .ok (.invokevirtual 311, 3)) kX11_311 rfl rfl (by omega) rfl sp (by decide) (by decide) (Nat.le_of_ble_eq_true rfl) (by omega) (fun v9 h2 hq9 => ?_)
    obtain ⟨r2, e9, vc⟩ := vc v9 h2 hq9
    subst e9
    show XW _ _ _ _ _ _ _ 23 _ [.int r2]
    exact xi_iret (by decide +kernel : decode mX11_wanted.2.1 23 = .ok (.ireturn, 1)) rfl rfl vc
  · replace vc := vc.2 c
    refine xi_lload_n (by decide +kernel : decode mX11_wanted.2.1 12 = .ok (.lload_n 1, 1)) rfl rfl (?_ : XW _ _ _ _ _ _ _ 13 _ _)
    refine xi_lconst (v := 0) (by decide +kernel : decode mX11_wanted.2.1 13 = .ok (.lconst 0, 1)) (by decide) (?_ : XW _ _ _ _ _ _ _ 14 _ _)
    refine xi_lcmp (by decide +kernel : decode mX11_wanted.2.1 14 = .ok (.lcmp, 1)) (?_ : XW _ _ _ _ _ _ _ 15 _ _)
    refine xi_if_ge (by decide +kernel : decode mX11_wanted.2.1 15 = .ok (.ifCond .ge 9, 3)) (by decide) (fun c => (?_ : XW _ _ _ _ _ _ _ 24 _ _)) (fun c => (?_ : XW _ _ _ _ _ _ _ 18 _ _))
    · replace vc := vc.1 c
      refine xi_aload_n (by decide +kernel : decode mX11_wanted.2.1 24 = .ok (.aload_n 0, 1)) rfl rfl (?_ : XW _ _ _ _ _ _ _ 25 _ _)
      obtain ⟨s1, vc⟩ := vc
      refine xi_getR (y := 59) (by decide +kernel : decode mX11_wanted.2.1 25 = .ok (.getfield 32, 3)) fX11_32 rfl (by omega) rfl s1 (?_ : XW _ _ _ _ _ _ _ 28 _ _)
      refine xi_iconst (v := 0) (by decide +kernel : decode mX11_wanted.2.1 28 = .ok (.iconst 0, 1)) (by decide) (?_ : XW _ _ _ _ _ _ _ 29 _ _)
      refine xi_iald (by decide +kernel : decode mX11_wanted.2.1 29 = .ok (.iaload, 1)) rfl (by omega) (by unfold vp_in; decide) (?_ : XW _ _ _ _ _ _ _ 30 _ [.int (xI h1 59 0)])
      refine xi_bipush (v := 40) (by decide +kernel : decode mX11_wanted.2.1 30 = .ok (.bipush 40, 2)) (by decide) (?_ : XW _ _ _ _ _ _ _ 32 _ _)
      refine xi_icmp_gt (by decide +kernel : decode mX11_wanted.2.1 32 = .ok (.if_icmp .gt 9, 3)) (by decide) (fun c => (?_ : XW _ _ _ _ _ _ _ 41 _ _)) (fun c => (?_ : XW _ _ _ _ _ _ _ 35 _ _))
      · replace vc := vc.1 c
        refine xi_bipush (v := (-2)) (by decide +kernel : decode mX11_wanted.2.1 41 = .ok (.bipush (-2), 2)) (by decide) (?_ : XW _ _ _ _ _ _ _ 43 _ _)
        exact xi_iret (by decide +kernel : decode mX11_wanted.2.1 43 = .ok (.ireturn, 1)) rfl rfl vc
      · replace vc := vc.2 c
        refine xi_iload_n (by decide +kernel : decode mX11_wanted.2.1 35 = .ok (.iload_n 3, 1)) rfl rfl (?_ : XW _ _ _ _ _ _ _ 36 _ _)
        refine xi_bipush (v := 60) (by decide +kernel : decode mX11_wanted.2.1 36 = .ok (.bipush 60, 2)) (by decide) (?_ : XW _ _ _ _ _ _ _ 38 _ _)
        refine xi_icmp_le (by decide +kernel : decode mX11_wanted.2.1 38 = .ok (.if_icmp .le 6, 3)) (by decide) (fun c => (?_ : XW _ _ _ _ _ _ _ 44 _ _)) (fun c => (?_ : XW _ _ _ _ _ _ _ 41 _ _))
        · replace vc := vc.1 c
          refine xi_iconst (v := (-1)) (by decide +kernel : decode mX11_wanted.2.1 44 = .ok (.iconst (-1), 1)) (by decide) (?_ : XW _ _ _ _ _ _ _ 45 _ _)
          refine xi_istore (ls' := [some (.ref 56), some (.long w), none, some (.int n), some (.int (-1)), none, none, none, none, none, none]) (by decide +kernel : decode mX11_wanted.2.1 45 = .ok (.istore 4, 2)) (by decide) rfl (?_ : XW _ _ _ _ _ _ _ 47 _ _)
          refine xi_lconst (v := 0) (by decide +kernel : decode mX11_wanted.2.1 47 = .ok (.lconst 0, 1)) (by decide) (?_ : XW _ _ _ _ _ _ _ 48 _ _)
          refine xi_lstore (ls' := [some (.ref 56), some (.long w), none, some (.int n), some (.int (-1)), some (.long 0), none, none, none, none, none]) (by decide +kernel : decode mX11_wanted.2.1 48 = .ok (.lstore 5, 2)) (by decide) rfl (?_ : XW _ _ _ _ _ _ _ 50 _ _)
          refine xi_iconst (v := 1) (by decide +kernel : decode mX11_wanted.2.1 50 = .ok (.iconst 1, 1)) (by decide) (?_ : XW _ _ _ _ _ _ _ 51 _ _)
          refine xi_istore (ls' := [some (.ref 56), some (.long w), none, some (.int n), some (.int (-1)), some (.long 0), none, some (.int 1), none, none, none]) (by decide +kernel : decode mX11_wanted.2.1 51 = .ok (.istore 7, 2)) (by decide) rfl (?_ : XW _ _ _ _ _ _ _ 53 _ _)
          exact vc
        · replace vc := vc.2 c
          refine xi_bipush (v := (-2)) (by decide +kernel : decode mX11_wanted.2.1 41 = .ok (.bipush (-2), 2)) (by decide) (?_ : XW _ _ _ _ _ _ _ 43 _ _)
          exact xi_iret (by decide +kernel : decode mX11_wanted.2.1 43 = .ok (.ireturn, 1)) rfl rfl vc
    · replace vc := vc.2 c
      refine xi_aload_n (by decide +kernel : decode mX11_wanted.2.1 18 = .ok (.aload_n 0, 1)) rfl rfl (?_ : XW _ _ _ _ _ _ _ 19 _ _)
      refine xi_iconst (v := 1) (by decide +kernel : decode mX11_wanted.2.1 19 = .ok (.iconst 1, 1)) (by decide) (?_ : XW _ _ _ _ _ _ _ 20 _ _)
      obtain ⟨Q1, sp, vc⟩ := vc
      refine xi_callV (b := 0) (bs := 0) (As := [.int 1]) (st := []) (by decide +kernel : decode mX11_wanted.2.1 20 = .ok (.invokevirtual 311, 3)) kX11_311 rfl rfl (by omega) rfl sp (by decide) (by decide) (Nat.le_of_ble_eq_true rfl) (by omega) (fun v9 h3 hq9 => ?_)
      obtain ⟨r3, e9, vc⟩ := vc v9 h3 hq9
      subst e9
      show XW _ _ _ _ _ _ _ 23 _ [.int r3]
      exact xi_iret (by decide +kernel : decode mX11_wanted.2.1 23 = .ok (.ireturn, 1)) rfl rfl vc

set_option maxRecDepth 20000 in
theorem v_X11_wanted_53 {h : XH} {Q : Option Value → XH → Prop} {X : String → XH → Prop} (hM : xMod (xP h))  (x1 : Int64) (x3 : Int32) (x4 : Int32) (x5 : Int64) (x7 : Int32)
    (vc : ((xI h 59 0) ≤ x7 → Q (some (.int x4)) h) ∧ (¬ (xI h 59 0) ≤ x7 → (24 ≤ (xI h 59 1) → Q (some (.int x4)) h) ∧ (¬ 24 ≤ (xI h 59 1) → ∃ Q1, XSpec mX11_tellBoard 5 0 0 100 100 [.ref 56] h Q1 xno ∧ ∀ v h4, Q1 v h4 → v = none ∧ ((xP h4 56 22 = some 68) ∧ ((vp_in x7 101) ∧ (((xI h4 68 x7.toNatClampNeg) = 0 → XW (xrm 6 0 0) mX11_wanted (xE 100 Q X 0 0) 100 0 0 h4 95 [some (.ref 56), some (.long x1), none, some (.int x3), some (.int x4), some (.long x5), none, some (.int x7), some (.int 1), none, none] []) ∧ (¬ (xI h4 68 x7.toNatClampNeg) = 0 → XW (xrm 6 0 0) mX11_wanted (xE 100 Q X 0 0) 100 0 0 h4 53 [some (.ref 56), some (.long x1), none, some (.int x3), some (.int x4), some (.long x5), none, some (.int (x7 + 1)), none, none, none] []))))))) :
    XW (xrm 6 0 0) mX11_wanted (xE 100 Q X 0 0) 100 0 0 h 53 [some (.ref 56), some (.long x1), none, some (.int x3), some (.int x4), some (.long x5), none, some (.int x7), none, none, none] [] := by
  refine xi_iload (by decide +kernel : decode mX11_wanted.2.1 53 = .ok (.iload 7, 2)) rfl (?_ : XW _ _ _ _ _ _ _ 55 _ _)
  refine xi_aload_n (by decide +kernel : decode mX11_wanted.2.1 55 = .ok (.aload_n 0, 1)) rfl rfl (?_ : XW _ _ _ _ _ _ _ 56 _ _)
  refine xi_getR (y := 59) (by decide +kernel : decode mX11_wanted.2.1 56 = .ok (.getfield 32, 3)) fX11_32 rfl (by omega) rfl (mp_told hM) (?_ : XW _ _ _ _ _ _ _ 59 _ _)
  refine xi_iconst (v := 0) (by decide +kernel : decode mX11_wanted.2.1 59 = .ok (.iconst 0, 1)) (by decide) (?_ : XW _ _ _ _ _ _ _ 60 _ _)
  refine xi_iald (by decide +kernel : decode mX11_wanted.2.1 60 = .ok (.iaload, 1)) rfl (by omega) (by unfold vp_in; decide) (?_ : XW _ _ _ _ _ _ _ 61 _ [.int (xI h 59 0), .int x7])
  refine xi_icmp_ge (by decide +kernel : decode mX11_wanted.2.1 61 = .ok (.if_icmp .ge 132, 3)) (by decide) (fun c => (?_ : XW _ _ _ _ _ _ _ 193 _ _)) (fun c => (?_ : XW _ _ _ _ _ _ _ 64 _ _))
  · replace vc := vc.1 c
    refine xi_iload (by decide +kernel : decode mX11_wanted.2.1 193 = .ok (.iload 4, 2)) rfl (?_ : XW _ _ _ _ _ _ _ 195 _ _)
    exact xi_iret (by decide +kernel : decode mX11_wanted.2.1 195 = .ok (.ireturn, 1)) rfl rfl vc
  · replace vc := vc.2 c
    refine xi_aload_n (by decide +kernel : decode mX11_wanted.2.1 64 = .ok (.aload_n 0, 1)) rfl rfl (?_ : XW _ _ _ _ _ _ _ 65 _ _)
    refine xi_getR (y := 59) (by decide +kernel : decode mX11_wanted.2.1 65 = .ok (.getfield 32, 3)) fX11_32 rfl (by omega) rfl (mp_told hM) (?_ : XW _ _ _ _ _ _ _ 68 _ _)
    refine xi_iconst (v := 1) (by decide +kernel : decode mX11_wanted.2.1 68 = .ok (.iconst 1, 1)) (by decide) (?_ : XW _ _ _ _ _ _ _ 69 _ _)
    refine xi_iald (by decide +kernel : decode mX11_wanted.2.1 69 = .ok (.iaload, 1)) rfl (by omega) (by unfold vp_in; decide) (?_ : XW _ _ _ _ _ _ _ 70 _ [.int (xI h 59 1)])
    refine xi_bipush (v := 24) (by decide +kernel : decode mX11_wanted.2.1 70 = .ok (.bipush 24, 2)) (by decide) (?_ : XW _ _ _ _ _ _ _ 72 _ _)
    refine xi_icmp_ge (by decide +kernel : decode mX11_wanted.2.1 72 = .ok (.if_icmp .ge 121, 3)) (by decide) (fun c => (?_ : XW _ _ _ _ _ _ _ 193 _ _)) (fun c => (?_ : XW _ _ _ _ _ _ _ 75 _ _))
    · replace vc := vc.1 c
      refine xi_iload (by decide +kernel : decode mX11_wanted.2.1 193 = .ok (.iload 4, 2)) rfl (?_ : XW _ _ _ _ _ _ _ 195 _ _)
      exact xi_iret (by decide +kernel : decode mX11_wanted.2.1 195 = .ok (.ireturn, 1)) rfl rfl vc
    · replace vc := vc.2 c
      refine xi_aload_n (by decide +kernel : decode mX11_wanted.2.1 75 = .ok (.aload_n 0, 1)) rfl rfl (?_ : XW _ _ _ _ _ _ _ 76 _ _)
      obtain ⟨Q1, sp, vc⟩ := vc
      refine xi_callV (b := 0) (bs := 0) (As := []) (st := []) (by decide +kernel : decode mX11_wanted.2.1 76 = .ok (.invokevirtual 373, 3)) kX11_373 rfl rfl (by omega) rfl sp (by decide) (by decide) (Nat.le_of_ble_eq_true rfl) (by omega) (fun v9 h4 hq9 => ?_)
      obtain ⟨e9, vc⟩ := vc v9 h4 hq9
      subst e9
      show XW _ _ _ _ _ _ _ 79 _ []
      refine xi_aload_n (by decide +kernel : decode mX11_wanted.2.1 79 = .ok (.aload_n 0, 1)) rfl rfl (?_ : XW _ _ _ _ _ _ _ 80 _ _)
      obtain ⟨s1, vc⟩ := vc
      refine xi_getR (y := 68) (by decide +kernel : decode mX11_wanted.2.1 80 = .ok (.getfield 64, 3)) fX11_64 rfl (by omega) rfl s1 (?_ : XW _ _ _ _ _ _ _ 83 _ _)
      refine xi_iload (by decide +kernel : decode mX11_wanted.2.1 83 = .ok (.iload 7, 2)) rfl (?_ : XW _ _ _ _ _ _ _ 85 _ _)
      obtain ⟨s1, vc⟩ := vc
      refine xi_iald (by decide +kernel : decode mX11_wanted.2.1 85 = .ok (.iaload, 1)) rfl (by omega) s1 (?_ : XW _ _ _ _ _ _ _ 86 _ _)
      refine xi_if_eq (by decide +kernel : decode mX11_wanted.2.1 86 = .ok (.ifCond .eq 6, 3)) (by decide) (fun c => (?_ : XW _ _ _ _ _ _ _ 92 _ _)) (fun c => (?_ : XW _ _ _ _ _ _ _ 89 _ _))
      · replace vc := vc.1 c
        refine xi_iconst (v := 1) (by decide +kernel : decode mX11_wanted.2.1 92 = .ok (.iconst 1, 1)) (by decide) (?_ : XW _ _ _ _ _ _ _ 93 _ _)
        refine xi_istore (ls' := [some (.ref 56), some (.long x1), none, some (.int x3), some (.int x4), some (.long x5), none, some (.int x7), some (.int 1), none, none]) (by decide +kernel : decode mX11_wanted.2.1 93 = .ok (.istore 8, 2)) (by decide) rfl (?_ : XW _ _ _ _ _ _ _ 95 _ _)
        exact vc
      · replace vc := vc.2 c
        refine xi_goto (by decide +kernel : decode mX11_wanted.2.1 89 = .ok (.goto 98, 3)) (by decide) (?_ : XW _ _ _ _ _ _ _ 187 _ _)
        refine xi_iinc (v := x7 + 1) (ls' := [some (.ref 56), some (.long x1), none, some (.int x3), some (.int x4), some (.long x5), none, some (.int (x7 + 1)), none, none, none]) (by decide +kernel : decode mX11_wanted.2.1 187 = .ok (.iinc 7 1, 3)) rfl rfl (by decide) rfl (?_ : XW _ _ _ _ _ _ _ 190 _ _)
        refine xi_goto (by decide +kernel : decode mX11_wanted.2.1 190 = .ok (.goto (-137), 3)) (by decide) (?_ : XW _ _ _ _ _ _ _ 53 _ _)
        exact vc

set_option maxRecDepth 20000 in
theorem v_X11_wanted_95 {h : XH} {Q : Option Value → XH → Prop} {X : String → XH → Prop} (hM : xMod (xP h))  (x1 : Int64) (x3 : Int32) (x4 : Int32) (x5 : Int64) (x7 : Int32) (x8 : Int32)
    (vc : ((xI h 59 0) < x8 → XW (xrm 6 0 0) mX11_wanted (xE 100 Q X 0 0) 100 0 0 h 53 [some (.ref 56), some (.long x1), none, some (.int x3), some (.int x4), some (.long x5), none, some (.int (x7 + 1)), none, none, none] []) ∧ (¬ (xI h 59 0) < x8 → (¬ x7 = x8 → ∃ Q1, XSpec mX11_tellTable 4 0 0 100 100 [.ref 56, .int (-1), .int x7, .int x8, .int (xI h 59 3)] h Q1 xno ∧ ∀ v h5, Q1 v h5 → v = none ∧ (∃ Q1, XSpec mX11_longBy 3 0 0 100 100 [.ref 56, .int 0, .int x3] h5 Q1 xno ∧ ∀ v h6, Q1 v h6 → ∃ r6 : Int64, v = some (.long r6) ∧ ((x4 = (-1) → (xP h6 56 3 = some 59) ∧ (XW (xrm 6 0 0) mX11_wanted (xE 100 Q X 0 0) 100 0 0 h6 95 [some (.ref 56), some (.long x1), none, some (.int x3), some (.int ((((xI h6 59 0) + 1) * x7) + x8)), some (.long (if 0 < (r6 - x1) then (r6 - x1) else -(r6 - x1))), none, some (.int x7), some (.int (x8 + 1)), none, none] [])) ∧ (¬ x4 = (-1) → ((lg_cmp (if 0 < (r6 - x1) then (r6 - x1) else -(r6 - x1)) x5) < 0 → (xP h6 56 3 = some 59) ∧ (XW (xrm 6 0 0) mX11_wanted (xE 100 Q X 0 0) 100 0 0 h6 95 [some (.ref 56), some (.long x1), none, some (.int x3), some (.int ((((xI h6 59 0) + 1) * x7) + x8)), some (.long (if 0 < (r6 - x1) then (r6 - x1) else -(r6 - x1))), none, some (.int x7), some (.int (x8 + 1)), none, none] [])) ∧ (¬ (lg_cmp (if 0 < (r6 - x1) then (r6 - x1) else -(r6 - x1)) x5) < 0 → XW (xrm 6 0 0) mX11_wanted (xE 100 Q X 0 0) 100 0 0 h6 95 [some (.ref 56), some (.long x1), none, some (.int x3), some (.int x4), some (.long x5), none, some (.int x7), some (.int (x8 + 1)), none, none] []))))) ∧ (x7 = x8 → XW (xrm 6 0 0) mX11_wanted (xE 100 Q X 0 0) 100 0 0 h 95 [some (.ref 56), some (.long x1), none, some (.int x3), some (.int x4), some (.long x5), none, some (.int x7), some (.int (x8 + 1)), none, none] []))) :
    XW (xrm 6 0 0) mX11_wanted (xE 100 Q X 0 0) 100 0 0 h 95 [some (.ref 56), some (.long x1), none, some (.int x3), some (.int x4), some (.long x5), none, some (.int x7), some (.int x8), none, none] [] := by
  refine xi_iload (by decide +kernel : decode mX11_wanted.2.1 95 = .ok (.iload 8, 2)) rfl (?_ : XW _ _ _ _ _ _ _ 97 _ _)
  refine xi_aload_n (by decide +kernel : decode mX11_wanted.2.1 97 = .ok (.aload_n 0, 1)) rfl rfl (?_ : XW _ _ _ _ _ _ _ 98 _ _)
  refine xi_getR (y := 59) (by decide +kernel : decode mX11_wanted.2.1 98 = .ok (.getfield 32, 3)) fX11_32 rfl (by omega) rfl (mp_told hM) (?_ : XW _ _ _ _ _ _ _ 101 _ _)
  refine xi_iconst (v := 0) (by decide +kernel : decode mX11_wanted.2.1 101 = .ok (.iconst 0, 1)) (by decide) (?_ : XW _ _ _ _ _ _ _ 102 _ _)
  refine xi_iald (by decide +kernel : decode mX11_wanted.2.1 102 = .ok (.iaload, 1)) rfl (by omega) (by unfold vp_in; decide) (?_ : XW _ _ _ _ _ _ _ 103 _ [.int (xI h 59 0), .int x8])
  refine xi_icmp_gt (by decide +kernel : decode mX11_wanted.2.1 103 = .ok (.if_icmp .gt 84, 3)) (by decide) (fun c => (?_ : XW _ _ _ _ _ _ _ 187 _ _)) (fun c => (?_ : XW _ _ _ _ _ _ _ 106 _ _))
  · replace vc := vc.1 c
    refine xi_iinc (v := x7 + 1) (ls' := [some (.ref 56), some (.long x1), none, some (.int x3), some (.int x4), some (.long x5), none, some (.int (x7 + 1)), some (.int x8), none, none]) (by decide +kernel : decode mX11_wanted.2.1 187 = .ok (.iinc 7 1, 3)) rfl rfl (by decide) rfl (?_ : XW _ _ _ _ _ _ _ 190 _ _)
    refine xi_goto (by decide +kernel : decode mX11_wanted.2.1 190 = .ok (.goto (-137), 3)) (by decide) (?_ : XW _ _ _ _ _ _ _ 53 _ _)
    refine xw_drop 8 (ls' := [some (.ref 56), some (.long x1), none, some (.int x3), some (.int x4), some (.long x5), none, some (.int (x7 + 1)), none, none, none]) rfl ?_
    exact vc
  · replace vc := vc.2 c
    refine xi_iload (by decide +kernel : decode mX11_wanted.2.1 106 = .ok (.iload 7, 2)) rfl (?_ : XW _ _ _ _ _ _ _ 108 _ _)
    refine xi_iload (by decide +kernel : decode mX11_wanted.2.1 108 = .ok (.iload 8, 2)) rfl (?_ : XW _ _ _ _ _ _ _ 110 _ _)
    refine xi_icmp_ne (by decide +kernel : decode mX11_wanted.2.1 110 = .ok (.if_icmp .ne 6, 3)) (by decide) (fun c => (?_ : XW _ _ _ _ _ _ _ 116 _ _)) (fun c => (?_ : XW _ _ _ _ _ _ _ 113 _ _))
    · replace vc := vc.1 c
      refine xi_aload_n (by decide +kernel : decode mX11_wanted.2.1 116 = .ok (.aload_n 0, 1)) rfl rfl (?_ : XW _ _ _ _ _ _ _ 117 _ _)
      refine xi_iconst (v := (-1)) (by decide +kernel : decode mX11_wanted.2.1 117 = .ok (.iconst (-1), 1)) (by decide) (?_ : XW _ _ _ _ _ _ _ 118 _ _)
      refine xi_iload (by decide +kernel : decode mX11_wanted.2.1 118 = .ok (.iload 7, 2)) rfl (?_ : XW _ _ _ _ _ _ _ 120 _ _)
      refine xi_iload (by decide +kernel : decode mX11_wanted.2.1 120 = .ok (.iload 8, 2)) rfl (?_ : XW _ _ _ _ _ _ _ 122 _ _)
      refine xi_aload_n (by decide +kernel : decode mX11_wanted.2.1 122 = .ok (.aload_n 0, 1)) rfl rfl (?_ : XW _ _ _ _ _ _ _ 123 _ _)
      refine xi_getR (y := 59) (by decide +kernel : decode mX11_wanted.2.1 123 = .ok (.getfield 32, 3)) fX11_32 rfl (by omega) rfl (mp_told hM) (?_ : XW _ _ _ _ _ _ _ 126 _ _)
      refine xi_iconst (v := 3) (by decide +kernel : decode mX11_wanted.2.1 126 = .ok (.iconst 3, 1)) (by decide) (?_ : XW _ _ _ _ _ _ _ 127 _ _)
      refine xi_iald (by decide +kernel : decode mX11_wanted.2.1 127 = .ok (.iaload, 1)) rfl (by omega) (by unfold vp_in; decide) (?_ : XW _ _ _ _ _ _ _ 128 _ [.int (xI h 59 3), .int x8, .int x7, .int (-1), .ref 56])
      obtain ⟨Q1, sp, vc⟩ := vc
      refine xi_callV (b := 0) (bs := 0) (As := [.int (-1), .int x7, .int x8, .int (xI h 59 3)]) (st := []) (by decide +kernel : decode mX11_wanted.2.1 128 = .ok (.invokevirtual 353, 3)) kX11_353 rfl rfl (by omega) rfl sp (by decide) (by decide) (Nat.le_of_ble_eq_true rfl) (by omega) (fun v9 h5 hq9 => ?_)
      obtain ⟨e9, vc⟩ := vc v9 h5 hq9
      subst e9
      show XW _ _ _ _ _ _ _ 131 _ []
      refine xi_aload_n (by decide +kernel : decode mX11_wanted.2.1 131 = .ok (.aload_n 0, 1)) rfl rfl (?_ : XW _ _ _ _ _ _ _ 132 _ _)
      refine xi_iconst (v := 0) (by decide +kernel : decode mX11_wanted.2.1 132 = .ok (.iconst 0, 1)) (by decide) (?_ : XW _ _ _ _ _ _ _ 133 _ _)
      refine xi_iload_n (by decide +kernel : decode mX11_wanted.2.1 133 = .ok (.iload_n 3, 1)) rfl rfl (?_ : XW _ _ _ _ _ _ _ 134 _ _)
      obtain ⟨Q1, sp, vc⟩ := vc
      refine xi_callV (b := 0) (bs := 0) (As := [.int 0, .int x3]) (st := []) (by decide +kernel : decode mX11_wanted.2.1 134 = .ok (.invokevirtual 420, 3)) kX11_420 rfl rfl (by omega) rfl sp (by decide) (by decide) (Nat.le_of_ble_eq_true rfl) (by omega) (fun v9 h6 hq9 => ?_)
      obtain ⟨r6, e9, vc⟩ := vc v9 h6 hq9
      subst e9
      show XW _ _ _ _ _ _ _ 137 _ [.long r6]
      refine xi_lload_n (by decide +kernel : decode mX11_wanted.2.1 137 = .ok (.lload_n 1, 1)) rfl rfl (?_ : XW _ _ _ _ _ _ _ 138 _ _)
      refine xi_lsub (by decide +kernel : decode mX11_wanted.2.1 138 = .ok (.lsub, 1)) (?_ : XW _ _ _ _ _ _ _ 139 _ _)
      refine xi_mabsl (by decide +kernel : decode mX11_wanted.2.1 139 = .ok (.invokestatic 431, 3)) kX11_431.2.1 (by decide) (Nat.le_of_ble_eq_true rfl) (?_ : XW _ _ _ _ _ _ _ 142 _ _)
      refine xi_lstore (ls' := [some (.ref 56), some (.long x1), none, some (.int x3), some (.int x4), some (.long x5), none, some (.int x7), some (.int x8), some (.long (if 0 < (r6 - x1) then (r6 - x1) else -(r6 - x1))), none]) (by decide +kernel : decode mX11_wanted.2.1 142 = .ok (.lstore 9, 2)) (by decide) rfl (?_ : XW _ _ _ _ _ _ _ 144 _ _)
      refine xi_iload (by decide +kernel : decode mX11_wanted.2.1 144 = .ok (.iload 4, 2)) rfl (?_ : XW _ _ _ _ _ _ _ 146 _ _)
      refine xi_iconst (v := (-1)) (by decide +kernel : decode mX11_wanted.2.1 146 = .ok (.iconst (-1), 1)) (by decide) (?_ : XW _ _ _ _ _ _ _ 147 _ _)
      refine xi_icmp_eq (by decide +kernel : decode mX11_wanted.2.1 147 = .ok (.if_icmp .eq 14, 3)) (by decide) (fun c => (?_ : XW _ _ _ _ _ _ _ 161 _ _)) (fun c => (?_ : XW _ _ _ _ _ _ _ 150 _ _))
      · replace vc := vc.1 c
        refine xi_aload_n (by decide +kernel : decode mX11_wanted.2.1 161 = .ok (.aload_n 0, 1)) rfl rfl (?_ : XW _ _ _ _ _ _ _ 162 _ _)
        obtain ⟨s1, vc⟩ := vc
        refine xi_getR (y := 59) (by decide +kernel : decode mX11_wanted.2.1 162 = .ok (.getfield 32, 3)) fX11_32 rfl (by omega) rfl s1 (?_ : XW _ _ _ _ _ _ _ 165 _ _)
        refine xi_iconst (v := 0) (by decide +kernel : decode mX11_wanted.2.1 165 = .ok (.iconst 0, 1)) (by decide) (?_ : XW _ _ _ _ _ _ _ 166 _ _)
        refine xi_iald (by decide +kernel : decode mX11_wanted.2.1 166 = .ok (.iaload, 1)) rfl (by omega) (by unfold vp_in; decide) (?_ : XW _ _ _ _ _ _ _ 167 _ [.int (xI h6 59 0)])
        refine xi_iconst (v := 1) (by decide +kernel : decode mX11_wanted.2.1 167 = .ok (.iconst 1, 1)) (by decide) (?_ : XW _ _ _ _ _ _ _ 168 _ _)
        refine xi_iadd (by decide +kernel : decode mX11_wanted.2.1 168 = .ok (.iadd, 1)) (?_ : XW _ _ _ _ _ _ _ 169 _ _)
        refine xi_iload (by decide +kernel : decode mX11_wanted.2.1 169 = .ok (.iload 7, 2)) rfl (?_ : XW _ _ _ _ _ _ _ 171 _ _)
        refine xi_imul (by decide +kernel : decode mX11_wanted.2.1 171 = .ok (.imul, 1)) (?_ : XW _ _ _ _ _ _ _ 172 _ _)
        refine xi_iload (by decide +kernel : decode mX11_wanted.2.1 172 = .ok (.iload 8, 2)) rfl (?_ : XW _ _ _ _ _ _ _ 174 _ _)
        refine xi_iadd (by decide +kernel : decode mX11_wanted.2.1 174 = .ok (.iadd, 1)) (?_ : XW _ _ _ _ _ _ _ 175 _ _)
        refine xi_istore (ls' := [some (.ref 56), some (.long x1), none, some (.int x3), some (.int ((((xI h6 59 0) + 1) * x7) + x8)), some (.long x5), none, some (.int x7), some (.int x8), some (.long (if 0 < (r6 - x1) then (r6 - x1) else -(r6 - x1))), none]) (by decide +kernel : decode mX11_wanted.2.1 175 = .ok (.istore 4, 2)) (by decide) rfl (?_ : XW _ _ _ _ _ _ _ 177 _ _)
        refine xi_lload (by decide +kernel : decode mX11_wanted.2.1 177 = .ok (.lload 9, 2)) rfl (?_ : XW _ _ _ _ _ _ _ 179 _ _)
        refine xi_lstore (ls' := [some (.ref 56), some (.long x1), none, some (.int x3), some (.int ((((xI h6 59 0) + 1) * x7) + x8)), some (.long (if 0 < (r6 - x1) then (r6 - x1) else -(r6 - x1))), none, some (.int x7), some (.int x8), some (.long (if 0 < (r6 - x1) then (r6 - x1) else -(r6 - x1))), none]) (by decide +kernel : decode mX11_wanted.2.1 179 = .ok (.lstore 5, 2)) (by decide) rfl (?_ : XW _ _ _ _ _ _ _ 181 _ _)
        refine xi_iinc (v := x8 + 1) (ls' := [some (.ref 56), some (.long x1), none, some (.int x3), some (.int ((((xI h6 59 0) + 1) * x7) + x8)), some (.long (if 0 < (r6 - x1) then (r6 - x1) else -(r6 - x1))), none, some (.int x7), some (.int (x8 + 1)), some (.long (if 0 < (r6 - x1) then (r6 - x1) else -(r6 - x1))), none]) (by decide +kernel : decode mX11_wanted.2.1 181 = .ok (.iinc 8 1, 3)) rfl rfl (by decide) rfl (?_ : XW _ _ _ _ _ _ _ 184 _ _)
        refine xi_goto (by decide +kernel : decode mX11_wanted.2.1 184 = .ok (.goto (-89), 3)) (by decide) (?_ : XW _ _ _ _ _ _ _ 95 _ _)
        refine xw_drop 9 (ls' := [some (.ref 56), some (.long x1), none, some (.int x3), some (.int ((((xI h6 59 0) + 1) * x7) + x8)), some (.long (if 0 < (r6 - x1) then (r6 - x1) else -(r6 - x1))), none, some (.int x7), some (.int (x8 + 1)), none, none]) rfl ?_
        exact vc
      · replace vc := vc.2 c
        refine xi_lload (by decide +kernel : decode mX11_wanted.2.1 150 = .ok (.lload 9, 2)) rfl (?_ : XW _ _ _ _ _ _ _ 152 _ _)
        refine xi_lload (by decide +kernel : decode mX11_wanted.2.1 152 = .ok (.lload 5, 2)) rfl (?_ : XW _ _ _ _ _ _ _ 154 _ _)
        refine xi_lcmp (by decide +kernel : decode mX11_wanted.2.1 154 = .ok (.lcmp, 1)) (?_ : XW _ _ _ _ _ _ _ 155 _ _)
        refine xi_if_lt (by decide +kernel : decode mX11_wanted.2.1 155 = .ok (.ifCond .lt 6, 3)) (by decide) (fun c => (?_ : XW _ _ _ _ _ _ _ 161 _ _)) (fun c => (?_ : XW _ _ _ _ _ _ _ 158 _ _))
        · replace vc := vc.1 c
          refine xi_aload_n (by decide +kernel : decode mX11_wanted.2.1 161 = .ok (.aload_n 0, 1)) rfl rfl (?_ : XW _ _ _ _ _ _ _ 162 _ _)
          obtain ⟨s1, vc⟩ := vc
          refine xi_getR (y := 59) (by decide +kernel : decode mX11_wanted.2.1 162 = .ok (.getfield 32, 3)) fX11_32 rfl (by omega) rfl s1 (?_ : XW _ _ _ _ _ _ _ 165 _ _)
          refine xi_iconst (v := 0) (by decide +kernel : decode mX11_wanted.2.1 165 = .ok (.iconst 0, 1)) (by decide) (?_ : XW _ _ _ _ _ _ _ 166 _ _)
          refine xi_iald (by decide +kernel : decode mX11_wanted.2.1 166 = .ok (.iaload, 1)) rfl (by omega) (by unfold vp_in; decide) (?_ : XW _ _ _ _ _ _ _ 167 _ [.int (xI h6 59 0)])
          refine xi_iconst (v := 1) (by decide +kernel : decode mX11_wanted.2.1 167 = .ok (.iconst 1, 1)) (by decide) (?_ : XW _ _ _ _ _ _ _ 168 _ _)
          refine xi_iadd (by decide +kernel : decode mX11_wanted.2.1 168 = .ok (.iadd, 1)) (?_ : XW _ _ _ _ _ _ _ 169 _ _)
          refine xi_iload (by decide +kernel : decode mX11_wanted.2.1 169 = .ok (.iload 7, 2)) rfl (?_ : XW _ _ _ _ _ _ _ 171 _ _)
          refine xi_imul (by decide +kernel : decode mX11_wanted.2.1 171 = .ok (.imul, 1)) (?_ : XW _ _ _ _ _ _ _ 172 _ _)
          refine xi_iload (by decide +kernel : decode mX11_wanted.2.1 172 = .ok (.iload 8, 2)) rfl (?_ : XW _ _ _ _ _ _ _ 174 _ _)
          refine xi_iadd (by decide +kernel : decode mX11_wanted.2.1 174 = .ok (.iadd, 1)) (?_ : XW _ _ _ _ _ _ _ 175 _ _)
          refine xi_istore (ls' := [some (.ref 56), some (.long x1), none, some (.int x3), some (.int ((((xI h6 59 0) + 1) * x7) + x8)), some (.long x5), none, some (.int x7), some (.int x8), some (.long (if 0 < (r6 - x1) then (r6 - x1) else -(r6 - x1))), none]) (by decide +kernel : decode mX11_wanted.2.1 175 = .ok (.istore 4, 2)) (by decide) rfl (?_ : XW _ _ _ _ _ _ _ 177 _ _)
          refine xi_lload (by decide +kernel : decode mX11_wanted.2.1 177 = .ok (.lload 9, 2)) rfl (?_ : XW _ _ _ _ _ _ _ 179 _ _)
          refine xi_lstore (ls' := [some (.ref 56), some (.long x1), none, some (.int x3), some (.int ((((xI h6 59 0) + 1) * x7) + x8)), some (.long (if 0 < (r6 - x1) then (r6 - x1) else -(r6 - x1))), none, some (.int x7), some (.int x8), some (.long (if 0 < (r6 - x1) then (r6 - x1) else -(r6 - x1))), none]) (by decide +kernel : decode mX11_wanted.2.1 179 = .ok (.lstore 5, 2)) (by decide) rfl (?_ : XW _ _ _ _ _ _ _ 181 _ _)
          refine xi_iinc (v := x8 + 1) (ls' := [some (.ref 56), some (.long x1), none, some (.int x3), some (.int ((((xI h6 59 0) + 1) * x7) + x8)), some (.long (if 0 < (r6 - x1) then (r6 - x1) else -(r6 - x1))), none, some (.int x7), some (.int (x8 + 1)), some (.long (if 0 < (r6 - x1) then (r6 - x1) else -(r6 - x1))), none]) (by decide +kernel : decode mX11_wanted.2.1 181 = .ok (.iinc 8 1, 3)) rfl rfl (by decide) rfl (?_ : XW _ _ _ _ _ _ _ 184 _ _)
          refine xi_goto (by decide +kernel : decode mX11_wanted.2.1 184 = .ok (.goto (-89), 3)) (by decide) (?_ : XW _ _ _ _ _ _ _ 95 _ _)
          refine xw_drop 9 (ls' := [some (.ref 56), some (.long x1), none, some (.int x3), some (.int ((((xI h6 59 0) + 1) * x7) + x8)), some (.long (if 0 < (r6 - x1) then (r6 - x1) else -(r6 - x1))), none, some (.int x7), some (.int (x8 + 1)), none, none]) rfl ?_
          exact vc
        · replace vc := vc.2 c
          refine xi_goto (by decide +kernel : decode mX11_wanted.2.1 158 = .ok (.goto 23, 3)) (by decide) (?_ : XW _ _ _ _ _ _ _ 181 _ _)
          refine xi_iinc (v := x8 + 1) (ls' := [some (.ref 56), some (.long x1), none, some (.int x3), some (.int x4), some (.long x5), none, some (.int x7), some (.int (x8 + 1)), some (.long (if 0 < (r6 - x1) then (r6 - x1) else -(r6 - x1))), none]) (by decide +kernel : decode mX11_wanted.2.1 181 = .ok (.iinc 8 1, 3)) rfl rfl (by decide) rfl (?_ : XW _ _ _ _ _ _ _ 184 _ _)
          refine xi_goto (by decide +kernel : decode mX11_wanted.2.1 184 = .ok (.goto (-89), 3)) (by decide) (?_ : XW _ _ _ _ _ _ _ 95 _ _)
          refine xw_drop 9 (ls' := [some (.ref 56), some (.long x1), none, some (.int x3), some (.int x4), some (.long x5), none, some (.int x7), some (.int (x8 + 1)), none, none]) rfl ?_
          exact vc
    · replace vc := vc.2 c
      refine xi_goto (by decide +kernel : decode mX11_wanted.2.1 113 = .ok (.goto 68, 3)) (by decide) (?_ : XW _ _ _ _ _ _ _ 181 _ _)
      refine xi_iinc (v := x8 + 1) (ls' := [some (.ref 56), some (.long x1), none, some (.int x3), some (.int x4), some (.long x5), none, some (.int x7), some (.int (x8 + 1)), none, none]) (by decide +kernel : decode mX11_wanted.2.1 181 = .ok (.iinc 8 1, 3)) rfl rfl (by decide) rfl (?_ : XW _ _ _ _ _ _ _ 184 _ _)
      refine xi_goto (by decide +kernel : decode mX11_wanted.2.1 184 = .ok (.goto (-89), 3)) (by decide) (?_ : XW _ _ _ _ _ _ _ 95 _ _)
      exact vc

set_option maxRecDepth 20000 in
theorem v_X11_ended_0 {h : XH} {Q : Option Value → XH → Prop} {X : String → XH → Prop} (hM : xMod (xP h))  (e : Int32) (n : Int32)
    (vc : ∃ Q1, XSpec mX11_isIn 1 0 0 100 100 [.long (Int32.toInt64 e), .long 0, .long 2] (xSI 56 (va_up (xI h 56) 2 0) h) Q1 xno ∧ ∀ v h1, Q1 v h1 → ∃ r1 : Int32, v = some (.int r1) ∧ ((¬ r1 = 0 → ∃ Q1, XSpec mX11_isLong 2 0 0 100 100 [.int n] h1 Q1 xno ∧ ∀ v h2, Q1 v h2 → ∃ r2 : Int32, v = some (.int r2) ∧ ((¬ r2 = 0 → ∃ Q1, XSpec mX11_tellTable 4 0 0 100 100 [.ref 56, .int (-1), .int 0, .int 0, .int e] h2 Q1 xno ∧ ∀ v h3, Q1 v h3 → v = none ∧ (∃ Q1, XSpec mX11_longBy 3 0 0 100 100 [.ref 56, .int 0, .int n] h3 Q1 xno ∧ ∀ v h4, Q1 v h4 → ∃ r4 : Int64, v = some (.long r4) ∧ (Q (some (.long r4)) h4))) ∧ (r2 = 0 → ∃ Q1, XSpec mX11_fail 1 0 0 100 100 [.ref 56, .int 2] h2 Q1 xno ∧ ∀ v h5, Q1 v h5 → ∃ r5 : Int32, v = some (.int r5) ∧ (Q (some (.long (Int32.toInt64 r5))) h5)))) ∧ (r1 = 0 → ∃ Q1, XSpec mX11_fail 1 0 0 100 100 [.ref 56, .int 1] h1 Q1 xno ∧ ∀ v h6, Q1 v h6 → ∃ r6 : Int32, v = some (.int r6) ∧ (Q (some (.long (Int32.toInt64 r6))) h6)))) :
    XW (xrm 5 0 0) mX11_ended (xE 100 Q X 0 0) 100 0 0 h 0 [some (.ref 56), some (.int e), some (.int n)] [] := by
  refine xi_aload_n (by decide +kernel : decode mX11_ended.2.1 0 = .ok (.aload_n 0, 1)) rfl rfl (?_ : XW _ _ _ _ _ _ _ 1 _ _)
  refine xi_iconst (v := 0) (by decide +kernel : decode mX11_ended.2.1 1 = .ok (.iconst 0, 1)) (by decide) (?_ : XW _ _ _ _ _ _ _ 2 _ _)
  refine xi_putI (by decide +kernel : decode mX11_ended.2.1 2 = .ok (.putfield 161, 3)) fX11_161 rfl (by omega) rfl rfl rfl (?_ : XW _ _ _ _ _ _ (xSI 56 (va_up (xI h 56) 2 0) h) 5 _ _)
  refine xi_iload_n (by decide +kernel : decode mX11_ended.2.1 5 = .ok (.iload_n 1, 1)) rfl rfl (?_ : XW _ _ _ _ _ _ _ 6 _ _)
  refine xi_i2l (by decide +kernel : decode mX11_ended.2.1 6 = .ok (.i2l, 1)) (?_ : XW _ _ _ _ _ _ _ 7 _ _)
  refine xi_lconst (v := 0) (by decide +kernel : decode mX11_ended.2.1 7 = .ok (.lconst 0, 1)) (by decide) (?_ : XW _ _ _ _ _ _ _ 8 _ _)
  refine xi_ldc2 (v := 2) (by decide +kernel : decode mX11_ended.2.1 8 = .ok (.ldc2_w 415, 3)) cK_X11_415 (?_ : XW _ _ _ _ _ _ _ 11 _ _)
  obtain ⟨Q1, sp, vc⟩ := vc
  refine xi_callS (b := 0) (bs := 0) (As := [.long (Int32.toInt64 e), .long 0, .long 2]) (st := []) (by decide +kernel : decode mX11_ended.2.1 11 = .ok (.invokestatic 164, 3)) kX11_164 rfl rfl sp (by decide) (by decide) (Nat.le_of_ble_eq_true rfl) (by omega) (fun v9 h1 hq9 => ?_)
  obtain ⟨r1, e9, vc⟩ := vc v9 h1 hq9
  subst e9
  show XW _ _ _ _ _ _ _ 14 _ [.int r1]
  refine xi_if_ne (by decide +kernel : decode mX11_ended.2.1 14 = .ok (.ifCond .ne 10, 3)) (by decide) (fun c => (?_ : XW _ _ _ _ _ _ _ 24 _ _)) (fun c => (?_ : XW _ _ _ _ _ _ _ 17 _ _))
  · replace vc := vc.1 c
    refine xi_iload_n (by decide +kernel : decode mX11_ended.2.1 24 = .ok (.iload_n 2, 1)) rfl rfl (?_ : XW _ _ _ _ _ _ _ 25 _ _)
    obtain ⟨Q1, sp, vc⟩ := vc
    refine xi_callS (b := 0) (bs := 0) (As := [.int n]) (st := []) (by decide +kernel : decode mX11_ended.2.1 25 = .ok (.invokestatic 417, 3)) kX11_417 rfl rfl sp (by decide) (by decide) (Nat.le_of_ble_eq_true rfl) (by omega) (fun v9 h2 hq9 => ?_)
    obtain ⟨r2, e9, vc⟩ := vc v9 h2 hq9
    subst e9
    show XW _ _ _ _ _ _ _ 28 _ [.int r2]
    refine xi_if_ne (by decide +kernel : decode mX11_ended.2.1 28 = .ok (.ifCond .ne 10, 3)) (by decide) (fun c => (?_ : XW _ _ _ _ _ _ _ 38 _ _)) (fun c => (?_ : XW _ _ _ _ _ _ _ 31 _ _))
    · replace vc := vc.1 c
      refine xi_aload_n (by decide +kernel : decode mX11_ended.2.1 38 = .ok (.aload_n 0, 1)) rfl rfl (?_ : XW _ _ _ _ _ _ _ 39 _ _)
      refine xi_iconst (v := (-1)) (by decide +kernel : decode mX11_ended.2.1 39 = .ok (.iconst (-1), 1)) (by decide) (?_ : XW _ _ _ _ _ _ _ 40 _ _)
      refine xi_iconst (v := 0) (by decide +kernel : decode mX11_ended.2.1 40 = .ok (.iconst 0, 1)) (by decide) (?_ : XW _ _ _ _ _ _ _ 41 _ _)
      refine xi_iconst (v := 0) (by decide +kernel : decode mX11_ended.2.1 41 = .ok (.iconst 0, 1)) (by decide) (?_ : XW _ _ _ _ _ _ _ 42 _ _)
      refine xi_iload_n (by decide +kernel : decode mX11_ended.2.1 42 = .ok (.iload_n 1, 1)) rfl rfl (?_ : XW _ _ _ _ _ _ _ 43 _ _)
      obtain ⟨Q1, sp, vc⟩ := vc
      refine xi_callV (b := 0) (bs := 0) (As := [.int (-1), .int 0, .int 0, .int e]) (st := []) (by decide +kernel : decode mX11_ended.2.1 43 = .ok (.invokevirtual 353, 3)) kX11_353 rfl rfl (by omega) rfl sp (by decide) (by decide) (Nat.le_of_ble_eq_true rfl) (by omega) (fun v9 h3 hq9 => ?_)
      obtain ⟨e9, vc⟩ := vc v9 h3 hq9
      subst e9
      show XW _ _ _ _ _ _ _ 46 _ []
      refine xi_aload_n (by decide +kernel : decode mX11_ended.2.1 46 = .ok (.aload_n 0, 1)) rfl rfl (?_ : XW _ _ _ _ _ _ _ 47 _ _)
      refine xi_iconst (v := 0) (by decide +kernel : decode mX11_ended.2.1 47 = .ok (.iconst 0, 1)) (by decide) (?_ : XW _ _ _ _ _ _ _ 48 _ _)
      refine xi_iload_n (by decide +kernel : decode mX11_ended.2.1 48 = .ok (.iload_n 2, 1)) rfl rfl (?_ : XW _ _ _ _ _ _ _ 49 _ _)
      obtain ⟨Q1, sp, vc⟩ := vc
      refine xi_callV (b := 0) (bs := 0) (As := [.int 0, .int n]) (st := []) (by decide +kernel : decode mX11_ended.2.1 49 = .ok (.invokevirtual 420, 3)) kX11_420 rfl rfl (by omega) rfl sp (by decide) (by decide) (Nat.le_of_ble_eq_true rfl) (by omega) (fun v9 h4 hq9 => ?_)
      obtain ⟨r4, e9, vc⟩ := vc v9 h4 hq9
      subst e9
      show XW _ _ _ _ _ _ _ 52 _ [.long r4]
      exact xi_lret (by decide +kernel : decode mX11_ended.2.1 52 = .ok (.lreturn, 1)) rfl vc
    · replace vc := vc.2 c
      refine xi_aload_n (by decide +kernel : decode mX11_ended.2.1 31 = .ok (.aload_n 0, 1)) rfl rfl (?_ : XW _ _ _ _ _ _ _ 32 _ _)
      refine xi_iconst (v := 2) (by decide +kernel : decode mX11_ended.2.1 32 = .ok (.iconst 2, 1)) (by decide) (?_ : XW _ _ _ _ _ _ _ 33 _ _)
      obtain ⟨Q1, sp, vc⟩ := vc
      refine xi_callV (b := 0) (bs := 0) (As := [.int 2]) (st := []) (by decide +kernel : decode mX11_ended.2.1 33 = .ok (.invokevirtual 311, 3)) kX11_311 rfl rfl (by omega) rfl sp (by decide) (by decide) (Nat.le_of_ble_eq_true rfl) (by omega) (fun v9 h5 hq9 => ?_)
      obtain ⟨r5, e9, vc⟩ := vc v9 h5 hq9
      subst e9
      show XW _ _ _ _ _ _ _ 36 _ [.int r5]
      refine xi_i2l (by decide +kernel : decode mX11_ended.2.1 36 = .ok (.i2l, 1)) (?_ : XW _ _ _ _ _ _ _ 37 _ _)
      exact xi_lret (by decide +kernel : decode mX11_ended.2.1 37 = .ok (.lreturn, 1)) rfl vc
  · replace vc := vc.2 c
    refine xi_aload_n (by decide +kernel : decode mX11_ended.2.1 17 = .ok (.aload_n 0, 1)) rfl rfl (?_ : XW _ _ _ _ _ _ _ 18 _ _)
    refine xi_iconst (v := 1) (by decide +kernel : decode mX11_ended.2.1 18 = .ok (.iconst 1, 1)) (by decide) (?_ : XW _ _ _ _ _ _ _ 19 _ _)
    obtain ⟨Q1, sp, vc⟩ := vc
    refine xi_callV (b := 0) (bs := 0) (As := [.int 1]) (st := []) (by decide +kernel : decode mX11_ended.2.1 19 = .ok (.invokevirtual 311, 3)) kX11_311 rfl rfl (by omega) rfl sp (by decide) (by decide) (Nat.le_of_ble_eq_true rfl) (by omega) (fun v9 h6 hq9 => ?_)
    obtain ⟨r6, e9, vc⟩ := vc v9 h6 hq9
    subst e9
    show XW _ _ _ _ _ _ _ 22 _ [.int r6]
    refine xi_i2l (by decide +kernel : decode mX11_ended.2.1 22 = .ok (.i2l, 1)) (?_ : XW _ _ _ _ _ _ _ 23 _ _)
    exact xi_lret (by decide +kernel : decode mX11_ended.2.1 23 = .ok (.lreturn, 1)) rfl vc

set_option maxRecDepth 20000 in
theorem v_X11_first_0 {h : XH} {Q : Option Value → XH → Prop} {X : String → XH → Prop} (hM : xMod (xP h))  (o : Int32) (t : Int32) (n : Int32) (w : Int32)
    (vc : ∃ Q1, XSpec mX11_isSquare 2 0 0 100 100 [.ref 56, .int o] (xSI 56 (va_up (xI h 56) 2 0) h) Q1 xno ∧ ∀ v h1, Q1 v h1 → ∃ r1 : Int32, v = some (.int r1) ∧ ((r1 = 0 → ∃ Q1, XSpec mX11_fail 1 0 0 100 100 [.ref 56, .int 1] h1 Q1 xno ∧ ∀ v h2, Q1 v h2 → ∃ r2 : Int32, v = some (.int r2) ∧ (Q (some (.long (Int32.toInt64 r2))) h2)) ∧ (¬ r1 = 0 → ∃ Q1, XSpec mX11_isSquare 2 0 0 100 100 [.ref 56, .int t] h1 Q1 xno ∧ ∀ v h3, Q1 v h3 → ∃ r3 : Int32, v = some (.int r3) ∧ ((r3 = 0 → ∃ Q1, XSpec mX11_fail 1 0 0 100 100 [.ref 56, .int 1] h3 Q1 xno ∧ ∀ v h4, Q1 v h4 → ∃ r4 : Int32, v = some (.int r4) ∧ (Q (some (.long (Int32.toInt64 r4))) h4)) ∧ (¬ r3 = 0 → ∃ Q1, XSpec mX11_isIn 1 0 0 100 100 [.long (Int32.toInt64 w), .long 0, .long 2] h3 Q1 xno ∧ ∀ v h5, Q1 v h5 → ∃ r5 : Int32, v = some (.int r5) ∧ ((¬ r5 = 0 → ∃ Q1, XSpec mX11_isLong 2 0 0 100 100 [.int n] h5 Q1 xno ∧ ∀ v h6, Q1 v h6 → ∃ r6 : Int32, v = some (.int r6) ∧ ((¬ r6 = 0 → ∃ Q1, XSpec mX11_tellBoard 5 0 0 100 100 [.ref 56] h6 Q1 xno ∧ ∀ v h7, Q1 v h7 → v = none ∧ ((xP h7 56 41 = some 83) ∧ (∃ Q1, XSpec mX11_tellOuts 3 0 0 100 100 [.ref 56, .int o, .int n, .ref 83] h7 Q1 xno ∧ ∀ v h8, Q1 v h8 → v = none ∧ ((xP h8 56 42 = some 84) ∧ (∃ Q1, XSpec mX11_tellOuts 3 0 0 100 100 [.ref 56, .int t, .int n, .ref 84] h8 Q1 xno ∧ ∀ v h9, Q1 v h9 → v = none ∧ (XW (xrm 6 0 0) mX11_first (xE 100 Q X 0 0) 100 0 0 h9 88 [some (.ref 56), none, none, some (.int n), some (.int w), some (.long 0), none, some (.long 0), none, some (.int 1)] [])))))) ∧ (r6 = 0 → ∃ Q1, XSpec mX11_fail 1 0 0 100 100 [.ref 56, .int 2] h6 Q1 xno ∧ ∀ v h10, Q1 v h10 → ∃ r10 : Int32, v = some (.int r10) ∧ (Q (some (.long (Int32.toInt64 r10))) h10)))) ∧ (r5 = 0 → ∃ Q1, XSpec mX11_fail 1 0 0 100 100 [.ref 56, .int 1] h5 Q1 xno ∧ ∀ v h11, Q1 v h11 → ∃ r11 : Int32, v = some (.int r11) ∧ (Q (some (.long (Int32.toInt64 r11))) h11)))))))) :
    XW (xrm 6 0 0) mX11_first (xE 100 Q X 0 0) 100 0 0 h 0 [some (.ref 56), some (.int o), some (.int t), some (.int n), some (.int w), none, none, none, none, none] [] := by
  refine xi_aload_n (by decide +kernel : decode mX11_first.2.1 0 = .ok (.aload_n 0, 1)) rfl rfl (?_ : XW _ _ _ _ _ _ _ 1 _ _)
  refine xi_iconst (v := 0) (by decide +kernel : decode mX11_first.2.1 1 = .ok (.iconst 0, 1)) (by decide) (?_ : XW _ _ _ _ _ _ _ 2 _ _)
  refine xi_putI (by decide +kernel : decode mX11_first.2.1 2 = .ok (.putfield 161, 3)) fX11_161 rfl (by omega) rfl rfl rfl (?_ : XW _ _ _ _ _ _ (xSI 56 (va_up (xI h 56) 2 0) h) 5 _ _)
  refine xi_aload_n (by decide +kernel : decode mX11_first.2.1 5 = .ok (.aload_n 0, 1)) rfl rfl (?_ : XW _ _ _ _ _ _ _ 6 _ _)
  refine xi_iload_n (by decide +kernel : decode mX11_first.2.1 6 = .ok (.iload_n 1, 1)) rfl rfl (?_ : XW _ _ _ _ _ _ _ 7 _ _)
  obtain ⟨Q1, sp, vc⟩ := vc
  refine xi_callV (b := 0) (bs := 0) (As := [.int o]) (st := []) (by decide +kernel : decode mX11_first.2.1 7 = .ok (.invokevirtual 367, 3)) kX11_367 rfl rfl (by omega) rfl sp (by decide) (by decide) (Nat.le_of_ble_eq_true rfl) (by omega) (fun v9 h1 hq9 => ?_)
  obtain ⟨r1, e9, vc⟩ := vc v9 h1 hq9
  subst e9
  show XW _ _ _ _ _ _ _ 10 _ [.int r1]
  refine xi_if_eq (by decide +kernel : decode mX11_first.2.1 10 = .ok (.ifCond .eq 24, 3)) (by decide) (fun c => (?_ : XW _ _ _ _ _ _ _ 34 _ _)) (fun c => (?_ : XW _ _ _ _ _ _ _ 13 _ _))
  · replace vc := vc.1 c
    refine xi_aload_n (by decide +kernel : decode mX11_first.2.1 34 = .ok (.aload_n 0, 1)) rfl rfl (?_ : XW _ _ _ _ _ _ _ 35 _ _)
    refine xi_iconst (v := 1) (by decide +kernel : decode mX11_first.2.1 35 = .ok (.iconst 1, 1)) (by decide) (?_ : XW _ _ _ _ _ _ _ 36 _ _)
    obtain ⟨Q1, sp, vc⟩ := vc
    refine xi_callV (b := 0) (bs := 0) (As := [.int 1]) (st := []) (by decide +kernel : decode mX11_first.2.1 36 = .ok (.invokevirtual 311, 3)) kX11_311 rfl rfl (by omega) rfl sp (by decide) (by decide) (Nat.le_of_ble_eq_true rfl) (by omega) (fun v9 h2 hq9 => ?_)
    obtain ⟨r2, e9, vc⟩ := vc v9 h2 hq9
    subst e9
    show XW _ _ _ _ _ _ _ 39 _ [.int r2]
    refine xi_i2l (by decide +kernel : decode mX11_first.2.1 39 = .ok (.i2l, 1)) (?_ : XW _ _ _ _ _ _ _ 40 _ _)
    exact xi_lret (by decide +kernel : decode mX11_first.2.1 40 = .ok (.lreturn, 1)) rfl vc
  · replace vc := vc.2 c
    refine xi_aload_n (by decide +kernel : decode mX11_first.2.1 13 = .ok (.aload_n 0, 1)) rfl rfl (?_ : XW _ _ _ _ _ _ _ 14 _ _)
    refine xi_iload_n (by decide +kernel : decode mX11_first.2.1 14 = .ok (.iload_n 2, 1)) rfl rfl (?_ : XW _ _ _ _ _ _ _ 15 _ _)
    obtain ⟨Q1, sp, vc⟩ := vc
    refine xi_callV (b := 0) (bs := 0) (As := [.int t]) (st := []) (by decide +kernel : decode mX11_first.2.1 15 = .ok (.invokevirtual 367, 3)) kX11_367 rfl rfl (by omega) rfl sp (by decide) (by decide) (Nat.le_of_ble_eq_true rfl) (by omega) (fun v9 h3 hq9 => ?_)
    obtain ⟨r3, e9, vc⟩ := vc v9 h3 hq9
    subst e9
    show XW _ _ _ _ _ _ _ 18 _ [.int r3]
    refine xi_if_eq (by decide +kernel : decode mX11_first.2.1 18 = .ok (.ifCond .eq 16, 3)) (by decide) (fun c => (?_ : XW _ _ _ _ _ _ _ 34 _ _)) (fun c => (?_ : XW _ _ _ _ _ _ _ 21 _ _))
    · replace vc := vc.1 c
      refine xi_aload_n (by decide +kernel : decode mX11_first.2.1 34 = .ok (.aload_n 0, 1)) rfl rfl (?_ : XW _ _ _ _ _ _ _ 35 _ _)
      refine xi_iconst (v := 1) (by decide +kernel : decode mX11_first.2.1 35 = .ok (.iconst 1, 1)) (by decide) (?_ : XW _ _ _ _ _ _ _ 36 _ _)
      obtain ⟨Q1, sp, vc⟩ := vc
      refine xi_callV (b := 0) (bs := 0) (As := [.int 1]) (st := []) (by decide +kernel : decode mX11_first.2.1 36 = .ok (.invokevirtual 311, 3)) kX11_311 rfl rfl (by omega) rfl sp (by decide) (by decide) (Nat.le_of_ble_eq_true rfl) (by omega) (fun v9 h4 hq9 => ?_)
      obtain ⟨r4, e9, vc⟩ := vc v9 h4 hq9
      subst e9
      show XW _ _ _ _ _ _ _ 39 _ [.int r4]
      refine xi_i2l (by decide +kernel : decode mX11_first.2.1 39 = .ok (.i2l, 1)) (?_ : XW _ _ _ _ _ _ _ 40 _ _)
      exact xi_lret (by decide +kernel : decode mX11_first.2.1 40 = .ok (.lreturn, 1)) rfl vc
    · replace vc := vc.2 c
      refine xi_iload (by decide +kernel : decode mX11_first.2.1 21 = .ok (.iload 4, 2)) rfl (?_ : XW _ _ _ _ _ _ _ 23 _ _)
      refine xi_i2l (by decide +kernel : decode mX11_first.2.1 23 = .ok (.i2l, 1)) (?_ : XW _ _ _ _ _ _ _ 24 _ _)
      refine xi_lconst (v := 0) (by decide +kernel : decode mX11_first.2.1 24 = .ok (.lconst 0, 1)) (by decide) (?_ : XW _ _ _ _ _ _ _ 25 _ _)
      refine xi_ldc2 (v := 2) (by decide +kernel : decode mX11_first.2.1 25 = .ok (.ldc2_w 415, 3)) cK_X11_415 (?_ : XW _ _ _ _ _ _ _ 28 _ _)
      obtain ⟨Q1, sp, vc⟩ := vc
      refine xi_callS (b := 0) (bs := 0) (As := [.long (Int32.toInt64 w), .long 0, .long 2]) (st := []) (by decide +kernel : decode mX11_first.2.1 28 = .ok (.invokestatic 164, 3)) kX11_164 rfl rfl sp (by decide) (by decide) (Nat.le_of_ble_eq_true rfl) (by omega) (fun v9 h5 hq9 => ?_)
      obtain ⟨r5, e9, vc⟩ := vc v9 h5 hq9
      subst e9
      show XW _ _ _ _ _ _ _ 31 _ [.int r5]
      refine xi_if_ne (by decide +kernel : decode mX11_first.2.1 31 = .ok (.ifCond .ne 10, 3)) (by decide) (fun c => (?_ : XW _ _ _ _ _ _ _ 41 _ _)) (fun c => (?_ : XW _ _ _ _ _ _ _ 34 _ _))
      · replace vc := vc.1 c
        refine xi_iload_n (by decide +kernel : decode mX11_first.2.1 41 = .ok (.iload_n 3, 1)) rfl rfl (?_ : XW _ _ _ _ _ _ _ 42 _ _)
        obtain ⟨Q1, sp, vc⟩ := vc
        refine xi_callS (b := 0) (bs := 0) (As := [.int n]) (st := []) (by decide +kernel : decode mX11_first.2.1 42 = .ok (.invokestatic 417, 3)) kX11_417 rfl rfl sp (by decide) (by decide) (Nat.le_of_ble_eq_true rfl) (by omega) (fun v9 h6 hq9 => ?_)
        obtain ⟨r6, e9, vc⟩ := vc v9 h6 hq9
        subst e9
        show XW _ _ _ _ _ _ _ 45 _ [.int r6]
        refine xi_if_ne (by decide +kernel : decode mX11_first.2.1 45 = .ok (.ifCond .ne 10, 3)) (by decide) (fun c => (?_ : XW _ _ _ _ _ _ _ 55 _ _)) (fun c => (?_ : XW _ _ _ _ _ _ _ 48 _ _))
        · replace vc := vc.1 c
          refine xi_aload_n (by decide +kernel : decode mX11_first.2.1 55 = .ok (.aload_n 0, 1)) rfl rfl (?_ : XW _ _ _ _ _ _ _ 56 _ _)
          obtain ⟨Q1, sp, vc⟩ := vc
          refine xi_callV (b := 0) (bs := 0) (As := []) (st := []) (by decide +kernel : decode mX11_first.2.1 56 = .ok (.invokevirtual 373, 3)) kX11_373 rfl rfl (by omega) rfl sp (by decide) (by decide) (Nat.le_of_ble_eq_true rfl) (by omega) (fun v9 h7 hq9 => ?_)
          obtain ⟨e9, vc⟩ := vc v9 h7 hq9
          subst e9
          show XW _ _ _ _ _ _ _ 59 _ []
          refine xi_aload_n (by decide +kernel : decode mX11_first.2.1 59 = .ok (.aload_n 0, 1)) rfl rfl (?_ : XW _ _ _ _ _ _ _ 60 _ _)
          refine xi_iload_n (by decide +kernel : decode mX11_first.2.1 60 = .ok (.iload_n 1, 1)) rfl rfl (?_ : XW _ _ _ _ _ _ _ 61 _ _)
          refine xi_iload_n (by decide +kernel : decode mX11_first.2.1 61 = .ok (.iload_n 3, 1)) rfl rfl (?_ : XW _ _ _ _ _ _ _ 62 _ _)
          refine xi_aload_n (by decide +kernel : decode mX11_first.2.1 62 = .ok (.aload_n 0, 1)) rfl rfl (?_ : XW _ _ _ _ _ _ _ 63 _ _)
          obtain ⟨s1, vc⟩ := vc
          refine xi_getR (y := 83) (by decide +kernel : decode mX11_first.2.1 63 = .ok (.getfield 113, 3)) fX11_113 rfl (by omega) rfl s1 (?_ : XW _ _ _ _ _ _ _ 66 _ _)
          obtain ⟨Q1, sp, vc⟩ := vc
          refine xi_callV (b := 0) (bs := 0) (As := [.int o, .int n, .ref 83]) (st := []) (by decide +kernel : decode mX11_first.2.1 66 = .ok (.invokevirtual 424, 3)) kX11_424 rfl rfl (by omega) rfl sp (by decide) (by decide) (Nat.le_of_ble_eq_true rfl) (by omega) (fun v9 h8 hq9 => ?_)
          obtain ⟨e9, vc⟩ := vc v9 h8 hq9
          subst e9
          show XW _ _ _ _ _ _ _ 69 _ []
          refine xi_aload_n (by decide +kernel : decode mX11_first.2.1 69 = .ok (.aload_n 0, 1)) rfl rfl (?_ : XW _ _ _ _ _ _ _ 70 _ _)
          refine xi_iload_n (by decide +kernel : decode mX11_first.2.1 70 = .ok (.iload_n 2, 1)) rfl rfl (?_ : XW _ _ _ _ _ _ _ 71 _ _)
          refine xi_iload_n (by decide +kernel : decode mX11_first.2.1 71 = .ok (.iload_n 3, 1)) rfl rfl (?_ : XW _ _ _ _ _ _ _ 72 _ _)
          refine xi_aload_n (by decide +kernel : decode mX11_first.2.1 72 = .ok (.aload_n 0, 1)) rfl rfl (?_ : XW _ _ _ _ _ _ _ 73 _ _)
          obtain ⟨s1, vc⟩ := vc
          refine xi_getR (y := 84) (by decide +kernel : decode mX11_first.2.1 73 = .ok (.getfield 116, 3)) fX11_116 rfl (by omega) rfl s1 (?_ : XW _ _ _ _ _ _ _ 76 _ _)
          obtain ⟨Q1, sp, vc⟩ := vc
          refine xi_callV (b := 0) (bs := 0) (As := [.int t, .int n, .ref 84]) (st := []) (by decide +kernel : decode mX11_first.2.1 76 = .ok (.invokevirtual 424, 3)) kX11_424 rfl rfl (by omega) rfl sp (by decide) (by decide) (Nat.le_of_ble_eq_true rfl) (by omega) (fun v9 h9 hq9 => ?_)
          obtain ⟨e9, vc⟩ := vc v9 h9 hq9
          subst e9
          show XW _ _ _ _ _ _ _ 79 _ []
          refine xi_lconst (v := 0) (by decide +kernel : decode mX11_first.2.1 79 = .ok (.lconst 0, 1)) (by decide) (?_ : XW _ _ _ _ _ _ _ 80 _ _)
          refine xi_lstore (ls' := [some (.ref 56), some (.int o), some (.int t), some (.int n), some (.int w), some (.long 0), none, none, none, none]) (by decide +kernel : decode mX11_first.2.1 80 = .ok (.lstore 5, 2)) (by decide) rfl (?_ : XW _ _ _ _ _ _ _ 82 _ _)
          refine xi_lconst (v := 0) (by decide +kernel : decode mX11_first.2.1 82 = .ok (.lconst 0, 1)) (by decide) (?_ : XW _ _ _ _ _ _ _ 83 _ _)
          refine xi_lstore (ls' := [some (.ref 56), some (.int o), some (.int t), some (.int n), some (.int w), some (.long 0), none, some (.long 0), none, none]) (by decide +kernel : decode mX11_first.2.1 83 = .ok (.lstore 7, 2)) (by decide) rfl (?_ : XW _ _ _ _ _ _ _ 85 _ _)
          refine xi_iconst (v := 1) (by decide +kernel : decode mX11_first.2.1 85 = .ok (.iconst 1, 1)) (by decide) (?_ : XW _ _ _ _ _ _ _ 86 _ _)
          refine xi_istore (ls' := [some (.ref 56), some (.int o), some (.int t), some (.int n), some (.int w), some (.long 0), none, some (.long 0), none, some (.int 1)]) (by decide +kernel : decode mX11_first.2.1 86 = .ok (.istore 9, 2)) (by decide) rfl (?_ : XW _ _ _ _ _ _ _ 88 _ _)
          refine xw_drop 1 (ls' := [some (.ref 56), none, some (.int t), some (.int n), some (.int w), some (.long 0), none, some (.long 0), none, some (.int 1)]) rfl ?_
          refine xw_drop 2 (ls' := [some (.ref 56), none, none, some (.int n), some (.int w), some (.long 0), none, some (.long 0), none, some (.int 1)]) rfl ?_
          exact vc
        · replace vc := vc.2 c
          refine xi_aload_n (by decide +kernel : decode mX11_first.2.1 48 = .ok (.aload_n 0, 1)) rfl rfl (?_ : XW _ _ _ _ _ _ _ 49 _ _)
          refine xi_iconst (v := 2) (by decide +kernel : decode mX11_first.2.1 49 = .ok (.iconst 2, 1)) (by decide) (?_ : XW _ _ _ _ _ _ _ 50 _ _)
          obtain ⟨Q1, sp, vc⟩ := vc
          refine xi_callV (b := 0) (bs := 0) (As := [.int 2]) (st := []) (by decide +kernel : decode mX11_first.2.1 50 = .ok (.invokevirtual 311, 3)) kX11_311 rfl rfl (by omega) rfl sp (by decide) (by decide) (Nat.le_of_ble_eq_true rfl) (by omega) (fun v9 h10 hq9 => ?_)
          obtain ⟨r10, e9, vc⟩ := vc v9 h10 hq9
          subst e9
          show XW _ _ _ _ _ _ _ 53 _ [.int r10]
          refine xi_i2l (by decide +kernel : decode mX11_first.2.1 53 = .ok (.i2l, 1)) (?_ : XW _ _ _ _ _ _ _ 54 _ _)
          exact xi_lret (by decide +kernel : decode mX11_first.2.1 54 = .ok (.lreturn, 1)) rfl vc
      · replace vc := vc.2 c
        refine xi_aload_n (by decide +kernel : decode mX11_first.2.1 34 = .ok (.aload_n 0, 1)) rfl rfl (?_ : XW _ _ _ _ _ _ _ 35 _ _)
        refine xi_iconst (v := 1) (by decide +kernel : decode mX11_first.2.1 35 = .ok (.iconst 1, 1)) (by decide) (?_ : XW _ _ _ _ _ _ _ 36 _ _)
        obtain ⟨Q1, sp, vc⟩ := vc
        refine xi_callV (b := 0) (bs := 0) (As := [.int 1]) (st := []) (by decide +kernel : decode mX11_first.2.1 36 = .ok (.invokevirtual 311, 3)) kX11_311 rfl rfl (by omega) rfl sp (by decide) (by decide) (Nat.le_of_ble_eq_true rfl) (by omega) (fun v9 h11 hq9 => ?_)
        obtain ⟨r11, e9, vc⟩ := vc v9 h11 hq9
        subst e9
        show XW _ _ _ _ _ _ _ 39 _ [.int r11]
        refine xi_i2l (by decide +kernel : decode mX11_first.2.1 39 = .ok (.i2l, 1)) (?_ : XW _ _ _ _ _ _ _ 40 _ _)
        exact xi_lret (by decide +kernel : decode mX11_first.2.1 40 = .ok (.lreturn, 1)) rfl vc

set_option maxRecDepth 20000 in
theorem v_X11_first_88 {h : XH} {Q : Option Value → XH → Prop} {X : String → XH → Prop} (hM : xMod (xP h))  (x3 : Int32) (x4 : Int32) (x5 : Int64) (x7 : Int64) (x9 : Int32)
    (vc : (x3 < x9 → (¬ x4 = 0 → (¬ x4 = 1 → Q (some (.long ((1000000000 - (x5 / 1000000000)) - (x7 / 1000000000)))) h) ∧ (x4 = 1 → Q (some (.long (x7 / 1000000000))) h)) ∧ (x4 = 0 → Q (some (.long (x5 / 1000000000))) h)) ∧ (¬ x3 < x9 → (vp_in (x9 - 1) 401) ∧ ((vp_in x9 401) ∧ ((vp_in (x9 - 1) 401) ∧ ((vp_in (x9 - 1) 401) ∧ ((vp_in x9 401) ∧ ((vp_in x9 401) ∧ (XW (xrm 6 0 0) mX11_first (xE 100 Q X 0 0) 100 0 0 h 88 [some (.ref 56), none, none, some (.int x3), some (.int x4), some (.long (x5 + (((xL h 83 (x9 - 1).toNatClampNeg) - (xL h 83 x9.toNatClampNeg)) * (xL h 84 (x9 - 1).toNatClampNeg)))), none, some (.long (x7 + (((xL h 84 (x9 - 1).toNatClampNeg) - (xL h 84 x9.toNatClampNeg)) * (xL h 83 x9.toNatClampNeg)))), none, some (.int (x9 + 1))] [])))))))) :
    XW (xrm 6 0 0) mX11_first (xE 100 Q X 0 0) 100 0 0 h 88 [some (.ref 56), none, none, some (.int x3), some (.int x4), some (.long x5), none, some (.long x7), none, some (.int x9)] [] := by
  refine xi_iload (by decide +kernel : decode mX11_first.2.1 88 = .ok (.iload 9, 2)) rfl (?_ : XW _ _ _ _ _ _ _ 90 _ _)
  refine xi_iload_n (by decide +kernel : decode mX11_first.2.1 90 = .ok (.iload_n 3, 1)) rfl rfl (?_ : XW _ _ _ _ _ _ _ 91 _ _)
  refine xi_icmp_gt (by decide +kernel : decode mX11_first.2.1 91 = .ok (.if_icmp .gt 71, 3)) (by decide) (fun c => (?_ : XW _ _ _ _ _ _ _ 162 _ _)) (fun c => (?_ : XW _ _ _ _ _ _ _ 94 _ _))
  · replace vc := vc.1 c
    refine xi_lload (by decide +kernel : decode mX11_first.2.1 162 = .ok (.lload 5, 2)) rfl (?_ : XW _ _ _ _ _ _ _ 164 _ _)
    refine xi_ldc2 (v := 1000000000) (by decide +kernel : decode mX11_first.2.1 164 = .ok (.ldc2_w 401, 3)) cK_X11_401 (?_ : XW _ _ _ _ _ _ _ 167 _ _)
    refine xi_ldiv (by decide +kernel : decode mX11_first.2.1 167 = .ok (.ldiv, 1)) (by decide) (?_ : XW _ _ _ _ _ _ _ 168 _ _)
    refine xi_lstore (ls' := [some (.ref 56), none, none, some (.int x3), some (.int x4), some (.long (x5 / 1000000000)), none, some (.long x7), none, some (.int x9)]) (by decide +kernel : decode mX11_first.2.1 168 = .ok (.lstore 5, 2)) (by decide) rfl (?_ : XW _ _ _ _ _ _ _ 170 _ _)
    refine xi_lload (by decide +kernel : decode mX11_first.2.1 170 = .ok (.lload 7, 2)) rfl (?_ : XW _ _ _ _ _ _ _ 172 _ _)
    refine xi_ldc2 (v := 1000000000) (by decide +kernel : decode mX11_first.2.1 172 = .ok (.ldc2_w 401, 3)) cK_X11_401 (?_ : XW _ _ _ _ _ _ _ 175 _ _)
    refine xi_ldiv (by decide +kernel : decode mX11_first.2.1 175 = .ok (.ldiv, 1)) (by decide) (?_ : XW _ _ _ _ _ _ _ 176 _ _)
    refine xi_lstore (ls' := [some (.ref 56), none, none, some (.int x3), some (.int x4), some (.long (x5 / 1000000000)), none, some (.long (x7 / 1000000000)), none, some (.int x9)]) (by decide +kernel : decode mX11_first.2.1 176 = .ok (.lstore 7, 2)) (by decide) rfl (?_ : XW _ _ _ _ _ _ _ 178 _ _)
    refine xi_iload (by decide +kernel : decode mX11_first.2.1 178 = .ok (.iload 4, 2)) rfl (?_ : XW _ _ _ _ _ _ _ 180 _ _)
    refine xi_if_ne (by decide +kernel : decode mX11_first.2.1 180 = .ok (.ifCond .ne 8, 3)) (by decide) (fun c => (?_ : XW _ _ _ _ _ _ _ 188 _ _)) (fun c => (?_ : XW _ _ _ _ _ _ _ 183 _ _))
    · replace vc := vc.1 c
      refine xi_iload (by decide +kernel : decode mX11_first.2.1 188 = .ok (.iload 4, 2)) rfl (?_ : XW _ _ _ _ _ _ _ 190 _ _)
      refine xi_iconst (v := 1) (by decide +kernel : decode mX11_first.2.1 190 = .ok (.iconst 1, 1)) (by decide) (?_ : XW _ _ _ _ _ _ _ 191 _ _)
      refine xi_icmp_ne (by decide +kernel : decode mX11_first.2.1 191 = .ok (.if_icmp .ne 8, 3)) (by decide) (fun c => (?_ : XW _ _ _ _ _ _ _ 199 _ _)) (fun c => (?_ : XW _ _ _ _ _ _ _ 194 _ _))
      · replace vc := vc.1 c
        refine xi_ldc2 (v := 1000000000) (by decide +kernel : decode mX11_first.2.1 199 = .ok (.ldc2_w 401, 3)) cK_X11_401 (?_ : XW _ _ _ _ _ _ _ 202 _ _)
        refine xi_lload (by decide +kernel : decode mX11_first.2.1 202 = .ok (.lload 5, 2)) rfl (?_ : XW _ _ _ _ _ _ _ 204 _ _)
        refine xi_lsub (by decide +kernel : decode mX11_first.2.1 204 = .ok (.lsub, 1)) (?_ : XW _ _ _ _ _ _ _ 205 _ _)
        refine xi_lload (by decide +kernel : decode mX11_first.2.1 205 = .ok (.lload 7, 2)) rfl (?_ : XW _ _ _ _ _ _ _ 207 _ _)
        refine xi_lsub (by decide +kernel : decode mX11_first.2.1 207 = .ok (.lsub, 1)) (?_ : XW _ _ _ _ _ _ _ 208 _ _)
        exact xi_lret (by decide +kernel : decode mX11_first.2.1 208 = .ok (.lreturn, 1)) rfl vc
      · replace vc := vc.2 c
        refine xi_lload (by decide +kernel : decode mX11_first.2.1 194 = .ok (.lload 7, 2)) rfl (?_ : XW _ _ _ _ _ _ _ 196 _ _)
        refine xi_goto (by decide +kernel : decode mX11_first.2.1 196 = .ok (.goto 12, 3)) (by decide) (?_ : XW _ _ _ _ _ _ _ 208 _ _)
        exact xi_lret (by decide +kernel : decode mX11_first.2.1 208 = .ok (.lreturn, 1)) rfl vc
    · replace vc := vc.2 c
      refine xi_lload (by decide +kernel : decode mX11_first.2.1 183 = .ok (.lload 5, 2)) rfl (?_ : XW _ _ _ _ _ _ _ 185 _ _)
      refine xi_goto (by decide +kernel : decode mX11_first.2.1 185 = .ok (.goto 23, 3)) (by decide) (?_ : XW _ _ _ _ _ _ _ 208 _ _)
      exact xi_lret (by decide +kernel : decode mX11_first.2.1 208 = .ok (.lreturn, 1)) rfl vc
  · replace vc := vc.2 c
    refine xi_lload (by decide +kernel : decode mX11_first.2.1 94 = .ok (.lload 5, 2)) rfl (?_ : XW _ _ _ _ _ _ _ 96 _ _)
    refine xi_aload_n (by decide +kernel : decode mX11_first.2.1 96 = .ok (.aload_n 0, 1)) rfl rfl (?_ : XW _ _ _ _ _ _ _ 97 _ _)
    refine xi_getR (y := 83) (by decide +kernel : decode mX11_first.2.1 97 = .ok (.getfield 113, 3)) fX11_113 rfl (by omega) rfl (mp_outOf hM) (?_ : XW _ _ _ _ _ _ _ 100 _ _)
    refine xi_iload (by decide +kernel : decode mX11_first.2.1 100 = .ok (.iload 9, 2)) rfl (?_ : XW _ _ _ _ _ _ _ 102 _ _)
    refine xi_iconst (v := 1) (by decide +kernel : decode mX11_first.2.1 102 = .ok (.iconst 1, 1)) (by decide) (?_ : XW _ _ _ _ _ _ _ 103 _ _)
    refine xi_isub (by decide +kernel : decode mX11_first.2.1 103 = .ok (.isub, 1)) (?_ : XW _ _ _ _ _ _ _ 104 _ _)
    obtain ⟨s1, vc⟩ := vc
    refine xi_lald (by decide +kernel : decode mX11_first.2.1 104 = .ok (.laload, 1)) rfl (by omega) s1 (?_ : XW _ _ _ _ _ _ _ 105 _ _)
    refine xi_aload_n (by decide +kernel : decode mX11_first.2.1 105 = .ok (.aload_n 0, 1)) rfl rfl (?_ : XW _ _ _ _ _ _ _ 106 _ _)
    refine xi_getR (y := 83) (by decide +kernel : decode mX11_first.2.1 106 = .ok (.getfield 113, 3)) fX11_113 rfl (by omega) rfl (mp_outOf hM) (?_ : XW _ _ _ _ _ _ _ 109 _ _)
    refine xi_iload (by decide +kernel : decode mX11_first.2.1 109 = .ok (.iload 9, 2)) rfl (?_ : XW _ _ _ _ _ _ _ 111 _ _)
    obtain ⟨s1, vc⟩ := vc
    refine xi_lald (by decide +kernel : decode mX11_first.2.1 111 = .ok (.laload, 1)) rfl (by omega) s1 (?_ : XW _ _ _ _ _ _ _ 112 _ _)
    refine xi_lsub (by decide +kernel : decode mX11_first.2.1 112 = .ok (.lsub, 1)) (?_ : XW _ _ _ _ _ _ _ 113 _ _)
    refine xi_aload_n (by decide +kernel : decode mX11_first.2.1 113 = .ok (.aload_n 0, 1)) rfl rfl (?_ : XW _ _ _ _ _ _ _ 114 _ _)
    refine xi_getR (y := 84) (by decide +kernel : decode mX11_first.2.1 114 = .ok (.getfield 116, 3)) fX11_116 rfl (by omega) rfl (mp_outOfOther hM) (?_ : XW _ _ _ _ _ _ _ 117 _ _)
    refine xi_iload (by decide +kernel : decode mX11_first.2.1 117 = .ok (.iload 9, 2)) rfl (?_ : XW _ _ _ _ _ _ _ 119 _ _)
    refine xi_iconst (v := 1) (by decide +kernel : decode mX11_first.2.1 119 = .ok (.iconst 1, 1)) (by decide) (?_ : XW _ _ _ _ _ _ _ 120 _ _)
    refine xi_isub (by decide +kernel : decode mX11_first.2.1 120 = .ok (.isub, 1)) (?_ : XW _ _ _ _ _ _ _ 121 _ _)
    obtain ⟨s1, vc⟩ := vc
    refine xi_lald (by decide +kernel : decode mX11_first.2.1 121 = .ok (.laload, 1)) rfl (by omega) s1 (?_ : XW _ _ _ _ _ _ _ 122 _ _)
    refine xi_lmul (by decide +kernel : decode mX11_first.2.1 122 = .ok (.lmul, 1)) (?_ : XW _ _ _ _ _ _ _ 123 _ _)
    refine xi_ladd (by decide +kernel : decode mX11_first.2.1 123 = .ok (.ladd, 1)) (?_ : XW _ _ _ _ _ _ _ 124 _ _)
    refine xi_lstore (ls' := [some (.ref 56), none, none, some (.int x3), some (.int x4), some (.long (x5 + (((xL h 83 (x9 - 1).toNatClampNeg) - (xL h 83 x9.toNatClampNeg)) * (xL h 84 (x9 - 1).toNatClampNeg)))), none, some (.long x7), none, some (.int x9)]) (by decide +kernel : decode mX11_first.2.1 124 = .ok (.lstore 5, 2)) (by decide) rfl (?_ : XW _ _ _ _ _ _ _ 126 _ _)
    refine xi_lload (by decide +kernel : decode mX11_first.2.1 126 = .ok (.lload 7, 2)) rfl (?_ : XW _ _ _ _ _ _ _ 128 _ _)
    refine xi_aload_n (by decide +kernel : decode mX11_first.2.1 128 = .ok (.aload_n 0, 1)) rfl rfl (?_ : XW _ _ _ _ _ _ _ 129 _ _)
    refine xi_getR (y := 84) (by decide +kernel : decode mX11_first.2.1 129 = .ok (.getfield 116, 3)) fX11_116 rfl (by omega) rfl (mp_outOfOther hM) (?_ : XW _ _ _ _ _ _ _ 132 _ _)
    refine xi_iload (by decide +kernel : decode mX11_first.2.1 132 = .ok (.iload 9, 2)) rfl (?_ : XW _ _ _ _ _ _ _ 134 _ _)
    refine xi_iconst (v := 1) (by decide +kernel : decode mX11_first.2.1 134 = .ok (.iconst 1, 1)) (by decide) (?_ : XW _ _ _ _ _ _ _ 135 _ _)
    refine xi_isub (by decide +kernel : decode mX11_first.2.1 135 = .ok (.isub, 1)) (?_ : XW _ _ _ _ _ _ _ 136 _ _)
    obtain ⟨s1, vc⟩ := vc
    refine xi_lald (by decide +kernel : decode mX11_first.2.1 136 = .ok (.laload, 1)) rfl (by omega) s1 (?_ : XW _ _ _ _ _ _ _ 137 _ _)
    refine xi_aload_n (by decide +kernel : decode mX11_first.2.1 137 = .ok (.aload_n 0, 1)) rfl rfl (?_ : XW _ _ _ _ _ _ _ 138 _ _)
    refine xi_getR (y := 84) (by decide +kernel : decode mX11_first.2.1 138 = .ok (.getfield 116, 3)) fX11_116 rfl (by omega) rfl (mp_outOfOther hM) (?_ : XW _ _ _ _ _ _ _ 141 _ _)
    refine xi_iload (by decide +kernel : decode mX11_first.2.1 141 = .ok (.iload 9, 2)) rfl (?_ : XW _ _ _ _ _ _ _ 143 _ _)
    obtain ⟨s1, vc⟩ := vc
    refine xi_lald (by decide +kernel : decode mX11_first.2.1 143 = .ok (.laload, 1)) rfl (by omega) s1 (?_ : XW _ _ _ _ _ _ _ 144 _ _)
    refine xi_lsub (by decide +kernel : decode mX11_first.2.1 144 = .ok (.lsub, 1)) (?_ : XW _ _ _ _ _ _ _ 145 _ _)
    refine xi_aload_n (by decide +kernel : decode mX11_first.2.1 145 = .ok (.aload_n 0, 1)) rfl rfl (?_ : XW _ _ _ _ _ _ _ 146 _ _)
    refine xi_getR (y := 83) (by decide +kernel : decode mX11_first.2.1 146 = .ok (.getfield 113, 3)) fX11_113 rfl (by omega) rfl (mp_outOf hM) (?_ : XW _ _ _ _ _ _ _ 149 _ _)
    refine xi_iload (by decide +kernel : decode mX11_first.2.1 149 = .ok (.iload 9, 2)) rfl (?_ : XW _ _ _ _ _ _ _ 151 _ _)
    obtain ⟨s1, vc⟩ := vc
    refine xi_lald (by decide +kernel : decode mX11_first.2.1 151 = .ok (.laload, 1)) rfl (by omega) s1 (?_ : XW _ _ _ _ _ _ _ 152 _ _)
    refine xi_lmul (by decide +kernel : decode mX11_first.2.1 152 = .ok (.lmul, 1)) (?_ : XW _ _ _ _ _ _ _ 153 _ _)
    refine xi_ladd (by decide +kernel : decode mX11_first.2.1 153 = .ok (.ladd, 1)) (?_ : XW _ _ _ _ _ _ _ 154 _ _)
    refine xi_lstore (ls' := [some (.ref 56), none, none, some (.int x3), some (.int x4), some (.long (x5 + (((xL h 83 (x9 - 1).toNatClampNeg) - (xL h 83 x9.toNatClampNeg)) * (xL h 84 (x9 - 1).toNatClampNeg)))), none, some (.long (x7 + (((xL h 84 (x9 - 1).toNatClampNeg) - (xL h 84 x9.toNatClampNeg)) * (xL h 83 x9.toNatClampNeg)))), none, some (.int x9)]) (by decide +kernel : decode mX11_first.2.1 154 = .ok (.lstore 7, 2)) (by decide) rfl (?_ : XW _ _ _ _ _ _ _ 156 _ _)
    refine xi_iinc (v := x9 + 1) (ls' := [some (.ref 56), none, none, some (.int x3), some (.int x4), some (.long (x5 + (((xL h 83 (x9 - 1).toNatClampNeg) - (xL h 83 x9.toNatClampNeg)) * (xL h 84 (x9 - 1).toNatClampNeg)))), none, some (.long (x7 + (((xL h 84 (x9 - 1).toNatClampNeg) - (xL h 84 x9.toNatClampNeg)) * (xL h 83 x9.toNatClampNeg)))), none, some (.int (x9 + 1))]) (by decide +kernel : decode mX11_first.2.1 156 = .ok (.iinc 9 1, 3)) rfl rfl (by decide) rfl (?_ : XW _ _ _ _ _ _ _ 159 _ _)
    refine xi_goto (by decide +kernel : decode mX11_first.2.1 159 = .ok (.goto (-71), 3)) (by decide) (?_ : XW _ _ _ _ _ _ _ 88 _ _)
    exact vc

set_option maxRecDepth 20000 in
theorem v_X11_tellOuts_0 {h : XH} {Q : Option Value → XH → Prop} {X : String → XH → Prop} (hM : xMod (xP h)) (oq : Nat) (ho : SH oq = .inl (.long, 401)) (hoq : oq < 100)  (q : Int32) (n : Int32)
    (vc : ∃ Q1, XSpec mX11_pour 1 0 0 100 100 [.ref 56, .int q] h Q1 xno ∧ ∀ v h1, Q1 v h1 → v = none ∧ (∃ Q1, XSpec mX11_out 1 0 0 100 100 [.ref 56] h1 Q1 xno ∧ ∀ v h2, Q1 v h2 → ∃ r2 : Int64, v = some (.long r2) ∧ (XW (xrm 3 0 0) mX11_tellOuts (xE 100 Q X 0 0) 100 0 0 (xSL oq (va_up (xL h2 oq) 0 r2) h2) 15 [some (.ref 56), none, some (.int n), some (.ref oq), some (.int 1)] []))) :
    XW (xrm 3 0 0) mX11_tellOuts (xE 100 Q X 0 0) 100 0 0 h 0 [some (.ref 56), some (.int q), some (.int n), some (.ref oq), none] [] := by
  refine xi_aload_n (by decide +kernel : decode mX11_tellOuts.2.1 0 = .ok (.aload_n 0, 1)) rfl rfl (?_ : XW _ _ _ _ _ _ _ 1 _ _)
  refine xi_iload_n (by decide +kernel : decode mX11_tellOuts.2.1 1 = .ok (.iload_n 1, 1)) rfl rfl (?_ : XW _ _ _ _ _ _ _ 2 _ _)
  obtain ⟨Q1, sp, vc⟩ := vc
  refine xi_callV (b := 0) (bs := 0) (As := [.int q]) (st := []) (by decide +kernel : decode mX11_tellOuts.2.1 2 = .ok (.invokevirtual 405, 3)) kX11_405 rfl rfl (by omega) rfl sp (by decide) (by decide) (Nat.le_of_ble_eq_true rfl) (by omega) (fun v9 h1 hq9 => ?_)
  obtain ⟨e9, vc⟩ := vc v9 h1 hq9
  subst e9
  show XW _ _ _ _ _ _ _ 5 _ []
  refine xi_aload_n (by decide +kernel : decode mX11_tellOuts.2.1 5 = .ok (.aload_n 3, 1)) rfl rfl (?_ : XW _ _ _ _ _ _ _ 6 _ _)
  refine xi_iconst (v := 0) (by decide +kernel : decode mX11_tellOuts.2.1 6 = .ok (.iconst 0, 1)) (by decide) (?_ : XW _ _ _ _ _ _ _ 7 _ _)
  refine xi_aload_n (by decide +kernel : decode mX11_tellOuts.2.1 7 = .ok (.aload_n 0, 1)) rfl rfl (?_ : XW _ _ _ _ _ _ _ 8 _ _)
  obtain ⟨Q1, sp, vc⟩ := vc
  refine xi_callV (b := 0) (bs := 0) (As := []) (st := [.int 0, .ref oq]) (by decide +kernel : decode mX11_tellOuts.2.1 8 = .ok (.invokevirtual 408, 3)) kX11_408 rfl rfl (by omega) rfl sp (by decide) (by decide) (Nat.le_of_ble_eq_true rfl) (by omega) (fun v9 h2 hq9 => ?_)
  obtain ⟨r2, e9, vc⟩ := vc v9 h2 hq9
  subst e9
  show XW _ _ _ _ _ _ _ 11 _ [.long r2, .int 0, .ref oq]
  refine xi_last (by decide +kernel : decode mX11_tellOuts.2.1 11 = .ok (.lastore, 1)) ho (by omega) (by unfold vp_in; decide) (?_ : XW _ _ _ _ _ _ (xSL oq (va_up (xL h2 oq) 0 r2) h2) 12 _ _)
  refine xi_iconst (v := 1) (by decide +kernel : decode mX11_tellOuts.2.1 12 = .ok (.iconst 1, 1)) (by decide) (?_ : XW _ _ _ _ _ _ _ 13 _ _)
  refine xi_istore (ls' := [some (.ref 56), some (.int q), some (.int n), some (.ref oq), some (.int 1)]) (by decide +kernel : decode mX11_tellOuts.2.1 13 = .ok (.istore 4, 2)) (by decide) rfl (?_ : XW _ _ _ _ _ _ _ 15 _ _)
  refine xw_drop 1 (ls' := [some (.ref 56), none, some (.int n), some (.ref oq), some (.int 1)]) rfl ?_
  exact vc

set_option maxRecDepth 20000 in
theorem v_X11_tellOuts_15 {h : XH} {Q : Option Value → XH → Prop} {X : String → XH → Prop} (hM : xMod (xP h)) (oq : Nat) (ho : SH oq = .inl (.long, 401)) (hoq : oq < 100)  (x2 : Int32) (x4 : Int32)
    (vc : (x2 < x4 → Q none h) ∧ (¬ x2 < x4 → ∃ Q1, XSpec mX11_share 2 0 0 100 100 [.ref 56] h Q1 xno ∧ ∀ v h3, Q1 v h3 → v = none ∧ (∃ Q1, XSpec mX11_out 1 0 0 100 100 [.ref 56] h3 Q1 xno ∧ ∀ v h4, Q1 v h4 → ∃ r4 : Int64, v = some (.long r4) ∧ ((vp_in x4 401) ∧ (XW (xrm 3 0 0) mX11_tellOuts (xE 100 Q X 0 0) 100 0 0 (xSL oq (va_up (xL h4 oq) x4.toNatClampNeg r4) h4) 15 [some (.ref 56), none, some (.int x2), some (.ref oq), some (.int (x4 + 1))] []))))) :
    XW (xrm 3 0 0) mX11_tellOuts (xE 100 Q X 0 0) 100 0 0 h 15 [some (.ref 56), none, some (.int x2), some (.ref oq), some (.int x4)] [] := by
  refine xi_iload (by decide +kernel : decode mX11_tellOuts.2.1 15 = .ok (.iload 4, 2)) rfl (?_ : XW _ _ _ _ _ _ _ 17 _ _)
  refine xi_iload_n (by decide +kernel : decode mX11_tellOuts.2.1 17 = .ok (.iload_n 2, 1)) rfl rfl (?_ : XW _ _ _ _ _ _ _ 18 _ _)
  refine xi_icmp_gt (by decide +kernel : decode mX11_tellOuts.2.1 18 = .ok (.if_icmp .gt 21, 3)) (by decide) (fun c => (?_ : XW _ _ _ _ _ _ _ 39 _ _)) (fun c => (?_ : XW _ _ _ _ _ _ _ 21 _ _))
  · replace vc := vc.1 c
    exact xi_vret (by decide +kernel : decode mX11_tellOuts.2.1 39 = .ok (.return_, 1)) rfl vc
  · replace vc := vc.2 c
    refine xi_aload_n (by decide +kernel : decode mX11_tellOuts.2.1 21 = .ok (.aload_n 0, 1)) rfl rfl (?_ : XW _ _ _ _ _ _ _ 22 _ _)
    obtain ⟨Q1, sp, vc⟩ := vc
    refine xi_callV (b := 0) (bs := 0) (As := []) (st := []) (by decide +kernel : decode mX11_tellOuts.2.1 22 = .ok (.invokevirtual 412, 3)) kX11_412 rfl rfl (by omega) rfl sp (by decide) (by decide) (Nat.le_of_ble_eq_true rfl) (by omega) (fun v9 h3 hq9 => ?_)
    obtain ⟨e9, vc⟩ := vc v9 h3 hq9
    subst e9
    show XW _ _ _ _ _ _ _ 25 _ []
    refine xi_aload_n (by decide +kernel : decode mX11_tellOuts.2.1 25 = .ok (.aload_n 3, 1)) rfl rfl (?_ : XW _ _ _ _ _ _ _ 26 _ _)
    refine xi_iload (by decide +kernel : decode mX11_tellOuts.2.1 26 = .ok (.iload 4, 2)) rfl (?_ : XW _ _ _ _ _ _ _ 28 _ _)
    refine xi_aload_n (by decide +kernel : decode mX11_tellOuts.2.1 28 = .ok (.aload_n 0, 1)) rfl rfl (?_ : XW _ _ _ _ _ _ _ 29 _ _)
    obtain ⟨Q1, sp, vc⟩ := vc
    refine xi_callV (b := 0) (bs := 0) (As := []) (st := [.int x4, .ref oq]) (by decide +kernel : decode mX11_tellOuts.2.1 29 = .ok (.invokevirtual 408, 3)) kX11_408 rfl rfl (by omega) rfl sp (by decide) (by decide) (Nat.le_of_ble_eq_true rfl) (by omega) (fun v9 h4 hq9 => ?_)
    obtain ⟨r4, e9, vc⟩ := vc v9 h4 hq9
    subst e9
    show XW _ _ _ _ _ _ _ 32 _ [.long r4, .int x4, .ref oq]
    obtain ⟨s1, vc⟩ := vc
    refine xi_last (by decide +kernel : decode mX11_tellOuts.2.1 32 = .ok (.lastore, 1)) ho (by omega) s1 (?_ : XW _ _ _ _ _ _ (xSL oq (va_up (xL h4 oq) x4.toNatClampNeg r4) h4) 33 _ _)
    refine xi_iinc (v := x4 + 1) (ls' := [some (.ref 56), none, some (.int x2), some (.ref oq), some (.int (x4 + 1))]) (by decide +kernel : decode mX11_tellOuts.2.1 33 = .ok (.iinc 4 1, 3)) rfl rfl (by decide) rfl (?_ : XW _ _ _ _ _ _ _ 36 _ _)
    refine xi_goto (by decide +kernel : decode mX11_tellOuts.2.1 36 = .ok (.goto (-21), 3)) (by decide) (?_ : XW _ _ _ _ _ _ _ 15 _ _)
    exact vc

