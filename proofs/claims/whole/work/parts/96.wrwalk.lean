/-! THE BOARD WRITTEN BACK: the walks -/
set_option maxRecDepth 20000 in
theorem v_X9_put_0 {h : XH} {Q : Option Value → XH → Prop} {X : String → XH → Prop} (hw : xWri (xP h))  (q : Int32)
    (vc : (¬ (xI h 55 0) = (xI h 55 2) → Q none (xSI 55 (va_up (xI h 55) 0 ((xI h 55 0) + 1)) h)) ∧ ((xI h 55 0) = (xI h 55 2) → (narrow .char (.int q) = .int q ∧ fits .char (.int q) = true) ∧ (Q none (xSI 55 (va_up (va_up (xI h 55) 1 q) 0 ((va_up (xI h 55) 1 q 0) + 1)) (xSI 55 (va_up (xI h 55) 1 q) h))))) :
    XW (xrm 1 0 0) mX9_put (xE 100 Q X 0 0) 100 0 0 h 0 [some (.ref 55), some (.int q)] [] := by
  refine xi_aload_n (by decide +kernel : decode mX9_put.2.1 0 = .ok (.aload_n 0, 1)) rfl rfl (?_ : XW _ _ _ _ _ _ _ 1 _ _)
  refine xi_getI (by decide +kernel : decode mX9_put.2.1 1 = .ok (.getfield 9, 3)) fX9_9 rfl (by omega) rfl (?_ : XW _ _ _ _ _ _ _ 4 _ _)
  refine xi_aload_n (by decide +kernel : decode mX9_put.2.1 4 = .ok (.aload_n 0, 1)) rfl rfl (?_ : XW _ _ _ _ _ _ _ 5 _ _)
  refine xi_getI (by decide +kernel : decode mX9_put.2.1 5 = .ok (.getfield 19, 3)) fX9_19 rfl (by omega) rfl (?_ : XW _ _ _ _ _ _ _ 8 _ _)
  refine xi_icmp_ne (by decide +kernel : decode mX9_put.2.1 8 = .ok (.if_icmp .ne 8, 3)) (by decide) (fun c => (?_ : XW _ _ _ _ _ _ _ 16 _ _)) (fun c => (?_ : XW _ _ _ _ _ _ _ 11 _ _))
  · replace vc := vc.1 c
    refine xi_aload_n (by decide +kernel : decode mX9_put.2.1 16 = .ok (.aload_n 0, 1)) rfl rfl (?_ : XW _ _ _ _ _ _ _ 17 _ _)
    refine xi_dup (by decide +kernel : decode mX9_put.2.1 17 = .ok (.dup, 1)) rfl (?_ : XW _ _ _ _ _ _ _ 18 _ _)
    refine xi_getI (by decide +kernel : decode mX9_put.2.1 18 = .ok (.getfield 9, 3)) fX9_9 rfl (by omega) rfl (?_ : XW _ _ _ _ _ _ _ 21 _ _)
    refine xi_iconst (v := 1) (by decide +kernel : decode mX9_put.2.1 21 = .ok (.iconst 1, 1)) (by decide) (?_ : XW _ _ _ _ _ _ _ 22 _ _)
    refine xi_iadd (by decide +kernel : decode mX9_put.2.1 22 = .ok (.iadd, 1)) (?_ : XW _ _ _ _ _ _ _ 23 _ _)
    refine xi_putI (by decide +kernel : decode mX9_put.2.1 23 = .ok (.putfield 9, 3)) fX9_9 rfl (by omega) rfl rfl rfl (?_ : XW _ _ _ _ _ _ (xSI 55 (va_up (xI h 55) 0 ((xI h 55 0) + 1)) h) 26 _ _)
    exact xi_vret (by decide +kernel : decode mX9_put.2.1 26 = .ok (.return_, 1)) rfl vc
  · replace vc := vc.2 c
    refine xi_aload_n (by decide +kernel : decode mX9_put.2.1 11 = .ok (.aload_n 0, 1)) rfl rfl (?_ : XW _ _ _ _ _ _ _ 12 _ _)
    refine xi_iload_n (by decide +kernel : decode mX9_put.2.1 12 = .ok (.iload_n 1, 1)) rfl rfl (?_ : XW _ _ _ _ _ _ _ 13 _ _)
    obtain ⟨⟨s1, s2⟩, vc⟩ := vc
    refine xi_putI (by decide +kernel : decode mX9_put.2.1 13 = .ok (.putfield 15, 3)) fX9_15 rfl (by omega) rfl s1 s2 (?_ : XW _ _ _ _ _ _ (xSI 55 (va_up (xI h 55) 1 q) h) 16 _ _)
    refine xi_aload_n (by decide +kernel : decode mX9_put.2.1 16 = .ok (.aload_n 0, 1)) rfl rfl (?_ : XW _ _ _ _ _ _ _ 17 _ _)
    refine xi_dup (by decide +kernel : decode mX9_put.2.1 17 = .ok (.dup, 1)) rfl (?_ : XW _ _ _ _ _ _ _ 18 _ _)
    refine xi_getI (by decide +kernel : decode mX9_put.2.1 18 = .ok (.getfield 9, 3)) fX9_9 rfl (by omega) rfl (?_ : XW _ _ _ _ _ _ _ 21 _ [.int (va_up (xI h 55) 1 q 0), .ref 55])
    refine xi_iconst (v := 1) (by decide +kernel : decode mX9_put.2.1 21 = .ok (.iconst 1, 1)) (by decide) (?_ : XW _ _ _ _ _ _ _ 22 _ _)
    refine xi_iadd (by decide +kernel : decode mX9_put.2.1 22 = .ok (.iadd, 1)) (?_ : XW _ _ _ _ _ _ _ 23 _ _)
    refine xi_putI (by decide +kernel : decode mX9_put.2.1 23 = .ok (.putfield 9, 3)) fX9_9 rfl (by omega) rfl rfl rfl (?_ : XW _ _ _ _ _ _ (xSI 55 (va_up (va_up (xI h 55) 1 q) 0 ((va_up (xI h 55) 1 q 0) + 1)) (xSI 55 (va_up (xI h 55) 1 q) h)) 26 _ _)
    exact xi_vret (by decide +kernel : decode mX9_put.2.1 26 = .ok (.return_, 1)) rfl vc

set_option maxRecDepth 20000 in
theorem v_X9_putText_0 {h : XH} {Q : Option Value → XH → Prop} {X : String → XH → Prop} (hw : xWri (xP h)) (i : Nat) (hi : i < jsN) 
    (vc : XW (xrm 12 0 0) mX9_putText (xE 100 Q X 0 0) 100 0 0 h 2 [some (.ref 55), some (.ref (1000 + i)), some (.int 0)] []) :
    XW (xrm 12 0 0) mX9_putText (xE 100 Q X 0 0) 100 0 0 h 0 [some (.ref 55), some (.ref (1000 + i)), none] [] := by
  refine xi_iconst (v := 0) (by decide +kernel : decode mX9_putText.2.1 0 = .ok (.iconst 0, 1)) (by decide) (?_ : XW _ _ _ _ _ _ _ 1 _ _)
  refine xi_istore_n (ls' := [some (.ref 55), some (.ref (1000 + i)), some (.int 0)]) (by decide +kernel : decode mX9_putText.2.1 1 = .ok (.istore_n 2, 1)) rfl (by decide) rfl (?_ : XW _ _ _ _ _ _ _ 2 _ _)
  exact vc

set_option maxRecDepth 20000 in
theorem v_X9_putText_2 {h : XH} {Q : Option Value → XH → Prop} {X : String → XH → Prop} (hw : xWri (xP h)) (i : Nat) (hi : i < jsN)  (x2 : Int32)
    (vc : ∃ Q1, XSpec mJ0_length_8abf5 2 0 0 100 100 [.ref (1000 + i)] h Q1 xno ∧ ∀ v h1, Q1 v h1 → ∃ r1 : Int32, v = some (.int r1) ∧ ((r1 ≤ x2 → Q none h1) ∧ (¬ r1 ≤ x2 → ∃ Q1, XSpec mJ0_charAt_5068e 4 0 0 100 100 [.ref (1000 + i), .int x2] h1 Q1 xno ∧ ∀ v h2, Q1 v h2 → ∃ r2 : Int32, v = some (.int r2) ∧ (∃ Q1, XSpec mX9_put 1 0 0 100 100 [.ref 55, .int r2] h2 Q1 xno ∧ ∀ v h3, Q1 v h3 → v = none ∧ (XW (xrm 12 0 0) mX9_putText (xE 100 Q X 0 0) 100 0 0 h3 2 [some (.ref 55), some (.ref (1000 + i)), some (.int (x2 + 1))] []))))) :
    XW (xrm 12 0 0) mX9_putText (xE 100 Q X 0 0) 100 0 0 h 2 [some (.ref 55), some (.ref (1000 + i)), some (.int x2)] [] := by
  refine xi_iload_n (by decide +kernel : decode mX9_putText.2.1 2 = .ok (.iload_n 2, 1)) rfl rfl (?_ : XW _ _ _ _ _ _ _ 3 _ _)
  refine xi_aload_n (by decide +kernel : decode mX9_putText.2.1 3 = .ok (.aload_n 1, 1)) rfl rfl (?_ : XW _ _ _ _ _ _ _ 4 _ _)
  obtain ⟨Q1, sp, vc⟩ := vc
  refine xi_callVs (b := 0) (bs := 0) (As := []) (st := [.int x2]) (by decide +kernel : decode mX9_putText.2.1 4 = .ok (.invokevirtual 22, 3)) (xVs.of (own := RX9) (y := mJ0_length_8abf5) cM_X9_22 cI_J0_length_8abf5 cE_J0_length_8abf5 cN_J0 cC_J0_length_8abf5 cD_J0_length_8abf5) rfl hi rfl sp (by decide) (by decide) (Nat.le_of_ble_eq_true rfl) (by omega) (fun v9 h1 hq9 => ?_)
  obtain ⟨r1, e9, vc⟩ := vc v9 h1 hq9
  subst e9
  show XW _ _ _ _ _ _ _ 7 _ [.int r1, .int x2]
  refine xi_icmp_ge (by decide +kernel : decode mX9_putText.2.1 7 = .ok (.if_icmp .ge 18, 3)) (by decide) (fun c => (?_ : XW _ _ _ _ _ _ _ 25 _ _)) (fun c => (?_ : XW _ _ _ _ _ _ _ 10 _ _))
  · replace vc := vc.1 c
    exact xi_vret (by decide +kernel : decode mX9_putText.2.1 25 = .ok (.return_, 1)) rfl vc
  · replace vc := vc.2 c
    refine xi_aload_n (by decide +kernel : decode mX9_putText.2.1 10 = .ok (.aload_n 0, 1)) rfl rfl (?_ : XW _ _ _ _ _ _ _ 11 _ _)
    refine xi_aload_n (by decide +kernel : decode mX9_putText.2.1 11 = .ok (.aload_n 1, 1)) rfl rfl (?_ : XW _ _ _ _ _ _ _ 12 _ _)
    refine xi_iload_n (by decide +kernel : decode mX9_putText.2.1 12 = .ok (.iload_n 2, 1)) rfl rfl (?_ : XW _ _ _ _ _ _ _ 13 _ _)
    obtain ⟨Q1, sp, vc⟩ := vc
    refine xi_callVs (b := 0) (bs := 0) (As := [.int x2]) (st := [.ref 55]) (by decide +kernel : decode mX9_putText.2.1 13 = .ok (.invokevirtual 27, 3)) (xVs.of (own := RX9) (y := mJ0_charAt_5068e) cM_X9_27 cI_J0_charAt_5068e cE_J0_charAt_5068e cN_J0 cC_J0_charAt_5068e cD_J0_charAt_5068e) rfl hi rfl sp (by decide) (by decide) (Nat.le_of_ble_eq_true rfl) (by omega) (fun v9 h2 hq9 => ?_)
    obtain ⟨r2, e9, vc⟩ := vc v9 h2 hq9
    subst e9
    show XW _ _ _ _ _ _ _ 16 _ [.int r2, .ref 55]
    obtain ⟨Q1, sp, vc⟩ := vc
    refine xi_callV (b := 0) (bs := 0) (As := [.int r2]) (st := []) (by decide +kernel : decode mX9_putText.2.1 16 = .ok (.invokevirtual 31, 3)) kX9_31 rfl rfl (by omega) rfl sp (by decide) (by decide) (Nat.le_of_ble_eq_true rfl) (by omega) (fun v9 h3 hq9 => ?_)
    obtain ⟨e9, vc⟩ := vc v9 h3 hq9
    subst e9
    show XW _ _ _ _ _ _ _ 19 _ []
    refine xi_iinc (v := x2 + 1) (ls' := [some (.ref 55), some (.ref (1000 + i)), some (.int (x2 + 1))]) (by decide +kernel : decode mX9_putText.2.1 19 = .ok (.iinc 2 1, 3)) rfl rfl (by decide) rfl (?_ : XW _ _ _ _ _ _ _ 22 _ _)
    refine xi_goto (by decide +kernel : decode mX9_putText.2.1 22 = .ok (.goto (-20), 3)) (by decide) (?_ : XW _ _ _ _ _ _ _ 2 _ _)
    exact vc

set_option maxRecDepth 20000 in
theorem v_X9_putNumber_0 {h : XH} {Q : Option Value → XH → Prop} {X : String → XH → Prop} (hw : xWri (xP h))  (w : Int32)
    (vc : ∃ Q1, XSpec mX9_put 1 0 0 100 100 [.ref 55, .int 32] h Q1 xno ∧ ∀ v h1, Q1 v h1 → v = none ∧ ((w < 100 → (w < 10 → ∃ Q1, XSpec mX9_put 1 0 0 100 100 [.ref 55, .int (((48 + (w - w / 10 * 10)).toUInt32 % 65536).toInt32)] h1 Q1 xno ∧ ∀ v h2, Q1 v h2 → v = none ∧ (Q none h2)) ∧ (¬ w < 10 → ∃ Q1, XSpec mX9_put 1 0 0 100 100 [.ref 55, .int (((48 + ((w / 10) - (w / 10) / 10 * 10)).toUInt32 % 65536).toInt32)] h1 Q1 xno ∧ ∀ v h3, Q1 v h3 → v = none ∧ (∃ Q1, XSpec mX9_put 1 0 0 100 100 [.ref 55, .int (((48 + (w - w / 10 * 10)).toUInt32 % 65536).toInt32)] h3 Q1 xno ∧ ∀ v h4, Q1 v h4 → v = none ∧ (Q none h4)))) ∧ (¬ w < 100 → ∃ Q1, XSpec mX9_put 1 0 0 100 100 [.ref 55, .int (((48 + ((w / 100) - (w / 100) / 10 * 10)).toUInt32 % 65536).toInt32)] h1 Q1 xno ∧ ∀ v h5, Q1 v h5 → v = none ∧ ((w < 10 → ∃ Q1, XSpec mX9_put 1 0 0 100 100 [.ref 55, .int (((48 + (w - w / 10 * 10)).toUInt32 % 65536).toInt32)] h5 Q1 xno ∧ ∀ v h6, Q1 v h6 → v = none ∧ (Q none h6)) ∧ (¬ w < 10 → ∃ Q1, XSpec mX9_put 1 0 0 100 100 [.ref 55, .int (((48 + ((w / 10) - (w / 10) / 10 * 10)).toUInt32 % 65536).toInt32)] h5 Q1 xno ∧ ∀ v h7, Q1 v h7 → v = none ∧ (∃ Q1, XSpec mX9_put 1 0 0 100 100 [.ref 55, .int (((48 + (w - w / 10 * 10)).toUInt32 % 65536).toInt32)] h7 Q1 xno ∧ ∀ v h8, Q1 v h8 → v = none ∧ (Q none h8))))))) :
    XW (xrm 2 0 0) mX9_putNumber (xE 100 Q X 0 0) 100 0 0 h 0 [some (.ref 55), some (.int w)] [] := by
  refine xi_aload_n (by decide +kernel : decode mX9_putNumber.2.1 0 = .ok (.aload_n 0, 1)) rfl rfl (?_ : XW _ _ _ _ _ _ _ 1 _ _)
  refine xi_bipush (v := 32) (by decide +kernel : decode mX9_putNumber.2.1 1 = .ok (.bipush 32, 2)) (by decide) (?_ : XW _ _ _ _ _ _ _ 3 _ _)
  obtain ⟨Q1, sp, vc⟩ := vc
  refine xi_callV (b := 0) (bs := 0) (As := [.int 32]) (st := []) (by decide +kernel : decode mX9_putNumber.2.1 3 = .ok (.invokevirtual 31, 3)) kX9_31 rfl rfl (by omega) rfl sp (by decide) (by decide) (Nat.le_of_ble_eq_true rfl) (by omega) (fun v9 h1 hq9 => ?_)
  obtain ⟨e9, vc⟩ := vc v9 h1 hq9
  subst e9
  show XW _ _ _ _ _ _ _ 6 _ []
  refine xi_iload_n (by decide +kernel : decode mX9_putNumber.2.1 6 = .ok (.iload_n 1, 1)) rfl rfl (?_ : XW _ _ _ _ _ _ _ 7 _ _)
  refine xi_bipush (v := 100) (by decide +kernel : decode mX9_putNumber.2.1 7 = .ok (.bipush 100, 2)) (by decide) (?_ : XW _ _ _ _ _ _ _ 9 _ _)
  refine xi_icmp_lt (by decide +kernel : decode mX9_putNumber.2.1 9 = .ok (.if_icmp .lt 18, 3)) (by decide) (fun c => (?_ : XW _ _ _ _ _ _ _ 27 _ _)) (fun c => (?_ : XW _ _ _ _ _ _ _ 12 _ _))
  · replace vc := vc.1 c
    refine xi_iload_n (by decide +kernel : decode mX9_putNumber.2.1 27 = .ok (.iload_n 1, 1)) rfl rfl (?_ : XW _ _ _ _ _ _ _ 28 _ _)
    refine xi_bipush (v := 10) (by decide +kernel : decode mX9_putNumber.2.1 28 = .ok (.bipush 10, 2)) (by decide) (?_ : XW _ _ _ _ _ _ _ 30 _ _)
    refine xi_icmp_lt (by decide +kernel : decode mX9_putNumber.2.1 30 = .ok (.if_icmp .lt 18, 3)) (by decide) (fun c => (?_ : XW _ _ _ _ _ _ _ 48 _ _)) (fun c => (?_ : XW _ _ _ _ _ _ _ 33 _ _))
    · replace vc := vc.1 c
      refine xi_aload_n (by decide +kernel : decode mX9_putNumber.2.1 48 = .ok (.aload_n 0, 1)) rfl rfl (?_ : XW _ _ _ _ _ _ _ 49 _ _)
      refine xi_bipush (v := 48) (by decide +kernel : decode mX9_putNumber.2.1 49 = .ok (.bipush 48, 2)) (by decide) (?_ : XW _ _ _ _ _ _ _ 51 _ _)
      refine xi_iload_n (by decide +kernel : decode mX9_putNumber.2.1 51 = .ok (.iload_n 1, 1)) rfl rfl (?_ : XW _ _ _ _ _ _ _ 52 _ _)
      refine xi_bipush (v := 10) (by decide +kernel : decode mX9_putNumber.2.1 52 = .ok (.bipush 10, 2)) (by decide) (?_ : XW _ _ _ _ _ _ _ 54 _ _)
      refine xi_irem (by decide +kernel : decode mX9_putNumber.2.1 54 = .ok (.irem, 1)) (by decide) (?_ : XW _ _ _ _ _ _ _ 55 _ _)
      refine xi_iadd (by decide +kernel : decode mX9_putNumber.2.1 55 = .ok (.iadd, 1)) (?_ : XW _ _ _ _ _ _ _ 56 _ _)
      refine xi_i2c (by decide +kernel : decode mX9_putNumber.2.1 56 = .ok (.i2c, 1)) (?_ : XW _ _ _ _ _ _ _ 57 _ _)
      obtain ⟨Q1, sp, vc⟩ := vc
      refine xi_callV (b := 0) (bs := 0) (As := [.int (((48 + (w - w / 10 * 10)).toUInt32 % 65536).toInt32)]) (st := []) (by decide +kernel : decode mX9_putNumber.2.1 57 = .ok (.invokevirtual 31, 3)) kX9_31 rfl rfl (by omega) rfl sp (by decide) (by decide) (Nat.le_of_ble_eq_true rfl) (by omega) (fun v9 h2 hq9 => ?_)
      obtain ⟨e9, vc⟩ := vc v9 h2 hq9
      subst e9
      show XW _ _ _ _ _ _ _ 60 _ []
      exact xi_vret (by decide +kernel : decode mX9_putNumber.2.1 60 = .ok (.return_, 1)) rfl vc
    · replace vc := vc.2 c
      refine xi_aload_n (by decide +kernel : decode mX9_putNumber.2.1 33 = .ok (.aload_n 0, 1)) rfl rfl (?_ : XW _ _ _ _ _ _ _ 34 _ _)
      refine xi_bipush (v := 48) (by decide +kernel : decode mX9_putNumber.2.1 34 = .ok (.bipush 48, 2)) (by decide) (?_ : XW _ _ _ _ _ _ _ 36 _ _)
      refine xi_iload_n (by decide +kernel : decode mX9_putNumber.2.1 36 = .ok (.iload_n 1, 1)) rfl rfl (?_ : XW _ _ _ _ _ _ _ 37 _ _)
      refine xi_bipush (v := 10) (by decide +kernel : decode mX9_putNumber.2.1 37 = .ok (.bipush 10, 2)) (by decide) (?_ : XW _ _ _ _ _ _ _ 39 _ _)
      refine xi_idiv (by decide +kernel : decode mX9_putNumber.2.1 39 = .ok (.idiv, 1)) (by decide) (?_ : XW _ _ _ _ _ _ _ 40 _ _)
      refine xi_bipush (v := 10) (by decide +kernel : decode mX9_putNumber.2.1 40 = .ok (.bipush 10, 2)) (by decide) (?_ : XW _ _ _ _ _ _ _ 42 _ _)
      refine xi_irem (by decide +kernel : decode mX9_putNumber.2.1 42 = .ok (.irem, 1)) (by decide) (?_ : XW _ _ _ _ _ _ _ 43 _ _)
      refine xi_iadd (by decide +kernel : decode mX9_putNumber.2.1 43 = .ok (.iadd, 1)) (?_ : XW _ _ _ _ _ _ _ 44 _ _)
      refine xi_i2c (by decide +kernel : decode mX9_putNumber.2.1 44 = .ok (.i2c, 1)) (?_ : XW _ _ _ _ _ _ _ 45 _ _)
      obtain ⟨Q1, sp, vc⟩ := vc
      refine xi_callV (b := 0) (bs := 0) (As := [.int (((48 + ((w / 10) - (w / 10) / 10 * 10)).toUInt32 % 65536).toInt32)]) (st := []) (by decide +kernel : decode mX9_putNumber.2.1 45 = .ok (.invokevirtual 31, 3)) kX9_31 rfl rfl (by omega) rfl sp (by decide) (by decide) (Nat.le_of_ble_eq_true rfl) (by omega) (fun v9 h3 hq9 => ?_)
      obtain ⟨e9, vc⟩ := vc v9 h3 hq9
      subst e9
      show XW _ _ _ _ _ _ _ 48 _ []
      refine xi_aload_n (by decide +kernel : decode mX9_putNumber.2.1 48 = .ok (.aload_n 0, 1)) rfl rfl (?_ : XW _ _ _ _ _ _ _ 49 _ _)
      refine xi_bipush (v := 48) (by decide +kernel : decode mX9_putNumber.2.1 49 = .ok (.bipush 48, 2)) (by decide) (?_ : XW _ _ _ _ _ _ _ 51 _ _)
      refine xi_iload_n (by decide +kernel : decode mX9_putNumber.2.1 51 = .ok (.iload_n 1, 1)) rfl rfl (?_ : XW _ _ _ _ _ _ _ 52 _ _)
      refine xi_bipush (v := 10) (by decide +kernel : decode mX9_putNumber.2.1 52 = .ok (.bipush 10, 2)) (by decide) (?_ : XW _ _ _ _ _ _ _ 54 _ _)
      refine xi_irem (by decide +kernel : decode mX9_putNumber.2.1 54 = .ok (.irem, 1)) (by decide) (?_ : XW _ _ _ _ _ _ _ 55 _ _)
      refine xi_iadd (by decide +kernel : decode mX9_putNumber.2.1 55 = .ok (.iadd, 1)) (?_ : XW _ _ _ _ _ _ _ 56 _ _)
      refine xi_i2c (by decide +kernel : decode mX9_putNumber.2.1 56 = .ok (.i2c, 1)) (?_ : XW _ _ _ _ _ _ _ 57 _ _)
      obtain ⟨Q1, sp, vc⟩ := vc
      refine xi_callV (b := 0) (bs := 0) (As := [.int (((48 + (w - w / 10 * 10)).toUInt32 % 65536).toInt32)]) (st := []) (by decide +kernel : decode mX9_putNumber.2.1 57 = .ok (.invokevirtual 31, 3)) kX9_31 rfl rfl (by omega) rfl sp (by decide) (by decide) (Nat.le_of_ble_eq_true rfl) (by omega) (fun v9 h4 hq9 => ?_)
      obtain ⟨e9, vc⟩ := vc v9 h4 hq9
      subst e9
      show XW _ _ _ _ _ _ _ 60 _ []
      exact xi_vret (by decide +kernel : decode mX9_putNumber.2.1 60 = .ok (.return_, 1)) rfl vc
  · replace vc := vc.2 c
    refine xi_aload_n (by decide +kernel : decode mX9_putNumber.2.1 12 = .ok (.aload_n 0, 1)) rfl rfl (?_ : XW _ _ _ _ _ _ _ 13 _ _)
    refine xi_bipush (v := 48) (by decide +kernel : decode mX9_putNumber.2.1 13 = .ok (.bipush 48, 2)) (by decide) (?_ : XW _ _ _ _ _ _ _ 15 _ _)
    refine xi_iload_n (by decide +kernel : decode mX9_putNumber.2.1 15 = .ok (.iload_n 1, 1)) rfl rfl (?_ : XW _ _ _ _ _ _ _ 16 _ _)
    refine xi_bipush (v := 100) (by decide +kernel : decode mX9_putNumber.2.1 16 = .ok (.bipush 100, 2)) (by decide) (?_ : XW _ _ _ _ _ _ _ 18 _ _)
    refine xi_idiv (by decide +kernel : decode mX9_putNumber.2.1 18 = .ok (.idiv, 1)) (by decide) (?_ : XW _ _ _ _ _ _ _ 19 _ _)
    refine xi_bipush (v := 10) (by decide +kernel : decode mX9_putNumber.2.1 19 = .ok (.bipush 10, 2)) (by decide) (?_ : XW _ _ _ _ _ _ _ 21 _ _)
    refine xi_irem (by decide +kernel : decode mX9_putNumber.2.1 21 = .ok (.irem, 1)) (by decide) (?_ : XW _ _ _ _ _ _ _ 22 _ _)
    refine xi_iadd (by decide +kernel : decode mX9_putNumber.2.1 22 = .ok (.iadd, 1)) (?_ : XW _ _ _ _ _ _ _ 23 _ _)
    refine xi_i2c (by decide +kernel : decode mX9_putNumber.2.1 23 = .ok (.i2c, 1)) (?_ : XW _ _ _ _ _ _ _ 24 _ _)
    obtain ⟨Q1, sp, vc⟩ := vc
    refine xi_callV (b := 0) (bs := 0) (As := [.int (((48 + ((w / 100) - (w / 100) / 10 * 10)).toUInt32 % 65536).toInt32)]) (st := []) (by decide +kernel : decode mX9_putNumber.2.1 24 = .ok (.invokevirtual 31, 3)) kX9_31 rfl rfl (by omega) rfl sp (by decide) (by decide) (Nat.le_of_ble_eq_true rfl) (by omega) (fun v9 h5 hq9 => ?_)
    obtain ⟨e9, vc⟩ := vc v9 h5 hq9
    subst e9
    show XW _ _ _ _ _ _ _ 27 _ []
    refine xi_iload_n (by decide +kernel : decode mX9_putNumber.2.1 27 = .ok (.iload_n 1, 1)) rfl rfl (?_ : XW _ _ _ _ _ _ _ 28 _ _)
    refine xi_bipush (v := 10) (by decide +kernel : decode mX9_putNumber.2.1 28 = .ok (.bipush 10, 2)) (by decide) (?_ : XW _ _ _ _ _ _ _ 30 _ _)
    refine xi_icmp_lt (by decide +kernel : decode mX9_putNumber.2.1 30 = .ok (.if_icmp .lt 18, 3)) (by decide) (fun c => (?_ : XW _ _ _ _ _ _ _ 48 _ _)) (fun c => (?_ : XW _ _ _ _ _ _ _ 33 _ _))
    · replace vc := vc.1 c
      refine xi_aload_n (by decide +kernel : decode mX9_putNumber.2.1 48 = .ok (.aload_n 0, 1)) rfl rfl (?_ : XW _ _ _ _ _ _ _ 49 _ _)
      refine xi_bipush (v := 48) (by decide +kernel : decode mX9_putNumber.2.1 49 = .ok (.bipush 48, 2)) (by decide) (?_ : XW _ _ _ _ _ _ _ 51 _ _)
      refine xi_iload_n (by decide +kernel : decode mX9_putNumber.2.1 51 = .ok (.iload_n 1, 1)) rfl rfl (?_ : XW _ _ _ _ _ _ _ 52 _ _)
      refine xi_bipush (v := 10) (by decide +kernel : decode mX9_putNumber.2.1 52 = .ok (.bipush 10, 2)) (by decide) (?_ : XW _ _ _ _ _ _ _ 54 _ _)
      refine xi_irem (by decide +kernel : decode mX9_putNumber.2.1 54 = .ok (.irem, 1)) (by decide) (?_ : XW _ _ _ _ _ _ _ 55 _ _)
      refine xi_iadd (by decide +kernel : decode mX9_putNumber.2.1 55 = .ok (.iadd, 1)) (?_ : XW _ _ _ _ _ _ _ 56 _ _)
      refine xi_i2c (by decide +kernel : decode mX9_putNumber.2.1 56 = .ok (.i2c, 1)) (?_ : XW _ _ _ _ _ _ _ 57 _ _)
      obtain ⟨Q1, sp, vc⟩ := vc
      refine xi_callV (b := 0) (bs := 0) (As := [.int (((48 + (w - w / 10 * 10)).toUInt32 % 65536).toInt32)]) (st := []) (by decide +kernel : decode mX9_putNumber.2.1 57 = .ok (.invokevirtual 31, 3)) kX9_31 rfl rfl (by omega) rfl sp (by decide) (by decide) (Nat.le_of_ble_eq_true rfl) (by omega) (fun v9 h6 hq9 => ?_)
      obtain ⟨e9, vc⟩ := vc v9 h6 hq9
      subst e9
      show XW _ _ _ _ _ _ _ 60 _ []
      exact xi_vret (by decide +kernel : decode mX9_putNumber.2.1 60 = .ok (.return_, 1)) rfl vc
    · replace vc := vc.2 c
      refine xi_aload_n (by decide +kernel : decode mX9_putNumber.2.1 33 = .ok (.aload_n 0, 1)) rfl rfl (?_ : XW _ _ _ _ _ _ _ 34 _ _)
      refine xi_bipush (v := 48) (by decide +kernel : decode mX9_putNumber.2.1 34 = .ok (.bipush 48, 2)) (by decide) (?_ : XW _ _ _ _ _ _ _ 36 _ _)
      refine xi_iload_n (by decide +kernel : decode mX9_putNumber.2.1 36 = .ok (.iload_n 1, 1)) rfl rfl (?_ : XW _ _ _ _ _ _ _ 37 _ _)
      refine xi_bipush (v := 10) (by decide +kernel : decode mX9_putNumber.2.1 37 = .ok (.bipush 10, 2)) (by decide) (?_ : XW _ _ _ _ _ _ _ 39 _ _)
      refine xi_idiv (by decide +kernel : decode mX9_putNumber.2.1 39 = .ok (.idiv, 1)) (by decide) (?_ : XW _ _ _ _ _ _ _ 40 _ _)
      refine xi_bipush (v := 10) (by decide +kernel : decode mX9_putNumber.2.1 40 = .ok (.bipush 10, 2)) (by decide) (?_ : XW _ _ _ _ _ _ _ 42 _ _)
      refine xi_irem (by decide +kernel : decode mX9_putNumber.2.1 42 = .ok (.irem, 1)) (by decide) (?_ : XW _ _ _ _ _ _ _ 43 _ _)
      refine xi_iadd (by decide +kernel : decode mX9_putNumber.2.1 43 = .ok (.iadd, 1)) (?_ : XW _ _ _ _ _ _ _ 44 _ _)
      refine xi_i2c (by decide +kernel : decode mX9_putNumber.2.1 44 = .ok (.i2c, 1)) (?_ : XW _ _ _ _ _ _ _ 45 _ _)
      obtain ⟨Q1, sp, vc⟩ := vc
      refine xi_callV (b := 0) (bs := 0) (As := [.int (((48 + ((w / 10) - (w / 10) / 10 * 10)).toUInt32 % 65536).toInt32)]) (st := []) (by decide +kernel : decode mX9_putNumber.2.1 45 = .ok (.invokevirtual 31, 3)) kX9_31 rfl rfl (by omega) rfl sp (by decide) (by decide) (Nat.le_of_ble_eq_true rfl) (by omega) (fun v9 h7 hq9 => ?_)
      obtain ⟨e9, vc⟩ := vc v9 h7 hq9
      subst e9
      show XW _ _ _ _ _ _ _ 48 _ []
      refine xi_aload_n (by decide +kernel : decode mX9_putNumber.2.1 48 = .ok (.aload_n 0, 1)) rfl rfl (?_ : XW _ _ _ _ _ _ _ 49 _ _)
      refine xi_bipush (v := 48) (by decide +kernel : decode mX9_putNumber.2.1 49 = .ok (.bipush 48, 2)) (by decide) (?_ : XW _ _ _ _ _ _ _ 51 _ _)
      refine xi_iload_n (by decide +kernel : decode mX9_putNumber.2.1 51 = .ok (.iload_n 1, 1)) rfl rfl (?_ : XW _ _ _ _ _ _ _ 52 _ _)
      refine xi_bipush (v := 10) (by decide +kernel : decode mX9_putNumber.2.1 52 = .ok (.bipush 10, 2)) (by decide) (?_ : XW _ _ _ _ _ _ _ 54 _ _)
      refine xi_irem (by decide +kernel : decode mX9_putNumber.2.1 54 = .ok (.irem, 1)) (by decide) (?_ : XW _ _ _ _ _ _ _ 55 _ _)
      refine xi_iadd (by decide +kernel : decode mX9_putNumber.2.1 55 = .ok (.iadd, 1)) (?_ : XW _ _ _ _ _ _ _ 56 _ _)
      refine xi_i2c (by decide +kernel : decode mX9_putNumber.2.1 56 = .ok (.i2c, 1)) (?_ : XW _ _ _ _ _ _ _ 57 _ _)
      obtain ⟨Q1, sp, vc⟩ := vc
      refine xi_callV (b := 0) (bs := 0) (As := [.int (((48 + (w - w / 10 * 10)).toUInt32 % 65536).toInt32)]) (st := []) (by decide +kernel : decode mX9_putNumber.2.1 57 = .ok (.invokevirtual 31, 3)) kX9_31 rfl rfl (by omega) rfl sp (by decide) (by decide) (Nat.le_of_ble_eq_true rfl) (by omega) (fun v9 h8 hq9 => ?_)
      obtain ⟨e9, vc⟩ := vc v9 h8 hq9
      subst e9
      show XW _ _ _ _ _ _ _ 60 _ []
      exact xi_vret (by decide +kernel : decode mX9_putNumber.2.1 60 = .ok (.return_, 1)) rfl vc

set_option maxRecDepth 20000 in
theorem v_X9_putLine_0 {h : XH} {Q : Option Value → XH → Prop} {X : String → XH → Prop} (hw : xWri (xP h)) (i : Nat) (hi : i < jsN)  (w : Int32)
    (vc : ∃ Q1, XSpec mX9_putText 12 0 0 100 100 [.ref 55, .ref (1000 + i)] h Q1 xno ∧ ∀ v h1, Q1 v h1 → v = none ∧ (∃ Q1, XSpec mX9_putNumber 2 0 0 100 100 [.ref 55, .int w] h1 Q1 xno ∧ ∀ v h2, Q1 v h2 → v = none ∧ (∃ Q1, XSpec mX9_put 1 0 0 100 100 [.ref 55, .int 59] h2 Q1 xno ∧ ∀ v h3, Q1 v h3 → v = none ∧ (Q none h3)))) :
    XW (xrm 13 0 0) mX9_putLine (xE 100 Q X 0 0) 100 0 0 h 0 [some (.ref 55), some (.ref (1000 + i)), some (.int w)] [] := by
  refine xi_aload_n (by decide +kernel : decode mX9_putLine.2.1 0 = .ok (.aload_n 0, 1)) rfl rfl (?_ : XW _ _ _ _ _ _ _ 1 _ _)
  refine xi_aload_n (by decide +kernel : decode mX9_putLine.2.1 1 = .ok (.aload_n 1, 1)) rfl rfl (?_ : XW _ _ _ _ _ _ _ 2 _ _)
  obtain ⟨Q1, sp, vc⟩ := vc
  refine xi_callV (b := 0) (bs := 0) (As := [.ref (1000 + i)]) (st := []) (by decide +kernel : decode mX9_putLine.2.1 2 = .ok (.invokevirtual 35, 3)) kX9_35 rfl rfl (by omega) rfl sp (by decide) (by decide) (Nat.le_of_ble_eq_true rfl) (by omega) (fun v9 h1 hq9 => ?_)
  obtain ⟨e9, vc⟩ := vc v9 h1 hq9
  subst e9
  show XW _ _ _ _ _ _ _ 5 _ []
  refine xi_aload_n (by decide +kernel : decode mX9_putLine.2.1 5 = .ok (.aload_n 0, 1)) rfl rfl (?_ : XW _ _ _ _ _ _ _ 6 _ _)
  refine xi_iload_n (by decide +kernel : decode mX9_putLine.2.1 6 = .ok (.iload_n 2, 1)) rfl rfl (?_ : XW _ _ _ _ _ _ _ 7 _ _)
  obtain ⟨Q1, sp, vc⟩ := vc
  refine xi_callV (b := 0) (bs := 0) (As := [.int w]) (st := []) (by decide +kernel : decode mX9_putLine.2.1 7 = .ok (.invokevirtual 39, 3)) kX9_39 rfl rfl (by omega) rfl sp (by decide) (by decide) (Nat.le_of_ble_eq_true rfl) (by omega) (fun v9 h2 hq9 => ?_)
  obtain ⟨e9, vc⟩ := vc v9 h2 hq9
  subst e9
  show XW _ _ _ _ _ _ _ 10 _ []
  refine xi_aload_n (by decide +kernel : decode mX9_putLine.2.1 10 = .ok (.aload_n 0, 1)) rfl rfl (?_ : XW _ _ _ _ _ _ _ 11 _ _)
  refine xi_bipush (v := 59) (by decide +kernel : decode mX9_putLine.2.1 11 = .ok (.bipush 59, 2)) (by decide) (?_ : XW _ _ _ _ _ _ _ 13 _ _)
  obtain ⟨Q1, sp, vc⟩ := vc
  refine xi_callV (b := 0) (bs := 0) (As := [.int 59]) (st := []) (by decide +kernel : decode mX9_putLine.2.1 13 = .ok (.invokevirtual 31, 3)) kX9_31 rfl rfl (by omega) rfl sp (by decide) (by decide) (Nat.le_of_ble_eq_true rfl) (by omega) (fun v9 h3 hq9 => ?_)
  obtain ⟨e9, vc⟩ := vc v9 h3 hq9
  subst e9
  show XW _ _ _ _ _ _ _ 16 _ []
  exact xi_vret (by decide +kernel : decode mX9_putLine.2.1 16 = .ok (.return_, 1)) rfl vc

set_option maxRecDepth 20000 in
theorem v_X9_endLine_0 {h : XH} {Q : Option Value → XH → Prop} {X : String → XH → Prop}  (w : Int32)
    (vc : (¬ w = 0 → (¬ w = 1 → Q (some (.ref (1000 + 24))) h) ∧ (w = 1 → Q (some (.ref (1000 + 23))) h)) ∧ (w = 0 → Q (some (.ref (1000 + 22))) h)) :
    XW (xrm 1 0 0) mX9_endLine (xE 100 Q X 0 0) 100 0 0 h 0 [some (.int w)] [] := by
  refine xi_iload_n (by decide +kernel : decode mX9_endLine.2.1 0 = .ok (.iload_n 0, 1)) rfl rfl (?_ : XW _ _ _ _ _ _ _ 1 _ _)
  refine xi_if_ne (by decide +kernel : decode mX9_endLine.2.1 1 = .ok (.ifCond .ne 6, 3)) (by decide) (fun c => (?_ : XW _ _ _ _ _ _ _ 7 _ _)) (fun c => (?_ : XW _ _ _ _ _ _ _ 4 _ _))
  · replace vc := vc.1 c
    refine xi_iload_n (by decide +kernel : decode mX9_endLine.2.1 7 = .ok (.iload_n 0, 1)) rfl rfl (?_ : XW _ _ _ _ _ _ _ 8 _ _)
    refine xi_iconst (v := 1) (by decide +kernel : decode mX9_endLine.2.1 8 = .ok (.iconst 1, 1)) (by decide) (?_ : XW _ _ _ _ _ _ _ 9 _ _)
    refine xi_icmp_ne (by decide +kernel : decode mX9_endLine.2.1 9 = .ok (.if_icmp .ne 8, 3)) (by decide) (fun c => (?_ : XW _ _ _ _ _ _ _ 17 _ _)) (fun c => (?_ : XW _ _ _ _ _ _ _ 12 _ _))
    · replace vc := vc.1 c
      refine xi_ldcS (j := 24) (by decide +kernel : decode mX9_endLine.2.1 17 = .ok (.ldc 110, 2)) rfl (by decide) (?_ : XW _ _ _ _ _ _ _ 19 _ _)
      exact xi_aret (by decide +kernel : decode mX9_endLine.2.1 19 = .ok (.areturn, 1)) rfl vc
    · replace vc := vc.2 c
      refine xi_ldcS (j := 23) (by decide +kernel : decode mX9_endLine.2.1 12 = .ok (.ldc 108, 2)) rfl (by decide) (?_ : XW _ _ _ _ _ _ _ 14 _ _)
      refine xi_goto (by decide +kernel : decode mX9_endLine.2.1 14 = .ok (.goto 5, 3)) (by decide) (?_ : XW _ _ _ _ _ _ _ 19 _ _)
      exact xi_aret (by decide +kernel : decode mX9_endLine.2.1 19 = .ok (.areturn, 1)) rfl vc
  · replace vc := vc.2 c
    refine xi_ldcS (j := 22) (by decide +kernel : decode mX9_endLine.2.1 4 = .ok (.ldc 106, 2)) rfl (by decide) (?_ : XW _ _ _ _ _ _ _ 6 _ _)
    exact xi_aret (by decide +kernel : decode mX9_endLine.2.1 6 = .ok (.areturn, 1)) rfl vc

set_option maxRecDepth 20000 in
theorem v_X9_putGoes_0 {h : XH} {Q : Option Value → XH → Prop} {X : String → XH → Prop} (hw : xWri (xP h)) (f : Nat) (hf : xFor f (xP h)) (hn : f + 4 ≤ 100) 
    (vc : ∃ Q1, XSpec mX9_putText 12 0 0 100 100 [.ref 55, .ref (1000 + 28)] h Q1 xno ∧ ∀ v h1, Q1 v h1 → v = none ∧ (XW (xrm 13 0 0) mX9_putGoes (xE 100 Q X 0 0) 100 0 0 h1 8 [some (.ref 55), some (.ref f), some (.int 0)] [])) :
    XW (xrm 13 0 0) mX9_putGoes (xE 100 Q X 0 0) 100 0 0 h 0 [some (.ref 55), some (.ref f), none] [] := by
  rcases hf.1 with rfl | rfl
  · refine xi_aload_n (by decide +kernel : decode mX9_putGoes.2.1 0 = .ok (.aload_n 0, 1)) rfl rfl (?_ : XW _ _ _ _ _ _ _ 1 _ _)
    refine xi_ldcS (j := 28) (by decide +kernel : decode mX9_putGoes.2.1 1 = .ok (.ldc 112, 2)) rfl (by decide) (?_ : XW _ _ _ _ _ _ _ 3 _ _)
    obtain ⟨Q1, sp, vc⟩ := vc
    refine xi_callV (b := 0) (bs := 0) (As := [.ref (1028)]) (st := []) (by decide +kernel : decode mX9_putGoes.2.1 3 = .ok (.invokevirtual 35, 3)) kX9_35 rfl rfl (by omega) rfl sp (by decide) (by decide) (Nat.le_of_ble_eq_true rfl) (by omega) (fun v9 h1 hq9 => ?_)
    obtain ⟨e9, vc⟩ := vc v9 h1 hq9
    subst e9
    show XW _ _ _ _ _ _ _ 6 _ []
    refine xi_iconst (v := 0) (by decide +kernel : decode mX9_putGoes.2.1 6 = .ok (.iconst 0, 1)) (by decide) (?_ : XW _ _ _ _ _ _ _ 7 _ _)
    refine xi_istore_n (ls' := [some (.ref 55), some (.ref 3), some (.int 0)]) (by decide +kernel : decode mX9_putGoes.2.1 7 = .ok (.istore_n 2, 1)) rfl (by decide) rfl (?_ : XW _ _ _ _ _ _ _ 8 _ _)
    exact vc
  · refine xi_aload_n (by decide +kernel : decode mX9_putGoes.2.1 0 = .ok (.aload_n 0, 1)) rfl rfl (?_ : XW _ _ _ _ _ _ _ 1 _ _)
    refine xi_ldcS (j := 28) (by decide +kernel : decode mX9_putGoes.2.1 1 = .ok (.ldc 112, 2)) rfl (by decide) (?_ : XW _ _ _ _ _ _ _ 3 _ _)
    obtain ⟨Q1, sp, vc⟩ := vc
    refine xi_callV (b := 0) (bs := 0) (As := [.ref (1028)]) (st := []) (by decide +kernel : decode mX9_putGoes.2.1 3 = .ok (.invokevirtual 35, 3)) kX9_35 rfl rfl (by omega) rfl sp (by decide) (by decide) (Nat.le_of_ble_eq_true rfl) (by omega) (fun v9 h1 hq9 => ?_)
    obtain ⟨e9, vc⟩ := vc v9 h1 hq9
    subst e9
    show XW _ _ _ _ _ _ _ 6 _ []
    refine xi_iconst (v := 0) (by decide +kernel : decode mX9_putGoes.2.1 6 = .ok (.iconst 0, 1)) (by decide) (?_ : XW _ _ _ _ _ _ _ 7 _ _)
    refine xi_istore_n (ls' := [some (.ref 55), some (.ref 13), some (.int 0)]) (by decide +kernel : decode mX9_putGoes.2.1 7 = .ok (.istore_n 2, 1)) rfl (by decide) rfl (?_ : XW _ _ _ _ _ _ _ 8 _ _)
    exact vc

set_option maxRecDepth 20000 in
theorem v_X9_putGoes_8 {h : XH} {Q : Option Value → XH → Prop} {X : String → XH → Prop} (hw : xWri (xP h)) (f : Nat) (hf : xFor f (xP h)) (hn : f + 4 ≤ 100)  (x2 : Int32)
    (vc : ((xI h f 1) ≤ x2 → ∃ Q1, XSpec mX9_put 1 0 0 100 100 [.ref 55, .int 59] h Q1 xno ∧ ∀ v h2, Q1 v h2 → v = none ∧ (Q none h2)) ∧ (¬ (xI h f 1) ≤ x2 → (1000 ≤ x2 → ∃ Q1, XSpec mX9_put 1 0 0 100 100 [.ref 55, .int 59] h Q1 xno ∧ ∀ v h3, Q1 v h3 → v = none ∧ (Q none h3)) ∧ (¬ 1000 ≤ x2 → (vp_in x2 1000) ∧ (∃ Q1, XSpec mX9_put 1 0 0 100 100 [.ref 55, .int (xI h (f + 1) x2.toNatClampNeg)] h Q1 xno ∧ ∀ v h4, Q1 v h4 → v = none ∧ (XW (xrm 13 0 0) mX9_putGoes (xE 100 Q X 0 0) 100 0 0 h4 8 [some (.ref 55), some (.ref f), some (.int (x2 + 1))] []))))) :
    XW (xrm 13 0 0) mX9_putGoes (xE 100 Q X 0 0) 100 0 0 h 8 [some (.ref 55), some (.ref f), some (.int x2)] [] := by
  rcases hf.1 with rfl | rfl
  · refine xi_iload_n (by decide +kernel : decode mX9_putGoes.2.1 8 = .ok (.iload_n 2, 1)) rfl rfl (?_ : XW _ _ _ _ _ _ _ 9 _ _)
    refine xi_aload_n (by decide +kernel : decode mX9_putGoes.2.1 9 = .ok (.aload_n 1, 1)) rfl rfl (?_ : XW _ _ _ _ _ _ _ 10 _ _)
    refine xi_getI (by decide +kernel : decode mX9_putGoes.2.1 10 = .ok (.getfield 114, 3)) fX9_114 rfl (by omega) rfl (?_ : XW _ _ _ _ _ _ _ 13 _ _)
    refine xi_icmp_ge (by decide +kernel : decode mX9_putGoes.2.1 13 = .ok (.if_icmp .ge 28, 3)) (by decide) (fun c => (?_ : XW _ _ _ _ _ _ _ 41 _ _)) (fun c => (?_ : XW _ _ _ _ _ _ _ 16 _ _))
    · replace vc := vc.1 c
      refine xi_aload_n (by decide +kernel : decode mX9_putGoes.2.1 41 = .ok (.aload_n 0, 1)) rfl rfl (?_ : XW _ _ _ _ _ _ _ 42 _ _)
      refine xi_bipush (v := 59) (by decide +kernel : decode mX9_putGoes.2.1 42 = .ok (.bipush 59, 2)) (by decide) (?_ : XW _ _ _ _ _ _ _ 44 _ _)
      obtain ⟨Q1, sp, vc⟩ := vc
      refine xi_callV (b := 0) (bs := 0) (As := [.int 59]) (st := []) (by decide +kernel : decode mX9_putGoes.2.1 44 = .ok (.invokevirtual 31, 3)) kX9_31 rfl rfl (by omega) rfl sp (by decide) (by decide) (Nat.le_of_ble_eq_true rfl) (by omega) (fun v9 h2 hq9 => ?_)
      obtain ⟨e9, vc⟩ := vc v9 h2 hq9
      subst e9
      show XW _ _ _ _ _ _ _ 47 _ []
      exact xi_vret (by decide +kernel : decode mX9_putGoes.2.1 47 = .ok (.return_, 1)) rfl vc
    · replace vc := vc.2 c
      refine xi_iload_n (by decide +kernel : decode mX9_putGoes.2.1 16 = .ok (.iload_n 2, 1)) rfl rfl (?_ : XW _ _ _ _ _ _ _ 17 _ _)
      refine xi_aload_n (by decide +kernel : decode mX9_putGoes.2.1 17 = .ok (.aload_n 1, 1)) rfl rfl (?_ : XW _ _ _ _ _ _ _ 18 _ _)
      refine xi_getR (y := 4) (by decide +kernel : decode mX9_putGoes.2.1 18 = .ok (.getfield 117, 3)) fX9_117 rfl (by omega) rfl hf.2.1 (?_ : XW _ _ _ _ _ _ _ 21 _ _)
      refine xi_alen (v := 1000) (by decide +kernel : decode mX9_putGoes.2.1 21 = .ok (.arraylength, 1)) rfl (by omega) (Or.inl rfl) rfl (?_ : XW _ _ _ _ _ _ _ 22 _ _)
      refine xi_icmp_ge (by decide +kernel : decode mX9_putGoes.2.1 22 = .ok (.if_icmp .ge 19, 3)) (by decide) (fun c => (?_ : XW _ _ _ _ _ _ _ 41 _ _)) (fun c => (?_ : XW _ _ _ _ _ _ _ 25 _ _))
      · replace vc := vc.1 c
        refine xi_aload_n (by decide +kernel : decode mX9_putGoes.2.1 41 = .ok (.aload_n 0, 1)) rfl rfl (?_ : XW _ _ _ _ _ _ _ 42 _ _)
        refine xi_bipush (v := 59) (by decide +kernel : decode mX9_putGoes.2.1 42 = .ok (.bipush 59, 2)) (by decide) (?_ : XW _ _ _ _ _ _ _ 44 _ _)
        obtain ⟨Q1, sp, vc⟩ := vc
        refine xi_callV (b := 0) (bs := 0) (As := [.int 59]) (st := []) (by decide +kernel : decode mX9_putGoes.2.1 44 = .ok (.invokevirtual 31, 3)) kX9_31 rfl rfl (by omega) rfl sp (by decide) (by decide) (Nat.le_of_ble_eq_true rfl) (by omega) (fun v9 h3 hq9 => ?_)
        obtain ⟨e9, vc⟩ := vc v9 h3 hq9
        subst e9
        show XW _ _ _ _ _ _ _ 47 _ []
        exact xi_vret (by decide +kernel : decode mX9_putGoes.2.1 47 = .ok (.return_, 1)) rfl vc
      · replace vc := vc.2 c
        refine xi_aload_n (by decide +kernel : decode mX9_putGoes.2.1 25 = .ok (.aload_n 0, 1)) rfl rfl (?_ : XW _ _ _ _ _ _ _ 26 _ _)
        refine xi_aload_n (by decide +kernel : decode mX9_putGoes.2.1 26 = .ok (.aload_n 1, 1)) rfl rfl (?_ : XW _ _ _ _ _ _ _ 27 _ _)
        refine xi_getR (y := 4) (by decide +kernel : decode mX9_putGoes.2.1 27 = .ok (.getfield 117, 3)) fX9_117 rfl (by omega) rfl hf.2.1 (?_ : XW _ _ _ _ _ _ _ 30 _ _)
        refine xi_iload_n (by decide +kernel : decode mX9_putGoes.2.1 30 = .ok (.iload_n 2, 1)) rfl rfl (?_ : XW _ _ _ _ _ _ _ 31 _ _)
        obtain ⟨s1, vc⟩ := vc
        refine xi_cald (by decide +kernel : decode mX9_putGoes.2.1 31 = .ok (.caload, 1)) rfl (by omega) s1 (?_ : XW _ _ _ _ _ _ _ 32 _ _)
        obtain ⟨Q1, sp, vc⟩ := vc
        refine xi_callV (b := 0) (bs := 0) (As := [.int (xI h (4) x2.toNatClampNeg)]) (st := []) (by decide +kernel : decode mX9_putGoes.2.1 32 = .ok (.invokevirtual 31, 3)) kX9_31 rfl rfl (by omega) rfl sp (by decide) (by decide) (Nat.le_of_ble_eq_true rfl) (by omega) (fun v9 h4 hq9 => ?_)
        obtain ⟨e9, vc⟩ := vc v9 h4 hq9
        subst e9
        show XW _ _ _ _ _ _ _ 35 _ []
        refine xi_iinc (v := x2 + 1) (ls' := [some (.ref 55), some (.ref 3), some (.int (x2 + 1))]) (by decide +kernel : decode mX9_putGoes.2.1 35 = .ok (.iinc 2 1, 3)) rfl rfl (by decide) rfl (?_ : XW _ _ _ _ _ _ _ 38 _ _)
        refine xi_goto (by decide +kernel : decode mX9_putGoes.2.1 38 = .ok (.goto (-30), 3)) (by decide) (?_ : XW _ _ _ _ _ _ _ 8 _ _)
        exact vc
  · refine xi_iload_n (by decide +kernel : decode mX9_putGoes.2.1 8 = .ok (.iload_n 2, 1)) rfl rfl (?_ : XW _ _ _ _ _ _ _ 9 _ _)
    refine xi_aload_n (by decide +kernel : decode mX9_putGoes.2.1 9 = .ok (.aload_n 1, 1)) rfl rfl (?_ : XW _ _ _ _ _ _ _ 10 _ _)
    refine xi_getI (by decide +kernel : decode mX9_putGoes.2.1 10 = .ok (.getfield 114, 3)) fX9_114 rfl (by omega) rfl (?_ : XW _ _ _ _ _ _ _ 13 _ _)
    refine xi_icmp_ge (by decide +kernel : decode mX9_putGoes.2.1 13 = .ok (.if_icmp .ge 28, 3)) (by decide) (fun c => (?_ : XW _ _ _ _ _ _ _ 41 _ _)) (fun c => (?_ : XW _ _ _ _ _ _ _ 16 _ _))
    · replace vc := vc.1 c
      refine xi_aload_n (by decide +kernel : decode mX9_putGoes.2.1 41 = .ok (.aload_n 0, 1)) rfl rfl (?_ : XW _ _ _ _ _ _ _ 42 _ _)
      refine xi_bipush (v := 59) (by decide +kernel : decode mX9_putGoes.2.1 42 = .ok (.bipush 59, 2)) (by decide) (?_ : XW _ _ _ _ _ _ _ 44 _ _)
      obtain ⟨Q1, sp, vc⟩ := vc
      refine xi_callV (b := 0) (bs := 0) (As := [.int 59]) (st := []) (by decide +kernel : decode mX9_putGoes.2.1 44 = .ok (.invokevirtual 31, 3)) kX9_31 rfl rfl (by omega) rfl sp (by decide) (by decide) (Nat.le_of_ble_eq_true rfl) (by omega) (fun v9 h2 hq9 => ?_)
      obtain ⟨e9, vc⟩ := vc v9 h2 hq9
      subst e9
      show XW _ _ _ _ _ _ _ 47 _ []
      exact xi_vret (by decide +kernel : decode mX9_putGoes.2.1 47 = .ok (.return_, 1)) rfl vc
    · replace vc := vc.2 c
      refine xi_iload_n (by decide +kernel : decode mX9_putGoes.2.1 16 = .ok (.iload_n 2, 1)) rfl rfl (?_ : XW _ _ _ _ _ _ _ 17 _ _)
      refine xi_aload_n (by decide +kernel : decode mX9_putGoes.2.1 17 = .ok (.aload_n 1, 1)) rfl rfl (?_ : XW _ _ _ _ _ _ _ 18 _ _)
      refine xi_getR (y := 14) (by decide +kernel : decode mX9_putGoes.2.1 18 = .ok (.getfield 117, 3)) fX9_117 rfl (by omega) rfl hf.2.1 (?_ : XW _ _ _ _ _ _ _ 21 _ _)
      refine xi_alen (v := 1000) (by decide +kernel : decode mX9_putGoes.2.1 21 = .ok (.arraylength, 1)) rfl (by omega) (Or.inl rfl) rfl (?_ : XW _ _ _ _ _ _ _ 22 _ _)
      refine xi_icmp_ge (by decide +kernel : decode mX9_putGoes.2.1 22 = .ok (.if_icmp .ge 19, 3)) (by decide) (fun c => (?_ : XW _ _ _ _ _ _ _ 41 _ _)) (fun c => (?_ : XW _ _ _ _ _ _ _ 25 _ _))
      · replace vc := vc.1 c
        refine xi_aload_n (by decide +kernel : decode mX9_putGoes.2.1 41 = .ok (.aload_n 0, 1)) rfl rfl (?_ : XW _ _ _ _ _ _ _ 42 _ _)
        refine xi_bipush (v := 59) (by decide +kernel : decode mX9_putGoes.2.1 42 = .ok (.bipush 59, 2)) (by decide) (?_ : XW _ _ _ _ _ _ _ 44 _ _)
        obtain ⟨Q1, sp, vc⟩ := vc
        refine xi_callV (b := 0) (bs := 0) (As := [.int 59]) (st := []) (by decide +kernel : decode mX9_putGoes.2.1 44 = .ok (.invokevirtual 31, 3)) kX9_31 rfl rfl (by omega) rfl sp (by decide) (by decide) (Nat.le_of_ble_eq_true rfl) (by omega) (fun v9 h3 hq9 => ?_)
        obtain ⟨e9, vc⟩ := vc v9 h3 hq9
        subst e9
        show XW _ _ _ _ _ _ _ 47 _ []
        exact xi_vret (by decide +kernel : decode mX9_putGoes.2.1 47 = .ok (.return_, 1)) rfl vc
      · replace vc := vc.2 c
        refine xi_aload_n (by decide +kernel : decode mX9_putGoes.2.1 25 = .ok (.aload_n 0, 1)) rfl rfl (?_ : XW _ _ _ _ _ _ _ 26 _ _)
        refine xi_aload_n (by decide +kernel : decode mX9_putGoes.2.1 26 = .ok (.aload_n 1, 1)) rfl rfl (?_ : XW _ _ _ _ _ _ _ 27 _ _)
        refine xi_getR (y := 14) (by decide +kernel : decode mX9_putGoes.2.1 27 = .ok (.getfield 117, 3)) fX9_117 rfl (by omega) rfl hf.2.1 (?_ : XW _ _ _ _ _ _ _ 30 _ _)
        refine xi_iload_n (by decide +kernel : decode mX9_putGoes.2.1 30 = .ok (.iload_n 2, 1)) rfl rfl (?_ : XW _ _ _ _ _ _ _ 31 _ _)
        obtain ⟨s1, vc⟩ := vc
        refine xi_cald (by decide +kernel : decode mX9_putGoes.2.1 31 = .ok (.caload, 1)) rfl (by omega) s1 (?_ : XW _ _ _ _ _ _ _ 32 _ _)
        obtain ⟨Q1, sp, vc⟩ := vc
        refine xi_callV (b := 0) (bs := 0) (As := [.int (xI h (14) x2.toNatClampNeg)]) (st := []) (by decide +kernel : decode mX9_putGoes.2.1 32 = .ok (.invokevirtual 31, 3)) kX9_31 rfl rfl (by omega) rfl sp (by decide) (by decide) (Nat.le_of_ble_eq_true rfl) (by omega) (fun v9 h4 hq9 => ?_)
        obtain ⟨e9, vc⟩ := vc v9 h4 hq9
        subst e9
        show XW _ _ _ _ _ _ _ 35 _ []
        refine xi_iinc (v := x2 + 1) (ls' := [some (.ref 55), some (.ref 13), some (.int (x2 + 1))]) (by decide +kernel : decode mX9_putGoes.2.1 35 = .ok (.iinc 2 1, 3)) rfl rfl (by decide) rfl (?_ : XW _ _ _ _ _ _ _ 38 _ _)
        refine xi_goto (by decide +kernel : decode mX9_putGoes.2.1 38 = .ok (.goto (-30), 3)) (by decide) (?_ : XW _ _ _ _ _ _ _ 8 _ _)
        exact vc

set_option maxRecDepth 20000 in
theorem v_X9_write_0 {h : XH} {Q : Option Value → XH → Prop} {X : String → XH → Prop} (hw : xWri (xP h)) (r : Nat) (hr : xRul r (xP h)) (hnr : r + 9 ≤ 100)  (w : Int32)
    (vc : ∃ Q1, XSpec mX9_putLine 13 0 0 100 100 [.ref 55, .ref (1000 + 18), .int (xI h r 0)] (xSI 55 (va_up (va_up (xI h 55) 0 0) 2 w) (xSI 55 (va_up (xI h 55) 0 0) h)) Q1 xno ∧ ∀ v h1, Q1 v h1 → v = none ∧ (∃ Q1, XSpec mX9_putText 12 0 0 100 100 [.ref 55, .ref (1000 + 19)] h1 Q1 xno ∧ ∀ v h2, Q1 v h2 → v = none ∧ (XW (xrm 14 0 0) mX9_write (xE 100 Q X 0 0) 100 0 0 h2 28 [some (.ref 55), some (.ref r), none, some (.int 1)] []))) :
    XW (xrm 14 0 0) mX9_write (xE 100 Q X 0 0) 100 0 0 h 0 [some (.ref 55), some (.ref r), some (.int w), none] [] := by
  rcases hr.1 with rfl | rfl
  · refine xi_aload_n (by decide +kernel : decode mX9_write.2.1 0 = .ok (.aload_n 0, 1)) rfl rfl (?_ : XW _ _ _ _ _ _ _ 1 _ _)
    refine xi_iconst (v := 0) (by decide +kernel : decode mX9_write.2.1 1 = .ok (.iconst 0, 1)) (by decide) (?_ : XW _ _ _ _ _ _ _ 2 _ _)
    refine xi_putI (by decide +kernel : decode mX9_write.2.1 2 = .ok (.putfield 9, 3)) fX9_9 rfl (by omega) rfl rfl rfl (?_ : XW _ _ _ _ _ _ (xSI 55 (va_up (xI h 55) 0 0) h) 5 _ _)
    refine xi_aload_n (by decide +kernel : decode mX9_write.2.1 5 = .ok (.aload_n 0, 1)) rfl rfl (?_ : XW _ _ _ _ _ _ _ 6 _ _)
    refine xi_iload_n (by decide +kernel : decode mX9_write.2.1 6 = .ok (.iload_n 2, 1)) rfl rfl (?_ : XW _ _ _ _ _ _ _ 7 _ _)
    refine xi_putI (by decide +kernel : decode mX9_write.2.1 7 = .ok (.putfield 19, 3)) fX9_19 rfl (by omega) rfl rfl rfl (?_ : XW _ _ _ _ _ _ (xSI 55 (va_up (va_up (xI h 55) 0 0) 2 w) (xSI 55 (va_up (xI h 55) 0 0) h)) 10 _ _)
    refine xi_aload_n (by decide +kernel : decode mX9_write.2.1 10 = .ok (.aload_n 0, 1)) rfl rfl (?_ : XW _ _ _ _ _ _ _ 11 _ _)
    refine xi_ldcS (j := 18) (by decide +kernel : decode mX9_write.2.1 11 = .ok (.ldc 43, 2)) rfl (by decide) (?_ : XW _ _ _ _ _ _ _ 13 _ _)
    refine xi_aload_n (by decide +kernel : decode mX9_write.2.1 13 = .ok (.aload_n 1, 1)) rfl rfl (?_ : XW _ _ _ _ _ _ _ 14 _ _)
    refine xi_getI (by decide +kernel : decode mX9_write.2.1 14 = .ok (.getfield 45, 3)) fX9_45 rfl (by omega) rfl (?_ : XW _ _ _ _ _ _ _ 17 _ [.int (xI h 2 0), .ref (1018), .ref 55])
    obtain ⟨Q1, sp, vc⟩ := vc
    refine xi_callV (b := 0) (bs := 0) (As := [.ref (1018), .int (xI h 2 0)]) (st := []) (by decide +kernel : decode mX9_write.2.1 17 = .ok (.invokevirtual 49, 3)) kX9_49 rfl rfl (by omega) rfl sp (by decide) (by decide) (Nat.le_of_ble_eq_true rfl) (by omega) (fun v9 h1 hq9 => ?_)
    obtain ⟨e9, vc⟩ := vc v9 h1 hq9
    subst e9
    show XW _ _ _ _ _ _ _ 20 _ []
    refine xi_aload_n (by decide +kernel : decode mX9_write.2.1 20 = .ok (.aload_n 0, 1)) rfl rfl (?_ : XW _ _ _ _ _ _ _ 21 _ _)
    refine xi_ldcS (j := 19) (by decide +kernel : decode mX9_write.2.1 21 = .ok (.ldc 53, 2)) rfl (by decide) (?_ : XW _ _ _ _ _ _ _ 23 _ _)
    obtain ⟨Q1, sp, vc⟩ := vc
    refine xi_callV (b := 0) (bs := 0) (As := [.ref (1019)]) (st := []) (by decide +kernel : decode mX9_write.2.1 23 = .ok (.invokevirtual 35, 3)) kX9_35 rfl rfl (by omega) rfl sp (by decide) (by decide) (Nat.le_of_ble_eq_true rfl) (by omega) (fun v9 h2 hq9 => ?_)
    obtain ⟨e9, vc⟩ := vc v9 h2 hq9
    subst e9
    show XW _ _ _ _ _ _ _ 26 _ []
    refine xi_iconst (v := 1) (by decide +kernel : decode mX9_write.2.1 26 = .ok (.iconst 1, 1)) (by decide) (?_ : XW _ _ _ _ _ _ _ 27 _ _)
    refine xi_istore_n (ls' := [some (.ref 55), some (.ref 2), some (.int w), some (.int 1)]) (by decide +kernel : decode mX9_write.2.1 27 = .ok (.istore_n 3, 1)) rfl (by decide) rfl (?_ : XW _ _ _ _ _ _ _ 28 _ _)
    refine xw_drop 2 (ls' := [some (.ref 55), some (.ref 2), none, some (.int 1)]) rfl ?_
    exact vc
  · refine xi_aload_n (by decide +kernel : decode mX9_write.2.1 0 = .ok (.aload_n 0, 1)) rfl rfl (?_ : XW _ _ _ _ _ _ _ 1 _ _)
    refine xi_iconst (v := 0) (by decide +kernel : decode mX9_write.2.1 1 = .ok (.iconst 0, 1)) (by decide) (?_ : XW _ _ _ _ _ _ _ 2 _ _)
    refine xi_putI (by decide +kernel : decode mX9_write.2.1 2 = .ok (.putfield 9, 3)) fX9_9 rfl (by omega) rfl rfl rfl (?_ : XW _ _ _ _ _ _ (xSI 55 (va_up (xI h 55) 0 0) h) 5 _ _)
    refine xi_aload_n (by decide +kernel : decode mX9_write.2.1 5 = .ok (.aload_n 0, 1)) rfl rfl (?_ : XW _ _ _ _ _ _ _ 6 _ _)
    refine xi_iload_n (by decide +kernel : decode mX9_write.2.1 6 = .ok (.iload_n 2, 1)) rfl rfl (?_ : XW _ _ _ _ _ _ _ 7 _ _)
    refine xi_putI (by decide +kernel : decode mX9_write.2.1 7 = .ok (.putfield 19, 3)) fX9_19 rfl (by omega) rfl rfl rfl (?_ : XW _ _ _ _ _ _ (xSI 55 (va_up (va_up (xI h 55) 0 0) 2 w) (xSI 55 (va_up (xI h 55) 0 0) h)) 10 _ _)
    refine xi_aload_n (by decide +kernel : decode mX9_write.2.1 10 = .ok (.aload_n 0, 1)) rfl rfl (?_ : XW _ _ _ _ _ _ _ 11 _ _)
    refine xi_ldcS (j := 18) (by decide +kernel : decode mX9_write.2.1 11 = .ok (.ldc 43, 2)) rfl (by decide) (?_ : XW _ _ _ _ _ _ _ 13 _ _)
    refine xi_aload_n (by decide +kernel : decode mX9_write.2.1 13 = .ok (.aload_n 1, 1)) rfl rfl (?_ : XW _ _ _ _ _ _ _ 14 _ _)
    refine xi_getI (by decide +kernel : decode mX9_write.2.1 14 = .ok (.getfield 45, 3)) fX9_45 rfl (by omega) rfl (?_ : XW _ _ _ _ _ _ _ 17 _ [.int (xI h 12 0), .ref (1018), .ref 55])
    obtain ⟨Q1, sp, vc⟩ := vc
    refine xi_callV (b := 0) (bs := 0) (As := [.ref (1018), .int (xI h 12 0)]) (st := []) (by decide +kernel : decode mX9_write.2.1 17 = .ok (.invokevirtual 49, 3)) kX9_49 rfl rfl (by omega) rfl sp (by decide) (by decide) (Nat.le_of_ble_eq_true rfl) (by omega) (fun v9 h1 hq9 => ?_)
    obtain ⟨e9, vc⟩ := vc v9 h1 hq9
    subst e9
    show XW _ _ _ _ _ _ _ 20 _ []
    refine xi_aload_n (by decide +kernel : decode mX9_write.2.1 20 = .ok (.aload_n 0, 1)) rfl rfl (?_ : XW _ _ _ _ _ _ _ 21 _ _)
    refine xi_ldcS (j := 19) (by decide +kernel : decode mX9_write.2.1 21 = .ok (.ldc 53, 2)) rfl (by decide) (?_ : XW _ _ _ _ _ _ _ 23 _ _)
    obtain ⟨Q1, sp, vc⟩ := vc
    refine xi_callV (b := 0) (bs := 0) (As := [.ref (1019)]) (st := []) (by decide +kernel : decode mX9_write.2.1 23 = .ok (.invokevirtual 35, 3)) kX9_35 rfl rfl (by omega) rfl sp (by decide) (by decide) (Nat.le_of_ble_eq_true rfl) (by omega) (fun v9 h2 hq9 => ?_)
    obtain ⟨e9, vc⟩ := vc v9 h2 hq9
    subst e9
    show XW _ _ _ _ _ _ _ 26 _ []
    refine xi_iconst (v := 1) (by decide +kernel : decode mX9_write.2.1 26 = .ok (.iconst 1, 1)) (by decide) (?_ : XW _ _ _ _ _ _ _ 27 _ _)
    refine xi_istore_n (ls' := [some (.ref 55), some (.ref 12), some (.int w), some (.int 1)]) (by decide +kernel : decode mX9_write.2.1 27 = .ok (.istore_n 3, 1)) rfl (by decide) rfl (?_ : XW _ _ _ _ _ _ _ 28 _ _)
    refine xw_drop 2 (ls' := [some (.ref 55), some (.ref 12), none, some (.int 1)]) rfl ?_
    exact vc

set_option maxRecDepth 20000 in
theorem v_X9_write_28 {h : XH} {Q : Option Value → XH → Prop} {X : String → XH → Prop} (hw : xWri (xP h)) (r : Nat) (hr : xRul r (xP h)) (hnr : r + 9 ≤ 100)  (x3 : Int32)
    (vc : (6 < x3 → ∃ Q1, XSpec mX9_put 1 0 0 100 100 [.ref 55, .int 59] h Q1 xno ∧ ∀ v h3, Q1 v h3 → v = none ∧ (XW (xrm 14 0 0) mX9_write (xE 100 Q X 0 0) 100 0 0 h3 57 [some (.ref 55), some (.ref r), none, some (.int 0)] [])) ∧ (¬ 6 < x3 → ∃ Q1, XSpec mX5_oddsOf 1 0 0 100 100 [.ref r, .int x3] h Q1 xno ∧ ∀ v h4, Q1 v h4 → ∃ r4 : Int32, v = some (.int r4) ∧ (∃ Q1, XSpec mX9_putNumber 2 0 0 100 100 [.ref 55, .int r4] h4 Q1 xno ∧ ∀ v h5, Q1 v h5 → v = none ∧ (XW (xrm 14 0 0) mX9_write (xE 100 Q X 0 0) 100 0 0 h5 28 [some (.ref 55), some (.ref r), none, some (.int (x3 + 1))] [])))) :
    XW (xrm 14 0 0) mX9_write (xE 100 Q X 0 0) 100 0 0 h 28 [some (.ref 55), some (.ref r), none, some (.int x3)] [] := by
  rcases hr.1 with rfl | rfl
  · refine xi_iload_n (by decide +kernel : decode mX9_write.2.1 28 = .ok (.iload_n 3, 1)) rfl rfl (?_ : XW _ _ _ _ _ _ _ 29 _ _)
    refine xi_bipush (v := 6) (by decide +kernel : decode mX9_write.2.1 29 = .ok (.bipush 6, 2)) (by decide) (?_ : XW _ _ _ _ _ _ _ 31 _ _)
    refine xi_icmp_gt (by decide +kernel : decode mX9_write.2.1 31 = .ok (.if_icmp .gt 18, 3)) (by decide) (fun c => (?_ : XW _ _ _ _ _ _ _ 49 _ _)) (fun c => (?_ : XW _ _ _ _ _ _ _ 34 _ _))
    · replace vc := vc.1 c
      refine xi_aload_n (by decide +kernel : decode mX9_write.2.1 49 = .ok (.aload_n 0, 1)) rfl rfl (?_ : XW _ _ _ _ _ _ _ 50 _ _)
      refine xi_bipush (v := 59) (by decide +kernel : decode mX9_write.2.1 50 = .ok (.bipush 59, 2)) (by decide) (?_ : XW _ _ _ _ _ _ _ 52 _ _)
      obtain ⟨Q1, sp, vc⟩ := vc
      refine xi_callV (b := 0) (bs := 0) (As := [.int 59]) (st := []) (by decide +kernel : decode mX9_write.2.1 52 = .ok (.invokevirtual 31, 3)) kX9_31 rfl rfl (by omega) rfl sp (by decide) (by decide) (Nat.le_of_ble_eq_true rfl) (by omega) (fun v9 h3 hq9 => ?_)
      obtain ⟨e9, vc⟩ := vc v9 h3 hq9
      subst e9
      show XW _ _ _ _ _ _ _ 55 _ []
      refine xi_iconst (v := 0) (by decide +kernel : decode mX9_write.2.1 55 = .ok (.iconst 0, 1)) (by decide) (?_ : XW _ _ _ _ _ _ _ 56 _ _)
      refine xi_istore_n (ls' := [some (.ref 55), some (.ref 2), none, some (.int 0)]) (by decide +kernel : decode mX9_write.2.1 56 = .ok (.istore_n 3, 1)) rfl (by decide) rfl (?_ : XW _ _ _ _ _ _ _ 57 _ _)
      exact vc
    · replace vc := vc.2 c
      refine xi_aload_n (by decide +kernel : decode mX9_write.2.1 34 = .ok (.aload_n 0, 1)) rfl rfl (?_ : XW _ _ _ _ _ _ _ 35 _ _)
      refine xi_aload_n (by decide +kernel : decode mX9_write.2.1 35 = .ok (.aload_n 1, 1)) rfl rfl (?_ : XW _ _ _ _ _ _ _ 36 _ _)
      refine xi_iload_n (by decide +kernel : decode mX9_write.2.1 36 = .ok (.iload_n 3, 1)) rfl rfl (?_ : XW _ _ _ _ _ _ _ 37 _ _)
      obtain ⟨Q1, sp, vc⟩ := vc
      refine xi_callV (b := 0) (bs := 0) (As := [.int x3]) (st := [.ref 55]) (by decide +kernel : decode mX9_write.2.1 37 = .ok (.invokevirtual 55, 3)) kX9_55 rfl rfl (by omega) rfl sp (by decide) (by decide) (Nat.le_of_ble_eq_true rfl) (by omega) (fun v9 h4 hq9 => ?_)
      obtain ⟨r4, e9, vc⟩ := vc v9 h4 hq9
      subst e9
      show XW _ _ _ _ _ _ _ 40 _ [.int r4, .ref 55]
      obtain ⟨Q1, sp, vc⟩ := vc
      refine xi_callV (b := 0) (bs := 0) (As := [.int r4]) (st := []) (by decide +kernel : decode mX9_write.2.1 40 = .ok (.invokevirtual 39, 3)) kX9_39 rfl rfl (by omega) rfl sp (by decide) (by decide) (Nat.le_of_ble_eq_true rfl) (by omega) (fun v9 h5 hq9 => ?_)
      obtain ⟨e9, vc⟩ := vc v9 h5 hq9
      subst e9
      show XW _ _ _ _ _ _ _ 43 _ []
      refine xi_iinc (v := x3 + 1) (ls' := [some (.ref 55), some (.ref 2), none, some (.int (x3 + 1))]) (by decide +kernel : decode mX9_write.2.1 43 = .ok (.iinc 3 1, 3)) rfl rfl (by decide) rfl (?_ : XW _ _ _ _ _ _ _ 46 _ _)
      refine xi_goto (by decide +kernel : decode mX9_write.2.1 46 = .ok (.goto (-18), 3)) (by decide) (?_ : XW _ _ _ _ _ _ _ 28 _ _)
      exact vc
  · refine xi_iload_n (by decide +kernel : decode mX9_write.2.1 28 = .ok (.iload_n 3, 1)) rfl rfl (?_ : XW _ _ _ _ _ _ _ 29 _ _)
    refine xi_bipush (v := 6) (by decide +kernel : decode mX9_write.2.1 29 = .ok (.bipush 6, 2)) (by decide) (?_ : XW _ _ _ _ _ _ _ 31 _ _)
    refine xi_icmp_gt (by decide +kernel : decode mX9_write.2.1 31 = .ok (.if_icmp .gt 18, 3)) (by decide) (fun c => (?_ : XW _ _ _ _ _ _ _ 49 _ _)) (fun c => (?_ : XW _ _ _ _ _ _ _ 34 _ _))
    · replace vc := vc.1 c
      refine xi_aload_n (by decide +kernel : decode mX9_write.2.1 49 = .ok (.aload_n 0, 1)) rfl rfl (?_ : XW _ _ _ _ _ _ _ 50 _ _)
      refine xi_bipush (v := 59) (by decide +kernel : decode mX9_write.2.1 50 = .ok (.bipush 59, 2)) (by decide) (?_ : XW _ _ _ _ _ _ _ 52 _ _)
      obtain ⟨Q1, sp, vc⟩ := vc
      refine xi_callV (b := 0) (bs := 0) (As := [.int 59]) (st := []) (by decide +kernel : decode mX9_write.2.1 52 = .ok (.invokevirtual 31, 3)) kX9_31 rfl rfl (by omega) rfl sp (by decide) (by decide) (Nat.le_of_ble_eq_true rfl) (by omega) (fun v9 h3 hq9 => ?_)
      obtain ⟨e9, vc⟩ := vc v9 h3 hq9
      subst e9
      show XW _ _ _ _ _ _ _ 55 _ []
      refine xi_iconst (v := 0) (by decide +kernel : decode mX9_write.2.1 55 = .ok (.iconst 0, 1)) (by decide) (?_ : XW _ _ _ _ _ _ _ 56 _ _)
      refine xi_istore_n (ls' := [some (.ref 55), some (.ref 12), none, some (.int 0)]) (by decide +kernel : decode mX9_write.2.1 56 = .ok (.istore_n 3, 1)) rfl (by decide) rfl (?_ : XW _ _ _ _ _ _ _ 57 _ _)
      exact vc
    · replace vc := vc.2 c
      refine xi_aload_n (by decide +kernel : decode mX9_write.2.1 34 = .ok (.aload_n 0, 1)) rfl rfl (?_ : XW _ _ _ _ _ _ _ 35 _ _)
      refine xi_aload_n (by decide +kernel : decode mX9_write.2.1 35 = .ok (.aload_n 1, 1)) rfl rfl (?_ : XW _ _ _ _ _ _ _ 36 _ _)
      refine xi_iload_n (by decide +kernel : decode mX9_write.2.1 36 = .ok (.iload_n 3, 1)) rfl rfl (?_ : XW _ _ _ _ _ _ _ 37 _ _)
      obtain ⟨Q1, sp, vc⟩ := vc
      refine xi_callV (b := 0) (bs := 0) (As := [.int x3]) (st := [.ref 55]) (by decide +kernel : decode mX9_write.2.1 37 = .ok (.invokevirtual 55, 3)) kX9_55 rfl rfl (by omega) rfl sp (by decide) (by decide) (Nat.le_of_ble_eq_true rfl) (by omega) (fun v9 h4 hq9 => ?_)
      obtain ⟨r4, e9, vc⟩ := vc v9 h4 hq9
      subst e9
      show XW _ _ _ _ _ _ _ 40 _ [.int r4, .ref 55]
      obtain ⟨Q1, sp, vc⟩ := vc
      refine xi_callV (b := 0) (bs := 0) (As := [.int r4]) (st := []) (by decide +kernel : decode mX9_write.2.1 40 = .ok (.invokevirtual 39, 3)) kX9_39 rfl rfl (by omega) rfl sp (by decide) (by decide) (Nat.le_of_ble_eq_true rfl) (by omega) (fun v9 h5 hq9 => ?_)
      obtain ⟨e9, vc⟩ := vc v9 h5 hq9
      subst e9
      show XW _ _ _ _ _ _ _ 43 _ []
      refine xi_iinc (v := x3 + 1) (ls' := [some (.ref 55), some (.ref 12), none, some (.int (x3 + 1))]) (by decide +kernel : decode mX9_write.2.1 43 = .ok (.iinc 3 1, 3)) rfl rfl (by decide) rfl (?_ : XW _ _ _ _ _ _ _ 46 _ _)
      refine xi_goto (by decide +kernel : decode mX9_write.2.1 46 = .ok (.goto (-18), 3)) (by decide) (?_ : XW _ _ _ _ _ _ _ 28 _ _)
      exact vc

set_option maxRecDepth 20000 in
theorem v_X9_write_57 {h : XH} {Q : Option Value → XH → Prop} {X : String → XH → Prop} (hw : xWri (xP h)) (r : Nat) (hr : xRul r (xP h)) (hnr : r + 9 ≤ 100)  (x3 : Int32)
    (vc : ((xI h r 7) ≤ x3 → ∃ Q1, XSpec mX9_endLine 1 0 0 100 100 [.int (xI h r 3)] h Q1 xno ∧ ∀ v h6, Q1 v h6 → ∃ r6 : Nat, v = some (.ref r6) ∧ (∃ Q1, XSpec mX9_putText 12 0 0 100 100 [.ref 55, .ref r6] h6 Q1 xno ∧ ∀ v h7, Q1 v h7 → v = none ∧ (((xI h7 r 4) = 0 → ((xI h7 r 5) = 0 → ∃ Q1, XSpec mX9_putLine 13 0 0 100 100 [.ref 55, .ref (1000 + 27), .int (xI h7 r 6)] h7 Q1 xno ∧ ∀ v h8, Q1 v h8 → v = none ∧ ((xP h8 r 8 = some (r + 1)) ∧ (((xI h8 (r + 1) 0) = 0 → Q none h8) ∧ (¬ (xI h8 (r + 1) 0) = 0 → (xP h8 r 8 = some (r + 1)) ∧ (∃ Q1, XSpec mX9_putGoes 13 0 0 100 100 [.ref 55, .ref (r + 1)] h8 Q1 xno ∧ ∀ v h9, Q1 v h9 → v = none ∧ (Q none h9)))))) ∧ (¬ (xI h7 r 5) = 0 → ∃ Q1, XSpec mX9_putText 12 0 0 100 100 [.ref 55, .ref (1000 + 26)] h7 Q1 xno ∧ ∀ v h10, Q1 v h10 → v = none ∧ (∃ Q1, XSpec mX9_putLine 13 0 0 100 100 [.ref 55, .ref (1000 + 27), .int (xI h10 r 6)] h10 Q1 xno ∧ ∀ v h11, Q1 v h11 → v = none ∧ ((xP h11 r 8 = some (r + 1)) ∧ (((xI h11 (r + 1) 0) = 0 → Q none h11) ∧ (¬ (xI h11 (r + 1) 0) = 0 → (xP h11 r 8 = some (r + 1)) ∧ (∃ Q1, XSpec mX9_putGoes 13 0 0 100 100 [.ref 55, .ref (r + 1)] h11 Q1 xno ∧ ∀ v h12, Q1 v h12 → v = none ∧ (Q none h12)))))))) ∧ (¬ (xI h7 r 4) = 0 → ∃ Q1, XSpec mX9_putLine 13 0 0 100 100 [.ref 55, .ref (1000 + 25), .int (xI h7 r 4)] h7 Q1 xno ∧ ∀ v h13, Q1 v h13 → v = none ∧ (((xI h13 r 5) = 0 → ∃ Q1, XSpec mX9_putLine 13 0 0 100 100 [.ref 55, .ref (1000 + 27), .int (xI h13 r 6)] h13 Q1 xno ∧ ∀ v h14, Q1 v h14 → v = none ∧ ((xP h14 r 8 = some (r + 1)) ∧ (((xI h14 (r + 1) 0) = 0 → Q none h14) ∧ (¬ (xI h14 (r + 1) 0) = 0 → (xP h14 r 8 = some (r + 1)) ∧ (∃ Q1, XSpec mX9_putGoes 13 0 0 100 100 [.ref 55, .ref (r + 1)] h14 Q1 xno ∧ ∀ v h15, Q1 v h15 → v = none ∧ (Q none h15)))))) ∧ (¬ (xI h13 r 5) = 0 → ∃ Q1, XSpec mX9_putText 12 0 0 100 100 [.ref 55, .ref (1000 + 26)] h13 Q1 xno ∧ ∀ v h16, Q1 v h16 → v = none ∧ (∃ Q1, XSpec mX9_putLine 13 0 0 100 100 [.ref 55, .ref (1000 + 27), .int (xI h16 r 6)] h16 Q1 xno ∧ ∀ v h17, Q1 v h17 → v = none ∧ ((xP h17 r 8 = some (r + 1)) ∧ (((xI h17 (r + 1) 0) = 0 → Q none h17) ∧ (¬ (xI h17 (r + 1) 0) = 0 → (xP h17 r 8 = some (r + 1)) ∧ (∃ Q1, XSpec mX9_putGoes 13 0 0 100 100 [.ref 55, .ref (r + 1)] h17 Q1 xno ∧ ∀ v h18, Q1 v h18 → v = none ∧ (Q none h18)))))))))))) ∧ (¬ (xI h r 7) ≤ x3 → ∃ Q1, XSpec mX9_putText 12 0 0 100 100 [.ref 55, .ref (1000 + 20)] h Q1 xno ∧ ∀ v h19, Q1 v h19 → v = none ∧ (∃ Q1, XSpec mX5_footOf 1 0 0 100 100 [.ref r, .int x3] h19 Q1 xno ∧ ∀ v h20, Q1 v h20 → ∃ r20 : Int32, v = some (.int r20) ∧ (∃ Q1, XSpec mX9_putNumber 2 0 0 100 100 [.ref 55, .int r20] h20 Q1 xno ∧ ∀ v h21, Q1 v h21 → v = none ∧ (∃ Q1, XSpec mX5_headOf 1 0 0 100 100 [.ref r, .int x3] h21 Q1 xno ∧ ∀ v h22, Q1 v h22 → ∃ r22 : Int32, v = some (.int r22) ∧ (∃ Q1, XSpec mX9_putLine 13 0 0 100 100 [.ref 55, .ref (1000 + 21), .int r22] h22 Q1 xno ∧ ∀ v h23, Q1 v h23 → v = none ∧ (XW (xrm 14 0 0) mX9_write (xE 100 Q X 0 0) 100 0 0 h23 57 [some (.ref 55), some (.ref r), none, some (.int (x3 + 1))] []))))))) :
    XW (xrm 14 0 0) mX9_write (xE 100 Q X 0 0) 100 0 0 h 57 [some (.ref 55), some (.ref r), none, some (.int x3)] [] := by
  rcases hr.1 with rfl | rfl
  · refine xi_iload_n (by decide +kernel : decode mX9_write.2.1 57 = .ok (.iload_n 3, 1)) rfl rfl (?_ : XW _ _ _ _ _ _ _ 58 _ _)
    refine xi_aload_n (by decide +kernel : decode mX9_write.2.1 58 = .ok (.aload_n 1, 1)) rfl rfl (?_ : XW _ _ _ _ _ _ _ 59 _ _)
    refine xi_getI (by decide +kernel : decode mX9_write.2.1 59 = .ok (.getfield 59, 3)) fX9_59 rfl (by omega) rfl (?_ : XW _ _ _ _ _ _ _ 62 _ _)
    refine xi_icmp_ge (by decide +kernel : decode mX9_write.2.1 62 = .ok (.if_icmp .ge 35, 3)) (by decide) (fun c => (?_ : XW _ _ _ _ _ _ _ 97 _ _)) (fun c => (?_ : XW _ _ _ _ _ _ _ 65 _ _))
    · replace vc := vc.1 c
      refine xi_aload_n (by decide +kernel : decode mX9_write.2.1 97 = .ok (.aload_n 0, 1)) rfl rfl (?_ : XW _ _ _ _ _ _ _ 98 _ _)
      refine xi_aload_n (by decide +kernel : decode mX9_write.2.1 98 = .ok (.aload_n 1, 1)) rfl rfl (?_ : XW _ _ _ _ _ _ _ 99 _ _)
      refine xi_getI (by decide +kernel : decode mX9_write.2.1 99 = .ok (.getfield 72, 3)) fX9_72 rfl (by omega) rfl (?_ : XW _ _ _ _ _ _ _ 102 _ _)
      obtain ⟨Q1, sp, vc⟩ := vc
      refine xi_callS (b := 0) (bs := 0) (As := [.int (xI h 2 3)]) (st := [.ref 55]) (by decide +kernel : decode mX9_write.2.1 102 = .ok (.invokestatic 75, 3)) kX9_75 rfl rfl sp (by decide) (by decide) (Nat.le_of_ble_eq_true rfl) (by omega) (fun v9 h6 hq9 => ?_)
      obtain ⟨r6, e9, vc⟩ := vc v9 h6 hq9
      subst e9
      show XW _ _ _ _ _ _ _ 105 _ [.ref r6, .ref 55]
      obtain ⟨Q1, sp, vc⟩ := vc
      refine xi_callV (b := 0) (bs := 0) (As := [.ref r6]) (st := []) (by decide +kernel : decode mX9_write.2.1 105 = .ok (.invokevirtual 35, 3)) kX9_35 rfl rfl (by omega) rfl sp (by decide) (by decide) (Nat.le_of_ble_eq_true rfl) (by omega) (fun v9 h7 hq9 => ?_)
      obtain ⟨e9, vc⟩ := vc v9 h7 hq9
      subst e9
      show XW _ _ _ _ _ _ _ 108 _ []
      refine xi_aload_n (by decide +kernel : decode mX9_write.2.1 108 = .ok (.aload_n 1, 1)) rfl rfl (?_ : XW _ _ _ _ _ _ _ 109 _ _)
      refine xi_getI (by decide +kernel : decode mX9_write.2.1 109 = .ok (.getfield 79, 3)) fX9_79 rfl (by omega) rfl (?_ : XW _ _ _ _ _ _ _ 112 _ _)
      refine xi_if_eq (by decide +kernel : decode mX9_write.2.1 112 = .ok (.ifCond .eq 13, 3)) (by decide) (fun c => (?_ : XW _ _ _ _ _ _ _ 125 _ _)) (fun c => (?_ : XW _ _ _ _ _ _ _ 115 _ _))
      · replace vc := vc.1 c
        refine xi_aload_n (by decide +kernel : decode mX9_write.2.1 125 = .ok (.aload_n 1, 1)) rfl rfl (?_ : XW _ _ _ _ _ _ _ 126 _ _)
        refine xi_getI (by decide +kernel : decode mX9_write.2.1 126 = .ok (.getfield 83, 3)) fX9_83 rfl (by omega) rfl (?_ : XW _ _ _ _ _ _ _ 129 _ _)
        refine xi_if_eq (by decide +kernel : decode mX9_write.2.1 129 = .ok (.ifCond .eq 9, 3)) (by decide) (fun c => (?_ : XW _ _ _ _ _ _ _ 138 _ _)) (fun c => (?_ : XW _ _ _ _ _ _ _ 132 _ _))
        · replace vc := vc.1 c
          refine xi_aload_n (by decide +kernel : decode mX9_write.2.1 138 = .ok (.aload_n 0, 1)) rfl rfl (?_ : XW _ _ _ _ _ _ _ 139 _ _)
          refine xi_ldcS (j := 27) (by decide +kernel : decode mX9_write.2.1 139 = .ok (.ldc 89, 2)) rfl (by decide) (?_ : XW _ _ _ _ _ _ _ 141 _ _)
          refine xi_aload_n (by decide +kernel : decode mX9_write.2.1 141 = .ok (.aload_n 1, 1)) rfl rfl (?_ : XW _ _ _ _ _ _ _ 142 _ _)
          refine xi_getI (by decide +kernel : decode mX9_write.2.1 142 = .ok (.getfield 91, 3)) fX9_91 rfl (by omega) rfl (?_ : XW _ _ _ _ _ _ _ 145 _ _)
          obtain ⟨Q1, sp, vc⟩ := vc
          refine xi_callV (b := 0) (bs := 0) (As := [.ref (1027), .int (xI h7 2 6)]) (st := []) (by decide +kernel : decode mX9_write.2.1 145 = .ok (.invokevirtual 49, 3)) kX9_49 rfl rfl (by omega) rfl sp (by decide) (by decide) (Nat.le_of_ble_eq_true rfl) (by omega) (fun v9 h8 hq9 => ?_)
          obtain ⟨e9, vc⟩ := vc v9 h8 hq9
          subst e9
          show XW _ _ _ _ _ _ _ 148 _ []
          refine xi_aload_n (by decide +kernel : decode mX9_write.2.1 148 = .ok (.aload_n 1, 1)) rfl rfl (?_ : XW _ _ _ _ _ _ _ 149 _ _)
          obtain ⟨s1, vc⟩ := vc
          refine xi_getR (y := 3) (by decide +kernel : decode mX9_write.2.1 149 = .ok (.getfield 93, 3)) fX9_93 rfl (by omega) rfl s1 (?_ : XW _ _ _ _ _ _ _ 152 _ _)
          refine xi_getI (by decide +kernel : decode mX9_write.2.1 152 = .ok (.getfield 97, 3)) fX9_97 rfl (by omega) rfl (?_ : XW _ _ _ _ _ _ _ 155 _ _)
          refine xi_if_eq (by decide +kernel : decode mX9_write.2.1 155 = .ok (.ifCond .eq 11, 3)) (by decide) (fun c => (?_ : XW _ _ _ _ _ _ _ 166 _ _)) (fun c => (?_ : XW _ _ _ _ _ _ _ 158 _ _))
          · replace vc := vc.1 c
            exact xi_vret (by decide +kernel : decode mX9_write.2.1 166 = .ok (.return_, 1)) rfl vc
          · replace vc := vc.2 c
            refine xi_aload_n (by decide +kernel : decode mX9_write.2.1 158 = .ok (.aload_n 0, 1)) rfl rfl (?_ : XW _ _ _ _ _ _ _ 159 _ _)
            refine xi_aload_n (by decide +kernel : decode mX9_write.2.1 159 = .ok (.aload_n 1, 1)) rfl rfl (?_ : XW _ _ _ _ _ _ _ 160 _ _)
            obtain ⟨s1, vc⟩ := vc
            refine xi_getR (y := 3) (by decide +kernel : decode mX9_write.2.1 160 = .ok (.getfield 93, 3)) fX9_93 rfl (by omega) rfl s1 (?_ : XW _ _ _ _ _ _ _ 163 _ _)
            obtain ⟨Q1, sp, vc⟩ := vc
            refine xi_callV (b := 0) (bs := 0) (As := [.ref (3)]) (st := []) (by decide +kernel : decode mX9_write.2.1 163 = .ok (.invokevirtual 102, 3)) kX9_102 rfl rfl (by omega) rfl sp (by decide) (by decide) (Nat.le_of_ble_eq_true rfl) (by omega) (fun v9 h9 hq9 => ?_)
            obtain ⟨e9, vc⟩ := vc v9 h9 hq9
            subst e9
            show XW _ _ _ _ _ _ _ 166 _ []
            exact xi_vret (by decide +kernel : decode mX9_write.2.1 166 = .ok (.return_, 1)) rfl vc
        · replace vc := vc.2 c
          refine xi_aload_n (by decide +kernel : decode mX9_write.2.1 132 = .ok (.aload_n 0, 1)) rfl rfl (?_ : XW _ _ _ _ _ _ _ 133 _ _)
          refine xi_ldcS (j := 26) (by decide +kernel : decode mX9_write.2.1 133 = .ok (.ldc 87, 2)) rfl (by decide) (?_ : XW _ _ _ _ _ _ _ 135 _ _)
          obtain ⟨Q1, sp, vc⟩ := vc
          refine xi_callV (b := 0) (bs := 0) (As := [.ref (1026)]) (st := []) (by decide +kernel : decode mX9_write.2.1 135 = .ok (.invokevirtual 35, 3)) kX9_35 rfl rfl (by omega) rfl sp (by decide) (by decide) (Nat.le_of_ble_eq_true rfl) (by omega) (fun v9 h10 hq9 => ?_)
          obtain ⟨e9, vc⟩ := vc v9 h10 hq9
          subst e9
          show XW _ _ _ _ _ _ _ 138 _ []
          refine xi_aload_n (by decide +kernel : decode mX9_write.2.1 138 = .ok (.aload_n 0, 1)) rfl rfl (?_ : XW _ _ _ _ _ _ _ 139 _ _)
          refine xi_ldcS (j := 27) (by decide +kernel : decode mX9_write.2.1 139 = .ok (.ldc 89, 2)) rfl (by decide) (?_ : XW _ _ _ _ _ _ _ 141 _ _)
          refine xi_aload_n (by decide +kernel : decode mX9_write.2.1 141 = .ok (.aload_n 1, 1)) rfl rfl (?_ : XW _ _ _ _ _ _ _ 142 _ _)
          refine xi_getI (by decide +kernel : decode mX9_write.2.1 142 = .ok (.getfield 91, 3)) fX9_91 rfl (by omega) rfl (?_ : XW _ _ _ _ _ _ _ 145 _ _)
          obtain ⟨Q1, sp, vc⟩ := vc
          refine xi_callV (b := 0) (bs := 0) (As := [.ref (1027), .int (xI h10 2 6)]) (st := []) (by decide +kernel : decode mX9_write.2.1 145 = .ok (.invokevirtual 49, 3)) kX9_49 rfl rfl (by omega) rfl sp (by decide) (by decide) (Nat.le_of_ble_eq_true rfl) (by omega) (fun v9 h11 hq9 => ?_)
          obtain ⟨e9, vc⟩ := vc v9 h11 hq9
          subst e9
          show XW _ _ _ _ _ _ _ 148 _ []
          refine xi_aload_n (by decide +kernel : decode mX9_write.2.1 148 = .ok (.aload_n 1, 1)) rfl rfl (?_ : XW _ _ _ _ _ _ _ 149 _ _)
          obtain ⟨s1, vc⟩ := vc
          refine xi_getR (y := 3) (by decide +kernel : decode mX9_write.2.1 149 = .ok (.getfield 93, 3)) fX9_93 rfl (by omega) rfl s1 (?_ : XW _ _ _ _ _ _ _ 152 _ _)
          refine xi_getI (by decide +kernel : decode mX9_write.2.1 152 = .ok (.getfield 97, 3)) fX9_97 rfl (by omega) rfl (?_ : XW _ _ _ _ _ _ _ 155 _ _)
          refine xi_if_eq (by decide +kernel : decode mX9_write.2.1 155 = .ok (.ifCond .eq 11, 3)) (by decide) (fun c => (?_ : XW _ _ _ _ _ _ _ 166 _ _)) (fun c => (?_ : XW _ _ _ _ _ _ _ 158 _ _))
          · replace vc := vc.1 c
            exact xi_vret (by decide +kernel : decode mX9_write.2.1 166 = .ok (.return_, 1)) rfl vc
          · replace vc := vc.2 c
            refine xi_aload_n (by decide +kernel : decode mX9_write.2.1 158 = .ok (.aload_n 0, 1)) rfl rfl (?_ : XW _ _ _ _ _ _ _ 159 _ _)
            refine xi_aload_n (by decide +kernel : decode mX9_write.2.1 159 = .ok (.aload_n 1, 1)) rfl rfl (?_ : XW _ _ _ _ _ _ _ 160 _ _)
            obtain ⟨s1, vc⟩ := vc
            refine xi_getR (y := 3) (by decide +kernel : decode mX9_write.2.1 160 = .ok (.getfield 93, 3)) fX9_93 rfl (by omega) rfl s1 (?_ : XW _ _ _ _ _ _ _ 163 _ _)
            obtain ⟨Q1, sp, vc⟩ := vc
            refine xi_callV (b := 0) (bs := 0) (As := [.ref (3)]) (st := []) (by decide +kernel : decode mX9_write.2.1 163 = .ok (.invokevirtual 102, 3)) kX9_102 rfl rfl (by omega) rfl sp (by decide) (by decide) (Nat.le_of_ble_eq_true rfl) (by omega) (fun v9 h12 hq9 => ?_)
            obtain ⟨e9, vc⟩ := vc v9 h12 hq9
            subst e9
            show XW _ _ _ _ _ _ _ 166 _ []
            exact xi_vret (by decide +kernel : decode mX9_write.2.1 166 = .ok (.return_, 1)) rfl vc
      · replace vc := vc.2 c
        refine xi_aload_n (by decide +kernel : decode mX9_write.2.1 115 = .ok (.aload_n 0, 1)) rfl rfl (?_ : XW _ _ _ _ _ _ _ 116 _ _)
        refine xi_ldcS (j := 25) (by decide +kernel : decode mX9_write.2.1 116 = .ok (.ldc 82, 2)) rfl (by decide) (?_ : XW _ _ _ _ _ _ _ 118 _ _)
        refine xi_aload_n (by decide +kernel : decode mX9_write.2.1 118 = .ok (.aload_n 1, 1)) rfl rfl (?_ : XW _ _ _ _ _ _ _ 119 _ _)
        refine xi_getI (by decide +kernel : decode mX9_write.2.1 119 = .ok (.getfield 79, 3)) fX9_79 rfl (by omega) rfl (?_ : XW _ _ _ _ _ _ _ 122 _ _)
        obtain ⟨Q1, sp, vc⟩ := vc
        refine xi_callV (b := 0) (bs := 0) (As := [.ref (1025), .int (xI h7 2 4)]) (st := []) (by decide +kernel : decode mX9_write.2.1 122 = .ok (.invokevirtual 49, 3)) kX9_49 rfl rfl (by omega) rfl sp (by decide) (by decide) (Nat.le_of_ble_eq_true rfl) (by omega) (fun v9 h13 hq9 => ?_)
        obtain ⟨e9, vc⟩ := vc v9 h13 hq9
        subst e9
        show XW _ _ _ _ _ _ _ 125 _ []
        refine xi_aload_n (by decide +kernel : decode mX9_write.2.1 125 = .ok (.aload_n 1, 1)) rfl rfl (?_ : XW _ _ _ _ _ _ _ 126 _ _)
        refine xi_getI (by decide +kernel : decode mX9_write.2.1 126 = .ok (.getfield 83, 3)) fX9_83 rfl (by omega) rfl (?_ : XW _ _ _ _ _ _ _ 129 _ _)
        refine xi_if_eq (by decide +kernel : decode mX9_write.2.1 129 = .ok (.ifCond .eq 9, 3)) (by decide) (fun c => (?_ : XW _ _ _ _ _ _ _ 138 _ _)) (fun c => (?_ : XW _ _ _ _ _ _ _ 132 _ _))
        · replace vc := vc.1 c
          refine xi_aload_n (by decide +kernel : decode mX9_write.2.1 138 = .ok (.aload_n 0, 1)) rfl rfl (?_ : XW _ _ _ _ _ _ _ 139 _ _)
          refine xi_ldcS (j := 27) (by decide +kernel : decode mX9_write.2.1 139 = .ok (.ldc 89, 2)) rfl (by decide) (?_ : XW _ _ _ _ _ _ _ 141 _ _)
          refine xi_aload_n (by decide +kernel : decode mX9_write.2.1 141 = .ok (.aload_n 1, 1)) rfl rfl (?_ : XW _ _ _ _ _ _ _ 142 _ _)
          refine xi_getI (by decide +kernel : decode mX9_write.2.1 142 = .ok (.getfield 91, 3)) fX9_91 rfl (by omega) rfl (?_ : XW _ _ _ _ _ _ _ 145 _ _)
          obtain ⟨Q1, sp, vc⟩ := vc
          refine xi_callV (b := 0) (bs := 0) (As := [.ref (1027), .int (xI h13 2 6)]) (st := []) (by decide +kernel : decode mX9_write.2.1 145 = .ok (.invokevirtual 49, 3)) kX9_49 rfl rfl (by omega) rfl sp (by decide) (by decide) (Nat.le_of_ble_eq_true rfl) (by omega) (fun v9 h14 hq9 => ?_)
          obtain ⟨e9, vc⟩ := vc v9 h14 hq9
          subst e9
          show XW _ _ _ _ _ _ _ 148 _ []
          refine xi_aload_n (by decide +kernel : decode mX9_write.2.1 148 = .ok (.aload_n 1, 1)) rfl rfl (?_ : XW _ _ _ _ _ _ _ 149 _ _)
          obtain ⟨s1, vc⟩ := vc
          refine xi_getR (y := 3) (by decide +kernel : decode mX9_write.2.1 149 = .ok (.getfield 93, 3)) fX9_93 rfl (by omega) rfl s1 (?_ : XW _ _ _ _ _ _ _ 152 _ _)
          refine xi_getI (by decide +kernel : decode mX9_write.2.1 152 = .ok (.getfield 97, 3)) fX9_97 rfl (by omega) rfl (?_ : XW _ _ _ _ _ _ _ 155 _ _)
          refine xi_if_eq (by decide +kernel : decode mX9_write.2.1 155 = .ok (.ifCond .eq 11, 3)) (by decide) (fun c => (?_ : XW _ _ _ _ _ _ _ 166 _ _)) (fun c => (?_ : XW _ _ _ _ _ _ _ 158 _ _))
          · replace vc := vc.1 c
            exact xi_vret (by decide +kernel : decode mX9_write.2.1 166 = .ok (.return_, 1)) rfl vc
          · replace vc := vc.2 c
            refine xi_aload_n (by decide +kernel : decode mX9_write.2.1 158 = .ok (.aload_n 0, 1)) rfl rfl (?_ : XW _ _ _ _ _ _ _ 159 _ _)
            refine xi_aload_n (by decide +kernel : decode mX9_write.2.1 159 = .ok (.aload_n 1, 1)) rfl rfl (?_ : XW _ _ _ _ _ _ _ 160 _ _)
            obtain ⟨s1, vc⟩ := vc
            refine xi_getR (y := 3) (by decide +kernel : decode mX9_write.2.1 160 = .ok (.getfield 93, 3)) fX9_93 rfl (by omega) rfl s1 (?_ : XW _ _ _ _ _ _ _ 163 _ _)
            obtain ⟨Q1, sp, vc⟩ := vc
            refine xi_callV (b := 0) (bs := 0) (As := [.ref (3)]) (st := []) (by decide +kernel : decode mX9_write.2.1 163 = .ok (.invokevirtual 102, 3)) kX9_102 rfl rfl (by omega) rfl sp (by decide) (by decide) (Nat.le_of_ble_eq_true rfl) (by omega) (fun v9 h15 hq9 => ?_)
            obtain ⟨e9, vc⟩ := vc v9 h15 hq9
            subst e9
            show XW _ _ _ _ _ _ _ 166 _ []
            exact xi_vret (by decide +kernel : decode mX9_write.2.1 166 = .ok (.return_, 1)) rfl vc
        · replace vc := vc.2 c
          refine xi_aload_n (by decide +kernel : decode mX9_write.2.1 132 = .ok (.aload_n 0, 1)) rfl rfl (?_ : XW _ _ _ _ _ _ _ 133 _ _)
          refine xi_ldcS (j := 26) (by decide +kernel : decode mX9_write.2.1 133 = .ok (.ldc 87, 2)) rfl (by decide) (?_ : XW _ _ _ _ _ _ _ 135 _ _)
          obtain ⟨Q1, sp, vc⟩ := vc
          refine xi_callV (b := 0) (bs := 0) (As := [.ref (1026)]) (st := []) (by decide +kernel : decode mX9_write.2.1 135 = .ok (.invokevirtual 35, 3)) kX9_35 rfl rfl (by omega) rfl sp (by decide) (by decide) (Nat.le_of_ble_eq_true rfl) (by omega) (fun v9 h16 hq9 => ?_)
          obtain ⟨e9, vc⟩ := vc v9 h16 hq9
          subst e9
          show XW _ _ _ _ _ _ _ 138 _ []
          refine xi_aload_n (by decide +kernel : decode mX9_write.2.1 138 = .ok (.aload_n 0, 1)) rfl rfl (?_ : XW _ _ _ _ _ _ _ 139 _ _)
          refine xi_ldcS (j := 27) (by decide +kernel : decode mX9_write.2.1 139 = .ok (.ldc 89, 2)) rfl (by decide) (?_ : XW _ _ _ _ _ _ _ 141 _ _)
          refine xi_aload_n (by decide +kernel : decode mX9_write.2.1 141 = .ok (.aload_n 1, 1)) rfl rfl (?_ : XW _ _ _ _ _ _ _ 142 _ _)
          refine xi_getI (by decide +kernel : decode mX9_write.2.1 142 = .ok (.getfield 91, 3)) fX9_91 rfl (by omega) rfl (?_ : XW _ _ _ _ _ _ _ 145 _ _)
          obtain ⟨Q1, sp, vc⟩ := vc
          refine xi_callV (b := 0) (bs := 0) (As := [.ref (1027), .int (xI h16 2 6)]) (st := []) (by decide +kernel : decode mX9_write.2.1 145 = .ok (.invokevirtual 49, 3)) kX9_49 rfl rfl (by omega) rfl sp (by decide) (by decide) (Nat.le_of_ble_eq_true rfl) (by omega) (fun v9 h17 hq9 => ?_)
          obtain ⟨e9, vc⟩ := vc v9 h17 hq9
          subst e9
          show XW _ _ _ _ _ _ _ 148 _ []
          refine xi_aload_n (by decide +kernel : decode mX9_write.2.1 148 = .ok (.aload_n 1, 1)) rfl rfl (?_ : XW _ _ _ _ _ _ _ 149 _ _)
          obtain ⟨s1, vc⟩ := vc
          refine xi_getR (y := 3) (by decide +kernel : decode mX9_write.2.1 149 = .ok (.getfield 93, 3)) fX9_93 rfl (by omega) rfl s1 (?_ : XW _ _ _ _ _ _ _ 152 _ _)
          refine xi_getI (by decide +kernel : decode mX9_write.2.1 152 = .ok (.getfield 97, 3)) fX9_97 rfl (by omega) rfl (?_ : XW _ _ _ _ _ _ _ 155 _ _)
          refine xi_if_eq (by decide +kernel : decode mX9_write.2.1 155 = .ok (.ifCond .eq 11, 3)) (by decide) (fun c => (?_ : XW _ _ _ _ _ _ _ 166 _ _)) (fun c => (?_ : XW _ _ _ _ _ _ _ 158 _ _))
          · replace vc := vc.1 c
            exact xi_vret (by decide +kernel : decode mX9_write.2.1 166 = .ok (.return_, 1)) rfl vc
          · replace vc := vc.2 c
            refine xi_aload_n (by decide +kernel : decode mX9_write.2.1 158 = .ok (.aload_n 0, 1)) rfl rfl (?_ : XW _ _ _ _ _ _ _ 159 _ _)
            refine xi_aload_n (by decide +kernel : decode mX9_write.2.1 159 = .ok (.aload_n 1, 1)) rfl rfl (?_ : XW _ _ _ _ _ _ _ 160 _ _)
            obtain ⟨s1, vc⟩ := vc
            refine xi_getR (y := 3) (by decide +kernel : decode mX9_write.2.1 160 = .ok (.getfield 93, 3)) fX9_93 rfl (by omega) rfl s1 (?_ : XW _ _ _ _ _ _ _ 163 _ _)
            obtain ⟨Q1, sp, vc⟩ := vc
            refine xi_callV (b := 0) (bs := 0) (As := [.ref (3)]) (st := []) (by decide +kernel : decode mX9_write.2.1 163 = .ok (.invokevirtual 102, 3)) kX9_102 rfl rfl (by omega) rfl sp (by decide) (by decide) (Nat.le_of_ble_eq_true rfl) (by omega) (fun v9 h18 hq9 => ?_)
            obtain ⟨e9, vc⟩ := vc v9 h18 hq9
            subst e9
            show XW _ _ _ _ _ _ _ 166 _ []
            exact xi_vret (by decide +kernel : decode mX9_write.2.1 166 = .ok (.return_, 1)) rfl vc
    · replace vc := vc.2 c
      refine xi_aload_n (by decide +kernel : decode mX9_write.2.1 65 = .ok (.aload_n 0, 1)) rfl rfl (?_ : XW _ _ _ _ _ _ _ 66 _ _)
      refine xi_ldcS (j := 20) (by decide +kernel : decode mX9_write.2.1 66 = .ok (.ldc 62, 2)) rfl (by decide) (?_ : XW _ _ _ _ _ _ _ 68 _ _)
      obtain ⟨Q1, sp, vc⟩ := vc
      refine xi_callV (b := 0) (bs := 0) (As := [.ref (1020)]) (st := []) (by decide +kernel : decode mX9_write.2.1 68 = .ok (.invokevirtual 35, 3)) kX9_35 rfl rfl (by omega) rfl sp (by decide) (by decide) (Nat.le_of_ble_eq_true rfl) (by omega) (fun v9 h19 hq9 => ?_)
      obtain ⟨e9, vc⟩ := vc v9 h19 hq9
      subst e9
      show XW _ _ _ _ _ _ _ 71 _ []
      refine xi_aload_n (by decide +kernel : decode mX9_write.2.1 71 = .ok (.aload_n 0, 1)) rfl rfl (?_ : XW _ _ _ _ _ _ _ 72 _ _)
      refine xi_aload_n (by decide +kernel : decode mX9_write.2.1 72 = .ok (.aload_n 1, 1)) rfl rfl (?_ : XW _ _ _ _ _ _ _ 73 _ _)
      refine xi_iload_n (by decide +kernel : decode mX9_write.2.1 73 = .ok (.iload_n 3, 1)) rfl rfl (?_ : XW _ _ _ _ _ _ _ 74 _ _)
      obtain ⟨Q1, sp, vc⟩ := vc
      refine xi_callV (b := 0) (bs := 0) (As := [.int x3]) (st := [.ref 55]) (by decide +kernel : decode mX9_write.2.1 74 = .ok (.invokevirtual 64, 3)) kX9_64 rfl rfl (by omega) rfl sp (by decide) (by decide) (Nat.le_of_ble_eq_true rfl) (by omega) (fun v9 h20 hq9 => ?_)
      obtain ⟨r20, e9, vc⟩ := vc v9 h20 hq9
      subst e9
      show XW _ _ _ _ _ _ _ 77 _ [.int r20, .ref 55]
      obtain ⟨Q1, sp, vc⟩ := vc
      refine xi_callV (b := 0) (bs := 0) (As := [.int r20]) (st := []) (by decide +kernel : decode mX9_write.2.1 77 = .ok (.invokevirtual 39, 3)) kX9_39 rfl rfl (by omega) rfl sp (by decide) (by decide) (Nat.le_of_ble_eq_true rfl) (by omega) (fun v9 h21 hq9 => ?_)
      obtain ⟨e9, vc⟩ := vc v9 h21 hq9
      subst e9
      show XW _ _ _ _ _ _ _ 80 _ []
      refine xi_aload_n (by decide +kernel : decode mX9_write.2.1 80 = .ok (.aload_n 0, 1)) rfl rfl (?_ : XW _ _ _ _ _ _ _ 81 _ _)
      refine xi_ldcS (j := 21) (by decide +kernel : decode mX9_write.2.1 81 = .ok (.ldc 67, 2)) rfl (by decide) (?_ : XW _ _ _ _ _ _ _ 83 _ _)
      refine xi_aload_n (by decide +kernel : decode mX9_write.2.1 83 = .ok (.aload_n 1, 1)) rfl rfl (?_ : XW _ _ _ _ _ _ _ 84 _ _)
      refine xi_iload_n (by decide +kernel : decode mX9_write.2.1 84 = .ok (.iload_n 3, 1)) rfl rfl (?_ : XW _ _ _ _ _ _ _ 85 _ _)
      obtain ⟨Q1, sp, vc⟩ := vc
      refine xi_callV (b := 0) (bs := 0) (As := [.int x3]) (st := [.ref (1021), .ref 55]) (by decide +kernel : decode mX9_write.2.1 85 = .ok (.invokevirtual 69, 3)) kX9_69 rfl rfl (by omega) rfl sp (by decide) (by decide) (Nat.le_of_ble_eq_true rfl) (by omega) (fun v9 h22 hq9 => ?_)
      obtain ⟨r22, e9, vc⟩ := vc v9 h22 hq9
      subst e9
      show XW _ _ _ _ _ _ _ 88 _ [.int r22, .ref (1021), .ref 55]
      obtain ⟨Q1, sp, vc⟩ := vc
      refine xi_callV (b := 0) (bs := 0) (As := [.ref (1021), .int r22]) (st := []) (by decide +kernel : decode mX9_write.2.1 88 = .ok (.invokevirtual 49, 3)) kX9_49 rfl rfl (by omega) rfl sp (by decide) (by decide) (Nat.le_of_ble_eq_true rfl) (by omega) (fun v9 h23 hq9 => ?_)
      obtain ⟨e9, vc⟩ := vc v9 h23 hq9
      subst e9
      show XW _ _ _ _ _ _ _ 91 _ []
      refine xi_iinc (v := x3 + 1) (ls' := [some (.ref 55), some (.ref 2), none, some (.int (x3 + 1))]) (by decide +kernel : decode mX9_write.2.1 91 = .ok (.iinc 3 1, 3)) rfl rfl (by decide) rfl (?_ : XW _ _ _ _ _ _ _ 94 _ _)
      refine xi_goto (by decide +kernel : decode mX9_write.2.1 94 = .ok (.goto (-37), 3)) (by decide) (?_ : XW _ _ _ _ _ _ _ 57 _ _)
      exact vc
  · refine xi_iload_n (by decide +kernel : decode mX9_write.2.1 57 = .ok (.iload_n 3, 1)) rfl rfl (?_ : XW _ _ _ _ _ _ _ 58 _ _)
    refine xi_aload_n (by decide +kernel : decode mX9_write.2.1 58 = .ok (.aload_n 1, 1)) rfl rfl (?_ : XW _ _ _ _ _ _ _ 59 _ _)
    refine xi_getI (by decide +kernel : decode mX9_write.2.1 59 = .ok (.getfield 59, 3)) fX9_59 rfl (by omega) rfl (?_ : XW _ _ _ _ _ _ _ 62 _ _)
    refine xi_icmp_ge (by decide +kernel : decode mX9_write.2.1 62 = .ok (.if_icmp .ge 35, 3)) (by decide) (fun c => (?_ : XW _ _ _ _ _ _ _ 97 _ _)) (fun c => (?_ : XW _ _ _ _ _ _ _ 65 _ _))
    · replace vc := vc.1 c
      refine xi_aload_n (by decide +kernel : decode mX9_write.2.1 97 = .ok (.aload_n 0, 1)) rfl rfl (?_ : XW _ _ _ _ _ _ _ 98 _ _)
      refine xi_aload_n (by decide +kernel : decode mX9_write.2.1 98 = .ok (.aload_n 1, 1)) rfl rfl (?_ : XW _ _ _ _ _ _ _ 99 _ _)
      refine xi_getI (by decide +kernel : decode mX9_write.2.1 99 = .ok (.getfield 72, 3)) fX9_72 rfl (by omega) rfl (?_ : XW _ _ _ _ _ _ _ 102 _ _)
      obtain ⟨Q1, sp, vc⟩ := vc
      refine xi_callS (b := 0) (bs := 0) (As := [.int (xI h 12 3)]) (st := [.ref 55]) (by decide +kernel : decode mX9_write.2.1 102 = .ok (.invokestatic 75, 3)) kX9_75 rfl rfl sp (by decide) (by decide) (Nat.le_of_ble_eq_true rfl) (by omega) (fun v9 h6 hq9 => ?_)
      obtain ⟨r6, e9, vc⟩ := vc v9 h6 hq9
      subst e9
      show XW _ _ _ _ _ _ _ 105 _ [.ref r6, .ref 55]
      obtain ⟨Q1, sp, vc⟩ := vc
      refine xi_callV (b := 0) (bs := 0) (As := [.ref r6]) (st := []) (by decide +kernel : decode mX9_write.2.1 105 = .ok (.invokevirtual 35, 3)) kX9_35 rfl rfl (by omega) rfl sp (by decide) (by decide) (Nat.le_of_ble_eq_true rfl) (by omega) (fun v9 h7 hq9 => ?_)
      obtain ⟨e9, vc⟩ := vc v9 h7 hq9
      subst e9
      show XW _ _ _ _ _ _ _ 108 _ []
      refine xi_aload_n (by decide +kernel : decode mX9_write.2.1 108 = .ok (.aload_n 1, 1)) rfl rfl (?_ : XW _ _ _ _ _ _ _ 109 _ _)
      refine xi_getI (by decide +kernel : decode mX9_write.2.1 109 = .ok (.getfield 79, 3)) fX9_79 rfl (by omega) rfl (?_ : XW _ _ _ _ _ _ _ 112 _ _)
      refine xi_if_eq (by decide +kernel : decode mX9_write.2.1 112 = .ok (.ifCond .eq 13, 3)) (by decide) (fun c => (?_ : XW _ _ _ _ _ _ _ 125 _ _)) (fun c => (?_ : XW _ _ _ _ _ _ _ 115 _ _))
      · replace vc := vc.1 c
        refine xi_aload_n (by decide +kernel : decode mX9_write.2.1 125 = .ok (.aload_n 1, 1)) rfl rfl (?_ : XW _ _ _ _ _ _ _ 126 _ _)
        refine xi_getI (by decide +kernel : decode mX9_write.2.1 126 = .ok (.getfield 83, 3)) fX9_83 rfl (by omega) rfl (?_ : XW _ _ _ _ _ _ _ 129 _ _)
        refine xi_if_eq (by decide +kernel : decode mX9_write.2.1 129 = .ok (.ifCond .eq 9, 3)) (by decide) (fun c => (?_ : XW _ _ _ _ _ _ _ 138 _ _)) (fun c => (?_ : XW _ _ _ _ _ _ _ 132 _ _))
        · replace vc := vc.1 c
          refine xi_aload_n (by decide +kernel : decode mX9_write.2.1 138 = .ok (.aload_n 0, 1)) rfl rfl (?_ : XW _ _ _ _ _ _ _ 139 _ _)
          refine xi_ldcS (j := 27) (by decide +kernel : decode mX9_write.2.1 139 = .ok (.ldc 89, 2)) rfl (by decide) (?_ : XW _ _ _ _ _ _ _ 141 _ _)
          refine xi_aload_n (by decide +kernel : decode mX9_write.2.1 141 = .ok (.aload_n 1, 1)) rfl rfl (?_ : XW _ _ _ _ _ _ _ 142 _ _)
          refine xi_getI (by decide +kernel : decode mX9_write.2.1 142 = .ok (.getfield 91, 3)) fX9_91 rfl (by omega) rfl (?_ : XW _ _ _ _ _ _ _ 145 _ _)
          obtain ⟨Q1, sp, vc⟩ := vc
          refine xi_callV (b := 0) (bs := 0) (As := [.ref (1027), .int (xI h7 12 6)]) (st := []) (by decide +kernel : decode mX9_write.2.1 145 = .ok (.invokevirtual 49, 3)) kX9_49 rfl rfl (by omega) rfl sp (by decide) (by decide) (Nat.le_of_ble_eq_true rfl) (by omega) (fun v9 h8 hq9 => ?_)
          obtain ⟨e9, vc⟩ := vc v9 h8 hq9
          subst e9
          show XW _ _ _ _ _ _ _ 148 _ []
          refine xi_aload_n (by decide +kernel : decode mX9_write.2.1 148 = .ok (.aload_n 1, 1)) rfl rfl (?_ : XW _ _ _ _ _ _ _ 149 _ _)
          obtain ⟨s1, vc⟩ := vc
          refine xi_getR (y := 13) (by decide +kernel : decode mX9_write.2.1 149 = .ok (.getfield 93, 3)) fX9_93 rfl (by omega) rfl s1 (?_ : XW _ _ _ _ _ _ _ 152 _ _)
          refine xi_getI (by decide +kernel : decode mX9_write.2.1 152 = .ok (.getfield 97, 3)) fX9_97 rfl (by omega) rfl (?_ : XW _ _ _ _ _ _ _ 155 _ _)
          refine xi_if_eq (by decide +kernel : decode mX9_write.2.1 155 = .ok (.ifCond .eq 11, 3)) (by decide) (fun c => (?_ : XW _ _ _ _ _ _ _ 166 _ _)) (fun c => (?_ : XW _ _ _ _ _ _ _ 158 _ _))
          · replace vc := vc.1 c
            exact xi_vret (by decide +kernel : decode mX9_write.2.1 166 = .ok (.return_, 1)) rfl vc
          · replace vc := vc.2 c
            refine xi_aload_n (by decide +kernel : decode mX9_write.2.1 158 = .ok (.aload_n 0, 1)) rfl rfl (?_ : XW _ _ _ _ _ _ _ 159 _ _)
            refine xi_aload_n (by decide +kernel : decode mX9_write.2.1 159 = .ok (.aload_n 1, 1)) rfl rfl (?_ : XW _ _ _ _ _ _ _ 160 _ _)
            obtain ⟨s1, vc⟩ := vc
            refine xi_getR (y := 13) (by decide +kernel : decode mX9_write.2.1 160 = .ok (.getfield 93, 3)) fX9_93 rfl (by omega) rfl s1 (?_ : XW _ _ _ _ _ _ _ 163 _ _)
            obtain ⟨Q1, sp, vc⟩ := vc
            refine xi_callV (b := 0) (bs := 0) (As := [.ref (13)]) (st := []) (by decide +kernel : decode mX9_write.2.1 163 = .ok (.invokevirtual 102, 3)) kX9_102 rfl rfl (by omega) rfl sp (by decide) (by decide) (Nat.le_of_ble_eq_true rfl) (by omega) (fun v9 h9 hq9 => ?_)
            obtain ⟨e9, vc⟩ := vc v9 h9 hq9
            subst e9
            show XW _ _ _ _ _ _ _ 166 _ []
            exact xi_vret (by decide +kernel : decode mX9_write.2.1 166 = .ok (.return_, 1)) rfl vc
        · replace vc := vc.2 c
          refine xi_aload_n (by decide +kernel : decode mX9_write.2.1 132 = .ok (.aload_n 0, 1)) rfl rfl (?_ : XW _ _ _ _ _ _ _ 133 _ _)
          refine xi_ldcS (j := 26) (by decide +kernel : decode mX9_write.2.1 133 = .ok (.ldc 87, 2)) rfl (by decide) (?_ : XW _ _ _ _ _ _ _ 135 _ _)
          obtain ⟨Q1, sp, vc⟩ := vc
          refine xi_callV (b := 0) (bs := 0) (As := [.ref (1026)]) (st := []) (by decide +kernel : decode mX9_write.2.1 135 = .ok (.invokevirtual 35, 3)) kX9_35 rfl rfl (by omega) rfl sp (by decide) (by decide) (Nat.le_of_ble_eq_true rfl) (by omega) (fun v9 h10 hq9 => ?_)
          obtain ⟨e9, vc⟩ := vc v9 h10 hq9
          subst e9
          show XW _ _ _ _ _ _ _ 138 _ []
          refine xi_aload_n (by decide +kernel : decode mX9_write.2.1 138 = .ok (.aload_n 0, 1)) rfl rfl (?_ : XW _ _ _ _ _ _ _ 139 _ _)
          refine xi_ldcS (j := 27) (by decide +kernel : decode mX9_write.2.1 139 = .ok (.ldc 89, 2)) rfl (by decide) (?_ : XW _ _ _ _ _ _ _ 141 _ _)
          refine xi_aload_n (by decide +kernel : decode mX9_write.2.1 141 = .ok (.aload_n 1, 1)) rfl rfl (?_ : XW _ _ _ _ _ _ _ 142 _ _)
          refine xi_getI (by decide +kernel : decode mX9_write.2.1 142 = .ok (.getfield 91, 3)) fX9_91 rfl (by omega) rfl (?_ : XW _ _ _ _ _ _ _ 145 _ _)
          obtain ⟨Q1, sp, vc⟩ := vc
          refine xi_callV (b := 0) (bs := 0) (As := [.ref (1027), .int (xI h10 12 6)]) (st := []) (by decide +kernel : decode mX9_write.2.1 145 = .ok (.invokevirtual 49, 3)) kX9_49 rfl rfl (by omega) rfl sp (by decide) (by decide) (Nat.le_of_ble_eq_true rfl) (by omega) (fun v9 h11 hq9 => ?_)
          obtain ⟨e9, vc⟩ := vc v9 h11 hq9
          subst e9
          show XW _ _ _ _ _ _ _ 148 _ []
          refine xi_aload_n (by decide +kernel : decode mX9_write.2.1 148 = .ok (.aload_n 1, 1)) rfl rfl (?_ : XW _ _ _ _ _ _ _ 149 _ _)
          obtain ⟨s1, vc⟩ := vc
          refine xi_getR (y := 13) (by decide +kernel : decode mX9_write.2.1 149 = .ok (.getfield 93, 3)) fX9_93 rfl (by omega) rfl s1 (?_ : XW _ _ _ _ _ _ _ 152 _ _)
          refine xi_getI (by decide +kernel : decode mX9_write.2.1 152 = .ok (.getfield 97, 3)) fX9_97 rfl (by omega) rfl (?_ : XW _ _ _ _ _ _ _ 155 _ _)
          refine xi_if_eq (by decide +kernel : decode mX9_write.2.1 155 = .ok (.ifCond .eq 11, 3)) (by decide) (fun c => (?_ : XW _ _ _ _ _ _ _ 166 _ _)) (fun c => (?_ : XW _ _ _ _ _ _ _ 158 _ _))
          · replace vc := vc.1 c
            exact xi_vret (by decide +kernel : decode mX9_write.2.1 166 = .ok (.return_, 1)) rfl vc
          · replace vc := vc.2 c
            refine xi_aload_n (by decide +kernel : decode mX9_write.2.1 158 = .ok (.aload_n 0, 1)) rfl rfl (?_ : XW _ _ _ _ _ _ _ 159 _ _)
            refine xi_aload_n (by decide +kernel : decode mX9_write.2.1 159 = .ok (.aload_n 1, 1)) rfl rfl (?_ : XW _ _ _ _ _ _ _ 160 _ _)
            obtain ⟨s1, vc⟩ := vc
            refine xi_getR (y := 13) (by decide +kernel : decode mX9_write.2.1 160 = .ok (.getfield 93, 3)) fX9_93 rfl (by omega) rfl s1 (?_ : XW _ _ _ _ _ _ _ 163 _ _)
            obtain ⟨Q1, sp, vc⟩ := vc
            refine xi_callV (b := 0) (bs := 0) (As := [.ref (13)]) (st := []) (by decide +kernel : decode mX9_write.2.1 163 = .ok (.invokevirtual 102, 3)) kX9_102 rfl rfl (by omega) rfl sp (by decide) (by decide) (Nat.le_of_ble_eq_true rfl) (by omega) (fun v9 h12 hq9 => ?_)
            obtain ⟨e9, vc⟩ := vc v9 h12 hq9
            subst e9
            show XW _ _ _ _ _ _ _ 166 _ []
            exact xi_vret (by decide +kernel : decode mX9_write.2.1 166 = .ok (.return_, 1)) rfl vc
      · replace vc := vc.2 c
        refine xi_aload_n (by decide +kernel : decode mX9_write.2.1 115 = .ok (.aload_n 0, 1)) rfl rfl (?_ : XW _ _ _ _ _ _ _ 116 _ _)
        refine xi_ldcS (j := 25) (by decide +kernel : decode mX9_write.2.1 116 = .ok (.ldc 82, 2)) rfl (by decide) (?_ : XW _ _ _ _ _ _ _ 118 _ _)
        refine xi_aload_n (by decide +kernel : decode mX9_write.2.1 118 = .ok (.aload_n 1, 1)) rfl rfl (?_ : XW _ _ _ _ _ _ _ 119 _ _)
        refine xi_getI (by decide +kernel : decode mX9_write.2.1 119 = .ok (.getfield 79, 3)) fX9_79 rfl (by omega) rfl (?_ : XW _ _ _ _ _ _ _ 122 _ _)
        obtain ⟨Q1, sp, vc⟩ := vc
        refine xi_callV (b := 0) (bs := 0) (As := [.ref (1025), .int (xI h7 12 4)]) (st := []) (by decide +kernel : decode mX9_write.2.1 122 = .ok (.invokevirtual 49, 3)) kX9_49 rfl rfl (by omega) rfl sp (by decide) (by decide) (Nat.le_of_ble_eq_true rfl) (by omega) (fun v9 h13 hq9 => ?_)
        obtain ⟨e9, vc⟩ := vc v9 h13 hq9
        subst e9
        show XW _ _ _ _ _ _ _ 125 _ []
        refine xi_aload_n (by decide +kernel : decode mX9_write.2.1 125 = .ok (.aload_n 1, 1)) rfl rfl (?_ : XW _ _ _ _ _ _ _ 126 _ _)
        refine xi_getI (by decide +kernel : decode mX9_write.2.1 126 = .ok (.getfield 83, 3)) fX9_83 rfl (by omega) rfl (?_ : XW _ _ _ _ _ _ _ 129 _ _)
        refine xi_if_eq (by decide +kernel : decode mX9_write.2.1 129 = .ok (.ifCond .eq 9, 3)) (by decide) (fun c => (?_ : XW _ _ _ _ _ _ _ 138 _ _)) (fun c => (?_ : XW _ _ _ _ _ _ _ 132 _ _))
        · replace vc := vc.1 c
          refine xi_aload_n (by decide +kernel : decode mX9_write.2.1 138 = .ok (.aload_n 0, 1)) rfl rfl (?_ : XW _ _ _ _ _ _ _ 139 _ _)
          refine xi_ldcS (j := 27) (by decide +kernel : decode mX9_write.2.1 139 = .ok (.ldc 89, 2)) rfl (by decide) (?_ : XW _ _ _ _ _ _ _ 141 _ _)
          refine xi_aload_n (by decide +kernel : decode mX9_write.2.1 141 = .ok (.aload_n 1, 1)) rfl rfl (?_ : XW _ _ _ _ _ _ _ 142 _ _)
          refine xi_getI (by decide +kernel : decode mX9_write.2.1 142 = .ok (.getfield 91, 3)) fX9_91 rfl (by omega) rfl (?_ : XW _ _ _ _ _ _ _ 145 _ _)
          obtain ⟨Q1, sp, vc⟩ := vc
          refine xi_callV (b := 0) (bs := 0) (As := [.ref (1027), .int (xI h13 12 6)]) (st := []) (by decide +kernel : decode mX9_write.2.1 145 = .ok (.invokevirtual 49, 3)) kX9_49 rfl rfl (by omega) rfl sp (by decide) (by decide) (Nat.le_of_ble_eq_true rfl) (by omega) (fun v9 h14 hq9 => ?_)
          obtain ⟨e9, vc⟩ := vc v9 h14 hq9
          subst e9
          show XW _ _ _ _ _ _ _ 148 _ []
          refine xi_aload_n (by decide +kernel : decode mX9_write.2.1 148 = .ok (.aload_n 1, 1)) rfl rfl (?_ : XW _ _ _ _ _ _ _ 149 _ _)
          obtain ⟨s1, vc⟩ := vc
          refine xi_getR (y := 13) (by decide +kernel : decode mX9_write.2.1 149 = .ok (.getfield 93, 3)) fX9_93 rfl (by omega) rfl s1 (?_ : XW _ _ _ _ _ _ _ 152 _ _)
          refine xi_getI (by decide +kernel : decode mX9_write.2.1 152 = .ok (.getfield 97, 3)) fX9_97 rfl (by omega) rfl (?_ : XW _ _ _ _ _ _ _ 155 _ _)
          refine xi_if_eq (by decide +kernel : decode mX9_write.2.1 155 = .ok (.ifCond .eq 11, 3)) (by decide) (fun c => (?_ : XW _ _ _ _ _ _ _ 166 _ _)) (fun c => (?_ : XW _ _ _ _ _ _ _ 158 _ _))
          · replace vc := vc.1 c
            exact xi_vret (by decide +kernel : decode mX9_write.2.1 166 = .ok (.return_, 1)) rfl vc
          · replace vc := vc.2 c
            refine xi_aload_n (by decide +kernel : decode mX9_write.2.1 158 = .ok (.aload_n 0, 1)) rfl rfl (?_ : XW _ _ _ _ _ _ _ 159 _ _)
            refine xi_aload_n (by decide +kernel : decode mX9_write.2.1 159 = .ok (.aload_n 1, 1)) rfl rfl (?_ : XW _ _ _ _ _ _ _ 160 _ _)
            obtain ⟨s1, vc⟩ := vc
            refine xi_getR (y := 13) (by decide +kernel : decode mX9_write.2.1 160 = .ok (.getfield 93, 3)) fX9_93 rfl (by omega) rfl s1 (?_ : XW _ _ _ _ _ _ _ 163 _ _)
            obtain ⟨Q1, sp, vc⟩ := vc
            refine xi_callV (b := 0) (bs := 0) (As := [.ref (13)]) (st := []) (by decide +kernel : decode mX9_write.2.1 163 = .ok (.invokevirtual 102, 3)) kX9_102 rfl rfl (by omega) rfl sp (by decide) (by decide) (Nat.le_of_ble_eq_true rfl) (by omega) (fun v9 h15 hq9 => ?_)
            obtain ⟨e9, vc⟩ := vc v9 h15 hq9
            subst e9
            show XW _ _ _ _ _ _ _ 166 _ []
            exact xi_vret (by decide +kernel : decode mX9_write.2.1 166 = .ok (.return_, 1)) rfl vc
        · replace vc := vc.2 c
          refine xi_aload_n (by decide +kernel : decode mX9_write.2.1 132 = .ok (.aload_n 0, 1)) rfl rfl (?_ : XW _ _ _ _ _ _ _ 133 _ _)
          refine xi_ldcS (j := 26) (by decide +kernel : decode mX9_write.2.1 133 = .ok (.ldc 87, 2)) rfl (by decide) (?_ : XW _ _ _ _ _ _ _ 135 _ _)
          obtain ⟨Q1, sp, vc⟩ := vc
          refine xi_callV (b := 0) (bs := 0) (As := [.ref (1026)]) (st := []) (by decide +kernel : decode mX9_write.2.1 135 = .ok (.invokevirtual 35, 3)) kX9_35 rfl rfl (by omega) rfl sp (by decide) (by decide) (Nat.le_of_ble_eq_true rfl) (by omega) (fun v9 h16 hq9 => ?_)
          obtain ⟨e9, vc⟩ := vc v9 h16 hq9
          subst e9
          show XW _ _ _ _ _ _ _ 138 _ []
          refine xi_aload_n (by decide +kernel : decode mX9_write.2.1 138 = .ok (.aload_n 0, 1)) rfl rfl (?_ : XW _ _ _ _ _ _ _ 139 _ _)
          refine xi_ldcS (j := 27) (by decide +kernel : decode mX9_write.2.1 139 = .ok (.ldc 89, 2)) rfl (by decide) (?_ : XW _ _ _ _ _ _ _ 141 _ _)
          refine xi_aload_n (by decide +kernel : decode mX9_write.2.1 141 = .ok (.aload_n 1, 1)) rfl rfl (?_ : XW _ _ _ _ _ _ _ 142 _ _)
          refine xi_getI (by decide +kernel : decode mX9_write.2.1 142 = .ok (.getfield 91, 3)) fX9_91 rfl (by omega) rfl (?_ : XW _ _ _ _ _ _ _ 145 _ _)
          obtain ⟨Q1, sp, vc⟩ := vc
          refine xi_callV (b := 0) (bs := 0) (As := [.ref (1027), .int (xI h16 12 6)]) (st := []) (by decide +kernel : decode mX9_write.2.1 145 = .ok (.invokevirtual 49, 3)) kX9_49 rfl rfl (by omega) rfl sp (by decide) (by decide) (Nat.le_of_ble_eq_true rfl) (by omega) (fun v9 h17 hq9 => ?_)
          obtain ⟨e9, vc⟩ := vc v9 h17 hq9
          subst e9
          show XW _ _ _ _ _ _ _ 148 _ []
          refine xi_aload_n (by decide +kernel : decode mX9_write.2.1 148 = .ok (.aload_n 1, 1)) rfl rfl (?_ : XW _ _ _ _ _ _ _ 149 _ _)
          obtain ⟨s1, vc⟩ := vc
          refine xi_getR (y := 13) (by decide +kernel : decode mX9_write.2.1 149 = .ok (.getfield 93, 3)) fX9_93 rfl (by omega) rfl s1 (?_ : XW _ _ _ _ _ _ _ 152 _ _)
          refine xi_getI (by decide +kernel : decode mX9_write.2.1 152 = .ok (.getfield 97, 3)) fX9_97 rfl (by omega) rfl (?_ : XW _ _ _ _ _ _ _ 155 _ _)
          refine xi_if_eq (by decide +kernel : decode mX9_write.2.1 155 = .ok (.ifCond .eq 11, 3)) (by decide) (fun c => (?_ : XW _ _ _ _ _ _ _ 166 _ _)) (fun c => (?_ : XW _ _ _ _ _ _ _ 158 _ _))
          · replace vc := vc.1 c
            exact xi_vret (by decide +kernel : decode mX9_write.2.1 166 = .ok (.return_, 1)) rfl vc
          · replace vc := vc.2 c
            refine xi_aload_n (by decide +kernel : decode mX9_write.2.1 158 = .ok (.aload_n 0, 1)) rfl rfl (?_ : XW _ _ _ _ _ _ _ 159 _ _)
            refine xi_aload_n (by decide +kernel : decode mX9_write.2.1 159 = .ok (.aload_n 1, 1)) rfl rfl (?_ : XW _ _ _ _ _ _ _ 160 _ _)
            obtain ⟨s1, vc⟩ := vc
            refine xi_getR (y := 13) (by decide +kernel : decode mX9_write.2.1 160 = .ok (.getfield 93, 3)) fX9_93 rfl (by omega) rfl s1 (?_ : XW _ _ _ _ _ _ _ 163 _ _)
            obtain ⟨Q1, sp, vc⟩ := vc
            refine xi_callV (b := 0) (bs := 0) (As := [.ref (13)]) (st := []) (by decide +kernel : decode mX9_write.2.1 163 = .ok (.invokevirtual 102, 3)) kX9_102 rfl rfl (by omega) rfl sp (by decide) (by decide) (Nat.le_of_ble_eq_true rfl) (by omega) (fun v9 h18 hq9 => ?_)
            obtain ⟨e9, vc⟩ := vc v9 h18 hq9
            subst e9
            show XW _ _ _ _ _ _ _ 166 _ []
            exact xi_vret (by decide +kernel : decode mX9_write.2.1 166 = .ok (.return_, 1)) rfl vc
    · replace vc := vc.2 c
      refine xi_aload_n (by decide +kernel : decode mX9_write.2.1 65 = .ok (.aload_n 0, 1)) rfl rfl (?_ : XW _ _ _ _ _ _ _ 66 _ _)
      refine xi_ldcS (j := 20) (by decide +kernel : decode mX9_write.2.1 66 = .ok (.ldc 62, 2)) rfl (by decide) (?_ : XW _ _ _ _ _ _ _ 68 _ _)
      obtain ⟨Q1, sp, vc⟩ := vc
      refine xi_callV (b := 0) (bs := 0) (As := [.ref (1020)]) (st := []) (by decide +kernel : decode mX9_write.2.1 68 = .ok (.invokevirtual 35, 3)) kX9_35 rfl rfl (by omega) rfl sp (by decide) (by decide) (Nat.le_of_ble_eq_true rfl) (by omega) (fun v9 h19 hq9 => ?_)
      obtain ⟨e9, vc⟩ := vc v9 h19 hq9
      subst e9
      show XW _ _ _ _ _ _ _ 71 _ []
      refine xi_aload_n (by decide +kernel : decode mX9_write.2.1 71 = .ok (.aload_n 0, 1)) rfl rfl (?_ : XW _ _ _ _ _ _ _ 72 _ _)
      refine xi_aload_n (by decide +kernel : decode mX9_write.2.1 72 = .ok (.aload_n 1, 1)) rfl rfl (?_ : XW _ _ _ _ _ _ _ 73 _ _)
      refine xi_iload_n (by decide +kernel : decode mX9_write.2.1 73 = .ok (.iload_n 3, 1)) rfl rfl (?_ : XW _ _ _ _ _ _ _ 74 _ _)
      obtain ⟨Q1, sp, vc⟩ := vc
      refine xi_callV (b := 0) (bs := 0) (As := [.int x3]) (st := [.ref 55]) (by decide +kernel : decode mX9_write.2.1 74 = .ok (.invokevirtual 64, 3)) kX9_64 rfl rfl (by omega) rfl sp (by decide) (by decide) (Nat.le_of_ble_eq_true rfl) (by omega) (fun v9 h20 hq9 => ?_)
      obtain ⟨r20, e9, vc⟩ := vc v9 h20 hq9
      subst e9
      show XW _ _ _ _ _ _ _ 77 _ [.int r20, .ref 55]
      obtain ⟨Q1, sp, vc⟩ := vc
      refine xi_callV (b := 0) (bs := 0) (As := [.int r20]) (st := []) (by decide +kernel : decode mX9_write.2.1 77 = .ok (.invokevirtual 39, 3)) kX9_39 rfl rfl (by omega) rfl sp (by decide) (by decide) (Nat.le_of_ble_eq_true rfl) (by omega) (fun v9 h21 hq9 => ?_)
      obtain ⟨e9, vc⟩ := vc v9 h21 hq9
      subst e9
      show XW _ _ _ _ _ _ _ 80 _ []
      refine xi_aload_n (by decide +kernel : decode mX9_write.2.1 80 = .ok (.aload_n 0, 1)) rfl rfl (?_ : XW _ _ _ _ _ _ _ 81 _ _)
      refine xi_ldcS (j := 21) (by decide +kernel : decode mX9_write.2.1 81 = .ok (.ldc 67, 2)) rfl (by decide) (?_ : XW _ _ _ _ _ _ _ 83 _ _)
      refine xi_aload_n (by decide +kernel : decode mX9_write.2.1 83 = .ok (.aload_n 1, 1)) rfl rfl (?_ : XW _ _ _ _ _ _ _ 84 _ _)
      refine xi_iload_n (by decide +kernel : decode mX9_write.2.1 84 = .ok (.iload_n 3, 1)) rfl rfl (?_ : XW _ _ _ _ _ _ _ 85 _ _)
      obtain ⟨Q1, sp, vc⟩ := vc
      refine xi_callV (b := 0) (bs := 0) (As := [.int x3]) (st := [.ref (1021), .ref 55]) (by decide +kernel : decode mX9_write.2.1 85 = .ok (.invokevirtual 69, 3)) kX9_69 rfl rfl (by omega) rfl sp (by decide) (by decide) (Nat.le_of_ble_eq_true rfl) (by omega) (fun v9 h22 hq9 => ?_)
      obtain ⟨r22, e9, vc⟩ := vc v9 h22 hq9
      subst e9
      show XW _ _ _ _ _ _ _ 88 _ [.int r22, .ref (1021), .ref 55]
      obtain ⟨Q1, sp, vc⟩ := vc
      refine xi_callV (b := 0) (bs := 0) (As := [.ref (1021), .int r22]) (st := []) (by decide +kernel : decode mX9_write.2.1 88 = .ok (.invokevirtual 49, 3)) kX9_49 rfl rfl (by omega) rfl sp (by decide) (by decide) (Nat.le_of_ble_eq_true rfl) (by omega) (fun v9 h23 hq9 => ?_)
      obtain ⟨e9, vc⟩ := vc v9 h23 hq9
      subst e9
      show XW _ _ _ _ _ _ _ 91 _ []
      refine xi_iinc (v := x3 + 1) (ls' := [some (.ref 55), some (.ref 12), none, some (.int (x3 + 1))]) (by decide +kernel : decode mX9_write.2.1 91 = .ok (.iinc 3 1, 3)) rfl rfl (by decide) rfl (?_ : XW _ _ _ _ _ _ _ 94 _ _)
      refine xi_goto (by decide +kernel : decode mX9_write.2.1 94 = .ok (.goto (-37), 3)) (by decide) (?_ : XW _ _ _ _ _ _ _ 57 _ _)
      exact vc

set_option maxRecDepth 20000 in
theorem v_X11_say_0 {h : XH} {Q : Option Value → XH → Prop} {X : String → XH → Prop} (hM : xMod (xP h))  (q : Int32)
    (vc : (vp_in (xI h 56 49) 1700) ∧ (Q none (xSI 56 (va_up (xI h 56) 49 ((xI h 56 49) + 1)) (xSI 89 (va_up (xI h 89) (xI h 56 49).toNatClampNeg q) h)))) :
    XW (xrm 1 0 0) mX11_say (xE 100 Q X 0 0) 100 0 0 h 0 [some (.ref 56), some (.int q)] [] := by
  refine xi_aload_n (by decide +kernel : decode mX11_say.2.1 0 = .ok (.aload_n 0, 1)) rfl rfl (?_ : XW _ _ _ _ _ _ _ 1 _ _)
  refine xi_getR (y := 89) (by decide +kernel : decode mX11_say.2.1 1 = .ok (.getfield 131, 3)) fX11_131 rfl (by omega) rfl (mp_text hM) (?_ : XW _ _ _ _ _ _ _ 4 _ _)
  refine xi_aload_n (by decide +kernel : decode mX11_say.2.1 4 = .ok (.aload_n 0, 1)) rfl rfl (?_ : XW _ _ _ _ _ _ _ 5 _ _)
  refine xi_getI (by decide +kernel : decode mX11_say.2.1 5 = .ok (.getfield 482, 3)) fX11_482 rfl (by omega) rfl (?_ : XW _ _ _ _ _ _ _ 8 _ _)
  refine xi_iload_n (by decide +kernel : decode mX11_say.2.1 8 = .ok (.iload_n 1, 1)) rfl rfl (?_ : XW _ _ _ _ _ _ _ 9 _ _)
  obtain ⟨s1, vc⟩ := vc
  refine xi_iast (by decide +kernel : decode mX11_say.2.1 9 = .ok (.iastore, 1)) rfl (by omega) s1 (?_ : XW _ _ _ _ _ _ (xSI 89 (va_up (xI h 89) (xI h 56 49).toNatClampNeg q) h) 10 _ _)
  refine xi_aload_n (by decide +kernel : decode mX11_say.2.1 10 = .ok (.aload_n 0, 1)) rfl rfl (?_ : XW _ _ _ _ _ _ _ 11 _ _)
  refine xi_dup (by decide +kernel : decode mX11_say.2.1 11 = .ok (.dup, 1)) rfl (?_ : XW _ _ _ _ _ _ _ 12 _ _)
  refine xi_getI (by decide +kernel : decode mX11_say.2.1 12 = .ok (.getfield 482, 3)) fX11_482 rfl (by omega) rfl (?_ : XW _ _ _ _ _ _ _ 15 _ [.int (xI h 56 49), .ref 56])
  refine xi_iconst (v := 1) (by decide +kernel : decode mX11_say.2.1 15 = .ok (.iconst 1, 1)) (by decide) (?_ : XW _ _ _ _ _ _ _ 16 _ _)
  refine xi_iadd (by decide +kernel : decode mX11_say.2.1 16 = .ok (.iadd, 1)) (?_ : XW _ _ _ _ _ _ _ 17 _ _)
  refine xi_putI (by decide +kernel : decode mX11_say.2.1 17 = .ok (.putfield 482, 3)) fX11_482 rfl (by omega) rfl rfl rfl (?_ : XW _ _ _ _ _ _ (xSI 56 (va_up (xI h 56) 49 ((xI h 56 49) + 1)) (xSI 89 (va_up (xI h 89) (xI h 56 49).toNatClampNeg q) h)) 20 _ _)
  exact xi_vret (by decide +kernel : decode mX11_say.2.1 20 = .ok (.return_, 1)) rfl vc

set_option maxRecDepth 20000 in
theorem v_X11_sayWord_0 {h : XH} {Q : Option Value → XH → Prop} {X : String → XH → Prop} (hM : xMod (xP h)) (i : Nat) (hi : i < jsN) 
    (vc : XW (xrm 12 0 0) mX11_sayWord (xE 100 Q X 0 0) 100 0 0 h 2 [some (.ref 56), some (.ref (1000 + i)), some (.int 0)] []) :
    XW (xrm 12 0 0) mX11_sayWord (xE 100 Q X 0 0) 100 0 0 h 0 [some (.ref 56), some (.ref (1000 + i)), none] [] := by
  refine xi_iconst (v := 0) (by decide +kernel : decode mX11_sayWord.2.1 0 = .ok (.iconst 0, 1)) (by decide) (?_ : XW _ _ _ _ _ _ _ 1 _ _)
  refine xi_istore_n (ls' := [some (.ref 56), some (.ref (1000 + i)), some (.int 0)]) (by decide +kernel : decode mX11_sayWord.2.1 1 = .ok (.istore_n 2, 1)) rfl (by decide) rfl (?_ : XW _ _ _ _ _ _ _ 2 _ _)
  exact vc

set_option maxRecDepth 20000 in
theorem v_X11_sayWord_2 {h : XH} {Q : Option Value → XH → Prop} {X : String → XH → Prop} (hM : xMod (xP h)) (i : Nat) (hi : i < jsN)  (x2 : Int32)
    (vc : ∃ Q1, XSpec mJ0_length_8abf5 2 0 0 100 100 [.ref (1000 + i)] h Q1 xno ∧ ∀ v h1, Q1 v h1 → ∃ r1 : Int32, v = some (.int r1) ∧ ((r1 ≤ x2 → Q none h1) ∧ (¬ r1 ≤ x2 → ∃ Q1, XSpec mJ0_charAt_5068e 4 0 0 100 100 [.ref (1000 + i), .int x2] h1 Q1 xno ∧ ∀ v h2, Q1 v h2 → ∃ r2 : Int32, v = some (.int r2) ∧ (∃ Q1, XSpec mX11_say 1 0 0 100 100 [.ref 56, .int r2] h2 Q1 xno ∧ ∀ v h3, Q1 v h3 → v = none ∧ (XW (xrm 12 0 0) mX11_sayWord (xE 100 Q X 0 0) 100 0 0 h3 2 [some (.ref 56), some (.ref (1000 + i)), some (.int (x2 + 1))] []))))) :
    XW (xrm 12 0 0) mX11_sayWord (xE 100 Q X 0 0) 100 0 0 h 2 [some (.ref 56), some (.ref (1000 + i)), some (.int x2)] [] := by
  refine xi_iload_n (by decide +kernel : decode mX11_sayWord.2.1 2 = .ok (.iload_n 2, 1)) rfl rfl (?_ : XW _ _ _ _ _ _ _ 3 _ _)
  refine xi_aload_n (by decide +kernel : decode mX11_sayWord.2.1 3 = .ok (.aload_n 1, 1)) rfl rfl (?_ : XW _ _ _ _ _ _ _ 4 _ _)
  obtain ⟨Q1, sp, vc⟩ := vc
  refine xi_callVs (b := 0) (bs := 0) (As := []) (st := [.int x2]) (by decide +kernel : decode mX11_sayWord.2.1 4 = .ok (.invokevirtual 217, 3)) (xVs.of (own := RX11) (y := mJ0_length_8abf5) cM_X11_217 cI_J0_length_8abf5 cE_J0_length_8abf5 cN_J0 cC_J0_length_8abf5 cD_J0_length_8abf5) rfl hi rfl sp (by decide) (by decide) (Nat.le_of_ble_eq_true rfl) (by omega) (fun v9 h1 hq9 => ?_)
  obtain ⟨r1, e9, vc⟩ := vc v9 h1 hq9
  subst e9
  show XW _ _ _ _ _ _ _ 7 _ [.int r1, .int x2]
  refine xi_icmp_ge (by decide +kernel : decode mX11_sayWord.2.1 7 = .ok (.if_icmp .ge 18, 3)) (by decide) (fun c => (?_ : XW _ _ _ _ _ _ _ 25 _ _)) (fun c => (?_ : XW _ _ _ _ _ _ _ 10 _ _))
  · replace vc := vc.1 c
    exact xi_vret (by decide +kernel : decode mX11_sayWord.2.1 25 = .ok (.return_, 1)) rfl vc
  · replace vc := vc.2 c
    refine xi_aload_n (by decide +kernel : decode mX11_sayWord.2.1 10 = .ok (.aload_n 0, 1)) rfl rfl (?_ : XW _ _ _ _ _ _ _ 11 _ _)
    refine xi_aload_n (by decide +kernel : decode mX11_sayWord.2.1 11 = .ok (.aload_n 1, 1)) rfl rfl (?_ : XW _ _ _ _ _ _ _ 12 _ _)
    refine xi_iload_n (by decide +kernel : decode mX11_sayWord.2.1 12 = .ok (.iload_n 2, 1)) rfl rfl (?_ : XW _ _ _ _ _ _ _ 13 _ _)
    obtain ⟨Q1, sp, vc⟩ := vc
    refine xi_callVs (b := 0) (bs := 0) (As := [.int x2]) (st := [.ref 56]) (by decide +kernel : decode mX11_sayWord.2.1 13 = .ok (.invokevirtual 221, 3)) (xVs.of (own := RX11) (y := mJ0_charAt_5068e) cM_X11_221 cI_J0_charAt_5068e cE_J0_charAt_5068e cN_J0 cC_J0_charAt_5068e cD_J0_charAt_5068e) rfl hi rfl sp (by decide) (by decide) (Nat.le_of_ble_eq_true rfl) (by omega) (fun v9 h2 hq9 => ?_)
    obtain ⟨r2, e9, vc⟩ := vc v9 h2 hq9
    subst e9
    show XW _ _ _ _ _ _ _ 16 _ [.int r2, .ref 56]
    obtain ⟨Q1, sp, vc⟩ := vc
    refine xi_callV (b := 0) (bs := 0) (As := [.int r2]) (st := []) (by decide +kernel : decode mX11_sayWord.2.1 16 = .ok (.invokevirtual 485, 3)) kX11_485 rfl rfl (by omega) rfl sp (by decide) (by decide) (Nat.le_of_ble_eq_true rfl) (by omega) (fun v9 h3 hq9 => ?_)
    obtain ⟨e9, vc⟩ := vc v9 h3 hq9
    subst e9
    show XW _ _ _ _ _ _ _ 19 _ []
    refine xi_iinc (v := x2 + 1) (ls' := [some (.ref 56), some (.ref (1000 + i)), some (.int (x2 + 1))]) (by decide +kernel : decode mX11_sayWord.2.1 19 = .ok (.iinc 2 1, 3)) rfl rfl (by decide) rfl (?_ : XW _ _ _ _ _ _ _ 22 _ _)
    refine xi_goto (by decide +kernel : decode mX11_sayWord.2.1 22 = .ok (.goto (-20), 3)) (by decide) (?_ : XW _ _ _ _ _ _ _ 2 _ _)
    exact vc

set_option maxRecDepth 20000 in
theorem v_X11_sayNumber_0 {h : XH} {Q : Option Value → XH → Prop} {X : String → XH → Prop} (hM : xMod (xP h))  (w : Int32)
    (vc : ∃ Q1, XSpec mX11_say 1 0 0 100 100 [.ref 56, .int 32] h Q1 xno ∧ ∀ v h1, Q1 v h1 → v = none ∧ (XW (xrm 2 0 0) mX11_sayNumber (xE 100 Q X 0 0) 100 0 0 h1 8 [some (.ref 56), some (.int w), some (.int 1), none] [])) :
    XW (xrm 2 0 0) mX11_sayNumber (xE 100 Q X 0 0) 100 0 0 h 0 [some (.ref 56), some (.int w), none, none] [] := by
  refine xi_aload_n (by decide +kernel : decode mX11_sayNumber.2.1 0 = .ok (.aload_n 0, 1)) rfl rfl (?_ : XW _ _ _ _ _ _ _ 1 _ _)
  refine xi_bipush (v := 32) (by decide +kernel : decode mX11_sayNumber.2.1 1 = .ok (.bipush 32, 2)) (by decide) (?_ : XW _ _ _ _ _ _ _ 3 _ _)
  obtain ⟨Q1, sp, vc⟩ := vc
  refine xi_callV (b := 0) (bs := 0) (As := [.int 32]) (st := []) (by decide +kernel : decode mX11_sayNumber.2.1 3 = .ok (.invokevirtual 485, 3)) kX11_485 rfl rfl (by omega) rfl sp (by decide) (by decide) (Nat.le_of_ble_eq_true rfl) (by omega) (fun v9 h1 hq9 => ?_)
  obtain ⟨e9, vc⟩ := vc v9 h1 hq9
  subst e9
  show XW _ _ _ _ _ _ _ 6 _ []
  refine xi_iconst (v := 1) (by decide +kernel : decode mX11_sayNumber.2.1 6 = .ok (.iconst 1, 1)) (by decide) (?_ : XW _ _ _ _ _ _ _ 7 _ _)
  refine xi_istore_n (ls' := [some (.ref 56), some (.int w), some (.int 1), none]) (by decide +kernel : decode mX11_sayNumber.2.1 7 = .ok (.istore_n 2, 1)) rfl (by decide) rfl (?_ : XW _ _ _ _ _ _ _ 8 _ _)
  exact vc

set_option maxRecDepth 20000 in
theorem v_X11_sayNumber_8 {h : XH} {Q : Option Value → XH → Prop} {X : String → XH → Prop} (hM : xMod (xP h))  (x1 : Int32) (x2 : Int32)
    (vc : (¬ x2 = 0) ∧ (((x1 / x2) ≤ 9 → XW (xrm 2 0 0) mX11_sayNumber (xE 100 Q X 0 0) 100 0 0 h 26 [some (.ref 56), some (.int x1), none, some (.int x2)] []) ∧ (¬ (x1 / x2) ≤ 9 → XW (xrm 2 0 0) mX11_sayNumber (xE 100 Q X 0 0) 100 0 0 h 8 [some (.ref 56), some (.int x1), some (.int (x2 * 10)), none] []))) :
    XW (xrm 2 0 0) mX11_sayNumber (xE 100 Q X 0 0) 100 0 0 h 8 [some (.ref 56), some (.int x1), some (.int x2), none] [] := by
  refine xi_iload_n (by decide +kernel : decode mX11_sayNumber.2.1 8 = .ok (.iload_n 1, 1)) rfl rfl (?_ : XW _ _ _ _ _ _ _ 9 _ _)
  refine xi_iload_n (by decide +kernel : decode mX11_sayNumber.2.1 9 = .ok (.iload_n 2, 1)) rfl rfl (?_ : XW _ _ _ _ _ _ _ 10 _ _)
  obtain ⟨s1, vc⟩ := vc
  refine xi_idiv (by decide +kernel : decode mX11_sayNumber.2.1 10 = .ok (.idiv, 1)) s1 (?_ : XW _ _ _ _ _ _ _ 11 _ _)
  refine xi_bipush (v := 9) (by decide +kernel : decode mX11_sayNumber.2.1 11 = .ok (.bipush 9, 2)) (by decide) (?_ : XW _ _ _ _ _ _ _ 13 _ _)
  refine xi_icmp_le (by decide +kernel : decode mX11_sayNumber.2.1 13 = .ok (.if_icmp .le 11, 3)) (by decide) (fun c => (?_ : XW _ _ _ _ _ _ _ 24 _ _)) (fun c => (?_ : XW _ _ _ _ _ _ _ 16 _ _))
  · replace vc := vc.1 c
    refine xi_iload_n (by decide +kernel : decode mX11_sayNumber.2.1 24 = .ok (.iload_n 2, 1)) rfl rfl (?_ : XW _ _ _ _ _ _ _ 25 _ _)
    refine xi_istore_n (ls' := [some (.ref 56), some (.int x1), some (.int x2), some (.int x2)]) (by decide +kernel : decode mX11_sayNumber.2.1 25 = .ok (.istore_n 3, 1)) rfl (by decide) rfl (?_ : XW _ _ _ _ _ _ _ 26 _ _)
    refine xw_drop 2 (ls' := [some (.ref 56), some (.int x1), none, some (.int x2)]) rfl ?_
    exact vc
  · replace vc := vc.2 c
    refine xi_iload_n (by decide +kernel : decode mX11_sayNumber.2.1 16 = .ok (.iload_n 2, 1)) rfl rfl (?_ : XW _ _ _ _ _ _ _ 17 _ _)
    refine xi_bipush (v := 10) (by decide +kernel : decode mX11_sayNumber.2.1 17 = .ok (.bipush 10, 2)) (by decide) (?_ : XW _ _ _ _ _ _ _ 19 _ _)
    refine xi_imul (by decide +kernel : decode mX11_sayNumber.2.1 19 = .ok (.imul, 1)) (?_ : XW _ _ _ _ _ _ _ 20 _ _)
    refine xi_istore_n (ls' := [some (.ref 56), some (.int x1), some (.int (x2 * 10)), none]) (by decide +kernel : decode mX11_sayNumber.2.1 20 = .ok (.istore_n 2, 1)) rfl (by decide) rfl (?_ : XW _ _ _ _ _ _ _ 21 _ _)
    refine xi_goto (by decide +kernel : decode mX11_sayNumber.2.1 21 = .ok (.goto (-13), 3)) (by decide) (?_ : XW _ _ _ _ _ _ _ 8 _ _)
    exact vc

set_option maxRecDepth 20000 in
theorem v_X11_sayNumber_26 {h : XH} {Q : Option Value → XH → Prop} {X : String → XH → Prop} (hM : xMod (xP h))  (x1 : Int32) (x3 : Int32)
    (vc : (x3 ≤ 0 → Q none h) ∧ (¬ x3 ≤ 0 → (¬ x3 = 0) ∧ (∃ Q1, XSpec mX11_say 1 0 0 100 100 [.ref 56, .int (48 + ((x1 / x3) - (x1 / x3) / 10 * 10))] h Q1 xno ∧ ∀ v h2, Q1 v h2 → v = none ∧ (XW (xrm 2 0 0) mX11_sayNumber (xE 100 Q X 0 0) 100 0 0 h2 26 [some (.ref 56), some (.int x1), none, some (.int (x3 / 10))] [])))) :
    XW (xrm 2 0 0) mX11_sayNumber (xE 100 Q X 0 0) 100 0 0 h 26 [some (.ref 56), some (.int x1), none, some (.int x3)] [] := by
  refine xi_iload_n (by decide +kernel : decode mX11_sayNumber.2.1 26 = .ok (.iload_n 3, 1)) rfl rfl (?_ : XW _ _ _ _ _ _ _ 27 _ _)
  refine xi_if_le (by decide +kernel : decode mX11_sayNumber.2.1 27 = .ok (.ifCond .le 24, 3)) (by decide) (fun c => (?_ : XW _ _ _ _ _ _ _ 51 _ _)) (fun c => (?_ : XW _ _ _ _ _ _ _ 30 _ _))
  · replace vc := vc.1 c
    exact xi_vret (by decide +kernel : decode mX11_sayNumber.2.1 51 = .ok (.return_, 1)) rfl vc
  · replace vc := vc.2 c
    refine xi_aload_n (by decide +kernel : decode mX11_sayNumber.2.1 30 = .ok (.aload_n 0, 1)) rfl rfl (?_ : XW _ _ _ _ _ _ _ 31 _ _)
    refine xi_bipush (v := 48) (by decide +kernel : decode mX11_sayNumber.2.1 31 = .ok (.bipush 48, 2)) (by decide) (?_ : XW _ _ _ _ _ _ _ 33 _ _)
    refine xi_iload_n (by decide +kernel : decode mX11_sayNumber.2.1 33 = .ok (.iload_n 1, 1)) rfl rfl (?_ : XW _ _ _ _ _ _ _ 34 _ _)
    refine xi_iload_n (by decide +kernel : decode mX11_sayNumber.2.1 34 = .ok (.iload_n 3, 1)) rfl rfl (?_ : XW _ _ _ _ _ _ _ 35 _ _)
    obtain ⟨s1, vc⟩ := vc
    refine xi_idiv (by decide +kernel : decode mX11_sayNumber.2.1 35 = .ok (.idiv, 1)) s1 (?_ : XW _ _ _ _ _ _ _ 36 _ _)
    refine xi_bipush (v := 10) (by decide +kernel : decode mX11_sayNumber.2.1 36 = .ok (.bipush 10, 2)) (by decide) (?_ : XW _ _ _ _ _ _ _ 38 _ _)
    refine xi_irem (by decide +kernel : decode mX11_sayNumber.2.1 38 = .ok (.irem, 1)) (by decide) (?_ : XW _ _ _ _ _ _ _ 39 _ _)
    refine xi_iadd (by decide +kernel : decode mX11_sayNumber.2.1 39 = .ok (.iadd, 1)) (?_ : XW _ _ _ _ _ _ _ 40 _ _)
    obtain ⟨Q1, sp, vc⟩ := vc
    refine xi_callV (b := 0) (bs := 0) (As := [.int (48 + ((x1 / x3) - (x1 / x3) / 10 * 10))]) (st := []) (by decide +kernel : decode mX11_sayNumber.2.1 40 = .ok (.invokevirtual 485, 3)) kX11_485 rfl rfl (by omega) rfl sp (by decide) (by decide) (Nat.le_of_ble_eq_true rfl) (by omega) (fun v9 h2 hq9 => ?_)
    obtain ⟨e9, vc⟩ := vc v9 h2 hq9
    subst e9
    show XW _ _ _ _ _ _ _ 43 _ []
    refine xi_iload_n (by decide +kernel : decode mX11_sayNumber.2.1 43 = .ok (.iload_n 3, 1)) rfl rfl (?_ : XW _ _ _ _ _ _ _ 44 _ _)
    refine xi_bipush (v := 10) (by decide +kernel : decode mX11_sayNumber.2.1 44 = .ok (.bipush 10, 2)) (by decide) (?_ : XW _ _ _ _ _ _ _ 46 _ _)
    refine xi_idiv (by decide +kernel : decode mX11_sayNumber.2.1 46 = .ok (.idiv, 1)) (by decide) (?_ : XW _ _ _ _ _ _ _ 47 _ _)
    refine xi_istore_n (ls' := [some (.ref 56), some (.int x1), none, some (.int (x3 / 10))]) (by decide +kernel : decode mX11_sayNumber.2.1 47 = .ok (.istore_n 3, 1)) rfl (by decide) rfl (?_ : XW _ _ _ _ _ _ _ 48 _ _)
    refine xi_goto (by decide +kernel : decode mX11_sayNumber.2.1 48 = .ok (.goto (-22), 3)) (by decide) (?_ : XW _ _ _ _ _ _ _ 26 _ _)
    exact vc

set_option maxRecDepth 20000 in
theorem v_X11_sayLine_0 {h : XH} {Q : Option Value → XH → Prop} {X : String → XH → Prop} (hM : xMod (xP h)) (i : Nat) (hi : i < jsN)  (w : Int32)
    (vc : ∃ Q1, XSpec mX11_sayWord 12 0 0 100 100 [.ref 56, .ref (1000 + i)] h Q1 xno ∧ ∀ v h1, Q1 v h1 → v = none ∧ (∃ Q1, XSpec mX11_sayNumber 2 0 0 100 100 [.ref 56, .int w] h1 Q1 xno ∧ ∀ v h2, Q1 v h2 → v = none ∧ (∃ Q1, XSpec mX11_say 1 0 0 100 100 [.ref 56, .int 59] h2 Q1 xno ∧ ∀ v h3, Q1 v h3 → v = none ∧ (Q none h3)))) :
    XW (xrm 13 0 0) mX11_sayLine (xE 100 Q X 0 0) 100 0 0 h 0 [some (.ref 56), some (.ref (1000 + i)), some (.int w)] [] := by
  refine xi_aload_n (by decide +kernel : decode mX11_sayLine.2.1 0 = .ok (.aload_n 0, 1)) rfl rfl (?_ : XW _ _ _ _ _ _ _ 1 _ _)
  refine xi_aload_n (by decide +kernel : decode mX11_sayLine.2.1 1 = .ok (.aload_n 1, 1)) rfl rfl (?_ : XW _ _ _ _ _ _ _ 2 _ _)
  obtain ⟨Q1, sp, vc⟩ := vc
  refine xi_callV (b := 0) (bs := 0) (As := [.ref (1000 + i)]) (st := []) (by decide +kernel : decode mX11_sayLine.2.1 2 = .ok (.invokevirtual 488, 3)) kX11_488 rfl rfl (by omega) rfl sp (by decide) (by decide) (Nat.le_of_ble_eq_true rfl) (by omega) (fun v9 h1 hq9 => ?_)
  obtain ⟨e9, vc⟩ := vc v9 h1 hq9
  subst e9
  show XW _ _ _ _ _ _ _ 5 _ []
  refine xi_aload_n (by decide +kernel : decode mX11_sayLine.2.1 5 = .ok (.aload_n 0, 1)) rfl rfl (?_ : XW _ _ _ _ _ _ _ 6 _ _)
  refine xi_iload_n (by decide +kernel : decode mX11_sayLine.2.1 6 = .ok (.iload_n 2, 1)) rfl rfl (?_ : XW _ _ _ _ _ _ _ 7 _ _)
  obtain ⟨Q1, sp, vc⟩ := vc
  refine xi_callV (b := 0) (bs := 0) (As := [.int w]) (st := []) (by decide +kernel : decode mX11_sayLine.2.1 7 = .ok (.invokevirtual 492, 3)) kX11_492 rfl rfl (by omega) rfl sp (by decide) (by decide) (Nat.le_of_ble_eq_true rfl) (by omega) (fun v9 h2 hq9 => ?_)
  obtain ⟨e9, vc⟩ := vc v9 h2 hq9
  subst e9
  show XW _ _ _ _ _ _ _ 10 _ []
  refine xi_aload_n (by decide +kernel : decode mX11_sayLine.2.1 10 = .ok (.aload_n 0, 1)) rfl rfl (?_ : XW _ _ _ _ _ _ _ 11 _ _)
  refine xi_bipush (v := 59) (by decide +kernel : decode mX11_sayLine.2.1 11 = .ok (.bipush 59, 2)) (by decide) (?_ : XW _ _ _ _ _ _ _ 13 _ _)
  obtain ⟨Q1, sp, vc⟩ := vc
  refine xi_callV (b := 0) (bs := 0) (As := [.int 59]) (st := []) (by decide +kernel : decode mX11_sayLine.2.1 13 = .ok (.invokevirtual 485, 3)) kX11_485 rfl rfl (by omega) rfl sp (by decide) (by decide) (Nat.le_of_ble_eq_true rfl) (by omega) (fun v9 h3 hq9 => ?_)
  obtain ⟨e9, vc⟩ := vc v9 h3 hq9
  subst e9
  show XW _ _ _ _ _ _ _ 16 _ []
  exact xi_vret (by decide +kernel : decode mX11_sayLine.2.1 16 = .ok (.return_, 1)) rfl vc

set_option maxRecDepth 20000 in
theorem v_X11_tellText_0 {h : XH} {Q : Option Value → XH → Prop} {X : String → XH → Prop} (hM : xMod (xP h)) 
    (vc : ∃ Q1, XSpec mX11_sayLine 13 0 0 100 100 [.ref 56, .ref (1000 + 34), .int (xI h 59 0)] (xSI 56 (va_up (xI h 56) 49 0) h) Q1 xno ∧ ∀ v h1, Q1 v h1 → v = none ∧ (∃ Q1, XSpec mX11_sayWord 12 0 0 100 100 [.ref 56, .ref (1000 + 36)] h1 Q1 xno ∧ ∀ v h2, Q1 v h2 → v = none ∧ (XW (xrm 14 0 0) mX11_tellText (xE 100 Q X 0 0) 100 0 0 h2 26 [some (.ref 56), some (.int 0)] []))) :
    XW (xrm 14 0 0) mX11_tellText (xE 100 Q X 0 0) 100 0 0 h 0 [some (.ref 56), none] [] := by
  refine xi_aload_n (by decide +kernel : decode mX11_tellText.2.1 0 = .ok (.aload_n 0, 1)) rfl rfl (?_ : XW _ _ _ _ _ _ _ 1 _ _)
  refine xi_iconst (v := 0) (by decide +kernel : decode mX11_tellText.2.1 1 = .ok (.iconst 0, 1)) (by decide) (?_ : XW _ _ _ _ _ _ _ 2 _ _)
  refine xi_putI (by decide +kernel : decode mX11_tellText.2.1 2 = .ok (.putfield 482, 3)) fX11_482 rfl (by omega) rfl rfl rfl (?_ : XW _ _ _ _ _ _ (xSI 56 (va_up (xI h 56) 49 0) h) 5 _ _)
  refine xi_aload_n (by decide +kernel : decode mX11_tellText.2.1 5 = .ok (.aload_n 0, 1)) rfl rfl (?_ : XW _ _ _ _ _ _ _ 6 _ _)
  refine xi_ldcS (j := 34) (by decide +kernel : decode mX11_tellText.2.1 6 = .ok (.ldc 25, 2)) rfl (by decide) (?_ : XW _ _ _ _ _ _ _ 8 _ _)
  refine xi_aload_n (by decide +kernel : decode mX11_tellText.2.1 8 = .ok (.aload_n 0, 1)) rfl rfl (?_ : XW _ _ _ _ _ _ _ 9 _ _)
  refine xi_getR (y := 59) (by decide +kernel : decode mX11_tellText.2.1 9 = .ok (.getfield 32, 3)) fX11_32 rfl (by omega) rfl (mp_told hM) (?_ : XW _ _ _ _ _ _ _ 12 _ _)
  refine xi_iconst (v := 0) (by decide +kernel : decode mX11_tellText.2.1 12 = .ok (.iconst 0, 1)) (by decide) (?_ : XW _ _ _ _ _ _ _ 13 _ _)
  refine xi_iald (by decide +kernel : decode mX11_tellText.2.1 13 = .ok (.iaload, 1)) rfl (by omega) (by unfold vp_in; decide) (?_ : XW _ _ _ _ _ _ _ 14 _ [.int (xI h 59 0), .ref (1000 + 34), .ref 56])
  obtain ⟨Q1, sp, vc⟩ := vc
  refine xi_callV (b := 0) (bs := 0) (As := [.ref (1000 + 34), .int (xI h 59 0)]) (st := []) (by decide +kernel : decode mX11_tellText.2.1 14 = .ok (.invokevirtual 495, 3)) kX11_495 rfl rfl (by omega) rfl sp (by decide) (by decide) (Nat.le_of_ble_eq_true rfl) (by omega) (fun v9 h1 hq9 => ?_)
  obtain ⟨e9, vc⟩ := vc v9 h1 hq9
  subst e9
  show XW _ _ _ _ _ _ _ 17 _ []
  refine xi_aload_n (by decide +kernel : decode mX11_tellText.2.1 17 = .ok (.aload_n 0, 1)) rfl rfl (?_ : XW _ _ _ _ _ _ _ 18 _ _)
  refine xi_ldcwS (j := 36) (by decide +kernel : decode mX11_tellText.2.1 18 = .ok (.ldc_w 289, 3)) rfl (by decide) (?_ : XW _ _ _ _ _ _ _ 21 _ _)
  obtain ⟨Q1, sp, vc⟩ := vc
  refine xi_callV (b := 0) (bs := 0) (As := [.ref (1000 + 36)]) (st := []) (by decide +kernel : decode mX11_tellText.2.1 21 = .ok (.invokevirtual 488, 3)) kX11_488 rfl rfl (by omega) rfl sp (by decide) (by decide) (Nat.le_of_ble_eq_true rfl) (by omega) (fun v9 h2 hq9 => ?_)
  obtain ⟨e9, vc⟩ := vc v9 h2 hq9
  subst e9
  show XW _ _ _ _ _ _ _ 24 _ []
  refine xi_iconst (v := 0) (by decide +kernel : decode mX11_tellText.2.1 24 = .ok (.iconst 0, 1)) (by decide) (?_ : XW _ _ _ _ _ _ _ 25 _ _)
  refine xi_istore_n (ls' := [some (.ref 56), some (.int 0)]) (by decide +kernel : decode mX11_tellText.2.1 25 = .ok (.istore_n 1, 1)) rfl (by decide) rfl (?_ : XW _ _ _ _ _ _ _ 26 _ _)
  exact vc

set_option maxRecDepth 20000 in
theorem v_X11_tellText_26 {h : XH} {Q : Option Value → XH → Prop} {X : String → XH → Prop} (hM : xMod (xP h))  (x1 : Int32)
    (vc : (6 ≤ x1 → ∃ Q1, XSpec mX11_say 1 0 0 100 100 [.ref 56, .int 59] h Q1 xno ∧ ∀ v h3, Q1 v h3 → v = none ∧ (XW (xrm 14 0 0) mX11_tellText (xE 100 Q X 0 0) 100 0 0 h3 56 [some (.ref 56), some (.int 0)] [])) ∧ (¬ 6 ≤ x1 → (vp_in x1 12) ∧ (∃ Q1, XSpec mX11_sayNumber 2 0 0 100 100 [.ref 56, .int (xI h 60 x1.toNatClampNeg)] h Q1 xno ∧ ∀ v h4, Q1 v h4 → v = none ∧ (XW (xrm 14 0 0) mX11_tellText (xE 100 Q X 0 0) 100 0 0 h4 26 [some (.ref 56), some (.int (x1 + 1))] [])))) :
    XW (xrm 14 0 0) mX11_tellText (xE 100 Q X 0 0) 100 0 0 h 26 [some (.ref 56), some (.int x1)] [] := by
  refine xi_iload_n (by decide +kernel : decode mX11_tellText.2.1 26 = .ok (.iload_n 1, 1)) rfl rfl (?_ : XW _ _ _ _ _ _ _ 27 _ _)
  refine xi_bipush (v := 6) (by decide +kernel : decode mX11_tellText.2.1 27 = .ok (.bipush 6, 2)) (by decide) (?_ : XW _ _ _ _ _ _ _ 29 _ _)
  refine xi_icmp_ge (by decide +kernel : decode mX11_tellText.2.1 29 = .ok (.if_icmp .ge 19, 3)) (by decide) (fun c => (?_ : XW _ _ _ _ _ _ _ 48 _ _)) (fun c => (?_ : XW _ _ _ _ _ _ _ 32 _ _))
  · replace vc := vc.1 c
    refine xi_aload_n (by decide +kernel : decode mX11_tellText.2.1 48 = .ok (.aload_n 0, 1)) rfl rfl (?_ : XW _ _ _ _ _ _ _ 49 _ _)
    refine xi_bipush (v := 59) (by decide +kernel : decode mX11_tellText.2.1 49 = .ok (.bipush 59, 2)) (by decide) (?_ : XW _ _ _ _ _ _ _ 51 _ _)
    obtain ⟨Q1, sp, vc⟩ := vc
    refine xi_callV (b := 0) (bs := 0) (As := [.int 59]) (st := []) (by decide +kernel : decode mX11_tellText.2.1 51 = .ok (.invokevirtual 485, 3)) kX11_485 rfl rfl (by omega) rfl sp (by decide) (by decide) (Nat.le_of_ble_eq_true rfl) (by omega) (fun v9 h3 hq9 => ?_)
    obtain ⟨e9, vc⟩ := vc v9 h3 hq9
    subst e9
    show XW _ _ _ _ _ _ _ 54 _ []
    refine xi_iconst (v := 0) (by decide +kernel : decode mX11_tellText.2.1 54 = .ok (.iconst 0, 1)) (by decide) (?_ : XW _ _ _ _ _ _ _ 55 _ _)
    refine xi_istore_n (ls' := [some (.ref 56), some (.int 0)]) (by decide +kernel : decode mX11_tellText.2.1 55 = .ok (.istore_n 1, 1)) rfl (by decide) rfl (?_ : XW _ _ _ _ _ _ _ 56 _ _)
    exact vc
  · replace vc := vc.2 c
    refine xi_aload_n (by decide +kernel : decode mX11_tellText.2.1 32 = .ok (.aload_n 0, 1)) rfl rfl (?_ : XW _ _ _ _ _ _ _ 33 _ _)
    refine xi_aload_n (by decide +kernel : decode mX11_tellText.2.1 33 = .ok (.aload_n 0, 1)) rfl rfl (?_ : XW _ _ _ _ _ _ _ 34 _ _)
    refine xi_getR (y := 60) (by decide +kernel : decode mX11_tellText.2.1 34 = .ok (.getfield 36, 3)) fX11_36 rfl (by omega) rfl (mp_die hM) (?_ : XW _ _ _ _ _ _ _ 37 _ _)
    refine xi_iload_n (by decide +kernel : decode mX11_tellText.2.1 37 = .ok (.iload_n 1, 1)) rfl rfl (?_ : XW _ _ _ _ _ _ _ 38 _ _)
    obtain ⟨s1, vc⟩ := vc
    refine xi_iald (by decide +kernel : decode mX11_tellText.2.1 38 = .ok (.iaload, 1)) rfl (by omega) s1 (?_ : XW _ _ _ _ _ _ _ 39 _ _)
    obtain ⟨Q1, sp, vc⟩ := vc
    refine xi_callV (b := 0) (bs := 0) (As := [.int (xI h 60 x1.toNatClampNeg)]) (st := []) (by decide +kernel : decode mX11_tellText.2.1 39 = .ok (.invokevirtual 492, 3)) kX11_492 rfl rfl (by omega) rfl sp (by decide) (by decide) (Nat.le_of_ble_eq_true rfl) (by omega) (fun v9 h4 hq9 => ?_)
    obtain ⟨e9, vc⟩ := vc v9 h4 hq9
    subst e9
    show XW _ _ _ _ _ _ _ 42 _ []
    refine xi_iinc (v := x1 + 1) (ls' := [some (.ref 56), some (.int (x1 + 1))]) (by decide +kernel : decode mX11_tellText.2.1 42 = .ok (.iinc 1 1, 3)) rfl rfl (by decide) rfl (?_ : XW _ _ _ _ _ _ _ 45 _ _)
    refine xi_goto (by decide +kernel : decode mX11_tellText.2.1 45 = .ok (.goto (-19), 3)) (by decide) (?_ : XW _ _ _ _ _ _ _ 26 _ _)
    exact vc

set_option maxRecDepth 20000 in
theorem v_X11_tellText_56 {h : XH} {Q : Option Value → XH → Prop} {X : String → XH → Prop} (hM : xMod (xP h))  (x1 : Int32)
    (vc : ((xI h 59 1) ≤ x1 → ∃ Q1, XSpec mX11_sayWord 12 0 0 100 100 [.ref 56, .ref (1000 + 46)] h Q1 xno ∧ ∀ v h5, Q1 v h5 → v = none ∧ ((xP h5 56 0 = some 57) ∧ ((xP h5 56 3 = some 59) ∧ ((vp_in (xI h5 59 3) 3) ∧ (∃ y6 : Nat, (xP h5 57 (xI h5 59 3).toNatClampNeg = some y6) ∧ (∃ Q1, XSpec mX11_sayWord 12 0 0 100 100 [.ref 56, .ref y6] h5 Q1 xno ∧ ∀ v h7, Q1 v h7 → v = none ∧ (∃ Q1, XSpec mX11_say 1 0 0 100 100 [.ref 56, .int 59] h7 Q1 xno ∧ ∀ v h8, Q1 v h8 → v = none ∧ ((xP h8 56 3 = some 59) ∧ (((xI h8 59 4) ≤ 0 → (xP h8 56 3 = some 59) ∧ (((xI h8 59 5) ≤ 0 → (xP h8 56 3 = some 59) ∧ (∃ Q1, XSpec mX11_sayLine 13 0 0 100 100 [.ref 56, .ref (1000 + 40), .int (xI h8 59 2)] h8 Q1 xno ∧ ∀ v h9, Q1 v h9 → v = none ∧ ((xP h9 56 3 = some 59) ∧ ((¬ (xI h9 59 6) = 0 → ∃ Q1, XSpec mX11_sayWord 12 0 0 100 100 [.ref 56, .ref (1000 + 48)] h9 Q1 xno ∧ ∀ v h10, Q1 v h10 → v = none ∧ (XW (xrm 14 0 0) mX11_tellText (xE 100 Q X 0 0) 100 0 0 h10 204 [some (.ref 56), some (.int 0)] [])) ∧ ((xI h9 59 6) = 0 → Q none h9))))) ∧ (¬ (xI h8 59 5) ≤ 0 → ∃ Q1, XSpec mX11_sayWord 12 0 0 100 100 [.ref 56, .ref (1000 + 47)] h8 Q1 xno ∧ ∀ v h11, Q1 v h11 → v = none ∧ ((xP h11 56 3 = some 59) ∧ (∃ Q1, XSpec mX11_sayLine 13 0 0 100 100 [.ref 56, .ref (1000 + 40), .int (xI h11 59 2)] h11 Q1 xno ∧ ∀ v h12, Q1 v h12 → v = none ∧ ((xP h12 56 3 = some 59) ∧ ((¬ (xI h12 59 6) = 0 → ∃ Q1, XSpec mX11_sayWord 12 0 0 100 100 [.ref 56, .ref (1000 + 48)] h12 Q1 xno ∧ ∀ v h13, Q1 v h13 → v = none ∧ (XW (xrm 14 0 0) mX11_tellText (xE 100 Q X 0 0) 100 0 0 h13 204 [some (.ref 56), some (.int 0)] [])) ∧ ((xI h12 59 6) = 0 → Q none h12)))))))) ∧ (¬ (xI h8 59 4) ≤ 0 → (xP h8 56 3 = some 59) ∧ (∃ Q1, XSpec mX11_sayLine 13 0 0 100 100 [.ref 56, .ref (1000 + 38), .int (xI h8 59 4)] h8 Q1 xno ∧ ∀ v h14, Q1 v h14 → v = none ∧ ((xP h14 56 3 = some 59) ∧ (((xI h14 59 5) ≤ 0 → (xP h14 56 3 = some 59) ∧ (∃ Q1, XSpec mX11_sayLine 13 0 0 100 100 [.ref 56, .ref (1000 + 40), .int (xI h14 59 2)] h14 Q1 xno ∧ ∀ v h15, Q1 v h15 → v = none ∧ ((xP h15 56 3 = some 59) ∧ ((¬ (xI h15 59 6) = 0 → ∃ Q1, XSpec mX11_sayWord 12 0 0 100 100 [.ref 56, .ref (1000 + 48)] h15 Q1 xno ∧ ∀ v h16, Q1 v h16 → v = none ∧ (XW (xrm 14 0 0) mX11_tellText (xE 100 Q X 0 0) 100 0 0 h16 204 [some (.ref 56), some (.int 0)] [])) ∧ ((xI h15 59 6) = 0 → Q none h15))))) ∧ (¬ (xI h14 59 5) ≤ 0 → ∃ Q1, XSpec mX11_sayWord 12 0 0 100 100 [.ref 56, .ref (1000 + 47)] h14 Q1 xno ∧ ∀ v h17, Q1 v h17 → v = none ∧ ((xP h17 56 3 = some 59) ∧ (∃ Q1, XSpec mX11_sayLine 13 0 0 100 100 [.ref 56, .ref (1000 + 40), .int (xI h17 59 2)] h17 Q1 xno ∧ ∀ v h18, Q1 v h18 → v = none ∧ ((xP h18 56 3 = some 59) ∧ ((¬ (xI h18 59 6) = 0 → ∃ Q1, XSpec mX11_sayWord 12 0 0 100 100 [.ref 56, .ref (1000 + 48)] h18 Q1 xno ∧ ∀ v h19, Q1 v h19 → v = none ∧ (XW (xrm 14 0 0) mX11_tellText (xE 100 Q X 0 0) 100 0 0 h19 204 [some (.ref 56), some (.int 0)] [])) ∧ ((xI h18 59 6) = 0 → Q none h18))))))))))))))))))) ∧ (¬ (xI h 59 1) ≤ x1 → ∃ Q1, XSpec mX11_sayWord 12 0 0 100 100 [.ref 56, .ref (1000 + 42)] h Q1 xno ∧ ∀ v h20, Q1 v h20 → v = none ∧ ((xP h20 56 5 = some 61) ∧ ((vp_in x1 48) ∧ (∃ Q1, XSpec mX11_sayNumber 2 0 0 100 100 [.ref 56, .int (xI h20 61 x1.toNatClampNeg)] h20 Q1 xno ∧ ∀ v h21, Q1 v h21 → v = none ∧ ((xP h21 56 6 = some 62) ∧ ((vp_in x1 48) ∧ (∃ Q1, XSpec mX11_sayNumber 2 0 0 100 100 [.ref 56, .int (xI h21 62 x1.toNatClampNeg)] h21 Q1 xno ∧ ∀ v h22, Q1 v h22 → v = none ∧ (∃ Q1, XSpec mX11_say 1 0 0 100 100 [.ref 56, .int 59] h22 Q1 xno ∧ ∀ v h23, Q1 v h23 → v = none ∧ (XW (xrm 14 0 0) mX11_tellText (xE 100 Q X 0 0) 100 0 0 h23 56 [some (.ref 56), some (.int (x1 + 1))] [])))))))))) :
    XW (xrm 14 0 0) mX11_tellText (xE 100 Q X 0 0) 100 0 0 h 56 [some (.ref 56), some (.int x1)] [] := by
  refine xi_iload_n (by decide +kernel : decode mX11_tellText.2.1 56 = .ok (.iload_n 1, 1)) rfl rfl (?_ : XW _ _ _ _ _ _ _ 57 _ _)
  refine xi_aload_n (by decide +kernel : decode mX11_tellText.2.1 57 = .ok (.aload_n 0, 1)) rfl rfl (?_ : XW _ _ _ _ _ _ _ 58 _ _)
  refine xi_getR (y := 59) (by decide +kernel : decode mX11_tellText.2.1 58 = .ok (.getfield 32, 3)) fX11_32 rfl (by omega) rfl (mp_told hM) (?_ : XW _ _ _ _ _ _ _ 61 _ _)
  refine xi_iconst (v := 1) (by decide +kernel : decode mX11_tellText.2.1 61 = .ok (.iconst 1, 1)) (by decide) (?_ : XW _ _ _ _ _ _ _ 62 _ _)
  refine xi_iald (by decide +kernel : decode mX11_tellText.2.1 62 = .ok (.iaload, 1)) rfl (by omega) (by unfold vp_in; decide) (?_ : XW _ _ _ _ _ _ _ 63 _ [.int (xI h 59 1), .int x1])
  refine xi_icmp_ge (by decide +kernel : decode mX11_tellText.2.1 63 = .ok (.if_icmp .ge 42, 3)) (by decide) (fun c => (?_ : XW _ _ _ _ _ _ _ 105 _ _)) (fun c => (?_ : XW _ _ _ _ _ _ _ 66 _ _))
  · replace vc := vc.1 c
    refine xi_aload_n (by decide +kernel : decode mX11_tellText.2.1 105 = .ok (.aload_n 0, 1)) rfl rfl (?_ : XW _ _ _ _ _ _ _ 106 _ _)
    refine xi_ldcwS (j := 46) (by decide +kernel : decode mX11_tellText.2.1 106 = .ok (.ldc_w 499, 3)) rfl (by decide) (?_ : XW _ _ _ _ _ _ _ 109 _ _)
    obtain ⟨Q1, sp, vc⟩ := vc
    refine xi_callV (b := 0) (bs := 0) (As := [.ref (1000 + 46)]) (st := []) (by decide +kernel : decode mX11_tellText.2.1 109 = .ok (.invokevirtual 488, 3)) kX11_488 rfl rfl (by omega) rfl sp (by decide) (by decide) (Nat.le_of_ble_eq_true rfl) (by omega) (fun v9 h5 hq9 => ?_)
    obtain ⟨e9, vc⟩ := vc v9 h5 hq9
    subst e9
    show XW _ _ _ _ _ _ _ 112 _ []
    refine xi_aload_n (by decide +kernel : decode mX11_tellText.2.1 112 = .ok (.aload_n 0, 1)) rfl rfl (?_ : XW _ _ _ _ _ _ _ 113 _ _)
    refine xi_aload_n (by decide +kernel : decode mX11_tellText.2.1 113 = .ok (.aload_n 0, 1)) rfl rfl (?_ : XW _ _ _ _ _ _ _ 114 _ _)
    obtain ⟨s1, vc⟩ := vc
    refine xi_getR (y := 57) (by decide +kernel : decode mX11_tellText.2.1 114 = .ok (.getfield 15, 3)) fX11_15 rfl (by omega) rfl s1 (?_ : XW _ _ _ _ _ _ _ 117 _ _)
    refine xi_aload_n (by decide +kernel : decode mX11_tellText.2.1 117 = .ok (.aload_n 0, 1)) rfl rfl (?_ : XW _ _ _ _ _ _ _ 118 _ _)
    obtain ⟨s1, vc⟩ := vc
    refine xi_getR (y := 59) (by decide +kernel : decode mX11_tellText.2.1 118 = .ok (.getfield 32, 3)) fX11_32 rfl (by omega) rfl s1 (?_ : XW _ _ _ _ _ _ _ 121 _ _)
    refine xi_iconst (v := 3) (by decide +kernel : decode mX11_tellText.2.1 121 = .ok (.iconst 3, 1)) (by decide) (?_ : XW _ _ _ _ _ _ _ 122 _ _)
    refine xi_iald (by decide +kernel : decode mX11_tellText.2.1 122 = .ok (.iaload, 1)) rfl (by omega) (by unfold vp_in; decide) (?_ : XW _ _ _ _ _ _ _ 123 _ [.int (xI h5 59 3), .ref 57, .ref 56])
    obtain ⟨s1, vc⟩ := vc
    obtain ⟨y6, s2, vc⟩ := vc
    refine xi_aald (y := y6) (by decide +kernel : decode mX11_tellText.2.1 123 = .ok (.aaload, 1)) rfl (by omega) s1 s2 (?_ : XW _ _ _ _ _ _ _ 124 _ [.ref y6, .ref 56])
    obtain ⟨Q1, sp, vc⟩ := vc
    refine xi_callV (b := 0) (bs := 0) (As := [.ref y6]) (st := []) (by decide +kernel : decode mX11_tellText.2.1 124 = .ok (.invokevirtual 488, 3)) kX11_488 rfl rfl (by omega) rfl sp (by decide) (by decide) (Nat.le_of_ble_eq_true rfl) (by omega) (fun v9 h7 hq9 => ?_)
    obtain ⟨e9, vc⟩ := vc v9 h7 hq9
    subst e9
    show XW _ _ _ _ _ _ _ 127 _ []
    refine xi_aload_n (by decide +kernel : decode mX11_tellText.2.1 127 = .ok (.aload_n 0, 1)) rfl rfl (?_ : XW _ _ _ _ _ _ _ 128 _ _)
    refine xi_bipush (v := 59) (by decide +kernel : decode mX11_tellText.2.1 128 = .ok (.bipush 59, 2)) (by decide) (?_ : XW _ _ _ _ _ _ _ 130 _ _)
    obtain ⟨Q1, sp, vc⟩ := vc
    refine xi_callV (b := 0) (bs := 0) (As := [.int 59]) (st := []) (by decide +kernel : decode mX11_tellText.2.1 130 = .ok (.invokevirtual 485, 3)) kX11_485 rfl rfl (by omega) rfl sp (by decide) (by decide) (Nat.le_of_ble_eq_true rfl) (by omega) (fun v9 h8 hq9 => ?_)
    obtain ⟨e9, vc⟩ := vc v9 h8 hq9
    subst e9
    show XW _ _ _ _ _ _ _ 133 _ []
    refine xi_aload_n (by decide +kernel : decode mX11_tellText.2.1 133 = .ok (.aload_n 0, 1)) rfl rfl (?_ : XW _ _ _ _ _ _ _ 134 _ _)
    obtain ⟨s1, vc⟩ := vc
    refine xi_getR (y := 59) (by decide +kernel : decode mX11_tellText.2.1 134 = .ok (.getfield 32, 3)) fX11_32 rfl (by omega) rfl s1 (?_ : XW _ _ _ _ _ _ _ 137 _ _)
    refine xi_iconst (v := 4) (by decide +kernel : decode mX11_tellText.2.1 137 = .ok (.iconst 4, 1)) (by decide) (?_ : XW _ _ _ _ _ _ _ 138 _ _)
    refine xi_iald (by decide +kernel : decode mX11_tellText.2.1 138 = .ok (.iaload, 1)) rfl (by omega) (by unfold vp_in; decide) (?_ : XW _ _ _ _ _ _ _ 139 _ [.int (xI h8 59 4)])
    refine xi_if_le (by decide +kernel : decode mX11_tellText.2.1 139 = .ok (.ifCond .le 16, 3)) (by decide) (fun c => (?_ : XW _ _ _ _ _ _ _ 155 _ _)) (fun c => (?_ : XW _ _ _ _ _ _ _ 142 _ _))
    · replace vc := vc.1 c
      refine xi_aload_n (by decide +kernel : decode mX11_tellText.2.1 155 = .ok (.aload_n 0, 1)) rfl rfl (?_ : XW _ _ _ _ _ _ _ 156 _ _)
      obtain ⟨s1, vc⟩ := vc
      refine xi_getR (y := 59) (by decide +kernel : decode mX11_tellText.2.1 156 = .ok (.getfield 32, 3)) fX11_32 rfl (by omega) rfl s1 (?_ : XW _ _ _ _ _ _ _ 159 _ _)
      refine xi_iconst (v := 5) (by decide +kernel : decode mX11_tellText.2.1 159 = .ok (.iconst 5, 1)) (by decide) (?_ : XW _ _ _ _ _ _ _ 160 _ _)
      refine xi_iald (by decide +kernel : decode mX11_tellText.2.1 160 = .ok (.iaload, 1)) rfl (by omega) (by unfold vp_in; decide) (?_ : XW _ _ _ _ _ _ _ 161 _ [.int (xI h8 59 5)])
      refine xi_if_le (by decide +kernel : decode mX11_tellText.2.1 161 = .ok (.ifCond .le 10, 3)) (by decide) (fun c => (?_ : XW _ _ _ _ _ _ _ 171 _ _)) (fun c => (?_ : XW _ _ _ _ _ _ _ 164 _ _))
      · replace vc := vc.1 c
        refine xi_aload_n (by decide +kernel : decode mX11_tellText.2.1 171 = .ok (.aload_n 0, 1)) rfl rfl (?_ : XW _ _ _ _ _ _ _ 172 _ _)
        refine xi_ldcwS (j := 40) (by decide +kernel : decode mX11_tellText.2.1 172 = .ok (.ldc_w 296, 3)) rfl (by decide) (?_ : XW _ _ _ _ _ _ _ 175 _ _)
        refine xi_aload_n (by decide +kernel : decode mX11_tellText.2.1 175 = .ok (.aload_n 0, 1)) rfl rfl (?_ : XW _ _ _ _ _ _ _ 176 _ _)
        obtain ⟨s1, vc⟩ := vc
        refine xi_getR (y := 59) (by decide +kernel : decode mX11_tellText.2.1 176 = .ok (.getfield 32, 3)) fX11_32 rfl (by omega) rfl s1 (?_ : XW _ _ _ _ _ _ _ 179 _ _)
        refine xi_iconst (v := 2) (by decide +kernel : decode mX11_tellText.2.1 179 = .ok (.iconst 2, 1)) (by decide) (?_ : XW _ _ _ _ _ _ _ 180 _ _)
        refine xi_iald (by decide +kernel : decode mX11_tellText.2.1 180 = .ok (.iaload, 1)) rfl (by omega) (by unfold vp_in; decide) (?_ : XW _ _ _ _ _ _ _ 181 _ [.int (xI h8 59 2), .ref (1000 + 40), .ref 56])
        obtain ⟨Q1, sp, vc⟩ := vc
        refine xi_callV (b := 0) (bs := 0) (As := [.ref (1000 + 40), .int (xI h8 59 2)]) (st := []) (by decide +kernel : decode mX11_tellText.2.1 181 = .ok (.invokevirtual 495, 3)) kX11_495 rfl rfl (by omega) rfl sp (by decide) (by decide) (Nat.le_of_ble_eq_true rfl) (by omega) (fun v9 h9 hq9 => ?_)
        obtain ⟨e9, vc⟩ := vc v9 h9 hq9
        subst e9
        show XW _ _ _ _ _ _ _ 184 _ []
        refine xi_aload_n (by decide +kernel : decode mX11_tellText.2.1 184 = .ok (.aload_n 0, 1)) rfl rfl (?_ : XW _ _ _ _ _ _ _ 185 _ _)
        obtain ⟨s1, vc⟩ := vc
        refine xi_getR (y := 59) (by decide +kernel : decode mX11_tellText.2.1 185 = .ok (.getfield 32, 3)) fX11_32 rfl (by omega) rfl s1 (?_ : XW _ _ _ _ _ _ _ 188 _ _)
        refine xi_bipush (v := 6) (by decide +kernel : decode mX11_tellText.2.1 188 = .ok (.bipush 6, 2)) (by decide) (?_ : XW _ _ _ _ _ _ _ 190 _ _)
        refine xi_iald (by decide +kernel : decode mX11_tellText.2.1 190 = .ok (.iaload, 1)) rfl (by omega) (by unfold vp_in; decide) (?_ : XW _ _ _ _ _ _ _ 191 _ [.int (xI h9 59 6)])
        refine xi_if_ne (by decide +kernel : decode mX11_tellText.2.1 191 = .ok (.ifCond .ne 4, 3)) (by decide) (fun c => (?_ : XW _ _ _ _ _ _ _ 195 _ _)) (fun c => (?_ : XW _ _ _ _ _ _ _ 194 _ _))
        · replace vc := vc.1 c
          refine xi_aload_n (by decide +kernel : decode mX11_tellText.2.1 195 = .ok (.aload_n 0, 1)) rfl rfl (?_ : XW _ _ _ _ _ _ _ 196 _ _)
          refine xi_ldcwS (j := 48) (by decide +kernel : decode mX11_tellText.2.1 196 = .ok (.ldc_w 503, 3)) rfl (by decide) (?_ : XW _ _ _ _ _ _ _ 199 _ _)
          obtain ⟨Q1, sp, vc⟩ := vc
          refine xi_callV (b := 0) (bs := 0) (As := [.ref (1000 + 48)]) (st := []) (by decide +kernel : decode mX11_tellText.2.1 199 = .ok (.invokevirtual 488, 3)) kX11_488 rfl rfl (by omega) rfl sp (by decide) (by decide) (Nat.le_of_ble_eq_true rfl) (by omega) (fun v9 h10 hq9 => ?_)
          obtain ⟨e9, vc⟩ := vc v9 h10 hq9
          subst e9
          show XW _ _ _ _ _ _ _ 202 _ []
          refine xi_iconst (v := 0) (by decide +kernel : decode mX11_tellText.2.1 202 = .ok (.iconst 0, 1)) (by decide) (?_ : XW _ _ _ _ _ _ _ 203 _ _)
          refine xi_istore_n (ls' := [some (.ref 56), some (.int 0)]) (by decide +kernel : decode mX11_tellText.2.1 203 = .ok (.istore_n 1, 1)) rfl (by decide) rfl (?_ : XW _ _ _ _ _ _ _ 204 _ _)
          exact vc
        · replace vc := vc.2 c
          exact xi_vret (by decide +kernel : decode mX11_tellText.2.1 194 = .ok (.return_, 1)) rfl vc
      · replace vc := vc.2 c
        refine xi_aload_n (by decide +kernel : decode mX11_tellText.2.1 164 = .ok (.aload_n 0, 1)) rfl rfl (?_ : XW _ _ _ _ _ _ _ 165 _ _)
        refine xi_ldcwS (j := 47) (by decide +kernel : decode mX11_tellText.2.1 165 = .ok (.ldc_w 501, 3)) rfl (by decide) (?_ : XW _ _ _ _ _ _ _ 168 _ _)
        obtain ⟨Q1, sp, vc⟩ := vc
        refine xi_callV (b := 0) (bs := 0) (As := [.ref (1000 + 47)]) (st := []) (by decide +kernel : decode mX11_tellText.2.1 168 = .ok (.invokevirtual 488, 3)) kX11_488 rfl rfl (by omega) rfl sp (by decide) (by decide) (Nat.le_of_ble_eq_true rfl) (by omega) (fun v9 h11 hq9 => ?_)
        obtain ⟨e9, vc⟩ := vc v9 h11 hq9
        subst e9
        show XW _ _ _ _ _ _ _ 171 _ []
        refine xi_aload_n (by decide +kernel : decode mX11_tellText.2.1 171 = .ok (.aload_n 0, 1)) rfl rfl (?_ : XW _ _ _ _ _ _ _ 172 _ _)
        refine xi_ldcwS (j := 40) (by decide +kernel : decode mX11_tellText.2.1 172 = .ok (.ldc_w 296, 3)) rfl (by decide) (?_ : XW _ _ _ _ _ _ _ 175 _ _)
        refine xi_aload_n (by decide +kernel : decode mX11_tellText.2.1 175 = .ok (.aload_n 0, 1)) rfl rfl (?_ : XW _ _ _ _ _ _ _ 176 _ _)
        obtain ⟨s1, vc⟩ := vc
        refine xi_getR (y := 59) (by decide +kernel : decode mX11_tellText.2.1 176 = .ok (.getfield 32, 3)) fX11_32 rfl (by omega) rfl s1 (?_ : XW _ _ _ _ _ _ _ 179 _ _)
        refine xi_iconst (v := 2) (by decide +kernel : decode mX11_tellText.2.1 179 = .ok (.iconst 2, 1)) (by decide) (?_ : XW _ _ _ _ _ _ _ 180 _ _)
        refine xi_iald (by decide +kernel : decode mX11_tellText.2.1 180 = .ok (.iaload, 1)) rfl (by omega) (by unfold vp_in; decide) (?_ : XW _ _ _ _ _ _ _ 181 _ [.int (xI h11 59 2), .ref (1000 + 40), .ref 56])
        obtain ⟨Q1, sp, vc⟩ := vc
        refine xi_callV (b := 0) (bs := 0) (As := [.ref (1000 + 40), .int (xI h11 59 2)]) (st := []) (by decide +kernel : decode mX11_tellText.2.1 181 = .ok (.invokevirtual 495, 3)) kX11_495 rfl rfl (by omega) rfl sp (by decide) (by decide) (Nat.le_of_ble_eq_true rfl) (by omega) (fun v9 h12 hq9 => ?_)
        obtain ⟨e9, vc⟩ := vc v9 h12 hq9
        subst e9
        show XW _ _ _ _ _ _ _ 184 _ []
        refine xi_aload_n (by decide +kernel : decode mX11_tellText.2.1 184 = .ok (.aload_n 0, 1)) rfl rfl (?_ : XW _ _ _ _ _ _ _ 185 _ _)
        obtain ⟨s1, vc⟩ := vc
        refine xi_getR (y := 59) (by decide +kernel : decode mX11_tellText.2.1 185 = .ok (.getfield 32, 3)) fX11_32 rfl (by omega) rfl s1 (?_ : XW _ _ _ _ _ _ _ 188 _ _)
        refine xi_bipush (v := 6) (by decide +kernel : decode mX11_tellText.2.1 188 = .ok (.bipush 6, 2)) (by decide) (?_ : XW _ _ _ _ _ _ _ 190 _ _)
        refine xi_iald (by decide +kernel : decode mX11_tellText.2.1 190 = .ok (.iaload, 1)) rfl (by omega) (by unfold vp_in; decide) (?_ : XW _ _ _ _ _ _ _ 191 _ [.int (xI h12 59 6)])
        refine xi_if_ne (by decide +kernel : decode mX11_tellText.2.1 191 = .ok (.ifCond .ne 4, 3)) (by decide) (fun c => (?_ : XW _ _ _ _ _ _ _ 195 _ _)) (fun c => (?_ : XW _ _ _ _ _ _ _ 194 _ _))
        · replace vc := vc.1 c
          refine xi_aload_n (by decide +kernel : decode mX11_tellText.2.1 195 = .ok (.aload_n 0, 1)) rfl rfl (?_ : XW _ _ _ _ _ _ _ 196 _ _)
          refine xi_ldcwS (j := 48) (by decide +kernel : decode mX11_tellText.2.1 196 = .ok (.ldc_w 503, 3)) rfl (by decide) (?_ : XW _ _ _ _ _ _ _ 199 _ _)
          obtain ⟨Q1, sp, vc⟩ := vc
          refine xi_callV (b := 0) (bs := 0) (As := [.ref (1000 + 48)]) (st := []) (by decide +kernel : decode mX11_tellText.2.1 199 = .ok (.invokevirtual 488, 3)) kX11_488 rfl rfl (by omega) rfl sp (by decide) (by decide) (Nat.le_of_ble_eq_true rfl) (by omega) (fun v9 h13 hq9 => ?_)
          obtain ⟨e9, vc⟩ := vc v9 h13 hq9
          subst e9
          show XW _ _ _ _ _ _ _ 202 _ []
          refine xi_iconst (v := 0) (by decide +kernel : decode mX11_tellText.2.1 202 = .ok (.iconst 0, 1)) (by decide) (?_ : XW _ _ _ _ _ _ _ 203 _ _)
          refine xi_istore_n (ls' := [some (.ref 56), some (.int 0)]) (by decide +kernel : decode mX11_tellText.2.1 203 = .ok (.istore_n 1, 1)) rfl (by decide) rfl (?_ : XW _ _ _ _ _ _ _ 204 _ _)
          exact vc
        · replace vc := vc.2 c
          exact xi_vret (by decide +kernel : decode mX11_tellText.2.1 194 = .ok (.return_, 1)) rfl vc
    · replace vc := vc.2 c
      refine xi_aload_n (by decide +kernel : decode mX11_tellText.2.1 142 = .ok (.aload_n 0, 1)) rfl rfl (?_ : XW _ _ _ _ _ _ _ 143 _ _)
      refine xi_ldcwS (j := 38) (by decide +kernel : decode mX11_tellText.2.1 143 = .ok (.ldc_w 292, 3)) rfl (by decide) (?_ : XW _ _ _ _ _ _ _ 146 _ _)
      refine xi_aload_n (by decide +kernel : decode mX11_tellText.2.1 146 = .ok (.aload_n 0, 1)) rfl rfl (?_ : XW _ _ _ _ _ _ _ 147 _ _)
      obtain ⟨s1, vc⟩ := vc
      refine xi_getR (y := 59) (by decide +kernel : decode mX11_tellText.2.1 147 = .ok (.getfield 32, 3)) fX11_32 rfl (by omega) rfl s1 (?_ : XW _ _ _ _ _ _ _ 150 _ _)
      refine xi_iconst (v := 4) (by decide +kernel : decode mX11_tellText.2.1 150 = .ok (.iconst 4, 1)) (by decide) (?_ : XW _ _ _ _ _ _ _ 151 _ _)
      refine xi_iald (by decide +kernel : decode mX11_tellText.2.1 151 = .ok (.iaload, 1)) rfl (by omega) (by unfold vp_in; decide) (?_ : XW _ _ _ _ _ _ _ 152 _ [.int (xI h8 59 4), .ref (1000 + 38), .ref 56])
      obtain ⟨Q1, sp, vc⟩ := vc
      refine xi_callV (b := 0) (bs := 0) (As := [.ref (1000 + 38), .int (xI h8 59 4)]) (st := []) (by decide +kernel : decode mX11_tellText.2.1 152 = .ok (.invokevirtual 495, 3)) kX11_495 rfl rfl (by omega) rfl sp (by decide) (by decide) (Nat.le_of_ble_eq_true rfl) (by omega) (fun v9 h14 hq9 => ?_)
      obtain ⟨e9, vc⟩ := vc v9 h14 hq9
      subst e9
      show XW _ _ _ _ _ _ _ 155 _ []
      refine xi_aload_n (by decide +kernel : decode mX11_tellText.2.1 155 = .ok (.aload_n 0, 1)) rfl rfl (?_ : XW _ _ _ _ _ _ _ 156 _ _)
      obtain ⟨s1, vc⟩ := vc
      refine xi_getR (y := 59) (by decide +kernel : decode mX11_tellText.2.1 156 = .ok (.getfield 32, 3)) fX11_32 rfl (by omega) rfl s1 (?_ : XW _ _ _ _ _ _ _ 159 _ _)
      refine xi_iconst (v := 5) (by decide +kernel : decode mX11_tellText.2.1 159 = .ok (.iconst 5, 1)) (by decide) (?_ : XW _ _ _ _ _ _ _ 160 _ _)
      refine xi_iald (by decide +kernel : decode mX11_tellText.2.1 160 = .ok (.iaload, 1)) rfl (by omega) (by unfold vp_in; decide) (?_ : XW _ _ _ _ _ _ _ 161 _ [.int (xI h14 59 5)])
      refine xi_if_le (by decide +kernel : decode mX11_tellText.2.1 161 = .ok (.ifCond .le 10, 3)) (by decide) (fun c => (?_ : XW _ _ _ _ _ _ _ 171 _ _)) (fun c => (?_ : XW _ _ _ _ _ _ _ 164 _ _))
      · replace vc := vc.1 c
        refine xi_aload_n (by decide +kernel : decode mX11_tellText.2.1 171 = .ok (.aload_n 0, 1)) rfl rfl (?_ : XW _ _ _ _ _ _ _ 172 _ _)
        refine xi_ldcwS (j := 40) (by decide +kernel : decode mX11_tellText.2.1 172 = .ok (.ldc_w 296, 3)) rfl (by decide) (?_ : XW _ _ _ _ _ _ _ 175 _ _)
        refine xi_aload_n (by decide +kernel : decode mX11_tellText.2.1 175 = .ok (.aload_n 0, 1)) rfl rfl (?_ : XW _ _ _ _ _ _ _ 176 _ _)
        obtain ⟨s1, vc⟩ := vc
        refine xi_getR (y := 59) (by decide +kernel : decode mX11_tellText.2.1 176 = .ok (.getfield 32, 3)) fX11_32 rfl (by omega) rfl s1 (?_ : XW _ _ _ _ _ _ _ 179 _ _)
        refine xi_iconst (v := 2) (by decide +kernel : decode mX11_tellText.2.1 179 = .ok (.iconst 2, 1)) (by decide) (?_ : XW _ _ _ _ _ _ _ 180 _ _)
        refine xi_iald (by decide +kernel : decode mX11_tellText.2.1 180 = .ok (.iaload, 1)) rfl (by omega) (by unfold vp_in; decide) (?_ : XW _ _ _ _ _ _ _ 181 _ [.int (xI h14 59 2), .ref (1000 + 40), .ref 56])
        obtain ⟨Q1, sp, vc⟩ := vc
        refine xi_callV (b := 0) (bs := 0) (As := [.ref (1000 + 40), .int (xI h14 59 2)]) (st := []) (by decide +kernel : decode mX11_tellText.2.1 181 = .ok (.invokevirtual 495, 3)) kX11_495 rfl rfl (by omega) rfl sp (by decide) (by decide) (Nat.le_of_ble_eq_true rfl) (by omega) (fun v9 h15 hq9 => ?_)
        obtain ⟨e9, vc⟩ := vc v9 h15 hq9
        subst e9
        show XW _ _ _ _ _ _ _ 184 _ []
        refine xi_aload_n (by decide +kernel : decode mX11_tellText.2.1 184 = .ok (.aload_n 0, 1)) rfl rfl (?_ : XW _ _ _ _ _ _ _ 185 _ _)
        obtain ⟨s1, vc⟩ := vc
        refine xi_getR (y := 59) (by decide +kernel : decode mX11_tellText.2.1 185 = .ok (.getfield 32, 3)) fX11_32 rfl (by omega) rfl s1 (?_ : XW _ _ _ _ _ _ _ 188 _ _)
        refine xi_bipush (v := 6) (by decide +kernel : decode mX11_tellText.2.1 188 = .ok (.bipush 6, 2)) (by decide) (?_ : XW _ _ _ _ _ _ _ 190 _ _)
        refine xi_iald (by decide +kernel : decode mX11_tellText.2.1 190 = .ok (.iaload, 1)) rfl (by omega) (by unfold vp_in; decide) (?_ : XW _ _ _ _ _ _ _ 191 _ [.int (xI h15 59 6)])
        refine xi_if_ne (by decide +kernel : decode mX11_tellText.2.1 191 = .ok (.ifCond .ne 4, 3)) (by decide) (fun c => (?_ : XW _ _ _ _ _ _ _ 195 _ _)) (fun c => (?_ : XW _ _ _ _ _ _ _ 194 _ _))
        · replace vc := vc.1 c
          refine xi_aload_n (by decide +kernel : decode mX11_tellText.2.1 195 = .ok (.aload_n 0, 1)) rfl rfl (?_ : XW _ _ _ _ _ _ _ 196 _ _)
          refine xi_ldcwS (j := 48) (by decide +kernel : decode mX11_tellText.2.1 196 = .ok (.ldc_w 503, 3)) rfl (by decide) (?_ : XW _ _ _ _ _ _ _ 199 _ _)
          obtain ⟨Q1, sp, vc⟩ := vc
          refine xi_callV (b := 0) (bs := 0) (As := [.ref (1000 + 48)]) (st := []) (by decide +kernel : decode mX11_tellText.2.1 199 = .ok (.invokevirtual 488, 3)) kX11_488 rfl rfl (by omega) rfl sp (by decide) (by decide) (Nat.le_of_ble_eq_true rfl) (by omega) (fun v9 h16 hq9 => ?_)
          obtain ⟨e9, vc⟩ := vc v9 h16 hq9
          subst e9
          show XW _ _ _ _ _ _ _ 202 _ []
          refine xi_iconst (v := 0) (by decide +kernel : decode mX11_tellText.2.1 202 = .ok (.iconst 0, 1)) (by decide) (?_ : XW _ _ _ _ _ _ _ 203 _ _)
          refine xi_istore_n (ls' := [some (.ref 56), some (.int 0)]) (by decide +kernel : decode mX11_tellText.2.1 203 = .ok (.istore_n 1, 1)) rfl (by decide) rfl (?_ : XW _ _ _ _ _ _ _ 204 _ _)
          exact vc
        · replace vc := vc.2 c
          exact xi_vret (by decide +kernel : decode mX11_tellText.2.1 194 = .ok (.return_, 1)) rfl vc
      · replace vc := vc.2 c
        refine xi_aload_n (by decide +kernel : decode mX11_tellText.2.1 164 = .ok (.aload_n 0, 1)) rfl rfl (?_ : XW _ _ _ _ _ _ _ 165 _ _)
        refine xi_ldcwS (j := 47) (by decide +kernel : decode mX11_tellText.2.1 165 = .ok (.ldc_w 501, 3)) rfl (by decide) (?_ : XW _ _ _ _ _ _ _ 168 _ _)
        obtain ⟨Q1, sp, vc⟩ := vc
        refine xi_callV (b := 0) (bs := 0) (As := [.ref (1000 + 47)]) (st := []) (by decide +kernel : decode mX11_tellText.2.1 168 = .ok (.invokevirtual 488, 3)) kX11_488 rfl rfl (by omega) rfl sp (by decide) (by decide) (Nat.le_of_ble_eq_true rfl) (by omega) (fun v9 h17 hq9 => ?_)
        obtain ⟨e9, vc⟩ := vc v9 h17 hq9
        subst e9
        show XW _ _ _ _ _ _ _ 171 _ []
        refine xi_aload_n (by decide +kernel : decode mX11_tellText.2.1 171 = .ok (.aload_n 0, 1)) rfl rfl (?_ : XW _ _ _ _ _ _ _ 172 _ _)
        refine xi_ldcwS (j := 40) (by decide +kernel : decode mX11_tellText.2.1 172 = .ok (.ldc_w 296, 3)) rfl (by decide) (?_ : XW _ _ _ _ _ _ _ 175 _ _)
        refine xi_aload_n (by decide +kernel : decode mX11_tellText.2.1 175 = .ok (.aload_n 0, 1)) rfl rfl (?_ : XW _ _ _ _ _ _ _ 176 _ _)
        obtain ⟨s1, vc⟩ := vc
        refine xi_getR (y := 59) (by decide +kernel : decode mX11_tellText.2.1 176 = .ok (.getfield 32, 3)) fX11_32 rfl (by omega) rfl s1 (?_ : XW _ _ _ _ _ _ _ 179 _ _)
        refine xi_iconst (v := 2) (by decide +kernel : decode mX11_tellText.2.1 179 = .ok (.iconst 2, 1)) (by decide) (?_ : XW _ _ _ _ _ _ _ 180 _ _)
        refine xi_iald (by decide +kernel : decode mX11_tellText.2.1 180 = .ok (.iaload, 1)) rfl (by omega) (by unfold vp_in; decide) (?_ : XW _ _ _ _ _ _ _ 181 _ [.int (xI h17 59 2), .ref (1000 + 40), .ref 56])
        obtain ⟨Q1, sp, vc⟩ := vc
        refine xi_callV (b := 0) (bs := 0) (As := [.ref (1000 + 40), .int (xI h17 59 2)]) (st := []) (by decide +kernel : decode mX11_tellText.2.1 181 = .ok (.invokevirtual 495, 3)) kX11_495 rfl rfl (by omega) rfl sp (by decide) (by decide) (Nat.le_of_ble_eq_true rfl) (by omega) (fun v9 h18 hq9 => ?_)
        obtain ⟨e9, vc⟩ := vc v9 h18 hq9
        subst e9
        show XW _ _ _ _ _ _ _ 184 _ []
        refine xi_aload_n (by decide +kernel : decode mX11_tellText.2.1 184 = .ok (.aload_n 0, 1)) rfl rfl (?_ : XW _ _ _ _ _ _ _ 185 _ _)
        obtain ⟨s1, vc⟩ := vc
        refine xi_getR (y := 59) (by decide +kernel : decode mX11_tellText.2.1 185 = .ok (.getfield 32, 3)) fX11_32 rfl (by omega) rfl s1 (?_ : XW _ _ _ _ _ _ _ 188 _ _)
        refine xi_bipush (v := 6) (by decide +kernel : decode mX11_tellText.2.1 188 = .ok (.bipush 6, 2)) (by decide) (?_ : XW _ _ _ _ _ _ _ 190 _ _)
        refine xi_iald (by decide +kernel : decode mX11_tellText.2.1 190 = .ok (.iaload, 1)) rfl (by omega) (by unfold vp_in; decide) (?_ : XW _ _ _ _ _ _ _ 191 _ [.int (xI h18 59 6)])
        refine xi_if_ne (by decide +kernel : decode mX11_tellText.2.1 191 = .ok (.ifCond .ne 4, 3)) (by decide) (fun c => (?_ : XW _ _ _ _ _ _ _ 195 _ _)) (fun c => (?_ : XW _ _ _ _ _ _ _ 194 _ _))
        · replace vc := vc.1 c
          refine xi_aload_n (by decide +kernel : decode mX11_tellText.2.1 195 = .ok (.aload_n 0, 1)) rfl rfl (?_ : XW _ _ _ _ _ _ _ 196 _ _)
          refine xi_ldcwS (j := 48) (by decide +kernel : decode mX11_tellText.2.1 196 = .ok (.ldc_w 503, 3)) rfl (by decide) (?_ : XW _ _ _ _ _ _ _ 199 _ _)
          obtain ⟨Q1, sp, vc⟩ := vc
          refine xi_callV (b := 0) (bs := 0) (As := [.ref (1000 + 48)]) (st := []) (by decide +kernel : decode mX11_tellText.2.1 199 = .ok (.invokevirtual 488, 3)) kX11_488 rfl rfl (by omega) rfl sp (by decide) (by decide) (Nat.le_of_ble_eq_true rfl) (by omega) (fun v9 h19 hq9 => ?_)
          obtain ⟨e9, vc⟩ := vc v9 h19 hq9
          subst e9
          show XW _ _ _ _ _ _ _ 202 _ []
          refine xi_iconst (v := 0) (by decide +kernel : decode mX11_tellText.2.1 202 = .ok (.iconst 0, 1)) (by decide) (?_ : XW _ _ _ _ _ _ _ 203 _ _)
          refine xi_istore_n (ls' := [some (.ref 56), some (.int 0)]) (by decide +kernel : decode mX11_tellText.2.1 203 = .ok (.istore_n 1, 1)) rfl (by decide) rfl (?_ : XW _ _ _ _ _ _ _ 204 _ _)
          exact vc
        · replace vc := vc.2 c
          exact xi_vret (by decide +kernel : decode mX11_tellText.2.1 194 = .ok (.return_, 1)) rfl vc
  · replace vc := vc.2 c
    refine xi_aload_n (by decide +kernel : decode mX11_tellText.2.1 66 = .ok (.aload_n 0, 1)) rfl rfl (?_ : XW _ _ _ _ _ _ _ 67 _ _)
    refine xi_ldcwS (j := 42) (by decide +kernel : decode mX11_tellText.2.1 67 = .ok (.ldc_w 300, 3)) rfl (by decide) (?_ : XW _ _ _ _ _ _ _ 70 _ _)
    obtain ⟨Q1, sp, vc⟩ := vc
    refine xi_callV (b := 0) (bs := 0) (As := [.ref (1000 + 42)]) (st := []) (by decide +kernel : decode mX11_tellText.2.1 70 = .ok (.invokevirtual 488, 3)) kX11_488 rfl rfl (by omega) rfl sp (by decide) (by decide) (Nat.le_of_ble_eq_true rfl) (by omega) (fun v9 h20 hq9 => ?_)
    obtain ⟨e9, vc⟩ := vc v9 h20 hq9
    subst e9
    show XW _ _ _ _ _ _ _ 73 _ []
    refine xi_aload_n (by decide +kernel : decode mX11_tellText.2.1 73 = .ok (.aload_n 0, 1)) rfl rfl (?_ : XW _ _ _ _ _ _ _ 74 _ _)
    refine xi_aload_n (by decide +kernel : decode mX11_tellText.2.1 74 = .ok (.aload_n 0, 1)) rfl rfl (?_ : XW _ _ _ _ _ _ _ 75 _ _)
    obtain ⟨s1, vc⟩ := vc
    refine xi_getR (y := 61) (by decide +kernel : decode mX11_tellText.2.1 75 = .ok (.getfield 39, 3)) fX11_39 rfl (by omega) rfl s1 (?_ : XW _ _ _ _ _ _ _ 78 _ _)
    refine xi_iload_n (by decide +kernel : decode mX11_tellText.2.1 78 = .ok (.iload_n 1, 1)) rfl rfl (?_ : XW _ _ _ _ _ _ _ 79 _ _)
    obtain ⟨s1, vc⟩ := vc
    refine xi_iald (by decide +kernel : decode mX11_tellText.2.1 79 = .ok (.iaload, 1)) rfl (by omega) s1 (?_ : XW _ _ _ _ _ _ _ 80 _ _)
    obtain ⟨Q1, sp, vc⟩ := vc
    refine xi_callV (b := 0) (bs := 0) (As := [.int (xI h20 61 x1.toNatClampNeg)]) (st := []) (by decide +kernel : decode mX11_tellText.2.1 80 = .ok (.invokevirtual 492, 3)) kX11_492 rfl rfl (by omega) rfl sp (by decide) (by decide) (Nat.le_of_ble_eq_true rfl) (by omega) (fun v9 h21 hq9 => ?_)
    obtain ⟨e9, vc⟩ := vc v9 h21 hq9
    subst e9
    show XW _ _ _ _ _ _ _ 83 _ []
    refine xi_aload_n (by decide +kernel : decode mX11_tellText.2.1 83 = .ok (.aload_n 0, 1)) rfl rfl (?_ : XW _ _ _ _ _ _ _ 84 _ _)
    refine xi_aload_n (by decide +kernel : decode mX11_tellText.2.1 84 = .ok (.aload_n 0, 1)) rfl rfl (?_ : XW _ _ _ _ _ _ _ 85 _ _)
    obtain ⟨s1, vc⟩ := vc
    refine xi_getR (y := 62) (by decide +kernel : decode mX11_tellText.2.1 85 = .ok (.getfield 42, 3)) fX11_42 rfl (by omega) rfl s1 (?_ : XW _ _ _ _ _ _ _ 88 _ _)
    refine xi_iload_n (by decide +kernel : decode mX11_tellText.2.1 88 = .ok (.iload_n 1, 1)) rfl rfl (?_ : XW _ _ _ _ _ _ _ 89 _ _)
    obtain ⟨s1, vc⟩ := vc
    refine xi_iald (by decide +kernel : decode mX11_tellText.2.1 89 = .ok (.iaload, 1)) rfl (by omega) s1 (?_ : XW _ _ _ _ _ _ _ 90 _ _)
    obtain ⟨Q1, sp, vc⟩ := vc
    refine xi_callV (b := 0) (bs := 0) (As := [.int (xI h21 62 x1.toNatClampNeg)]) (st := []) (by decide +kernel : decode mX11_tellText.2.1 90 = .ok (.invokevirtual 492, 3)) kX11_492 rfl rfl (by omega) rfl sp (by decide) (by decide) (Nat.le_of_ble_eq_true rfl) (by omega) (fun v9 h22 hq9 => ?_)
    obtain ⟨e9, vc⟩ := vc v9 h22 hq9
    subst e9
    show XW _ _ _ _ _ _ _ 93 _ []
    refine xi_aload_n (by decide +kernel : decode mX11_tellText.2.1 93 = .ok (.aload_n 0, 1)) rfl rfl (?_ : XW _ _ _ _ _ _ _ 94 _ _)
    refine xi_bipush (v := 59) (by decide +kernel : decode mX11_tellText.2.1 94 = .ok (.bipush 59, 2)) (by decide) (?_ : XW _ _ _ _ _ _ _ 96 _ _)
    obtain ⟨Q1, sp, vc⟩ := vc
    refine xi_callV (b := 0) (bs := 0) (As := [.int 59]) (st := []) (by decide +kernel : decode mX11_tellText.2.1 96 = .ok (.invokevirtual 485, 3)) kX11_485 rfl rfl (by omega) rfl sp (by decide) (by decide) (Nat.le_of_ble_eq_true rfl) (by omega) (fun v9 h23 hq9 => ?_)
    obtain ⟨e9, vc⟩ := vc v9 h23 hq9
    subst e9
    show XW _ _ _ _ _ _ _ 99 _ []
    refine xi_iinc (v := x1 + 1) (ls' := [some (.ref 56), some (.int (x1 + 1))]) (by decide +kernel : decode mX11_tellText.2.1 99 = .ok (.iinc 1 1, 3)) rfl rfl (by decide) rfl (?_ : XW _ _ _ _ _ _ _ 102 _ _)
    refine xi_goto (by decide +kernel : decode mX11_tellText.2.1 102 = .ok (.goto (-46), 3)) (by decide) (?_ : XW _ _ _ _ _ _ _ 56 _ _)
    exact vc

set_option maxRecDepth 20000 in
theorem v_X11_tellText_204 {h : XH} {Q : Option Value → XH → Prop} {X : String → XH → Prop} (hM : xMod (xP h))  (x1 : Int32)
    (vc : ((xI h 59 7) ≤ x1 → ∃ Q1, XSpec mX11_say 1 0 0 100 100 [.ref 56, .int 59] h Q1 xno ∧ ∀ v h24, Q1 v h24 → v = none ∧ (Q none h24)) ∧ (¬ (xI h 59 7) ≤ x1 → (vp_in x1 2000) ∧ (∃ Q1, XSpec mX11_say 1 0 0 100 100 [.ref 56, .int (xI h 64 x1.toNatClampNeg)] h Q1 xno ∧ ∀ v h25, Q1 v h25 → v = none ∧ (XW (xrm 14 0 0) mX11_tellText (xE 100 Q X 0 0) 100 0 0 h25 204 [some (.ref 56), some (.int (x1 + 1))] [])))) :
    XW (xrm 14 0 0) mX11_tellText (xE 100 Q X 0 0) 100 0 0 h 204 [some (.ref 56), some (.int x1)] [] := by
  refine xi_iload_n (by decide +kernel : decode mX11_tellText.2.1 204 = .ok (.iload_n 1, 1)) rfl rfl (?_ : XW _ _ _ _ _ _ _ 205 _ _)
  refine xi_aload_n (by decide +kernel : decode mX11_tellText.2.1 205 = .ok (.aload_n 0, 1)) rfl rfl (?_ : XW _ _ _ _ _ _ _ 206 _ _)
  refine xi_getR (y := 59) (by decide +kernel : decode mX11_tellText.2.1 206 = .ok (.getfield 32, 3)) fX11_32 rfl (by omega) rfl (mp_told hM) (?_ : XW _ _ _ _ _ _ _ 209 _ _)
  refine xi_bipush (v := 7) (by decide +kernel : decode mX11_tellText.2.1 209 = .ok (.bipush 7, 2)) (by decide) (?_ : XW _ _ _ _ _ _ _ 211 _ _)
  refine xi_iald (by decide +kernel : decode mX11_tellText.2.1 211 = .ok (.iaload, 1)) rfl (by omega) (by unfold vp_in; decide) (?_ : XW _ _ _ _ _ _ _ 212 _ [.int (xI h 59 7), .int x1])
  refine xi_icmp_ge (by decide +kernel : decode mX11_tellText.2.1 212 = .ok (.if_icmp .ge 19, 3)) (by decide) (fun c => (?_ : XW _ _ _ _ _ _ _ 231 _ _)) (fun c => (?_ : XW _ _ _ _ _ _ _ 215 _ _))
  · replace vc := vc.1 c
    refine xi_aload_n (by decide +kernel : decode mX11_tellText.2.1 231 = .ok (.aload_n 0, 1)) rfl rfl (?_ : XW _ _ _ _ _ _ _ 232 _ _)
    refine xi_bipush (v := 59) (by decide +kernel : decode mX11_tellText.2.1 232 = .ok (.bipush 59, 2)) (by decide) (?_ : XW _ _ _ _ _ _ _ 234 _ _)
    obtain ⟨Q1, sp, vc⟩ := vc
    refine xi_callV (b := 0) (bs := 0) (As := [.int 59]) (st := []) (by decide +kernel : decode mX11_tellText.2.1 234 = .ok (.invokevirtual 485, 3)) kX11_485 rfl rfl (by omega) rfl sp (by decide) (by decide) (Nat.le_of_ble_eq_true rfl) (by omega) (fun v9 h24 hq9 => ?_)
    obtain ⟨e9, vc⟩ := vc v9 h24 hq9
    subst e9
    show XW _ _ _ _ _ _ _ 237 _ []
    exact xi_vret (by decide +kernel : decode mX11_tellText.2.1 237 = .ok (.return_, 1)) rfl vc
  · replace vc := vc.2 c
    refine xi_aload_n (by decide +kernel : decode mX11_tellText.2.1 215 = .ok (.aload_n 0, 1)) rfl rfl (?_ : XW _ _ _ _ _ _ _ 216 _ _)
    refine xi_aload_n (by decide +kernel : decode mX11_tellText.2.1 216 = .ok (.aload_n 0, 1)) rfl rfl (?_ : XW _ _ _ _ _ _ _ 217 _ _)
    refine xi_getR (y := 64) (by decide +kernel : decode mX11_tellText.2.1 217 = .ok (.getfield 48, 3)) fX11_48 rfl (by omega) rfl (mp_rule hM) (?_ : XW _ _ _ _ _ _ _ 220 _ _)
    refine xi_iload_n (by decide +kernel : decode mX11_tellText.2.1 220 = .ok (.iload_n 1, 1)) rfl rfl (?_ : XW _ _ _ _ _ _ _ 221 _ _)
    obtain ⟨s1, vc⟩ := vc
    refine xi_iald (by decide +kernel : decode mX11_tellText.2.1 221 = .ok (.iaload, 1)) rfl (by omega) s1 (?_ : XW _ _ _ _ _ _ _ 222 _ _)
    obtain ⟨Q1, sp, vc⟩ := vc
    refine xi_callV (b := 0) (bs := 0) (As := [.int (xI h 64 x1.toNatClampNeg)]) (st := []) (by decide +kernel : decode mX11_tellText.2.1 222 = .ok (.invokevirtual 485, 3)) kX11_485 rfl rfl (by omega) rfl sp (by decide) (by decide) (Nat.le_of_ble_eq_true rfl) (by omega) (fun v9 h25 hq9 => ?_)
    obtain ⟨e9, vc⟩ := vc v9 h25 hq9
    subst e9
    show XW _ _ _ _ _ _ _ 225 _ []
    refine xi_iinc (v := x1 + 1) (ls' := [some (.ref 56), some (.int (x1 + 1))]) (by decide +kernel : decode mX11_tellText.2.1 225 = .ok (.iinc 1 1, 3)) rfl rfl (by decide) rfl (?_ : XW _ _ _ _ _ _ _ 228 _ _)
    refine xi_goto (by decide +kernel : decode mX11_tellText.2.1 228 = .ok (.goto (-24), 3)) (by decide) (?_ : XW _ _ _ _ _ _ _ 204 _ _)
    exact vc

set_option maxRecDepth 20000 in
theorem v_X11_written_0 {h : XH} {Q : Option Value → XH → Prop} {X : String → XH → Prop} (hM : xMod (xP h))  (w : Int32)
    (vc : ∃ Q1, XSpec mX11_tellText 14 0 0 100 100 [.ref 56] (xSI 56 (va_up (xI h 56) 2 0) h) Q1 xno ∧ ∀ v h1, Q1 v h1 → v = none ∧ ((¬ w = (-1) → ∃ Q1, XSpec mX11_isIn 1 0 0 100 100 [.long (Int32.toInt64 w), .long 0, .long (Int32.toInt64 ((xI h1 56 49) - 1))] h1 Q1 xno ∧ ∀ v h2, Q1 v h2 → ∃ r2 : Int32, v = some (.int r2) ∧ ((r2 = 0 → ∃ Q1, XSpec mX11_fail 1 0 0 100 100 [.ref 56, .int 1] h2 Q1 xno ∧ ∀ v h3, Q1 v h3 → ∃ r3 : Int32, v = some (.int r3) ∧ (Q (some (.int r3)) h3)) ∧ (¬ r2 = 0 → (xP h2 56 48 = some 89) ∧ ((vp_in w 1700) ∧ (Q (some (.int (xI h2 89 w.toNatClampNeg))) h2))))) ∧ (w = (-1) → Q (some (.int (xI h1 56 49))) h1))) :
    XW (xrm 15 0 0) mX11_written (xE 100 Q X 0 0) 100 0 0 h 0 [some (.ref 56), some (.int w)] [] := by
  refine xi_aload_n (by decide +kernel : decode mX11_written.2.1 0 = .ok (.aload_n 0, 1)) rfl rfl (?_ : XW _ _ _ _ _ _ _ 1 _ _)
  refine xi_iconst (v := 0) (by decide +kernel : decode mX11_written.2.1 1 = .ok (.iconst 0, 1)) (by decide) (?_ : XW _ _ _ _ _ _ _ 2 _ _)
  refine xi_putI (by decide +kernel : decode mX11_written.2.1 2 = .ok (.putfield 161, 3)) fX11_161 rfl (by omega) rfl rfl rfl (?_ : XW _ _ _ _ _ _ (xSI 56 (va_up (xI h 56) 2 0) h) 5 _ _)
  refine xi_aload_n (by decide +kernel : decode mX11_written.2.1 5 = .ok (.aload_n 0, 1)) rfl rfl (?_ : XW _ _ _ _ _ _ _ 6 _ _)
  obtain ⟨Q1, sp, vc⟩ := vc
  refine xi_callV (b := 0) (bs := 0) (As := []) (st := []) (by decide +kernel : decode mX11_written.2.1 6 = .ok (.invokevirtual 505, 3)) kX11_505 rfl rfl (by omega) rfl sp (by decide) (by decide) (Nat.le_of_ble_eq_true rfl) (by omega) (fun v9 h1 hq9 => ?_)
  obtain ⟨e9, vc⟩ := vc v9 h1 hq9
  subst e9
  show XW _ _ _ _ _ _ _ 9 _ []
  refine xi_iload_n (by decide +kernel : decode mX11_written.2.1 9 = .ok (.iload_n 1, 1)) rfl rfl (?_ : XW _ _ _ _ _ _ _ 10 _ _)
  refine xi_iconst (v := (-1)) (by decide +kernel : decode mX11_written.2.1 10 = .ok (.iconst (-1), 1)) (by decide) (?_ : XW _ _ _ _ _ _ _ 11 _ _)
  refine xi_icmp_ne (by decide +kernel : decode mX11_written.2.1 11 = .ok (.if_icmp .ne 10, 3)) (by decide) (fun c => (?_ : XW _ _ _ _ _ _ _ 21 _ _)) (fun c => (?_ : XW _ _ _ _ _ _ _ 14 _ _))
  · replace vc := vc.1 c
    refine xi_iload_n (by decide +kernel : decode mX11_written.2.1 21 = .ok (.iload_n 1, 1)) rfl rfl (?_ : XW _ _ _ _ _ _ _ 22 _ _)
    refine xi_i2l (by decide +kernel : decode mX11_written.2.1 22 = .ok (.i2l, 1)) (?_ : XW _ _ _ _ _ _ _ 23 _ _)
    refine xi_lconst (v := 0) (by decide +kernel : decode mX11_written.2.1 23 = .ok (.lconst 0, 1)) (by decide) (?_ : XW _ _ _ _ _ _ _ 24 _ _)
    refine xi_aload_n (by decide +kernel : decode mX11_written.2.1 24 = .ok (.aload_n 0, 1)) rfl rfl (?_ : XW _ _ _ _ _ _ _ 25 _ _)
    refine xi_getI (by decide +kernel : decode mX11_written.2.1 25 = .ok (.getfield 482, 3)) fX11_482 rfl (by omega) rfl (?_ : XW _ _ _ _ _ _ _ 28 _ _)
    refine xi_iconst (v := 1) (by decide +kernel : decode mX11_written.2.1 28 = .ok (.iconst 1, 1)) (by decide) (?_ : XW _ _ _ _ _ _ _ 29 _ _)
    refine xi_isub (by decide +kernel : decode mX11_written.2.1 29 = .ok (.isub, 1)) (?_ : XW _ _ _ _ _ _ _ 30 _ _)
    refine xi_i2l (by decide +kernel : decode mX11_written.2.1 30 = .ok (.i2l, 1)) (?_ : XW _ _ _ _ _ _ _ 31 _ _)
    obtain ⟨Q1, sp, vc⟩ := vc
    refine xi_callS (b := 0) (bs := 0) (As := [.long (Int32.toInt64 w), .long 0, .long (Int32.toInt64 ((xI h1 56 49) - 1))]) (st := []) (by decide +kernel : decode mX11_written.2.1 31 = .ok (.invokestatic 164, 3)) kX11_164 rfl rfl sp (by decide) (by decide) (Nat.le_of_ble_eq_true rfl) (by omega) (fun v9 h2 hq9 => ?_)
    obtain ⟨r2, e9, vc⟩ := vc v9 h2 hq9
    subst e9
    show XW _ _ _ _ _ _ _ 34 _ [.int r2]
    refine xi_if_eq (by decide +kernel : decode mX11_written.2.1 34 = .ok (.ifCond .eq 12, 3)) (by decide) (fun c => (?_ : XW _ _ _ _ _ _ _ 46 _ _)) (fun c => (?_ : XW _ _ _ _ _ _ _ 37 _ _))
    · replace vc := vc.1 c
      refine xi_aload_n (by decide +kernel : decode mX11_written.2.1 46 = .ok (.aload_n 0, 1)) rfl rfl (?_ : XW _ _ _ _ _ _ _ 47 _ _)
      refine xi_iconst (v := 1) (by decide +kernel : decode mX11_written.2.1 47 = .ok (.iconst 1, 1)) (by decide) (?_ : XW _ _ _ _ _ _ _ 48 _ _)
      obtain ⟨Q1, sp, vc⟩ := vc
      refine xi_callV (b := 0) (bs := 0) (As := [.int 1]) (st := []) (by decide +kernel : decode mX11_written.2.1 48 = .ok (.invokevirtual 311, 3)) kX11_311 rfl rfl (by omega) rfl sp (by decide) (by decide) (Nat.le_of_ble_eq_true rfl) (by omega) (fun v9 h3 hq9 => ?_)
      obtain ⟨r3, e9, vc⟩ := vc v9 h3 hq9
      subst e9
      show XW _ _ _ _ _ _ _ 51 _ [.int r3]
      exact xi_iret (by decide +kernel : decode mX11_written.2.1 51 = .ok (.ireturn, 1)) rfl rfl vc
    · replace vc := vc.2 c
      refine xi_aload_n (by decide +kernel : decode mX11_written.2.1 37 = .ok (.aload_n 0, 1)) rfl rfl (?_ : XW _ _ _ _ _ _ _ 38 _ _)
      obtain ⟨s1, vc⟩ := vc
      refine xi_getR (y := 89) (by decide +kernel : decode mX11_written.2.1 38 = .ok (.getfield 131, 3)) fX11_131 rfl (by omega) rfl s1 (?_ : XW _ _ _ _ _ _ _ 41 _ _)
      refine xi_iload_n (by decide +kernel : decode mX11_written.2.1 41 = .ok (.iload_n 1, 1)) rfl rfl (?_ : XW _ _ _ _ _ _ _ 42 _ _)
      obtain ⟨s1, vc⟩ := vc
      refine xi_iald (by decide +kernel : decode mX11_written.2.1 42 = .ok (.iaload, 1)) rfl (by omega) s1 (?_ : XW _ _ _ _ _ _ _ 43 _ _)
      refine xi_goto (by decide +kernel : decode mX11_written.2.1 43 = .ok (.goto 8, 3)) (by decide) (?_ : XW _ _ _ _ _ _ _ 51 _ _)
      exact xi_iret (by decide +kernel : decode mX11_written.2.1 51 = .ok (.ireturn, 1)) rfl rfl vc
  · replace vc := vc.2 c
    refine xi_aload_n (by decide +kernel : decode mX11_written.2.1 14 = .ok (.aload_n 0, 1)) rfl rfl (?_ : XW _ _ _ _ _ _ _ 15 _ _)
    refine xi_getI (by decide +kernel : decode mX11_written.2.1 15 = .ok (.getfield 482, 3)) fX11_482 rfl (by omega) rfl (?_ : XW _ _ _ _ _ _ _ 18 _ _)
    refine xi_goto (by decide +kernel : decode mX11_written.2.1 18 = .ok (.goto 33, 3)) (by decide) (?_ : XW _ _ _ _ _ _ _ 51 _ _)
    exact xi_iret (by decide +kernel : decode mX11_written.2.1 51 = .ok (.ireturn, 1)) rfl rfl vc

set_option maxRecDepth 20000 in
theorem v_X10_written_0 {h : XH} {Q : Option Value → XH → Prop} {X : String → XH → Prop} (r : Nat) (hbp : BP r h)  (w : Int32)
    (vc : ∃ Q1, XSpec mX9_write 14 0 0 100 100 [.ref 55, .ref r, .int w] h Q1 xno ∧ ∀ v h1, Q1 v h1 → v = none ∧ ((¬ w = (-1) → (w < 0 → X "java/util/NoSuchElementException" h1) ∧ (¬ w < 0 → (xP h1 0 15 = some 55) ∧ ((w < (xI h1 55 0) → (xP h1 0 15 = some 55) ∧ (Q (some (.int (xI h1 55 1))) h1)) ∧ (¬ w < (xI h1 55 0) → X "java/util/NoSuchElementException" h1)))) ∧ (w = (-1) → (xP h1 0 15 = some 55) ∧ (Q (some (.int (xI h1 55 0))) h1)))) :
    XW (xrm 15 1 6) mX10_written (xE 100 Q X 1 6) 100 1 6 h 0 [some (.ref 0), some (.int w)] [] := by
  obtain ⟨hb, hr, hnr, ha21, ha25, hu29, hu34, hw, hnt, hwr⟩ := hbp
  refine xi_aload_n (by decide +kernel : decode mX10_written.2.1 0 = .ok (.aload_n 0, 1)) rfl rfl (?_ : XW _ _ _ _ _ _ _ 1 _ _)
  refine xi_getR (y := 55) (by decide +kernel : decode mX10_written.2.1 1 = .ok (.getfield 94, 3)) fX10_94 rfl (by omega) rfl hb.2.2.2.2.2.2.2.2.2.2.2.2 (?_ : XW _ _ _ _ _ _ _ 4 _ _)
  refine xi_aload_n (by decide +kernel : decode mX10_written.2.1 4 = .ok (.aload_n 0, 1)) rfl rfl (?_ : XW _ _ _ _ _ _ _ 5 _ _)
  refine xi_getR (y := r) (by decide +kernel : decode mX10_written.2.1 5 = .ok (.getfield 23, 3)) fX10_23 rfl (by omega) rfl hb.2.1 (?_ : XW _ _ _ _ _ _ _ 8 _ _)
  refine xi_iload_n (by decide +kernel : decode mX10_written.2.1 8 = .ok (.iload_n 1, 1)) rfl rfl (?_ : XW _ _ _ _ _ _ _ 9 _ _)
  obtain ⟨Q1, sp, vc⟩ := vc
  refine xi_callV (b := 1) (bs := 6) (As := [.ref r, .int w]) (st := []) (by decide +kernel : decode mX10_written.2.1 9 = .ok (.invokevirtual 351, 3)) kX10_351 rfl rfl (by omega) rfl sp (by decide) (by decide) (Nat.le_of_ble_eq_true rfl) (by omega) (fun v9 h1 hq9 => ?_)
  obtain ⟨e9, vc⟩ := vc v9 h1 hq9
  subst e9
  show XW _ _ _ _ _ _ _ 12 _ []
  refine xi_iload_n (by decide +kernel : decode mX10_written.2.1 12 = .ok (.iload_n 1, 1)) rfl rfl (?_ : XW _ _ _ _ _ _ _ 13 _ _)
  refine xi_iconst (v := (-1)) (by decide +kernel : decode mX10_written.2.1 13 = .ok (.iconst (-1), 1)) (by decide) (?_ : XW _ _ _ _ _ _ _ 14 _ _)
  refine xi_icmp_ne (by decide +kernel : decode mX10_written.2.1 14 = .ok (.if_icmp .ne 11, 3)) (by decide) (fun c => (?_ : XW _ _ _ _ _ _ _ 25 _ _)) (fun c => (?_ : XW _ _ _ _ _ _ _ 17 _ _))
  · replace vc := vc.1 c
    refine xi_iload_n (by decide +kernel : decode mX10_written.2.1 25 = .ok (.iload_n 1, 1)) rfl rfl (?_ : XW _ _ _ _ _ _ _ 26 _ _)
    refine xi_if_lt (by decide +kernel : decode mX10_written.2.1 26 = .ok (.ifCond .lt 14, 3)) (by decide) (fun c => (?_ : XW _ _ _ _ _ _ _ 40 _ _)) (fun c => (?_ : XW _ _ _ _ _ _ _ 29 _ _))
    · replace vc := vc.1 c
      exact xi_throw (b := 0) (bs := 0) xT_174 (by decide +kernel : decode mX10_written.2.1 40 = .ok (.new 172, 3)) (by decide +kernel : decode mX10_written.2.1 43 = .ok (.dup, 1)) (by decide +kernel : decode mX10_written.2.1 44 = .ok (.invokespecial 174, 3)) (by decide +kernel : decode mX10_written.2.1 47 = .ok (.athrow, 1)) rfl (by decide) (Nat.le_of_ble_eq_true rfl) vc
    · replace vc := vc.2 c
      refine xi_iload_n (by decide +kernel : decode mX10_written.2.1 29 = .ok (.iload_n 1, 1)) rfl rfl (?_ : XW _ _ _ _ _ _ _ 30 _ _)
      refine xi_aload_n (by decide +kernel : decode mX10_written.2.1 30 = .ok (.aload_n 0, 1)) rfl rfl (?_ : XW _ _ _ _ _ _ _ 31 _ _)
      obtain ⟨s1, vc⟩ := vc
      refine xi_getR (y := 55) (by decide +kernel : decode mX10_written.2.1 31 = .ok (.getfield 94, 3)) fX10_94 rfl (by omega) rfl s1 (?_ : XW _ _ _ _ _ _ _ 34 _ _)
      refine xi_getI (by decide +kernel : decode mX10_written.2.1 34 = .ok (.getfield 354, 3)) fX10_354 rfl (by omega) rfl (?_ : XW _ _ _ _ _ _ _ 37 _ _)
      refine xi_icmp_lt (by decide +kernel : decode mX10_written.2.1 37 = .ok (.if_icmp .lt 11, 3)) (by decide) (fun c => (?_ : XW _ _ _ _ _ _ _ 48 _ _)) (fun c => (?_ : XW _ _ _ _ _ _ _ 40 _ _))
      · replace vc := vc.1 c
        refine xi_aload_n (by decide +kernel : decode mX10_written.2.1 48 = .ok (.aload_n 0, 1)) rfl rfl (?_ : XW _ _ _ _ _ _ _ 49 _ _)
        obtain ⟨s1, vc⟩ := vc
        refine xi_getR (y := 55) (by decide +kernel : decode mX10_written.2.1 49 = .ok (.getfield 94, 3)) fX10_94 rfl (by omega) rfl s1 (?_ : XW _ _ _ _ _ _ _ 52 _ _)
        refine xi_getI (by decide +kernel : decode mX10_written.2.1 52 = .ok (.getfield 357, 3)) fX10_357 rfl (by omega) rfl (?_ : XW _ _ _ _ _ _ _ 55 _ _)
        exact xi_iret (by decide +kernel : decode mX10_written.2.1 55 = .ok (.ireturn, 1)) rfl rfl vc
      · replace vc := vc.2 c
        exact xi_throw (b := 0) (bs := 0) xT_174 (by decide +kernel : decode mX10_written.2.1 40 = .ok (.new 172, 3)) (by decide +kernel : decode mX10_written.2.1 43 = .ok (.dup, 1)) (by decide +kernel : decode mX10_written.2.1 44 = .ok (.invokespecial 174, 3)) (by decide +kernel : decode mX10_written.2.1 47 = .ok (.athrow, 1)) rfl (by decide) (Nat.le_of_ble_eq_true rfl) vc
  · replace vc := vc.2 c
    refine xi_aload_n (by decide +kernel : decode mX10_written.2.1 17 = .ok (.aload_n 0, 1)) rfl rfl (?_ : XW _ _ _ _ _ _ _ 18 _ _)
    obtain ⟨s1, vc⟩ := vc
    refine xi_getR (y := 55) (by decide +kernel : decode mX10_written.2.1 18 = .ok (.getfield 94, 3)) fX10_94 rfl (by omega) rfl s1 (?_ : XW _ _ _ _ _ _ _ 21 _ _)
    refine xi_getI (by decide +kernel : decode mX10_written.2.1 21 = .ok (.getfield 354, 3)) fX10_354 rfl (by omega) rfl (?_ : XW _ _ _ _ _ _ _ 24 _ _)
    exact xi_iret (by decide +kernel : decode mX10_written.2.1 24 = .ok (.ireturn, 1)) rfl rfl vc

