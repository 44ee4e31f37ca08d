/-! THE BOARD WRITTEN BACK: the walks -/
set_option maxRecDepth 20000 in
theorem v_X9_put_0 {h : XH} {Q : Option Value → XH → Prop} {X : String → XH → Prop} (hw : xWri (xP h))  (c : Int32)
    (vc : ((xI h 54 0) < 0 → Q none h) ∧ (¬ (xI h 54 0) < 0 → (1400 ≤ (xI h 54 0) → Q none h) ∧ (¬ 1400 ≤ (xI h 54 0) → (vp_in (xI h 54 0) 1400) ∧ (Q none (xSI 54 (va_up (xI h 54) 0 ((xI h 54 0) + 1)) (xSI 55 (va_up (xI h 55) (xI h 54 0).toNatClampNeg (vp_nar .char c)) h)))))) :
    XW (xrm 1 0 0) mX9_put (xE 100 Q X 0 0) 100 0 0 h 0 [some (.ref 54), some (.int c)] [] := by
  refine xi_aload_n (by decide +kernel : decode mX9_put.2.1 0 = .ok (.aload_n 0, 1)) rfl rfl (?_ : XW _ _ _ _ _ _ _ 1 _ _)
  refine xi_getI (by decide +kernel : decode mX9_put.2.1 1 = .ok (.getfield 9, 3)) fX9_9 rfl (by omega) rfl (?_ : XW _ _ _ _ _ _ _ 4 _ _)
  refine xi_if_lt (by decide +kernel : decode mX9_put.2.1 4 = .ok (.ifCond .lt 35, 3)) (by decide) (fun c => (?_ : XW _ _ _ _ _ _ _ 39 _ _)) (fun c => (?_ : XW _ _ _ _ _ _ _ 7 _ _))
  · replace vc := vc.1 c
    exact xi_vret (by decide +kernel : decode mX9_put.2.1 39 = .ok (.return_, 1)) rfl vc
  · replace vc := vc.2 c
    refine xi_aload_n (by decide +kernel : decode mX9_put.2.1 7 = .ok (.aload_n 0, 1)) rfl rfl (?_ : XW _ _ _ _ _ _ _ 8 _ _)
    refine xi_getI (by decide +kernel : decode mX9_put.2.1 8 = .ok (.getfield 9, 3)) fX9_9 rfl (by omega) rfl (?_ : XW _ _ _ _ _ _ _ 11 _ _)
    refine xi_aload_n (by decide +kernel : decode mX9_put.2.1 11 = .ok (.aload_n 0, 1)) rfl rfl (?_ : XW _ _ _ _ _ _ _ 12 _ _)
    refine xi_getR (y := 55) (by decide +kernel : decode mX9_put.2.1 12 = .ok (.getfield 15, 3)) fX9_15 rfl (by omega) rfl hw (?_ : XW _ _ _ _ _ _ _ 15 _ _)
    refine xi_alen (v := 1400) (by decide +kernel : decode mX9_put.2.1 15 = .ok (.arraylength, 1)) rfl (by omega) (Or.inl rfl) rfl (?_ : XW _ _ _ _ _ _ _ 16 _ _)
    refine xi_icmp_ge (by decide +kernel : decode mX9_put.2.1 16 = .ok (.if_icmp .ge 23, 3)) (by decide) (fun c => (?_ : XW _ _ _ _ _ _ _ 39 _ _)) (fun c => (?_ : XW _ _ _ _ _ _ _ 19 _ _))
    · replace vc := vc.1 c
      exact xi_vret (by decide +kernel : decode mX9_put.2.1 39 = .ok (.return_, 1)) rfl vc
    · replace vc := vc.2 c
      refine xi_aload_n (by decide +kernel : decode mX9_put.2.1 19 = .ok (.aload_n 0, 1)) rfl rfl (?_ : XW _ _ _ _ _ _ _ 20 _ _)
      refine xi_getR (y := 55) (by decide +kernel : decode mX9_put.2.1 20 = .ok (.getfield 15, 3)) fX9_15 rfl (by omega) rfl hw (?_ : XW _ _ _ _ _ _ _ 23 _ _)
      refine xi_aload_n (by decide +kernel : decode mX9_put.2.1 23 = .ok (.aload_n 0, 1)) rfl rfl (?_ : XW _ _ _ _ _ _ _ 24 _ _)
      refine xi_getI (by decide +kernel : decode mX9_put.2.1 24 = .ok (.getfield 9, 3)) fX9_9 rfl (by omega) rfl (?_ : XW _ _ _ _ _ _ _ 27 _ _)
      refine xi_iload_n (by decide +kernel : decode mX9_put.2.1 27 = .ok (.iload_n 1, 1)) rfl rfl (?_ : XW _ _ _ _ _ _ _ 28 _ _)
      obtain ⟨s1, vc⟩ := vc
      refine xi_cast (by decide +kernel : decode mX9_put.2.1 28 = .ok (.castore, 1)) rfl (by omega) s1 (?_ : XW _ _ _ _ _ _ (xSI 55 (va_up (xI h 55) (xI h 54 0).toNatClampNeg (vp_nar .char c)) h) 29 _ _)
      refine xi_aload_n (by decide +kernel : decode mX9_put.2.1 29 = .ok (.aload_n 0, 1)) rfl rfl (?_ : XW _ _ _ _ _ _ _ 30 _ _)
      refine xi_dup (by decide +kernel : decode mX9_put.2.1 30 = .ok (.dup, 1)) rfl (?_ : XW _ _ _ _ _ _ _ 31 _ _)
      refine xi_getI (by decide +kernel : decode mX9_put.2.1 31 = .ok (.getfield 9, 3)) fX9_9 rfl (by omega) rfl (?_ : XW _ _ _ _ _ _ _ 34 _ [.int (xI h 54 0), .ref 54])
      refine xi_iconst (v := 1) (by decide +kernel : decode mX9_put.2.1 34 = .ok (.iconst 1, 1)) (by decide) (?_ : XW _ _ _ _ _ _ _ 35 _ _)
      refine xi_iadd (by decide +kernel : decode mX9_put.2.1 35 = .ok (.iadd, 1)) (?_ : XW _ _ _ _ _ _ _ 36 _ _)
      refine xi_putI (by decide +kernel : decode mX9_put.2.1 36 = .ok (.putfield 9, 3)) fX9_9 rfl (by omega) rfl rfl rfl (?_ : XW _ _ _ _ _ _ (xSI 54 (va_up (xI h 54) 0 ((xI h 54 0) + 1)) (xSI 55 (va_up (xI h 55) (xI h 54 0).toNatClampNeg (vp_nar .char c)) h)) 39 _ _)
      exact xi_vret (by decide +kernel : decode mX9_put.2.1 39 = .ok (.return_, 1)) rfl vc

set_option maxRecDepth 20000 in
theorem v_X9_putText_0 {h : XH} {Q : Option Value → XH → Prop} {X : String → XH → Prop} (hw : xWri (xP h)) (i : Nat) (hi : i < jsN) 
    (vc : XW (xrm 12 0 0) mX9_putText (xE 100 Q X 0 0) 100 0 0 h 2 [some (.ref 54), some (.ref (1000 + i)), some (.int 0)] []) :
    XW (xrm 12 0 0) mX9_putText (xE 100 Q X 0 0) 100 0 0 h 0 [some (.ref 54), some (.ref (1000 + i)), none] [] := by
  refine xi_iconst (v := 0) (by decide +kernel : decode mX9_putText.2.1 0 = .ok (.iconst 0, 1)) (by decide) (?_ : XW _ _ _ _ _ _ _ 1 _ _)
  refine xi_istore_n (ls' := [some (.ref 54), some (.ref (1000 + i)), some (.int 0)]) (by decide +kernel : decode mX9_putText.2.1 1 = .ok (.istore_n 2, 1)) rfl (by decide) rfl (?_ : XW _ _ _ _ _ _ _ 2 _ _)
  exact vc

set_option maxRecDepth 20000 in
theorem v_X9_putText_2 {h : XH} {Q : Option Value → XH → Prop} {X : String → XH → Prop} (hw : xWri (xP h)) (i : Nat) (hi : i < jsN)  (x2 : Int32)
    (vc : ∃ Q1, XSpec mJ0_length_8abf5 2 0 0 100 100 [.ref (1000 + i)] h Q1 xno ∧ ∀ v h1, Q1 v h1 → ∃ r1 : Int32, v = some (.int r1) ∧ ((r1 ≤ x2 → Q none h1) ∧ (¬ r1 ≤ x2 → ∃ Q1, XSpec mJ0_charAt_5068e 4 0 0 100 100 [.ref (1000 + i), .int x2] h1 Q1 xno ∧ ∀ v h2, Q1 v h2 → ∃ r2 : Int32, v = some (.int r2) ∧ (∃ Q1, XSpec mX9_put 1 0 0 100 100 [.ref 54, .int r2] h2 Q1 xno ∧ ∀ v h3, Q1 v h3 → v = none ∧ (XW (xrm 12 0 0) mX9_putText (xE 100 Q X 0 0) 100 0 0 h3 2 [some (.ref 54), some (.ref (1000 + i)), some (.int (x2 + 1))] []))))) :
    XW (xrm 12 0 0) mX9_putText (xE 100 Q X 0 0) 100 0 0 h 2 [some (.ref 54), some (.ref (1000 + i)), some (.int x2)] [] := by
  refine xi_iload_n (by decide +kernel : decode mX9_putText.2.1 2 = .ok (.iload_n 2, 1)) rfl rfl (?_ : XW _ _ _ _ _ _ _ 3 _ _)
  refine xi_aload_n (by decide +kernel : decode mX9_putText.2.1 3 = .ok (.aload_n 1, 1)) rfl rfl (?_ : XW _ _ _ _ _ _ _ 4 _ _)
  obtain ⟨Q1, sp, vc⟩ := vc
  refine xi_callVs (b := 0) (bs := 0) (As := []) (st := [.int x2]) (by decide +kernel : decode mX9_putText.2.1 4 = .ok (.invokevirtual 19, 3)) (xVs.of cM_X9_19 cI_J0_length_8abf5 cE_J0_length_8abf5 cN_J0 cC_J0_length_8abf5 cD_J0_length_8abf5) rfl hi rfl sp (by decide) (by decide) (Nat.le_of_ble_eq_true rfl) (by omega) (fun v9 h1 hq9 => ?_)
  obtain ⟨r1, e9, vc⟩ := vc v9 h1 hq9
  subst e9
  show XW _ _ _ _ _ _ _ 7 _ [.int r1, .int x2]
  refine xi_icmp_ge (by decide +kernel : decode mX9_putText.2.1 7 = .ok (.if_icmp .ge 18, 3)) (by decide) (fun c => (?_ : XW _ _ _ _ _ _ _ 25 _ _)) (fun c => (?_ : XW _ _ _ _ _ _ _ 10 _ _))
  · replace vc := vc.1 c
    exact xi_vret (by decide +kernel : decode mX9_putText.2.1 25 = .ok (.return_, 1)) rfl vc
  · replace vc := vc.2 c
    refine xi_aload_n (by decide +kernel : decode mX9_putText.2.1 10 = .ok (.aload_n 0, 1)) rfl rfl (?_ : XW _ _ _ _ _ _ _ 11 _ _)
    refine xi_aload_n (by decide +kernel : decode mX9_putText.2.1 11 = .ok (.aload_n 1, 1)) rfl rfl (?_ : XW _ _ _ _ _ _ _ 12 _ _)
    refine xi_iload_n (by decide +kernel : decode mX9_putText.2.1 12 = .ok (.iload_n 2, 1)) rfl rfl (?_ : XW _ _ _ _ _ _ _ 13 _ _)
    obtain ⟨Q1, sp, vc⟩ := vc
    refine xi_callVs (b := 0) (bs := 0) (As := [.int x2]) (st := [.ref 54]) (by decide +kernel : decode mX9_putText.2.1 13 = .ok (.invokevirtual 24, 3)) (xVs.of cM_X9_24 cI_J0_charAt_5068e cE_J0_charAt_5068e cN_J0 cC_J0_charAt_5068e cD_J0_charAt_5068e) rfl hi rfl sp (by decide) (by decide) (Nat.le_of_ble_eq_true rfl) (by omega) (fun v9 h2 hq9 => ?_)
    obtain ⟨r2, e9, vc⟩ := vc v9 h2 hq9
    subst e9
    show XW _ _ _ _ _ _ _ 16 _ [.int r2, .ref 54]
    obtain ⟨Q1, sp, vc⟩ := vc
    refine xi_callV (b := 0) (bs := 0) (As := [.int r2]) (st := []) (by decide +kernel : decode mX9_putText.2.1 16 = .ok (.invokevirtual 28, 3)) kX9_28 rfl rfl (by omega) rfl sp (by decide) (by decide) (Nat.le_of_ble_eq_true rfl) (by omega) (fun v9 h3 hq9 => ?_)
    obtain ⟨e9, vc⟩ := vc v9 h3 hq9
    subst e9
    show XW _ _ _ _ _ _ _ 19 _ []
    refine xi_iinc (v := x2 + 1) (ls' := [some (.ref 54), some (.ref (1000 + i)), some (.int (x2 + 1))]) (by decide +kernel : decode mX9_putText.2.1 19 = .ok (.iinc 2 1, 3)) rfl rfl (by decide) rfl (?_ : XW _ _ _ _ _ _ _ 22 _ _)
    refine xi_goto (by decide +kernel : decode mX9_putText.2.1 22 = .ok (.goto (-20), 3)) (by decide) (?_ : XW _ _ _ _ _ _ _ 2 _ _)
    exact vc

set_option maxRecDepth 20000 in
theorem v_X9_putNumber_0 {h : XH} {Q : Option Value → XH → Prop} {X : String → XH → Prop} (hw : xWri (xP h))  (v : Int32)
    (vc : ∃ Q1, XSpec mX9_put 1 0 0 100 100 [.ref 54, .int 32] h Q1 xno ∧ ∀ v h1, Q1 v h1 → v = none ∧ ((v < 100 → (v < 10 → ∃ Q1, XSpec mX9_put 1 0 0 100 100 [.ref 54, .int (((48 + (v - v / 10 * 10)).toUInt32 % 65536).toInt32)] h1 Q1 xno ∧ ∀ v h2, Q1 v h2 → v = none ∧ (Q none h2)) ∧ (¬ v < 10 → ∃ Q1, XSpec mX9_put 1 0 0 100 100 [.ref 54, .int (((48 + ((v / 10) - (v / 10) / 10 * 10)).toUInt32 % 65536).toInt32)] h1 Q1 xno ∧ ∀ v h3, Q1 v h3 → v = none ∧ (∃ Q1, XSpec mX9_put 1 0 0 100 100 [.ref 54, .int (((48 + (v - v / 10 * 10)).toUInt32 % 65536).toInt32)] h3 Q1 xno ∧ ∀ v h4, Q1 v h4 → v = none ∧ (Q none h4)))) ∧ (¬ v < 100 → ∃ Q1, XSpec mX9_put 1 0 0 100 100 [.ref 54, .int (((48 + ((v / 100) - (v / 100) / 10 * 10)).toUInt32 % 65536).toInt32)] h1 Q1 xno ∧ ∀ v h5, Q1 v h5 → v = none ∧ ((v < 10 → ∃ Q1, XSpec mX9_put 1 0 0 100 100 [.ref 54, .int (((48 + (v - v / 10 * 10)).toUInt32 % 65536).toInt32)] h5 Q1 xno ∧ ∀ v h6, Q1 v h6 → v = none ∧ (Q none h6)) ∧ (¬ v < 10 → ∃ Q1, XSpec mX9_put 1 0 0 100 100 [.ref 54, .int (((48 + ((v / 10) - (v / 10) / 10 * 10)).toUInt32 % 65536).toInt32)] h5 Q1 xno ∧ ∀ v h7, Q1 v h7 → v = none ∧ (∃ Q1, XSpec mX9_put 1 0 0 100 100 [.ref 54, .int (((48 + (v - v / 10 * 10)).toUInt32 % 65536).toInt32)] h7 Q1 xno ∧ ∀ v h8, Q1 v h8 → v = none ∧ (Q none h8))))))) :
    XW (xrm 2 0 0) mX9_putNumber (xE 100 Q X 0 0) 100 0 0 h 0 [some (.ref 54), some (.int v)] [] := by
  refine xi_aload_n (by decide +kernel : decode mX9_putNumber.2.1 0 = .ok (.aload_n 0, 1)) rfl rfl (?_ : XW _ _ _ _ _ _ _ 1 _ _)
  refine xi_bipush (v := 32) (by decide +kernel : decode mX9_putNumber.2.1 1 = .ok (.bipush 32, 2)) (by decide) (?_ : XW _ _ _ _ _ _ _ 3 _ _)
  obtain ⟨Q1, sp, vc⟩ := vc
  refine xi_callV (b := 0) (bs := 0) (As := [.int 32]) (st := []) (by decide +kernel : decode mX9_putNumber.2.1 3 = .ok (.invokevirtual 28, 3)) kX9_28 rfl rfl (by omega) rfl sp (by decide) (by decide) (Nat.le_of_ble_eq_true rfl) (by omega) (fun v9 h1 hq9 => ?_)
  obtain ⟨e9, vc⟩ := vc v9 h1 hq9
  subst e9
  show XW _ _ _ _ _ _ _ 6 _ []
  refine xi_iload_n (by decide +kernel : decode mX9_putNumber.2.1 6 = .ok (.iload_n 1, 1)) rfl rfl (?_ : XW _ _ _ _ _ _ _ 7 _ _)
  refine xi_bipush (v := 100) (by decide +kernel : decode mX9_putNumber.2.1 7 = .ok (.bipush 100, 2)) (by decide) (?_ : XW _ _ _ _ _ _ _ 9 _ _)
  refine xi_icmp_lt (by decide +kernel : decode mX9_putNumber.2.1 9 = .ok (.if_icmp .lt 18, 3)) (by decide) (fun c => (?_ : XW _ _ _ _ _ _ _ 27 _ _)) (fun c => (?_ : XW _ _ _ _ _ _ _ 12 _ _))
  · replace vc := vc.1 c
    refine xi_iload_n (by decide +kernel : decode mX9_putNumber.2.1 27 = .ok (.iload_n 1, 1)) rfl rfl (?_ : XW _ _ _ _ _ _ _ 28 _ _)
    refine xi_bipush (v := 10) (by decide +kernel : decode mX9_putNumber.2.1 28 = .ok (.bipush 10, 2)) (by decide) (?_ : XW _ _ _ _ _ _ _ 30 _ _)
    refine xi_icmp_lt (by decide +kernel : decode mX9_putNumber.2.1 30 = .ok (.if_icmp .lt 18, 3)) (by decide) (fun c => (?_ : XW _ _ _ _ _ _ _ 48 _ _)) (fun c => (?_ : XW _ _ _ _ _ _ _ 33 _ _))
    · replace vc := vc.1 c
      refine xi_aload_n (by decide +kernel : decode mX9_putNumber.2.1 48 = .ok (.aload_n 0, 1)) rfl rfl (?_ : XW _ _ _ _ _ _ _ 49 _ _)
      refine xi_bipush (v := 48) (by decide +kernel : decode mX9_putNumber.2.1 49 = .ok (.bipush 48, 2)) (by decide) (?_ : XW _ _ _ _ _ _ _ 51 _ _)
      refine xi_iload_n (by decide +kernel : decode mX9_putNumber.2.1 51 = .ok (.iload_n 1, 1)) rfl rfl (?_ : XW _ _ _ _ _ _ _ 52 _ _)
      refine xi_bipush (v := 10) (by decide +kernel : decode mX9_putNumber.2.1 52 = .ok (.bipush 10, 2)) (by decide) (?_ : XW _ _ _ _ _ _ _ 54 _ _)
      refine xi_irem (by decide +kernel : decode mX9_putNumber.2.1 54 = .ok (.irem, 1)) (by decide) (?_ : XW _ _ _ _ _ _ _ 55 _ _)
      refine xi_iadd (by decide +kernel : decode mX9_putNumber.2.1 55 = .ok (.iadd, 1)) (?_ : XW _ _ _ _ _ _ _ 56 _ _)
      refine xi_i2c (by decide +kernel : decode mX9_putNumber.2.1 56 = .ok (.i2c, 1)) (?_ : XW _ _ _ _ _ _ _ 57 _ _)
      obtain ⟨Q1, sp, vc⟩ := vc
      refine xi_callV (b := 0) (bs := 0) (As := [.int (((48 + (v - v / 10 * 10)).toUInt32 % 65536).toInt32)]) (st := []) (by decide +kernel : decode mX9_putNumber.2.1 57 = .ok (.invokevirtual 28, 3)) kX9_28 rfl rfl (by omega) rfl sp (by decide) (by decide) (Nat.le_of_ble_eq_true rfl) (by omega) (fun v9 h2 hq9 => ?_)
      obtain ⟨e9, vc⟩ := vc v9 h2 hq9
      subst e9
      show XW _ _ _ _ _ _ _ 60 _ []
      exact xi_vret (by decide +kernel : decode mX9_putNumber.2.1 60 = .ok (.return_, 1)) rfl vc
    · replace vc := vc.2 c
      refine xi_aload_n (by decide +kernel : decode mX9_putNumber.2.1 33 = .ok (.aload_n 0, 1)) rfl rfl (?_ : XW _ _ _ _ _ _ _ 34 _ _)
      refine xi_bipush (v := 48) (by decide +kernel : decode mX9_putNumber.2.1 34 = .ok (.bipush 48, 2)) (by decide) (?_ : XW _ _ _ _ _ _ _ 36 _ _)
      refine xi_iload_n (by decide +kernel : decode mX9_putNumber.2.1 36 = .ok (.iload_n 1, 1)) rfl rfl (?_ : XW _ _ _ _ _ _ _ 37 _ _)
      refine xi_bipush (v := 10) (by decide +kernel : decode mX9_putNumber.2.1 37 = .ok (.bipush 10, 2)) (by decide) (?_ : XW _ _ _ _ _ _ _ 39 _ _)
      refine xi_idiv (by decide +kernel : decode mX9_putNumber.2.1 39 = .ok (.idiv, 1)) (by decide) (?_ : XW _ _ _ _ _ _ _ 40 _ _)
      refine xi_bipush (v := 10) (by decide +kernel : decode mX9_putNumber.2.1 40 = .ok (.bipush 10, 2)) (by decide) (?_ : XW _ _ _ _ _ _ _ 42 _ _)
      refine xi_irem (by decide +kernel : decode mX9_putNumber.2.1 42 = .ok (.irem, 1)) (by decide) (?_ : XW _ _ _ _ _ _ _ 43 _ _)
      refine xi_iadd (by decide +kernel : decode mX9_putNumber.2.1 43 = .ok (.iadd, 1)) (?_ : XW _ _ _ _ _ _ _ 44 _ _)
      refine xi_i2c (by decide +kernel : decode mX9_putNumber.2.1 44 = .ok (.i2c, 1)) (?_ : XW _ _ _ _ _ _ _ 45 _ _)
      obtain ⟨Q1, sp, vc⟩ := vc
      refine xi_callV (b := 0) (bs := 0) (As := [.int (((48 + ((v / 10) - (v / 10) / 10 * 10)).toUInt32 % 65536).toInt32)]) (st := []) (by decide +kernel : decode mX9_putNumber.2.1 45 = .ok (.invokevirtual 28, 3)) kX9_28 rfl rfl (by omega) rfl sp (by decide) (by decide) (Nat.le_of_ble_eq_true rfl) (by omega) (fun v9 h3 hq9 => ?_)
      obtain ⟨e9, vc⟩ := vc v9 h3 hq9
      subst e9
      show XW _ _ _ _ _ _ _ 48 _ []
      refine xi_aload_n (by decide +kernel : decode mX9_putNumber.2.1 48 = .ok (.aload_n 0, 1)) rfl rfl (?_ : XW _ _ _ _ _ _ _ 49 _ _)
      refine xi_bipush (v := 48) (by decide +kernel : decode mX9_putNumber.2.1 49 = .ok (.bipush 48, 2)) (by decide) (?_ : XW _ _ _ _ _ _ _ 51 _ _)
      refine xi_iload_n (by decide +kernel : decode mX9_putNumber.2.1 51 = .ok (.iload_n 1, 1)) rfl rfl (?_ : XW _ _ _ _ _ _ _ 52 _ _)
      refine xi_bipush (v := 10) (by decide +kernel : decode mX9_putNumber.2.1 52 = .ok (.bipush 10, 2)) (by decide) (?_ : XW _ _ _ _ _ _ _ 54 _ _)
      refine xi_irem (by decide +kernel : decode mX9_putNumber.2.1 54 = .ok (.irem, 1)) (by decide) (?_ : XW _ _ _ _ _ _ _ 55 _ _)
      refine xi_iadd (by decide +kernel : decode mX9_putNumber.2.1 55 = .ok (.iadd, 1)) (?_ : XW _ _ _ _ _ _ _ 56 _ _)
      refine xi_i2c (by decide +kernel : decode mX9_putNumber.2.1 56 = .ok (.i2c, 1)) (?_ : XW _ _ _ _ _ _ _ 57 _ _)
      obtain ⟨Q1, sp, vc⟩ := vc
      refine xi_callV (b := 0) (bs := 0) (As := [.int (((48 + (v - v / 10 * 10)).toUInt32 % 65536).toInt32)]) (st := []) (by decide +kernel : decode mX9_putNumber.2.1 57 = .ok (.invokevirtual 28, 3)) kX9_28 rfl rfl (by omega) rfl sp (by decide) (by decide) (Nat.le_of_ble_eq_true rfl) (by omega) (fun v9 h4 hq9 => ?_)
      obtain ⟨e9, vc⟩ := vc v9 h4 hq9
      subst e9
      show XW _ _ _ _ _ _ _ 60 _ []
      exact xi_vret (by decide +kernel : decode mX9_putNumber.2.1 60 = .ok (.return_, 1)) rfl vc
  · replace vc := vc.2 c
    refine xi_aload_n (by decide +kernel : decode mX9_putNumber.2.1 12 = .ok (.aload_n 0, 1)) rfl rfl (?_ : XW _ _ _ _ _ _ _ 13 _ _)
    refine xi_bipush (v := 48) (by decide +kernel : decode mX9_putNumber.2.1 13 = .ok (.bipush 48, 2)) (by decide) (?_ : XW _ _ _ _ _ _ _ 15 _ _)
    refine xi_iload_n (by decide +kernel : decode mX9_putNumber.2.1 15 = .ok (.iload_n 1, 1)) rfl rfl (?_ : XW _ _ _ _ _ _ _ 16 _ _)
    refine xi_bipush (v := 100) (by decide +kernel : decode mX9_putNumber.2.1 16 = .ok (.bipush 100, 2)) (by decide) (?_ : XW _ _ _ _ _ _ _ 18 _ _)
    refine xi_idiv (by decide +kernel : decode mX9_putNumber.2.1 18 = .ok (.idiv, 1)) (by decide) (?_ : XW _ _ _ _ _ _ _ 19 _ _)
    refine xi_bipush (v := 10) (by decide +kernel : decode mX9_putNumber.2.1 19 = .ok (.bipush 10, 2)) (by decide) (?_ : XW _ _ _ _ _ _ _ 21 _ _)
    refine xi_irem (by decide +kernel : decode mX9_putNumber.2.1 21 = .ok (.irem, 1)) (by decide) (?_ : XW _ _ _ _ _ _ _ 22 _ _)
    refine xi_iadd (by decide +kernel : decode mX9_putNumber.2.1 22 = .ok (.iadd, 1)) (?_ : XW _ _ _ _ _ _ _ 23 _ _)
    refine xi_i2c (by decide +kernel : decode mX9_putNumber.2.1 23 = .ok (.i2c, 1)) (?_ : XW _ _ _ _ _ _ _ 24 _ _)
    obtain ⟨Q1, sp, vc⟩ := vc
    refine xi_callV (b := 0) (bs := 0) (As := [.int (((48 + ((v / 100) - (v / 100) / 10 * 10)).toUInt32 % 65536).toInt32)]) (st := []) (by decide +kernel : decode mX9_putNumber.2.1 24 = .ok (.invokevirtual 28, 3)) kX9_28 rfl rfl (by omega) rfl sp (by decide) (by decide) (Nat.le_of_ble_eq_true rfl) (by omega) (fun v9 h5 hq9 => ?_)
    obtain ⟨e9, vc⟩ := vc v9 h5 hq9
    subst e9
    show XW _ _ _ _ _ _ _ 27 _ []
    refine xi_iload_n (by decide +kernel : decode mX9_putNumber.2.1 27 = .ok (.iload_n 1, 1)) rfl rfl (?_ : XW _ _ _ _ _ _ _ 28 _ _)
    refine xi_bipush (v := 10) (by decide +kernel : decode mX9_putNumber.2.1 28 = .ok (.bipush 10, 2)) (by decide) (?_ : XW _ _ _ _ _ _ _ 30 _ _)
    refine xi_icmp_lt (by decide +kernel : decode mX9_putNumber.2.1 30 = .ok (.if_icmp .lt 18, 3)) (by decide) (fun c => (?_ : XW _ _ _ _ _ _ _ 48 _ _)) (fun c => (?_ : XW _ _ _ _ _ _ _ 33 _ _))
    · replace vc := vc.1 c
      refine xi_aload_n (by decide +kernel : decode mX9_putNumber.2.1 48 = .ok (.aload_n 0, 1)) rfl rfl (?_ : XW _ _ _ _ _ _ _ 49 _ _)
      refine xi_bipush (v := 48) (by decide +kernel : decode mX9_putNumber.2.1 49 = .ok (.bipush 48, 2)) (by decide) (?_ : XW _ _ _ _ _ _ _ 51 _ _)
      refine xi_iload_n (by decide +kernel : decode mX9_putNumber.2.1 51 = .ok (.iload_n 1, 1)) rfl rfl (?_ : XW _ _ _ _ _ _ _ 52 _ _)
      refine xi_bipush (v := 10) (by decide +kernel : decode mX9_putNumber.2.1 52 = .ok (.bipush 10, 2)) (by decide) (?_ : XW _ _ _ _ _ _ _ 54 _ _)
      refine xi_irem (by decide +kernel : decode mX9_putNumber.2.1 54 = .ok (.irem, 1)) (by decide) (?_ : XW _ _ _ _ _ _ _ 55 _ _)
      refine xi_iadd (by decide +kernel : decode mX9_putNumber.2.1 55 = .ok (.iadd, 1)) (?_ : XW _ _ _ _ _ _ _ 56 _ _)
      refine xi_i2c (by decide +kernel : decode mX9_putNumber.2.1 56 = .ok (.i2c, 1)) (?_ : XW _ _ _ _ _ _ _ 57 _ _)
      obtain ⟨Q1, sp, vc⟩ := vc
      refine xi_callV (b := 0) (bs := 0) (As := [.int (((48 + (v - v / 10 * 10)).toUInt32 % 65536).toInt32)]) (st := []) (by decide +kernel : decode mX9_putNumber.2.1 57 = .ok (.invokevirtual 28, 3)) kX9_28 rfl rfl (by omega) rfl sp (by decide) (by decide) (Nat.le_of_ble_eq_true rfl) (by omega) (fun v9 h6 hq9 => ?_)
      obtain ⟨e9, vc⟩ := vc v9 h6 hq9
      subst e9
      show XW _ _ _ _ _ _ _ 60 _ []
      exact xi_vret (by decide +kernel : decode mX9_putNumber.2.1 60 = .ok (.return_, 1)) rfl vc
    · replace vc := vc.2 c
      refine xi_aload_n (by decide +kernel : decode mX9_putNumber.2.1 33 = .ok (.aload_n 0, 1)) rfl rfl (?_ : XW _ _ _ _ _ _ _ 34 _ _)
      refine xi_bipush (v := 48) (by decide +kernel : decode mX9_putNumber.2.1 34 = .ok (.bipush 48, 2)) (by decide) (?_ : XW _ _ _ _ _ _ _ 36 _ _)
      refine xi_iload_n (by decide +kernel : decode mX9_putNumber.2.1 36 = .ok (.iload_n 1, 1)) rfl rfl (?_ : XW _ _ _ _ _ _ _ 37 _ _)
      refine xi_bipush (v := 10) (by decide +kernel : decode mX9_putNumber.2.1 37 = .ok (.bipush 10, 2)) (by decide) (?_ : XW _ _ _ _ _ _ _ 39 _ _)
      refine xi_idiv (by decide +kernel : decode mX9_putNumber.2.1 39 = .ok (.idiv, 1)) (by decide) (?_ : XW _ _ _ _ _ _ _ 40 _ _)
      refine xi_bipush (v := 10) (by decide +kernel : decode mX9_putNumber.2.1 40 = .ok (.bipush 10, 2)) (by decide) (?_ : XW _ _ _ _ _ _ _ 42 _ _)
      refine xi_irem (by decide +kernel : decode mX9_putNumber.2.1 42 = .ok (.irem, 1)) (by decide) (?_ : XW _ _ _ _ _ _ _ 43 _ _)
      refine xi_iadd (by decide +kernel : decode mX9_putNumber.2.1 43 = .ok (.iadd, 1)) (?_ : XW _ _ _ _ _ _ _ 44 _ _)
      refine xi_i2c (by decide +kernel : decode mX9_putNumber.2.1 44 = .ok (.i2c, 1)) (?_ : XW _ _ _ _ _ _ _ 45 _ _)
      obtain ⟨Q1, sp, vc⟩ := vc
      refine xi_callV (b := 0) (bs := 0) (As := [.int (((48 + ((v / 10) - (v / 10) / 10 * 10)).toUInt32 % 65536).toInt32)]) (st := []) (by decide +kernel : decode mX9_putNumber.2.1 45 = .ok (.invokevirtual 28, 3)) kX9_28 rfl rfl (by omega) rfl sp (by decide) (by decide) (Nat.le_of_ble_eq_true rfl) (by omega) (fun v9 h7 hq9 => ?_)
      obtain ⟨e9, vc⟩ := vc v9 h7 hq9
      subst e9
      show XW _ _ _ _ _ _ _ 48 _ []
      refine xi_aload_n (by decide +kernel : decode mX9_putNumber.2.1 48 = .ok (.aload_n 0, 1)) rfl rfl (?_ : XW _ _ _ _ _ _ _ 49 _ _)
      refine xi_bipush (v := 48) (by decide +kernel : decode mX9_putNumber.2.1 49 = .ok (.bipush 48, 2)) (by decide) (?_ : XW _ _ _ _ _ _ _ 51 _ _)
      refine xi_iload_n (by decide +kernel : decode mX9_putNumber.2.1 51 = .ok (.iload_n 1, 1)) rfl rfl (?_ : XW _ _ _ _ _ _ _ 52 _ _)
      refine xi_bipush (v := 10) (by decide +kernel : decode mX9_putNumber.2.1 52 = .ok (.bipush 10, 2)) (by decide) (?_ : XW _ _ _ _ _ _ _ 54 _ _)
      refine xi_irem (by decide +kernel : decode mX9_putNumber.2.1 54 = .ok (.irem, 1)) (by decide) (?_ : XW _ _ _ _ _ _ _ 55 _ _)
      refine xi_iadd (by decide +kernel : decode mX9_putNumber.2.1 55 = .ok (.iadd, 1)) (?_ : XW _ _ _ _ _ _ _ 56 _ _)
      refine xi_i2c (by decide +kernel : decode mX9_putNumber.2.1 56 = .ok (.i2c, 1)) (?_ : XW _ _ _ _ _ _ _ 57 _ _)
      obtain ⟨Q1, sp, vc⟩ := vc
      refine xi_callV (b := 0) (bs := 0) (As := [.int (((48 + (v - v / 10 * 10)).toUInt32 % 65536).toInt32)]) (st := []) (by decide +kernel : decode mX9_putNumber.2.1 57 = .ok (.invokevirtual 28, 3)) kX9_28 rfl rfl (by omega) rfl sp (by decide) (by decide) (Nat.le_of_ble_eq_true rfl) (by omega) (fun v9 h8 hq9 => ?_)
      obtain ⟨e9, vc⟩ := vc v9 h8 hq9
      subst e9
      show XW _ _ _ _ _ _ _ 60 _ []
      exact xi_vret (by decide +kernel : decode mX9_putNumber.2.1 60 = .ok (.return_, 1)) rfl vc

set_option maxRecDepth 20000 in
theorem v_X9_putLine_0 {h : XH} {Q : Option Value → XH → Prop} {X : String → XH → Prop} (hw : xWri (xP h)) (i : Nat) (hi : i < jsN)  (v : Int32)
    (vc : ∃ Q1, XSpec mX9_putText 12 0 0 100 100 [.ref 54, .ref (1000 + i)] h Q1 xno ∧ ∀ v h1, Q1 v h1 → v = none ∧ (∃ Q1, XSpec mX9_putNumber 2 0 0 100 100 [.ref 54, .int v] h1 Q1 xno ∧ ∀ v h2, Q1 v h2 → v = none ∧ (∃ Q1, XSpec mX9_put 1 0 0 100 100 [.ref 54, .int 59] h2 Q1 xno ∧ ∀ v h3, Q1 v h3 → v = none ∧ (Q none h3)))) :
    XW (xrm 13 0 0) mX9_putLine (xE 100 Q X 0 0) 100 0 0 h 0 [some (.ref 54), some (.ref (1000 + i)), some (.int v)] [] := by
  refine xi_aload_n (by decide +kernel : decode mX9_putLine.2.1 0 = .ok (.aload_n 0, 1)) rfl rfl (?_ : XW _ _ _ _ _ _ _ 1 _ _)
  refine xi_aload_n (by decide +kernel : decode mX9_putLine.2.1 1 = .ok (.aload_n 1, 1)) rfl rfl (?_ : XW _ _ _ _ _ _ _ 2 _ _)
  obtain ⟨Q1, sp, vc⟩ := vc
  refine xi_callV (b := 0) (bs := 0) (As := [.ref (1000 + i)]) (st := []) (by decide +kernel : decode mX9_putLine.2.1 2 = .ok (.invokevirtual 32, 3)) kX9_32 rfl rfl (by omega) rfl sp (by decide) (by decide) (Nat.le_of_ble_eq_true rfl) (by omega) (fun v9 h1 hq9 => ?_)
  obtain ⟨e9, vc⟩ := vc v9 h1 hq9
  subst e9
  show XW _ _ _ _ _ _ _ 5 _ []
  refine xi_aload_n (by decide +kernel : decode mX9_putLine.2.1 5 = .ok (.aload_n 0, 1)) rfl rfl (?_ : XW _ _ _ _ _ _ _ 6 _ _)
  refine xi_iload_n (by decide +kernel : decode mX9_putLine.2.1 6 = .ok (.iload_n 2, 1)) rfl rfl (?_ : XW _ _ _ _ _ _ _ 7 _ _)
  obtain ⟨Q1, sp, vc⟩ := vc
  refine xi_callV (b := 0) (bs := 0) (As := [.int v]) (st := []) (by decide +kernel : decode mX9_putLine.2.1 7 = .ok (.invokevirtual 36, 3)) kX9_36 rfl rfl (by omega) rfl sp (by decide) (by decide) (Nat.le_of_ble_eq_true rfl) (by omega) (fun v9 h2 hq9 => ?_)
  obtain ⟨e9, vc⟩ := vc v9 h2 hq9
  subst e9
  show XW _ _ _ _ _ _ _ 10 _ []
  refine xi_aload_n (by decide +kernel : decode mX9_putLine.2.1 10 = .ok (.aload_n 0, 1)) rfl rfl (?_ : XW _ _ _ _ _ _ _ 11 _ _)
  refine xi_bipush (v := 59) (by decide +kernel : decode mX9_putLine.2.1 11 = .ok (.bipush 59, 2)) (by decide) (?_ : XW _ _ _ _ _ _ _ 13 _ _)
  obtain ⟨Q1, sp, vc⟩ := vc
  refine xi_callV (b := 0) (bs := 0) (As := [.int 59]) (st := []) (by decide +kernel : decode mX9_putLine.2.1 13 = .ok (.invokevirtual 28, 3)) kX9_28 rfl rfl (by omega) rfl sp (by decide) (by decide) (Nat.le_of_ble_eq_true rfl) (by omega) (fun v9 h3 hq9 => ?_)
  obtain ⟨e9, vc⟩ := vc v9 h3 hq9
  subst e9
  show XW _ _ _ _ _ _ _ 16 _ []
  exact xi_vret (by decide +kernel : decode mX9_putLine.2.1 16 = .ok (.return_, 1)) rfl vc

