/-! FEED: the walks -/
set_option maxRecDepth 20000 in
theorem v_X10_feed_0 {h : XH} {Q : Option Value → XH → Prop} {X : String → XH → Prop} (r : Nat) (hbp : BP r h)  (a1 : Int32) (a2 : Int32) (a3 : Int32) (a4 : Int32) (a5 : Int32)
    (vc : ((xI h 0 1) ≤ 480 → ∃ Q1, XSpec mX10_feedNumber 1 0 0 100 100 [.ref 0, .int a1] h Q1 xno ∧ ∀ v h1, Q1 v h1 → v = none ∧ (∃ Q1, XSpec mX10_feedNumber 1 0 0 100 100 [.ref 0, .int a2] h1 Q1 xno ∧ ∀ v h2, Q1 v h2 → v = none ∧ (∃ Q1, XSpec mX10_feedNumber 1 0 0 100 100 [.ref 0, .int a3] h2 Q1 xno ∧ ∀ v h3, Q1 v h3 → v = none ∧ (∃ Q1, XSpec mX10_feedNumber 1 0 0 100 100 [.ref 0, .int a4] h3 Q1 xno ∧ ∀ v h4, Q1 v h4 → v = none ∧ (∃ Q1, XSpec mX10_feedNumber 1 0 0 100 100 [.ref 0, .int a5] h4 Q1 xno ∧ ∀ v h5, Q1 v h5 → v = none ∧ (Q (some (.int (xI h5 0 1))) h5)))))) ∧ (¬ (xI h 0 1) ≤ 480 → Q (some (.int (-1))) h)) :
    XW (xrm 2 0 0) mX10_feed (xE 100 Q X 0 0) 100 0 0 h 0 [some (.ref 0), some (.int a1), some (.int a2), some (.int a3), some (.int a4), some (.int a5)] [] := by
  obtain ⟨hb, hr, hnr, ha21, ha25, hu29, hu34, hw, hnt, hwr⟩ := hbp
  refine xi_aload_n (by decide +kernel : decode mX10_feed.2.1 0 = .ok (.aload_n 0, 1)) rfl rfl (?_ : XW _ _ _ _ _ _ _ 1 _ _)
  refine xi_getI (by decide +kernel : decode mX10_feed.2.1 1 = .ok (.getfield 13, 3)) fX10_13 rfl (by omega) rfl (?_ : XW _ _ _ _ _ _ _ 4 _ _)
  refine xi_sipush (v := 480) (by decide +kernel : decode mX10_feed.2.1 4 = .ok (.sipush 480, 3)) (by decide) (?_ : XW _ _ _ _ _ _ _ 7 _ _)
  refine xi_icmp_le (by decide +kernel : decode mX10_feed.2.1 7 = .ok (.if_icmp .le 5, 3)) (by decide) (fun c => (?_ : XW _ _ _ _ _ _ _ 12 _ _)) (fun c => (?_ : XW _ _ _ _ _ _ _ 10 _ _))
  · replace vc := vc.1 c
    refine xi_aload_n (by decide +kernel : decode mX10_feed.2.1 12 = .ok (.aload_n 0, 1)) rfl rfl (?_ : XW _ _ _ _ _ _ _ 13 _ _)
    refine xi_iload_n (by decide +kernel : decode mX10_feed.2.1 13 = .ok (.iload_n 1, 1)) rfl rfl (?_ : XW _ _ _ _ _ _ _ 14 _ _)
    obtain ⟨Q1, sp, vc⟩ := vc
    refine xi_callV (b := 0) (bs := 0) (As := [.int a1]) (st := []) (by decide +kernel : decode mX10_feed.2.1 14 = .ok (.invokevirtual 101, 3)) kX10_101 rfl rfl (by omega) rfl sp (by decide) (by decide) (Nat.le_of_ble_eq_true rfl) (by omega) (fun v9 h1 hq9 => ?_)
    obtain ⟨e9, vc⟩ := vc v9 h1 hq9
    subst e9
    show XW _ _ _ _ _ _ _ 17 _ []
    refine xi_aload_n (by decide +kernel : decode mX10_feed.2.1 17 = .ok (.aload_n 0, 1)) rfl rfl (?_ : XW _ _ _ _ _ _ _ 18 _ _)
    refine xi_iload_n (by decide +kernel : decode mX10_feed.2.1 18 = .ok (.iload_n 2, 1)) rfl rfl (?_ : XW _ _ _ _ _ _ _ 19 _ _)
    obtain ⟨Q1, sp, vc⟩ := vc
    refine xi_callV (b := 0) (bs := 0) (As := [.int a2]) (st := []) (by decide +kernel : decode mX10_feed.2.1 19 = .ok (.invokevirtual 101, 3)) kX10_101 rfl rfl (by omega) rfl sp (by decide) (by decide) (Nat.le_of_ble_eq_true rfl) (by omega) (fun v9 h2 hq9 => ?_)
    obtain ⟨e9, vc⟩ := vc v9 h2 hq9
    subst e9
    show XW _ _ _ _ _ _ _ 22 _ []
    refine xi_aload_n (by decide +kernel : decode mX10_feed.2.1 22 = .ok (.aload_n 0, 1)) rfl rfl (?_ : XW _ _ _ _ _ _ _ 23 _ _)
    refine xi_iload_n (by decide +kernel : decode mX10_feed.2.1 23 = .ok (.iload_n 3, 1)) rfl rfl (?_ : XW _ _ _ _ _ _ _ 24 _ _)
    obtain ⟨Q1, sp, vc⟩ := vc
    refine xi_callV (b := 0) (bs := 0) (As := [.int a3]) (st := []) (by decide +kernel : decode mX10_feed.2.1 24 = .ok (.invokevirtual 101, 3)) kX10_101 rfl rfl (by omega) rfl sp (by decide) (by decide) (Nat.le_of_ble_eq_true rfl) (by omega) (fun v9 h3 hq9 => ?_)
    obtain ⟨e9, vc⟩ := vc v9 h3 hq9
    subst e9
    show XW _ _ _ _ _ _ _ 27 _ []
    refine xi_aload_n (by decide +kernel : decode mX10_feed.2.1 27 = .ok (.aload_n 0, 1)) rfl rfl (?_ : XW _ _ _ _ _ _ _ 28 _ _)
    refine xi_iload (by decide +kernel : decode mX10_feed.2.1 28 = .ok (.iload 4, 2)) rfl (?_ : XW _ _ _ _ _ _ _ 30 _ _)
    obtain ⟨Q1, sp, vc⟩ := vc
    refine xi_callV (b := 0) (bs := 0) (As := [.int a4]) (st := []) (by decide +kernel : decode mX10_feed.2.1 30 = .ok (.invokevirtual 101, 3)) kX10_101 rfl rfl (by omega) rfl sp (by decide) (by decide) (Nat.le_of_ble_eq_true rfl) (by omega) (fun v9 h4 hq9 => ?_)
    obtain ⟨e9, vc⟩ := vc v9 h4 hq9
    subst e9
    show XW _ _ _ _ _ _ _ 33 _ []
    refine xi_aload_n (by decide +kernel : decode mX10_feed.2.1 33 = .ok (.aload_n 0, 1)) rfl rfl (?_ : XW _ _ _ _ _ _ _ 34 _ _)
    refine xi_iload (by decide +kernel : decode mX10_feed.2.1 34 = .ok (.iload 5, 2)) rfl (?_ : XW _ _ _ _ _ _ _ 36 _ _)
    obtain ⟨Q1, sp, vc⟩ := vc
    refine xi_callV (b := 0) (bs := 0) (As := [.int a5]) (st := []) (by decide +kernel : decode mX10_feed.2.1 36 = .ok (.invokevirtual 101, 3)) kX10_101 rfl rfl (by omega) rfl sp (by decide) (by decide) (Nat.le_of_ble_eq_true rfl) (by omega) (fun v9 h5 hq9 => ?_)
    obtain ⟨e9, vc⟩ := vc v9 h5 hq9
    subst e9
    show XW _ _ _ _ _ _ _ 39 _ []
    refine xi_aload_n (by decide +kernel : decode mX10_feed.2.1 39 = .ok (.aload_n 0, 1)) rfl rfl (?_ : XW _ _ _ _ _ _ _ 40 _ _)
    refine xi_getI (by decide +kernel : decode mX10_feed.2.1 40 = .ok (.getfield 13, 3)) fX10_13 rfl (by omega) rfl (?_ : XW _ _ _ _ _ _ _ 43 _ _)
    exact xi_iret (by decide +kernel : decode mX10_feed.2.1 43 = .ok (.ireturn, 1)) rfl rfl vc
  · replace vc := vc.2 c
    refine xi_iconst (v := (-1)) (by decide +kernel : decode mX10_feed.2.1 10 = .ok (.iconst (-1), 1)) (by decide) (?_ : XW _ _ _ _ _ _ _ 11 _ _)
    exact xi_iret (by decide +kernel : decode mX10_feed.2.1 11 = .ok (.ireturn, 1)) rfl rfl vc

set_option maxRecDepth 20000 in
theorem v_X10_feedNumber_0 {h : XH} {Q : Option Value → XH → Prop} {X : String → XH → Prop} (r : Nat) (hbp : BP r h)  (w : Int32)
    (vc : XW (xrm 1 0 0) mX10_feedNumber (xE 100 Q X 0 0) 100 0 0 h 3 [some (.ref 0), some (.int w), some (.int 24)] []) :
    XW (xrm 1 0 0) mX10_feedNumber (xE 100 Q X 0 0) 100 0 0 h 0 [some (.ref 0), some (.int w), none] [] := by
  obtain ⟨hb, hr, hnr, ha21, ha25, hu29, hu34, hw, hnt, hwr⟩ := hbp
  refine xi_bipush (v := 24) (by decide +kernel : decode mX10_feedNumber.2.1 0 = .ok (.bipush 24, 2)) (by decide) (?_ : XW _ _ _ _ _ _ _ 2 _ _)
  refine xi_istore_n (ls' := [some (.ref 0), some (.int w), some (.int 24)]) (by decide +kernel : decode mX10_feedNumber.2.1 2 = .ok (.istore_n 2, 1)) rfl (by decide) rfl (?_ : XW _ _ _ _ _ _ _ 3 _ _)
  exact vc

set_option maxRecDepth 20000 in
theorem v_X10_feedNumber_3 {h : XH} {Q : Option Value → XH → Prop} {X : String → XH → Prop} (r : Nat) (hbp : BP r h)  (x1 : Int32) (x2 : Int32)
    (vc : (x2 < 0 → Q none h) ∧ (¬ x2 < 0 → ((xI h 0 1) < 0 → XW (xrm 1 0 0) mX10_feedNumber (xE 100 Q X 0 0) 100 0 0 h 3 [some (.ref 0), some (.int x1), some (.int (x2 + (-8)))] []) ∧ (¬ (xI h 0 1) < 0 → (500 ≤ (xI h 0 1) → XW (xrm 1 0 0) mX10_feedNumber (xE 100 Q X 0 0) 100 0 0 h 3 [some (.ref 0), some (.int x1), some (.int (x2 + (-8)))] []) ∧ (¬ 500 ≤ (xI h 0 1) → (vp_in (xI h 0 1) 500) ∧ (XW (xrm 1 0 0) mX10_feedNumber (xE 100 Q X 0 0) 100 0 0 (xSI 0 (va_up (xI h 0) 1 ((xI h 0 1) + 1)) (xSI 1 (va_up (xI h 1) (xI h 0 1).toNatClampNeg (vp_nar .char (((((x1.toUInt32 >>> ((x2 : Int32).toUInt32 &&& Int32.toUInt32 31)).toInt32) &&& 255).toUInt32 % 65536).toInt32))) h)) 3 [some (.ref 0), some (.int x1), some (.int (x2 + (-8)))] []))))) :
    XW (xrm 1 0 0) mX10_feedNumber (xE 100 Q X 0 0) 100 0 0 h 3 [some (.ref 0), some (.int x1), some (.int x2)] [] := by
  obtain ⟨hb, hr, hnr, ha21, ha25, hu29, hu34, hw, hnt, hwr⟩ := hbp
  refine xi_iload_n (by decide +kernel : decode mX10_feedNumber.2.1 3 = .ok (.iload_n 2, 1)) rfl rfl (?_ : XW _ _ _ _ _ _ _ 4 _ _)
  refine xi_if_lt (by decide +kernel : decode mX10_feedNumber.2.1 4 = .ok (.ifCond .lt 55, 3)) (by decide) (fun c => (?_ : XW _ _ _ _ _ _ _ 59 _ _)) (fun c => (?_ : XW _ _ _ _ _ _ _ 7 _ _))
  · replace vc := vc.1 c
    exact xi_vret (by decide +kernel : decode mX10_feedNumber.2.1 59 = .ok (.return_, 1)) rfl vc
  · replace vc := vc.2 c
    refine xi_aload_n (by decide +kernel : decode mX10_feedNumber.2.1 7 = .ok (.aload_n 0, 1)) rfl rfl (?_ : XW _ _ _ _ _ _ _ 8 _ _)
    refine xi_getI (by decide +kernel : decode mX10_feedNumber.2.1 8 = .ok (.getfield 13, 3)) fX10_13 rfl (by omega) rfl (?_ : XW _ _ _ _ _ _ _ 11 _ _)
    refine xi_if_lt (by decide +kernel : decode mX10_feedNumber.2.1 11 = .ok (.ifCond .lt 42, 3)) (by decide) (fun c => (?_ : XW _ _ _ _ _ _ _ 53 _ _)) (fun c => (?_ : XW _ _ _ _ _ _ _ 14 _ _))
    · replace vc := vc.1 c
      refine xi_iinc (v := x2 + (-8)) (ls' := [some (.ref 0), some (.int x1), some (.int (x2 + (-8)))]) (by decide +kernel : decode mX10_feedNumber.2.1 53 = .ok (.iinc 2 (-8), 3)) rfl rfl (by decide) rfl (?_ : XW _ _ _ _ _ _ _ 56 _ _)
      refine xi_goto (by decide +kernel : decode mX10_feedNumber.2.1 56 = .ok (.goto (-53), 3)) (by decide) (?_ : XW _ _ _ _ _ _ _ 3 _ _)
      exact vc
    · replace vc := vc.2 c
      refine xi_aload_n (by decide +kernel : decode mX10_feedNumber.2.1 14 = .ok (.aload_n 0, 1)) rfl rfl (?_ : XW _ _ _ _ _ _ _ 15 _ _)
      refine xi_getI (by decide +kernel : decode mX10_feedNumber.2.1 15 = .ok (.getfield 13, 3)) fX10_13 rfl (by omega) rfl (?_ : XW _ _ _ _ _ _ _ 18 _ _)
      refine xi_aload_n (by decide +kernel : decode mX10_feedNumber.2.1 18 = .ok (.aload_n 0, 1)) rfl rfl (?_ : XW _ _ _ _ _ _ _ 19 _ _)
      refine xi_getR (y := 1) (by decide +kernel : decode mX10_feedNumber.2.1 19 = .ok (.getfield 9, 3)) fX10_9 rfl (by omega) rfl hb.1 (?_ : XW _ _ _ _ _ _ _ 22 _ _)
      refine xi_alen (v := 500) (by decide +kernel : decode mX10_feedNumber.2.1 22 = .ok (.arraylength, 1)) rfl (by omega) (Or.inl rfl) rfl (?_ : XW _ _ _ _ _ _ _ 23 _ _)
      refine xi_icmp_ge (by decide +kernel : decode mX10_feedNumber.2.1 23 = .ok (.if_icmp .ge 30, 3)) (by decide) (fun c => (?_ : XW _ _ _ _ _ _ _ 53 _ _)) (fun c => (?_ : XW _ _ _ _ _ _ _ 26 _ _))
      · replace vc := vc.1 c
        refine xi_iinc (v := x2 + (-8)) (ls' := [some (.ref 0), some (.int x1), some (.int (x2 + (-8)))]) (by decide +kernel : decode mX10_feedNumber.2.1 53 = .ok (.iinc 2 (-8), 3)) rfl rfl (by decide) rfl (?_ : XW _ _ _ _ _ _ _ 56 _ _)
        refine xi_goto (by decide +kernel : decode mX10_feedNumber.2.1 56 = .ok (.goto (-53), 3)) (by decide) (?_ : XW _ _ _ _ _ _ _ 3 _ _)
        exact vc
      · replace vc := vc.2 c
        refine xi_aload_n (by decide +kernel : decode mX10_feedNumber.2.1 26 = .ok (.aload_n 0, 1)) rfl rfl (?_ : XW _ _ _ _ _ _ _ 27 _ _)
        refine xi_getR (y := 1) (by decide +kernel : decode mX10_feedNumber.2.1 27 = .ok (.getfield 9, 3)) fX10_9 rfl (by omega) rfl hb.1 (?_ : XW _ _ _ _ _ _ _ 30 _ _)
        refine xi_aload_n (by decide +kernel : decode mX10_feedNumber.2.1 30 = .ok (.aload_n 0, 1)) rfl rfl (?_ : XW _ _ _ _ _ _ _ 31 _ _)
        refine xi_getI (by decide +kernel : decode mX10_feedNumber.2.1 31 = .ok (.getfield 13, 3)) fX10_13 rfl (by omega) rfl (?_ : XW _ _ _ _ _ _ _ 34 _ _)
        refine xi_iload_n (by decide +kernel : decode mX10_feedNumber.2.1 34 = .ok (.iload_n 1, 1)) rfl rfl (?_ : XW _ _ _ _ _ _ _ 35 _ _)
        refine xi_iload_n (by decide +kernel : decode mX10_feedNumber.2.1 35 = .ok (.iload_n 2, 1)) rfl rfl (?_ : XW _ _ _ _ _ _ _ 36 _ _)
        refine xi_iushr (by decide +kernel : decode mX10_feedNumber.2.1 36 = .ok (.iushr, 1)) (?_ : XW _ _ _ _ _ _ _ 37 _ _)
        refine xi_sipush (v := 255) (by decide +kernel : decode mX10_feedNumber.2.1 37 = .ok (.sipush 255, 3)) (by decide) (?_ : XW _ _ _ _ _ _ _ 40 _ _)
        refine xi_iand (by decide +kernel : decode mX10_feedNumber.2.1 40 = .ok (.iand, 1)) (?_ : XW _ _ _ _ _ _ _ 41 _ _)
        refine xi_i2c (by decide +kernel : decode mX10_feedNumber.2.1 41 = .ok (.i2c, 1)) (?_ : XW _ _ _ _ _ _ _ 42 _ _)
        obtain ⟨s1, vc⟩ := vc
        refine xi_cast (by decide +kernel : decode mX10_feedNumber.2.1 42 = .ok (.castore, 1)) rfl (by omega) s1 (?_ : XW _ _ _ _ _ _ (xSI 1 (va_up (xI h 1) (xI h 0 1).toNatClampNeg (vp_nar .char (((((x1.toUInt32 >>> ((x2 : Int32).toUInt32 &&& Int32.toUInt32 31)).toInt32) &&& 255).toUInt32 % 65536).toInt32))) h) 43 _ _)
        refine xi_aload_n (by decide +kernel : decode mX10_feedNumber.2.1 43 = .ok (.aload_n 0, 1)) rfl rfl (?_ : XW _ _ _ _ _ _ _ 44 _ _)
        refine xi_dup (by decide +kernel : decode mX10_feedNumber.2.1 44 = .ok (.dup, 1)) rfl (?_ : XW _ _ _ _ _ _ _ 45 _ _)
        refine xi_getI (by decide +kernel : decode mX10_feedNumber.2.1 45 = .ok (.getfield 13, 3)) fX10_13 rfl (by omega) rfl (?_ : XW _ _ _ _ _ _ _ 48 _ [.int (xI h 0 1), .ref 0])
        refine xi_iconst (v := 1) (by decide +kernel : decode mX10_feedNumber.2.1 48 = .ok (.iconst 1, 1)) (by decide) (?_ : XW _ _ _ _ _ _ _ 49 _ _)
        refine xi_iadd (by decide +kernel : decode mX10_feedNumber.2.1 49 = .ok (.iadd, 1)) (?_ : XW _ _ _ _ _ _ _ 50 _ _)
        refine xi_putI (by decide +kernel : decode mX10_feedNumber.2.1 50 = .ok (.putfield 13, 3)) fX10_13 rfl (by omega) rfl rfl rfl (?_ : XW _ _ _ _ _ _ (xSI 0 (va_up (xI h 0) 1 ((xI h 0 1) + 1)) (xSI 1 (va_up (xI h 1) (xI h 0 1).toNatClampNeg (vp_nar .char (((((x1.toUInt32 >>> ((x2 : Int32).toUInt32 &&& Int32.toUInt32 31)).toInt32) &&& 255).toUInt32 % 65536).toInt32))) h)) 53 _ _)
        refine xi_iinc (v := x2 + (-8)) (ls' := [some (.ref 0), some (.int x1), some (.int (x2 + (-8)))]) (by decide +kernel : decode mX10_feedNumber.2.1 53 = .ok (.iinc 2 (-8), 3)) rfl rfl (by decide) rfl (?_ : XW _ _ _ _ _ _ _ 56 _ _)
        refine xi_goto (by decide +kernel : decode mX10_feedNumber.2.1 56 = .ok (.goto (-53), 3)) (by decide) (?_ : XW _ _ _ _ _ _ _ 3 _ _)
        exact vc

set_option maxRecDepth 20000 in
theorem v_X11_feed_0 {h : XH} {Q : Option Value → XH → Prop} {X : String → XH → Prop} (hM : xMod (xP h))  (a1 : Int32) (a2 : Int32) (a3 : Int32) (a4 : Int32) (a5 : Int32)
    (vc : (((va_up (xI h 56) 2 0 11) + 20) ≤ 500 → XW (xrm 1 0 0) mX11_feed (xE 100 Q X 0 0) 100 0 0 (xSI 56 (va_up (xI h 56) 2 0) h) 23 [some (.ref 56), some (.int a1), some (.int a2), some (.int a3), some (.int a4), some (.int a5), some (.int 0), none] []) ∧ (¬ ((va_up (xI h 56) 2 0 11) + 20) ≤ 500 → Q (some (.int (-1))) (xSI 56 (va_up (xI h 56) 2 0) h))) :
    XW (xrm 1 0 0) mX11_feed (xE 100 Q X 0 0) 100 0 0 h 0 [some (.ref 56), some (.int a1), some (.int a2), some (.int a3), some (.int a4), some (.int a5), none, none] [] := by
  refine xi_aload_n (by decide +kernel : decode mX11_feed.2.1 0 = .ok (.aload_n 0, 1)) rfl rfl (?_ : XW _ _ _ _ _ _ _ 1 _ _)
  refine xi_iconst (v := 0) (by decide +kernel : decode mX11_feed.2.1 1 = .ok (.iconst 0, 1)) (by decide) (?_ : XW _ _ _ _ _ _ _ 2 _ _)
  refine xi_putI (by decide +kernel : decode mX11_feed.2.1 2 = .ok (.putfield 161, 3)) fX11_161 rfl (by omega) rfl rfl rfl (?_ : XW _ _ _ _ _ _ (xSI 56 (va_up (xI h 56) 2 0) h) 5 _ _)
  refine xi_aload_n (by decide +kernel : decode mX11_feed.2.1 5 = .ok (.aload_n 0, 1)) rfl rfl (?_ : XW _ _ _ _ _ _ _ 6 _ _)
  refine xi_getI (by decide +kernel : decode mX11_feed.2.1 6 = .ok (.getfield 170, 3)) fX11_170 rfl (by omega) rfl (?_ : XW _ _ _ _ _ _ _ 9 _ [.int (va_up (xI h 56) 2 0 11)])
  refine xi_bipush (v := 20) (by decide +kernel : decode mX11_feed.2.1 9 = .ok (.bipush 20, 2)) (by decide) (?_ : XW _ _ _ _ _ _ _ 11 _ _)
  refine xi_iadd (by decide +kernel : decode mX11_feed.2.1 11 = .ok (.iadd, 1)) (?_ : XW _ _ _ _ _ _ _ 12 _ _)
  refine xi_sipush (v := 500) (by decide +kernel : decode mX11_feed.2.1 12 = .ok (.sipush 500, 3)) (by decide) (?_ : XW _ _ _ _ _ _ _ 15 _ _)
  refine xi_icmp_le (by decide +kernel : decode mX11_feed.2.1 15 = .ok (.if_icmp .le 5, 3)) (by decide) (fun c => (?_ : XW _ _ _ _ _ _ _ 20 _ _)) (fun c => (?_ : XW _ _ _ _ _ _ _ 18 _ _))
  · replace vc := vc.1 c
    refine xi_iconst (v := 0) (by decide +kernel : decode mX11_feed.2.1 20 = .ok (.iconst 0, 1)) (by decide) (?_ : XW _ _ _ _ _ _ _ 21 _ _)
    refine xi_istore (ls' := [some (.ref 56), some (.int a1), some (.int a2), some (.int a3), some (.int a4), some (.int a5), some (.int 0), none]) (by decide +kernel : decode mX11_feed.2.1 21 = .ok (.istore 6, 2)) (by decide) rfl (?_ : XW _ _ _ _ _ _ _ 23 _ _)
    exact vc
  · replace vc := vc.2 c
    refine xi_iconst (v := (-1)) (by decide +kernel : decode mX11_feed.2.1 18 = .ok (.iconst (-1), 1)) (by decide) (?_ : XW _ _ _ _ _ _ _ 19 _ _)
    exact xi_iret (by decide +kernel : decode mX11_feed.2.1 19 = .ok (.ireturn, 1)) rfl rfl vc

set_option maxRecDepth 20000 in
theorem v_X11_feed_23 {h : XH} {Q : Option Value → XH → Prop} {X : String → XH → Prop} (hM : xMod (xP h))  (x1 : Int32) (x2 : Int32) (x3 : Int32) (x4 : Int32) (x5 : Int32) (x6 : Int32)
    (vc : (20 ≤ x6 → Q (some (.int (xI h 56 11))) h) ∧ (¬ 20 ≤ x6 → (4 ≤ x6 → (8 ≤ x6 → (12 ≤ x6 → (16 ≤ x6 → (vp_in (xI h 56 11) 500) ∧ (XW (xrm 1 0 0) mX11_feed (xE 100 Q X 0 0) 100 0 0 (xSI 56 (va_up (xI h 56) 11 ((xI h 56 11) + 1)) (xSI 66 (va_up (xI h 66) (xI h 56 11).toNatClampNeg ((x5 >>> (((24 - (8 * (x6 - x6 / 4 * 4))) : Int32) &&& 31)) &&& 255)) h)) 23 [some (.ref 56), some (.int x1), some (.int x2), some (.int x3), some (.int x4), some (.int x5), some (.int (x6 + 1)), none] [])) ∧ (¬ 16 ≤ x6 → (vp_in (xI h 56 11) 500) ∧ (XW (xrm 1 0 0) mX11_feed (xE 100 Q X 0 0) 100 0 0 (xSI 56 (va_up (xI h 56) 11 ((xI h 56 11) + 1)) (xSI 66 (va_up (xI h 66) (xI h 56 11).toNatClampNeg ((x4 >>> (((24 - (8 * (x6 - x6 / 4 * 4))) : Int32) &&& 31)) &&& 255)) h)) 23 [some (.ref 56), some (.int x1), some (.int x2), some (.int x3), some (.int x4), some (.int x5), some (.int (x6 + 1)), none] []))) ∧ (¬ 12 ≤ x6 → (vp_in (xI h 56 11) 500) ∧ (XW (xrm 1 0 0) mX11_feed (xE 100 Q X 0 0) 100 0 0 (xSI 56 (va_up (xI h 56) 11 ((xI h 56 11) + 1)) (xSI 66 (va_up (xI h 66) (xI h 56 11).toNatClampNeg ((x3 >>> (((24 - (8 * (x6 - x6 / 4 * 4))) : Int32) &&& 31)) &&& 255)) h)) 23 [some (.ref 56), some (.int x1), some (.int x2), some (.int x3), some (.int x4), some (.int x5), some (.int (x6 + 1)), none] []))) ∧ (¬ 8 ≤ x6 → (vp_in (xI h 56 11) 500) ∧ (XW (xrm 1 0 0) mX11_feed (xE 100 Q X 0 0) 100 0 0 (xSI 56 (va_up (xI h 56) 11 ((xI h 56 11) + 1)) (xSI 66 (va_up (xI h 66) (xI h 56 11).toNatClampNeg ((x2 >>> (((24 - (8 * (x6 - x6 / 4 * 4))) : Int32) &&& 31)) &&& 255)) h)) 23 [some (.ref 56), some (.int x1), some (.int x2), some (.int x3), some (.int x4), some (.int x5), some (.int (x6 + 1)), none] []))) ∧ (¬ 4 ≤ x6 → (vp_in (xI h 56 11) 500) ∧ (XW (xrm 1 0 0) mX11_feed (xE 100 Q X 0 0) 100 0 0 (xSI 56 (va_up (xI h 56) 11 ((xI h 56 11) + 1)) (xSI 66 (va_up (xI h 66) (xI h 56 11).toNatClampNeg ((x1 >>> (((24 - (8 * (x6 - x6 / 4 * 4))) : Int32) &&& 31)) &&& 255)) h)) 23 [some (.ref 56), some (.int x1), some (.int x2), some (.int x3), some (.int x4), some (.int x5), some (.int (x6 + 1)), none] [])))) :
    XW (xrm 1 0 0) mX11_feed (xE 100 Q X 0 0) 100 0 0 h 23 [some (.ref 56), some (.int x1), some (.int x2), some (.int x3), some (.int x4), some (.int x5), some (.int x6), none] [] := by
  refine xi_iload (by decide +kernel : decode mX11_feed.2.1 23 = .ok (.iload 6, 2)) rfl (?_ : XW _ _ _ _ _ _ _ 25 _ _)
  refine xi_bipush (v := 20) (by decide +kernel : decode mX11_feed.2.1 25 = .ok (.bipush 20, 2)) (by decide) (?_ : XW _ _ _ _ _ _ _ 27 _ _)
  refine xi_icmp_ge (by decide +kernel : decode mX11_feed.2.1 27 = .ok (.if_icmp .ge 93, 3)) (by decide) (fun c => (?_ : XW _ _ _ _ _ _ _ 120 _ _)) (fun c => (?_ : XW _ _ _ _ _ _ _ 30 _ _))
  · replace vc := vc.1 c
    refine xi_aload_n (by decide +kernel : decode mX11_feed.2.1 120 = .ok (.aload_n 0, 1)) rfl rfl (?_ : XW _ _ _ _ _ _ _ 121 _ _)
    refine xi_getI (by decide +kernel : decode mX11_feed.2.1 121 = .ok (.getfield 170, 3)) fX11_170 rfl (by omega) rfl (?_ : XW _ _ _ _ _ _ _ 124 _ _)
    exact xi_iret (by decide +kernel : decode mX11_feed.2.1 124 = .ok (.ireturn, 1)) rfl rfl vc
  · replace vc := vc.2 c
    refine xi_iload (by decide +kernel : decode mX11_feed.2.1 30 = .ok (.iload 6, 2)) rfl (?_ : XW _ _ _ _ _ _ _ 32 _ _)
    refine xi_iconst (v := 4) (by decide +kernel : decode mX11_feed.2.1 32 = .ok (.iconst 4, 1)) (by decide) (?_ : XW _ _ _ _ _ _ _ 33 _ _)
    refine xi_icmp_ge (by decide +kernel : decode mX11_feed.2.1 33 = .ok (.if_icmp .ge 7, 3)) (by decide) (fun c => (?_ : XW _ _ _ _ _ _ _ 40 _ _)) (fun c => (?_ : XW _ _ _ _ _ _ _ 36 _ _))
    · replace vc := vc.1 c
      refine xi_iload (by decide +kernel : decode mX11_feed.2.1 40 = .ok (.iload 6, 2)) rfl (?_ : XW _ _ _ _ _ _ _ 42 _ _)
      refine xi_bipush (v := 8) (by decide +kernel : decode mX11_feed.2.1 42 = .ok (.bipush 8, 2)) (by decide) (?_ : XW _ _ _ _ _ _ _ 44 _ _)
      refine xi_icmp_ge (by decide +kernel : decode mX11_feed.2.1 44 = .ok (.if_icmp .ge 7, 3)) (by decide) (fun c => (?_ : XW _ _ _ _ _ _ _ 51 _ _)) (fun c => (?_ : XW _ _ _ _ _ _ _ 47 _ _))
      · replace vc := vc.1 c
        refine xi_iload (by decide +kernel : decode mX11_feed.2.1 51 = .ok (.iload 6, 2)) rfl (?_ : XW _ _ _ _ _ _ _ 53 _ _)
        refine xi_bipush (v := 12) (by decide +kernel : decode mX11_feed.2.1 53 = .ok (.bipush 12, 2)) (by decide) (?_ : XW _ _ _ _ _ _ _ 55 _ _)
        refine xi_icmp_ge (by decide +kernel : decode mX11_feed.2.1 55 = .ok (.if_icmp .ge 7, 3)) (by decide) (fun c => (?_ : XW _ _ _ _ _ _ _ 62 _ _)) (fun c => (?_ : XW _ _ _ _ _ _ _ 58 _ _))
        · replace vc := vc.1 c
          refine xi_iload (by decide +kernel : decode mX11_feed.2.1 62 = .ok (.iload 6, 2)) rfl (?_ : XW _ _ _ _ _ _ _ 64 _ _)
          refine xi_bipush (v := 16) (by decide +kernel : decode mX11_feed.2.1 64 = .ok (.bipush 16, 2)) (by decide) (?_ : XW _ _ _ _ _ _ _ 66 _ _)
          refine xi_icmp_ge (by decide +kernel : decode mX11_feed.2.1 66 = .ok (.if_icmp .ge 8, 3)) (by decide) (fun c => (?_ : XW _ _ _ _ _ _ _ 74 _ _)) (fun c => (?_ : XW _ _ _ _ _ _ _ 69 _ _))
          · replace vc := vc.1 c
            refine xi_iload (by decide +kernel : decode mX11_feed.2.1 74 = .ok (.iload 5, 2)) rfl (?_ : XW _ _ _ _ _ _ _ 76 _ _)
            refine xi_istore (ls' := [some (.ref 56), some (.int x1), some (.int x2), some (.int x3), some (.int x4), some (.int x5), some (.int x6), some (.int x5)]) (by decide +kernel : decode mX11_feed.2.1 76 = .ok (.istore 7, 2)) (by decide) rfl (?_ : XW _ _ _ _ _ _ _ 78 _ _)
            refine xi_aload_n (by decide +kernel : decode mX11_feed.2.1 78 = .ok (.aload_n 0, 1)) rfl rfl (?_ : XW _ _ _ _ _ _ _ 79 _ _)
            refine xi_getR (y := 66) (by decide +kernel : decode mX11_feed.2.1 79 = .ok (.getfield 54, 3)) fX11_54 rfl (by omega) rfl (mp_tape hM) (?_ : XW _ _ _ _ _ _ _ 82 _ _)
            refine xi_aload_n (by decide +kernel : decode mX11_feed.2.1 82 = .ok (.aload_n 0, 1)) rfl rfl (?_ : XW _ _ _ _ _ _ _ 83 _ _)
            refine xi_getI (by decide +kernel : decode mX11_feed.2.1 83 = .ok (.getfield 170, 3)) fX11_170 rfl (by omega) rfl (?_ : XW _ _ _ _ _ _ _ 86 _ _)
            refine xi_iload (by decide +kernel : decode mX11_feed.2.1 86 = .ok (.iload 7, 2)) rfl (?_ : XW _ _ _ _ _ _ _ 88 _ _)
            refine xi_bipush (v := 24) (by decide +kernel : decode mX11_feed.2.1 88 = .ok (.bipush 24, 2)) (by decide) (?_ : XW _ _ _ _ _ _ _ 90 _ _)
            refine xi_bipush (v := 8) (by decide +kernel : decode mX11_feed.2.1 90 = .ok (.bipush 8, 2)) (by decide) (?_ : XW _ _ _ _ _ _ _ 92 _ _)
            refine xi_iload (by decide +kernel : decode mX11_feed.2.1 92 = .ok (.iload 6, 2)) rfl (?_ : XW _ _ _ _ _ _ _ 94 _ _)
            refine xi_iconst (v := 4) (by decide +kernel : decode mX11_feed.2.1 94 = .ok (.iconst 4, 1)) (by decide) (?_ : XW _ _ _ _ _ _ _ 95 _ _)
            refine xi_irem (by decide +kernel : decode mX11_feed.2.1 95 = .ok (.irem, 1)) (by decide) (?_ : XW _ _ _ _ _ _ _ 96 _ _)
            refine xi_imul (by decide +kernel : decode mX11_feed.2.1 96 = .ok (.imul, 1)) (?_ : XW _ _ _ _ _ _ _ 97 _ _)
            refine xi_isub (by decide +kernel : decode mX11_feed.2.1 97 = .ok (.isub, 1)) (?_ : XW _ _ _ _ _ _ _ 98 _ _)
            refine xi_ishr (by decide +kernel : decode mX11_feed.2.1 98 = .ok (.ishr, 1)) (?_ : XW _ _ _ _ _ _ _ 99 _ _)
            refine xi_sipush (v := 255) (by decide +kernel : decode mX11_feed.2.1 99 = .ok (.sipush 255, 3)) (by decide) (?_ : XW _ _ _ _ _ _ _ 102 _ _)
            refine xi_iand (by decide +kernel : decode mX11_feed.2.1 102 = .ok (.iand, 1)) (?_ : XW _ _ _ _ _ _ _ 103 _ _)
            obtain ⟨s1, vc⟩ := vc
            refine xi_iast (by decide +kernel : decode mX11_feed.2.1 103 = .ok (.iastore, 1)) rfl (by omega) s1 (?_ : XW _ _ _ _ _ _ (xSI 66 (va_up (xI h 66) (xI h 56 11).toNatClampNeg ((x5 >>> (((24 - (8 * (x6 - x6 / 4 * 4))) : Int32) &&& 31)) &&& 255)) h) 104 _ _)
            refine xi_aload_n (by decide +kernel : decode mX11_feed.2.1 104 = .ok (.aload_n 0, 1)) rfl rfl (?_ : XW _ _ _ _ _ _ _ 105 _ _)
            refine xi_dup (by decide +kernel : decode mX11_feed.2.1 105 = .ok (.dup, 1)) rfl (?_ : XW _ _ _ _ _ _ _ 106 _ _)
            refine xi_getI (by decide +kernel : decode mX11_feed.2.1 106 = .ok (.getfield 170, 3)) fX11_170 rfl (by omega) rfl (?_ : XW _ _ _ _ _ _ _ 109 _ [.int (xI h 56 11), .ref 56])
            refine xi_iconst (v := 1) (by decide +kernel : decode mX11_feed.2.1 109 = .ok (.iconst 1, 1)) (by decide) (?_ : XW _ _ _ _ _ _ _ 110 _ _)
            refine xi_iadd (by decide +kernel : decode mX11_feed.2.1 110 = .ok (.iadd, 1)) (?_ : XW _ _ _ _ _ _ _ 111 _ _)
            refine xi_putI (by decide +kernel : decode mX11_feed.2.1 111 = .ok (.putfield 170, 3)) fX11_170 rfl (by omega) rfl rfl rfl (?_ : XW _ _ _ _ _ _ (xSI 56 (va_up (xI h 56) 11 ((xI h 56 11) + 1)) (xSI 66 (va_up (xI h 66) (xI h 56 11).toNatClampNeg ((x5 >>> (((24 - (8 * (x6 - x6 / 4 * 4))) : Int32) &&& 31)) &&& 255)) h)) 114 _ _)
            refine xi_iinc (v := x6 + 1) (ls' := [some (.ref 56), some (.int x1), some (.int x2), some (.int x3), some (.int x4), some (.int x5), some (.int (x6 + 1)), some (.int x5)]) (by decide +kernel : decode mX11_feed.2.1 114 = .ok (.iinc 6 1, 3)) rfl rfl (by decide) rfl (?_ : XW _ _ _ _ _ _ _ 117 _ _)
            refine xi_goto (by decide +kernel : decode mX11_feed.2.1 117 = .ok (.goto (-94), 3)) (by decide) (?_ : XW _ _ _ _ _ _ _ 23 _ _)
            refine xw_drop 7 (ls' := [some (.ref 56), some (.int x1), some (.int x2), some (.int x3), some (.int x4), some (.int x5), some (.int (x6 + 1)), none]) rfl ?_
            exact vc
          · replace vc := vc.2 c
            refine xi_iload (by decide +kernel : decode mX11_feed.2.1 69 = .ok (.iload 4, 2)) rfl (?_ : XW _ _ _ _ _ _ _ 71 _ _)
            refine xi_goto (by decide +kernel : decode mX11_feed.2.1 71 = .ok (.goto 5, 3)) (by decide) (?_ : XW _ _ _ _ _ _ _ 76 _ _)
            refine xi_istore (ls' := [some (.ref 56), some (.int x1), some (.int x2), some (.int x3), some (.int x4), some (.int x5), some (.int x6), some (.int x4)]) (by decide +kernel : decode mX11_feed.2.1 76 = .ok (.istore 7, 2)) (by decide) rfl (?_ : XW _ _ _ _ _ _ _ 78 _ _)
            refine xi_aload_n (by decide +kernel : decode mX11_feed.2.1 78 = .ok (.aload_n 0, 1)) rfl rfl (?_ : XW _ _ _ _ _ _ _ 79 _ _)
            refine xi_getR (y := 66) (by decide +kernel : decode mX11_feed.2.1 79 = .ok (.getfield 54, 3)) fX11_54 rfl (by omega) rfl (mp_tape hM) (?_ : XW _ _ _ _ _ _ _ 82 _ _)
            refine xi_aload_n (by decide +kernel : decode mX11_feed.2.1 82 = .ok (.aload_n 0, 1)) rfl rfl (?_ : XW _ _ _ _ _ _ _ 83 _ _)
            refine xi_getI (by decide +kernel : decode mX11_feed.2.1 83 = .ok (.getfield 170, 3)) fX11_170 rfl (by omega) rfl (?_ : XW _ _ _ _ _ _ _ 86 _ _)
            refine xi_iload (by decide +kernel : decode mX11_feed.2.1 86 = .ok (.iload 7, 2)) rfl (?_ : XW _ _ _ _ _ _ _ 88 _ _)
            refine xi_bipush (v := 24) (by decide +kernel : decode mX11_feed.2.1 88 = .ok (.bipush 24, 2)) (by decide) (?_ : XW _ _ _ _ _ _ _ 90 _ _)
            refine xi_bipush (v := 8) (by decide +kernel : decode mX11_feed.2.1 90 = .ok (.bipush 8, 2)) (by decide) (?_ : XW _ _ _ _ _ _ _ 92 _ _)
            refine xi_iload (by decide +kernel : decode mX11_feed.2.1 92 = .ok (.iload 6, 2)) rfl (?_ : XW _ _ _ _ _ _ _ 94 _ _)
            refine xi_iconst (v := 4) (by decide +kernel : decode mX11_feed.2.1 94 = .ok (.iconst 4, 1)) (by decide) (?_ : XW _ _ _ _ _ _ _ 95 _ _)
            refine xi_irem (by decide +kernel : decode mX11_feed.2.1 95 = .ok (.irem, 1)) (by decide) (?_ : XW _ _ _ _ _ _ _ 96 _ _)
            refine xi_imul (by decide +kernel : decode mX11_feed.2.1 96 = .ok (.imul, 1)) (?_ : XW _ _ _ _ _ _ _ 97 _ _)
            refine xi_isub (by decide +kernel : decode mX11_feed.2.1 97 = .ok (.isub, 1)) (?_ : XW _ _ _ _ _ _ _ 98 _ _)
            refine xi_ishr (by decide +kernel : decode mX11_feed.2.1 98 = .ok (.ishr, 1)) (?_ : XW _ _ _ _ _ _ _ 99 _ _)
            refine xi_sipush (v := 255) (by decide +kernel : decode mX11_feed.2.1 99 = .ok (.sipush 255, 3)) (by decide) (?_ : XW _ _ _ _ _ _ _ 102 _ _)
            refine xi_iand (by decide +kernel : decode mX11_feed.2.1 102 = .ok (.iand, 1)) (?_ : XW _ _ _ _ _ _ _ 103 _ _)
            obtain ⟨s1, vc⟩ := vc
            refine xi_iast (by decide +kernel : decode mX11_feed.2.1 103 = .ok (.iastore, 1)) rfl (by omega) s1 (?_ : XW _ _ _ _ _ _ (xSI 66 (va_up (xI h 66) (xI h 56 11).toNatClampNeg ((x4 >>> (((24 - (8 * (x6 - x6 / 4 * 4))) : Int32) &&& 31)) &&& 255)) h) 104 _ _)
            refine xi_aload_n (by decide +kernel : decode mX11_feed.2.1 104 = .ok (.aload_n 0, 1)) rfl rfl (?_ : XW _ _ _ _ _ _ _ 105 _ _)
            refine xi_dup (by decide +kernel : decode mX11_feed.2.1 105 = .ok (.dup, 1)) rfl (?_ : XW _ _ _ _ _ _ _ 106 _ _)
            refine xi_getI (by decide +kernel : decode mX11_feed.2.1 106 = .ok (.getfield 170, 3)) fX11_170 rfl (by omega) rfl (?_ : XW _ _ _ _ _ _ _ 109 _ [.int (xI h 56 11), .ref 56])
            refine xi_iconst (v := 1) (by decide +kernel : decode mX11_feed.2.1 109 = .ok (.iconst 1, 1)) (by decide) (?_ : XW _ _ _ _ _ _ _ 110 _ _)
            refine xi_iadd (by decide +kernel : decode mX11_feed.2.1 110 = .ok (.iadd, 1)) (?_ : XW _ _ _ _ _ _ _ 111 _ _)
            refine xi_putI (by decide +kernel : decode mX11_feed.2.1 111 = .ok (.putfield 170, 3)) fX11_170 rfl (by omega) rfl rfl rfl (?_ : XW _ _ _ _ _ _ (xSI 56 (va_up (xI h 56) 11 ((xI h 56 11) + 1)) (xSI 66 (va_up (xI h 66) (xI h 56 11).toNatClampNeg ((x4 >>> (((24 - (8 * (x6 - x6 / 4 * 4))) : Int32) &&& 31)) &&& 255)) h)) 114 _ _)
            refine xi_iinc (v := x6 + 1) (ls' := [some (.ref 56), some (.int x1), some (.int x2), some (.int x3), some (.int x4), some (.int x5), some (.int (x6 + 1)), some (.int x4)]) (by decide +kernel : decode mX11_feed.2.1 114 = .ok (.iinc 6 1, 3)) rfl rfl (by decide) rfl (?_ : XW _ _ _ _ _ _ _ 117 _ _)
            refine xi_goto (by decide +kernel : decode mX11_feed.2.1 117 = .ok (.goto (-94), 3)) (by decide) (?_ : XW _ _ _ _ _ _ _ 23 _ _)
            refine xw_drop 7 (ls' := [some (.ref 56), some (.int x1), some (.int x2), some (.int x3), some (.int x4), some (.int x5), some (.int (x6 + 1)), none]) rfl ?_
            exact vc
        · replace vc := vc.2 c
          refine xi_iload_n (by decide +kernel : decode mX11_feed.2.1 58 = .ok (.iload_n 3, 1)) rfl rfl (?_ : XW _ _ _ _ _ _ _ 59 _ _)
          refine xi_goto (by decide +kernel : decode mX11_feed.2.1 59 = .ok (.goto 17, 3)) (by decide) (?_ : XW _ _ _ _ _ _ _ 76 _ _)
          refine xi_istore (ls' := [some (.ref 56), some (.int x1), some (.int x2), some (.int x3), some (.int x4), some (.int x5), some (.int x6), some (.int x3)]) (by decide +kernel : decode mX11_feed.2.1 76 = .ok (.istore 7, 2)) (by decide) rfl (?_ : XW _ _ _ _ _ _ _ 78 _ _)
          refine xi_aload_n (by decide +kernel : decode mX11_feed.2.1 78 = .ok (.aload_n 0, 1)) rfl rfl (?_ : XW _ _ _ _ _ _ _ 79 _ _)
          refine xi_getR (y := 66) (by decide +kernel : decode mX11_feed.2.1 79 = .ok (.getfield 54, 3)) fX11_54 rfl (by omega) rfl (mp_tape hM) (?_ : XW _ _ _ _ _ _ _ 82 _ _)
          refine xi_aload_n (by decide +kernel : decode mX11_feed.2.1 82 = .ok (.aload_n 0, 1)) rfl rfl (?_ : XW _ _ _ _ _ _ _ 83 _ _)
          refine xi_getI (by decide +kernel : decode mX11_feed.2.1 83 = .ok (.getfield 170, 3)) fX11_170 rfl (by omega) rfl (?_ : XW _ _ _ _ _ _ _ 86 _ _)
          refine xi_iload (by decide +kernel : decode mX11_feed.2.1 86 = .ok (.iload 7, 2)) rfl (?_ : XW _ _ _ _ _ _ _ 88 _ _)
          refine xi_bipush (v := 24) (by decide +kernel : decode mX11_feed.2.1 88 = .ok (.bipush 24, 2)) (by decide) (?_ : XW _ _ _ _ _ _ _ 90 _ _)
          refine xi_bipush (v := 8) (by decide +kernel : decode mX11_feed.2.1 90 = .ok (.bipush 8, 2)) (by decide) (?_ : XW _ _ _ _ _ _ _ 92 _ _)
          refine xi_iload (by decide +kernel : decode mX11_feed.2.1 92 = .ok (.iload 6, 2)) rfl (?_ : XW _ _ _ _ _ _ _ 94 _ _)
          refine xi_iconst (v := 4) (by decide +kernel : decode mX11_feed.2.1 94 = .ok (.iconst 4, 1)) (by decide) (?_ : XW _ _ _ _ _ _ _ 95 _ _)
          refine xi_irem (by decide +kernel : decode mX11_feed.2.1 95 = .ok (.irem, 1)) (by decide) (?_ : XW _ _ _ _ _ _ _ 96 _ _)
          refine xi_imul (by decide +kernel : decode mX11_feed.2.1 96 = .ok (.imul, 1)) (?_ : XW _ _ _ _ _ _ _ 97 _ _)
          refine xi_isub (by decide +kernel : decode mX11_feed.2.1 97 = .ok (.isub, 1)) (?_ : XW _ _ _ _ _ _ _ 98 _ _)
          refine xi_ishr (by decide +kernel : decode mX11_feed.2.1 98 = .ok (.ishr, 1)) (?_ : XW _ _ _ _ _ _ _ 99 _ _)
          refine xi_sipush (v := 255) (by decide +kernel : decode mX11_feed.2.1 99 = .ok (.sipush 255, 3)) (by decide) (?_ : XW _ _ _ _ _ _ _ 102 _ _)
          refine xi_iand (by decide +kernel : decode mX11_feed.2.1 102 = .ok (.iand, 1)) (?_ : XW _ _ _ _ _ _ _ 103 _ _)
          obtain ⟨s1, vc⟩ := vc
          refine xi_iast (by decide +kernel : decode mX11_feed.2.1 103 = .ok (.iastore, 1)) rfl (by omega) s1 (?_ : XW _ _ _ _ _ _ (xSI 66 (va_up (xI h 66) (xI h 56 11).toNatClampNeg ((x3 >>> (((24 - (8 * (x6 - x6 / 4 * 4))) : Int32) &&& 31)) &&& 255)) h) 104 _ _)
          refine xi_aload_n (by decide +kernel : decode mX11_feed.2.1 104 = .ok (.aload_n 0, 1)) rfl rfl (?_ : XW _ _ _ _ _ _ _ 105 _ _)
          refine xi_dup (by decide +kernel : decode mX11_feed.2.1 105 = .ok (.dup, 1)) rfl (?_ : XW _ _ _ _ _ _ _ 106 _ _)
          refine xi_getI (by decide +kernel : decode mX11_feed.2.1 106 = .ok (.getfield 170, 3)) fX11_170 rfl (by omega) rfl (?_ : XW _ _ _ _ _ _ _ 109 _ [.int (xI h 56 11), .ref 56])
          refine xi_iconst (v := 1) (by decide +kernel : decode mX11_feed.2.1 109 = .ok (.iconst 1, 1)) (by decide) (?_ : XW _ _ _ _ _ _ _ 110 _ _)
          refine xi_iadd (by decide +kernel : decode mX11_feed.2.1 110 = .ok (.iadd, 1)) (?_ : XW _ _ _ _ _ _ _ 111 _ _)
          refine xi_putI (by decide +kernel : decode mX11_feed.2.1 111 = .ok (.putfield 170, 3)) fX11_170 rfl (by omega) rfl rfl rfl (?_ : XW _ _ _ _ _ _ (xSI 56 (va_up (xI h 56) 11 ((xI h 56 11) + 1)) (xSI 66 (va_up (xI h 66) (xI h 56 11).toNatClampNeg ((x3 >>> (((24 - (8 * (x6 - x6 / 4 * 4))) : Int32) &&& 31)) &&& 255)) h)) 114 _ _)
          refine xi_iinc (v := x6 + 1) (ls' := [some (.ref 56), some (.int x1), some (.int x2), some (.int x3), some (.int x4), some (.int x5), some (.int (x6 + 1)), some (.int x3)]) (by decide +kernel : decode mX11_feed.2.1 114 = .ok (.iinc 6 1, 3)) rfl rfl (by decide) rfl (?_ : XW _ _ _ _ _ _ _ 117 _ _)
          refine xi_goto (by decide +kernel : decode mX11_feed.2.1 117 = .ok (.goto (-94), 3)) (by decide) (?_ : XW _ _ _ _ _ _ _ 23 _ _)
          refine xw_drop 7 (ls' := [some (.ref 56), some (.int x1), some (.int x2), some (.int x3), some (.int x4), some (.int x5), some (.int (x6 + 1)), none]) rfl ?_
          exact vc
      · replace vc := vc.2 c
        refine xi_iload_n (by decide +kernel : decode mX11_feed.2.1 47 = .ok (.iload_n 2, 1)) rfl rfl (?_ : XW _ _ _ _ _ _ _ 48 _ _)
        refine xi_goto (by decide +kernel : decode mX11_feed.2.1 48 = .ok (.goto 28, 3)) (by decide) (?_ : XW _ _ _ _ _ _ _ 76 _ _)
        refine xi_istore (ls' := [some (.ref 56), some (.int x1), some (.int x2), some (.int x3), some (.int x4), some (.int x5), some (.int x6), some (.int x2)]) (by decide +kernel : decode mX11_feed.2.1 76 = .ok (.istore 7, 2)) (by decide) rfl (?_ : XW _ _ _ _ _ _ _ 78 _ _)
        refine xi_aload_n (by decide +kernel : decode mX11_feed.2.1 78 = .ok (.aload_n 0, 1)) rfl rfl (?_ : XW _ _ _ _ _ _ _ 79 _ _)
        refine xi_getR (y := 66) (by decide +kernel : decode mX11_feed.2.1 79 = .ok (.getfield 54, 3)) fX11_54 rfl (by omega) rfl (mp_tape hM) (?_ : XW _ _ _ _ _ _ _ 82 _ _)
        refine xi_aload_n (by decide +kernel : decode mX11_feed.2.1 82 = .ok (.aload_n 0, 1)) rfl rfl (?_ : XW _ _ _ _ _ _ _ 83 _ _)
        refine xi_getI (by decide +kernel : decode mX11_feed.2.1 83 = .ok (.getfield 170, 3)) fX11_170 rfl (by omega) rfl (?_ : XW _ _ _ _ _ _ _ 86 _ _)
        refine xi_iload (by decide +kernel : decode mX11_feed.2.1 86 = .ok (.iload 7, 2)) rfl (?_ : XW _ _ _ _ _ _ _ 88 _ _)
        refine xi_bipush (v := 24) (by decide +kernel : decode mX11_feed.2.1 88 = .ok (.bipush 24, 2)) (by decide) (?_ : XW _ _ _ _ _ _ _ 90 _ _)
        refine xi_bipush (v := 8) (by decide +kernel : decode mX11_feed.2.1 90 = .ok (.bipush 8, 2)) (by decide) (?_ : XW _ _ _ _ _ _ _ 92 _ _)
        refine xi_iload (by decide +kernel : decode mX11_feed.2.1 92 = .ok (.iload 6, 2)) rfl (?_ : XW _ _ _ _ _ _ _ 94 _ _)
        refine xi_iconst (v := 4) (by decide +kernel : decode mX11_feed.2.1 94 = .ok (.iconst 4, 1)) (by decide) (?_ : XW _ _ _ _ _ _ _ 95 _ _)
        refine xi_irem (by decide +kernel : decode mX11_feed.2.1 95 = .ok (.irem, 1)) (by decide) (?_ : XW _ _ _ _ _ _ _ 96 _ _)
        refine xi_imul (by decide +kernel : decode mX11_feed.2.1 96 = .ok (.imul, 1)) (?_ : XW _ _ _ _ _ _ _ 97 _ _)
        refine xi_isub (by decide +kernel : decode mX11_feed.2.1 97 = .ok (.isub, 1)) (?_ : XW _ _ _ _ _ _ _ 98 _ _)
        refine xi_ishr (by decide +kernel : decode mX11_feed.2.1 98 = .ok (.ishr, 1)) (?_ : XW _ _ _ _ _ _ _ 99 _ _)
        refine xi_sipush (v := 255) (by decide +kernel : decode mX11_feed.2.1 99 = .ok (.sipush 255, 3)) (by decide) (?_ : XW _ _ _ _ _ _ _ 102 _ _)
        refine xi_iand (by decide +kernel : decode mX11_feed.2.1 102 = .ok (.iand, 1)) (?_ : XW _ _ _ _ _ _ _ 103 _ _)
        obtain ⟨s1, vc⟩ := vc
        refine xi_iast (by decide +kernel : decode mX11_feed.2.1 103 = .ok (.iastore, 1)) rfl (by omega) s1 (?_ : XW _ _ _ _ _ _ (xSI 66 (va_up (xI h 66) (xI h 56 11).toNatClampNeg ((x2 >>> (((24 - (8 * (x6 - x6 / 4 * 4))) : Int32) &&& 31)) &&& 255)) h) 104 _ _)
        refine xi_aload_n (by decide +kernel : decode mX11_feed.2.1 104 = .ok (.aload_n 0, 1)) rfl rfl (?_ : XW _ _ _ _ _ _ _ 105 _ _)
        refine xi_dup (by decide +kernel : decode mX11_feed.2.1 105 = .ok (.dup, 1)) rfl (?_ : XW _ _ _ _ _ _ _ 106 _ _)
        refine xi_getI (by decide +kernel : decode mX11_feed.2.1 106 = .ok (.getfield 170, 3)) fX11_170 rfl (by omega) rfl (?_ : XW _ _ _ _ _ _ _ 109 _ [.int (xI h 56 11), .ref 56])
        refine xi_iconst (v := 1) (by decide +kernel : decode mX11_feed.2.1 109 = .ok (.iconst 1, 1)) (by decide) (?_ : XW _ _ _ _ _ _ _ 110 _ _)
        refine xi_iadd (by decide +kernel : decode mX11_feed.2.1 110 = .ok (.iadd, 1)) (?_ : XW _ _ _ _ _ _ _ 111 _ _)
        refine xi_putI (by decide +kernel : decode mX11_feed.2.1 111 = .ok (.putfield 170, 3)) fX11_170 rfl (by omega) rfl rfl rfl (?_ : XW _ _ _ _ _ _ (xSI 56 (va_up (xI h 56) 11 ((xI h 56 11) + 1)) (xSI 66 (va_up (xI h 66) (xI h 56 11).toNatClampNeg ((x2 >>> (((24 - (8 * (x6 - x6 / 4 * 4))) : Int32) &&& 31)) &&& 255)) h)) 114 _ _)
        refine xi_iinc (v := x6 + 1) (ls' := [some (.ref 56), some (.int x1), some (.int x2), some (.int x3), some (.int x4), some (.int x5), some (.int (x6 + 1)), some (.int x2)]) (by decide +kernel : decode mX11_feed.2.1 114 = .ok (.iinc 6 1, 3)) rfl rfl (by decide) rfl (?_ : XW _ _ _ _ _ _ _ 117 _ _)
        refine xi_goto (by decide +kernel : decode mX11_feed.2.1 117 = .ok (.goto (-94), 3)) (by decide) (?_ : XW _ _ _ _ _ _ _ 23 _ _)
        refine xw_drop 7 (ls' := [some (.ref 56), some (.int x1), some (.int x2), some (.int x3), some (.int x4), some (.int x5), some (.int (x6 + 1)), none]) rfl ?_
        exact vc
    · replace vc := vc.2 c
      refine xi_iload_n (by decide +kernel : decode mX11_feed.2.1 36 = .ok (.iload_n 1, 1)) rfl rfl (?_ : XW _ _ _ _ _ _ _ 37 _ _)
      refine xi_goto (by decide +kernel : decode mX11_feed.2.1 37 = .ok (.goto 39, 3)) (by decide) (?_ : XW _ _ _ _ _ _ _ 76 _ _)
      refine xi_istore (ls' := [some (.ref 56), some (.int x1), some (.int x2), some (.int x3), some (.int x4), some (.int x5), some (.int x6), some (.int x1)]) (by decide +kernel : decode mX11_feed.2.1 76 = .ok (.istore 7, 2)) (by decide) rfl (?_ : XW _ _ _ _ _ _ _ 78 _ _)
      refine xi_aload_n (by decide +kernel : decode mX11_feed.2.1 78 = .ok (.aload_n 0, 1)) rfl rfl (?_ : XW _ _ _ _ _ _ _ 79 _ _)
      refine xi_getR (y := 66) (by decide +kernel : decode mX11_feed.2.1 79 = .ok (.getfield 54, 3)) fX11_54 rfl (by omega) rfl (mp_tape hM) (?_ : XW _ _ _ _ _ _ _ 82 _ _)
      refine xi_aload_n (by decide +kernel : decode mX11_feed.2.1 82 = .ok (.aload_n 0, 1)) rfl rfl (?_ : XW _ _ _ _ _ _ _ 83 _ _)
      refine xi_getI (by decide +kernel : decode mX11_feed.2.1 83 = .ok (.getfield 170, 3)) fX11_170 rfl (by omega) rfl (?_ : XW _ _ _ _ _ _ _ 86 _ _)
      refine xi_iload (by decide +kernel : decode mX11_feed.2.1 86 = .ok (.iload 7, 2)) rfl (?_ : XW _ _ _ _ _ _ _ 88 _ _)
      refine xi_bipush (v := 24) (by decide +kernel : decode mX11_feed.2.1 88 = .ok (.bipush 24, 2)) (by decide) (?_ : XW _ _ _ _ _ _ _ 90 _ _)
      refine xi_bipush (v := 8) (by decide +kernel : decode mX11_feed.2.1 90 = .ok (.bipush 8, 2)) (by decide) (?_ : XW _ _ _ _ _ _ _ 92 _ _)
      refine xi_iload (by decide +kernel : decode mX11_feed.2.1 92 = .ok (.iload 6, 2)) rfl (?_ : XW _ _ _ _ _ _ _ 94 _ _)
      refine xi_iconst (v := 4) (by decide +kernel : decode mX11_feed.2.1 94 = .ok (.iconst 4, 1)) (by decide) (?_ : XW _ _ _ _ _ _ _ 95 _ _)
      refine xi_irem (by decide +kernel : decode mX11_feed.2.1 95 = .ok (.irem, 1)) (by decide) (?_ : XW _ _ _ _ _ _ _ 96 _ _)
      refine xi_imul (by decide +kernel : decode mX11_feed.2.1 96 = .ok (.imul, 1)) (?_ : XW _ _ _ _ _ _ _ 97 _ _)
      refine xi_isub (by decide +kernel : decode mX11_feed.2.1 97 = .ok (.isub, 1)) (?_ : XW _ _ _ _ _ _ _ 98 _ _)
      refine xi_ishr (by decide +kernel : decode mX11_feed.2.1 98 = .ok (.ishr, 1)) (?_ : XW _ _ _ _ _ _ _ 99 _ _)
      refine xi_sipush (v := 255) (by decide +kernel : decode mX11_feed.2.1 99 = .ok (.sipush 255, 3)) (by decide) (?_ : XW _ _ _ _ _ _ _ 102 _ _)
      refine xi_iand (by decide +kernel : decode mX11_feed.2.1 102 = .ok (.iand, 1)) (?_ : XW _ _ _ _ _ _ _ 103 _ _)
      obtain ⟨s1, vc⟩ := vc
      refine xi_iast (by decide +kernel : decode mX11_feed.2.1 103 = .ok (.iastore, 1)) rfl (by omega) s1 (?_ : XW _ _ _ _ _ _ (xSI 66 (va_up (xI h 66) (xI h 56 11).toNatClampNeg ((x1 >>> (((24 - (8 * (x6 - x6 / 4 * 4))) : Int32) &&& 31)) &&& 255)) h) 104 _ _)
      refine xi_aload_n (by decide +kernel : decode mX11_feed.2.1 104 = .ok (.aload_n 0, 1)) rfl rfl (?_ : XW _ _ _ _ _ _ _ 105 _ _)
      refine xi_dup (by decide +kernel : decode mX11_feed.2.1 105 = .ok (.dup, 1)) rfl (?_ : XW _ _ _ _ _ _ _ 106 _ _)
      refine xi_getI (by decide +kernel : decode mX11_feed.2.1 106 = .ok (.getfield 170, 3)) fX11_170 rfl (by omega) rfl (?_ : XW _ _ _ _ _ _ _ 109 _ [.int (xI h 56 11), .ref 56])
      refine xi_iconst (v := 1) (by decide +kernel : decode mX11_feed.2.1 109 = .ok (.iconst 1, 1)) (by decide) (?_ : XW _ _ _ _ _ _ _ 110 _ _)
      refine xi_iadd (by decide +kernel : decode mX11_feed.2.1 110 = .ok (.iadd, 1)) (?_ : XW _ _ _ _ _ _ _ 111 _ _)
      refine xi_putI (by decide +kernel : decode mX11_feed.2.1 111 = .ok (.putfield 170, 3)) fX11_170 rfl (by omega) rfl rfl rfl (?_ : XW _ _ _ _ _ _ (xSI 56 (va_up (xI h 56) 11 ((xI h 56 11) + 1)) (xSI 66 (va_up (xI h 66) (xI h 56 11).toNatClampNeg ((x1 >>> (((24 - (8 * (x6 - x6 / 4 * 4))) : Int32) &&& 31)) &&& 255)) h)) 114 _ _)
      refine xi_iinc (v := x6 + 1) (ls' := [some (.ref 56), some (.int x1), some (.int x2), some (.int x3), some (.int x4), some (.int x5), some (.int (x6 + 1)), some (.int x1)]) (by decide +kernel : decode mX11_feed.2.1 114 = .ok (.iinc 6 1, 3)) rfl rfl (by decide) rfl (?_ : XW _ _ _ _ _ _ _ 117 _ _)
      refine xi_goto (by decide +kernel : decode mX11_feed.2.1 117 = .ok (.goto (-94), 3)) (by decide) (?_ : XW _ _ _ _ _ _ _ 23 _ _)
      refine xw_drop 7 (ls' := [some (.ref 56), some (.int x1), some (.int x2), some (.int x3), some (.int x4), some (.int x5), some (.int (x6 + 1)), none]) rfl ?_
      exact vc

def fb (w : Int32) (k : Nat) : Nat := w.toBitVec.toNat / 2 ^ (24 - 8 * k) % 256
theorem fb_lt (w : Int32) (k : Nat) : fb w k < 256 := Nat.mod_lt _ (by decide)
theorem fb_u (w : Int32) {x : Int32} (k : Nat) (hs : ((x.toUInt32 &&& Int32.toUInt32 31).toBitVec % 32).toNat = 24 - 8 * k) : vp_nar .char (((((w.toUInt32 >>> (x.toUInt32 &&& Int32.toUInt32 31)).toInt32) &&& 255).toUInt32 % 65536).toInt32) = nI (fb w k) := by
  rw [pk_vc, sc_c2, pk_and (m := 255) _ 8 (by decide), pk_ushr w x _ hs]
  rfl
theorem fb_a (w : Int32) {x : Int32} (k : Nat) (hk : k < 4) (hs : ((x &&& 31).toBitVec.smod 32).toNat = 24 - 8 * k) : (w >>> (x &&& 31)) &&& 255 = nI (fb w k) := by
  have e := pk_and (w >>> (x &&& 31)) (m := 255) 8 (by decide)
  have e2 := pk_shr w (x &&& 31) _ hs
  rw [e]
  congr 1
  unfold fb
  have t1 : (w >>> (x &&& 31)).toInt = (w >>> (x &&& 31)).toBitVec.toInt := rfl
  have t2 : w.toInt = w.toBitVec.toInt := rfl
  rw [t1, t2, BitVec.toInt_eq_toNat_cond, BitVec.toInt_eq_toNat_cond, Int.shiftRight_eq_div_pow] at e2
  have b1 := (w >>> (x &&& 31)).toBitVec.isLt
  have b2 := w.toBitVec.isLt
  generalize (w >>> (x &&& 31)).toBitVec.toNat = p at *
  generalize w.toBitVec.toNat = y at *
  rcases (show k = 0 ∨ k = 1 ∨ k = 2 ∨ k = 3 by omega) with rfl | rfl | rfl | rfl <;> (simp only [Nat.reduceMul, Nat.reduceSub] at e2 ⊢; split at e2 <;> split at e2 <;> omega)
def tpK (l0 : Nat) (tp : Nat → Nat) (ws : Nat → Int32) : Nat → Nat → Nat
  | 0 => tp
  | k + 1 => va_up (tpK l0 tp ws k) (l0 + k) (fb (ws (k / 4)) (k % 4))
def sTap (s : SG) (ws : Nat → Int32) (k : Nat) : SG := (s.1, s.2.1, s.2.2.1, s.2.2.2.1, (sTl s + k, tpK (sTl s) (sTp s) ws k, sFp s))
def w5 (a b c d e : Int32) (i : Nat) : Int32 := if i = 0 then a else if i = 1 then b else if i = 2 then c else if i = 3 then d else e
def sFeed (s : SG) (ws : Nat → Int32) : SG := if sTl s ≤ 480 then sTap s ws 20 else s
def fdA (s : SG) : Int32 := if sTl s ≤ 480 then nI (sTl s + 20) else -1
theorem CI.tape {h h' : XH} {r : Nat} {s : SG} (hC : CI h r s) (t : Nat × (Nat → Nat) × Int32) (hI : ∀ c, c ≠ 0 → c ≠ 1 → xI h' c = xI h c) (hJ : ∀ j, j ≠ 1 → j ≠ 2 → xI h' 0 j = xI h 0 j) (hP : xP h' = xP h) (hT : CTp h' (s.1, s.2.1, s.2.2.1, s.2.2.2.1, t)) : CI h' r (s.1, s.2.1, s.2.2.1, s.2.2.2.1, t) := by
  have hr := hC.r
  obtain ⟨c1, c2, c3, ⟨c4, c5⟩, c6, c7, c8⟩ := hC
  refine ⟨by rw [hP]; exact c1, c2.of (h := h) (fun c _ => by rw [hP]) (fun c hc => hI c (by omega) (by omega)), c3.of (h := h) (fun c q1 q2 => hI c (by omega) (by omega)), ⟨by rw [hJ 9 (by omega) (by omega)]; exact c4, fun z => (c5 z).of (h := h) (fun c q1 q2 => hI c (by omega) (by omega))⟩, ?_, hT, ?_⟩
  · unfold CKr at *
    rw [hI 39 (by omega) (by omega), hI 40 (by omega) (by omega)]; exact c6
  · exact c8
theorem tap_step {h : XH} {r : Nat} {s : SG} {ws : Nat → Int32} {k : Nat} (hC : CI h r (sTap s ws k)) (hk : sTl s + k < 500) {b : Nat} (hb : b = fb (ws (k / 4)) (k % 4)) : CI (xSI 0 (va_up (xI h 0) 1 (xI h 0 1 + 1)) (xSI 1 (va_up (xI h 1) (xI h 0 1).toNatClampNeg (nI b)) h)) r (sTap s ws (k + 1)) ∧ cch h (xSI 0 (va_up (xI h 0) 1 (xI h 0 1 + 1)) (xSI 1 (va_up (xI h 1) (xI h 0 1).toNatClampNeg (nI b)) h)) := by
  have hT := hC.2.2.2.2.2.1
  obtain ⟨t1, t2, t3⟩ := hT
  have e1 : xI h 0 1 = nI (sTl s + k) := t1
  refine ⟨hC.tape _ (fun c q1 q2 => by rw [xI_ne q1, xI_ne q2]) (fun j q1 q2 => by rw [xI_at, va_up_of _ _ q1]) rfl ⟨?_, ?_, fun i hi => ?_⟩, fun c hc => ⟨by rw [xI_ne (by omega), xI_ne (by omega)], rfl⟩⟩
  · rw [xI_at, va_up_eq, e1, nI_1]; rfl
  · rw [xI_at, va_up_of _ _ (by decide)]; exact t2
  · rw [xI_ne (by decide), xI_at, e1, nI_clamp (by omega)]
    show _ = nI (va_up (tpK (sTl s) (sTp s) ws k) (sTl s + k) _ i)
    have hi' : i < sTl s + (k + 1) := hi
    by_cases z : i = sTl s + k
    · rw [z, va_up_eq, va_up_eq, hb]
    · rw [va_up_of _ _ z, va_up_of _ _ z]
      exact t3 i (show i < sTl s + k by omega)
theorem l_feedN {h0 : XH} {r : Nat} {s : SG} {ws : Nat → Int32} {w : Int32} (n : Nat) (hw : w = ws n) (hn : sTl s + 4 * n + 4 ≤ 500) {Q : Option Value → XH → Prop} {X : String → XH → Prop} (hQ : ∀ h', CI h' r (sTap s ws (4 * n + 4)) → cch h0 h' → Q none h') : ∀ (c i : Nat) (h : XH), i + c = 4 → CI h r (sTap s ws (4 * n + i)) → cch h0 h →
    XW (xrm 1 0 0) mX10_feedNumber (xE 100 Q X 0 0) 100 0 0 h 3 [some (.ref 0), some (.int w), some (.int (nI (8 * c) - 8))] [] := by
  intro c
  induction c with
  | zero =>
    intro i h hi hC hc
    have : i = 4 := by omega
    subst this
    exact v_X10_feedNumber_3 r hC.bp w _ ⟨fun _ => hQ h hC hc, fun c => absurd (by decide) c⟩
  | succ c ih =>
    intro i h hi hC hc
    obtain ⟨t1, t2, t3⟩ := id hC.2.2.2.2.2.1
    have e1 : xI h 0 1 = nI (sTl s + (4 * n + i)) := t1
    have hc3 : c = 0 ∨ c = 1 ∨ c = 2 ∨ c = 3 := by omega
    have e8 : nI (8 * (c + 1)) - 8 = nI (8 * c) := by
      have : (8 : Int32) = nI 8 := rfl
      rw [this, pk_sub (by omega)]
      congr 1
    have e9 : nI (8 * c) + (-8) = nI (8 * c) - 8 := by rw [Int32.sub_eq_add_neg]
    have hd : (4 * n + i) / 4 = n ∧ (4 * n + i) % 4 = i := by omega
    have eb : vp_nar .char (((((w.toUInt32 >>> ((nI (8 * c)).toUInt32 &&& Int32.toUInt32 31)).toInt32) &&& 255).toUInt32 % 65536).toInt32) = nI (fb w i) := by
      refine fb_u w i ?_
      have hi3 : i = 3 - c := by omega
      subst hi3
      rcases hc3 with rfl | rfl | rfl | rfl <;> decide
    rw [e8]
    refine v_X10_feedNumber_3 r hC.bp w _ ⟨fun c => absurd c (nI_pos (by omega)), fun _ => ?_⟩
    rw [eb, e9]
    obtain ⟨r1, r2⟩ := tap_step hC (k := 4 * n + i) (by omega) (b := fb w i) (by rw [hd.1, hd.2, hw])
    refine ⟨fun c => absurd c (by rw [e1]; exact nI_pos (by omega)), fun _ => ⟨fun c => absurd c (by rw [e1]; exact nI_ge (b := 500) (by omega) (by omega)), fun _ => ⟨by rw [e1]; exact vp_in_nI (by omega) (by omega), ih (i + 1) _ (by omega) r1 (hc.trans r2)⟩⟩⟩
theorem s_feedN {h : XH} {r : Nat} {s : SG} {ws : Nat → Int32} {w : Int32} (n : Nat) (hw : w = ws n) (hn : sTl s + 4 * n + 4 ≤ 500) (hC : CI h r (sTap s ws (4 * n))) : XSpec mX10_feedNumber 1 0 0 100 100 [.ref 0, .int w] h (fun v h' => v = none ∧ CI h' r (sTap s ws (4 * n + 4)) ∧ cch h h') xno :=
  XSpec.of rfl (by decide) (Nat.le_of_ble_eq_true rfl) rfl (v_X10_feedNumber_0 r hC.bp w (l_feedN (h0 := h) n hw hn (fun h' k1 k2 => ⟨rfl, k1, k2⟩) 4 0 h rfl hC cch.rfl))
theorem CI.tl {h : XH} {r : Nat} {s : SG} (hC : CI h r s) : xI h 0 1 = nI (sTl s) := hC.2.2.2.2.2.1.1
theorem s_X10_feed {h : XH} {r : Nat} {s : SG} (hC : CI h r s) (hg : GoodS s) (a1 a2 a3 a4 a5 : Int32) : XSpec mX10_feed 2 0 0 100 100 [.ref 0, .int a1, .int a2, .int a3, .int a4, .int a5] h (fun v h' => v = some (.int (fdA s)) ∧ CI h' r (sFeed s (w5 a1 a2 a3 a4 a5)) ∧ cch h h') xno := by
  have hl : sTl s ≤ 500 := hg.2.2.2.2.1
  refine XSpec.of rfl (by decide) (Nat.le_of_ble_eq_true rfl) rfl (v_X10_feed_0 r hC.bp a1 a2 a3 a4 a5 ?_)
  rw [hC.tl]
  have e480 : nI (sTl s) ≤ 480 ↔ sTl s ≤ 480 := nI_leI (b := 480) (by omega) (by omega)
  rw [e480]
  unfold fdA sFeed
  refine ⟨fun c => ?_, fun c => ?_⟩
  · rw [if_pos c, if_pos c]
    refine ⟨_, s_feedN (ws := w5 a1 a2 a3 a4 a5) 0 rfl (by omega) hC, ?_⟩
    rintro v h1 ⟨rfl, k1, m1⟩
    refine ⟨rfl, _, s_feedN (ws := w5 a1 a2 a3 a4 a5) 1 rfl (by omega) k1, ?_⟩
    rintro v h2 ⟨rfl, k2, m2⟩
    refine ⟨rfl, _, s_feedN (ws := w5 a1 a2 a3 a4 a5) 2 rfl (by omega) k2, ?_⟩
    rintro v h3 ⟨rfl, k3, m3⟩
    refine ⟨rfl, _, s_feedN (ws := w5 a1 a2 a3 a4 a5) 3 rfl (by omega) k3, ?_⟩
    rintro v h4 ⟨rfl, k4, m4⟩
    refine ⟨rfl, _, s_feedN (ws := w5 a1 a2 a3 a4 a5) 4 rfl (by omega) k4, ?_⟩
    rintro v h5 ⟨rfl, k5, m5⟩
    exact ⟨rfl, by rw [k5.tl]; rfl, k5, (((m1.trans m2).trans m3).trans m4).trans m5⟩
  · rw [if_neg c, if_neg c]
    exact ⟨rfl, hC, cch.rfl⟩
