set_option maxRecDepth 20000 in
theorem v_X0_add_0 {h : XH} {Q : Option Value → XH → Prop} {X : String → XH → Prop} (n f : Nat) (hf : xFor f (xP h)) (hn : f + 4 ≤ n)  (v : Int32)
    (vc : ((xI h f 3) < 0 → Q none h) ∧ (¬ (xI h f 3) < 0 → (500 ≤ (xI h f 3) → Q none h) ∧ (¬ 500 ≤ (xI h f 3) → (vp_in (xI h f 3) 500) ∧ (Q none (xSI f (va_up (xI h f) 3 ((xI h f 3) + 1)) (xSI (f + 2) (va_up (xI h (f + 2)) (xI h f 3).toNatClampNeg v) h)))))) :
    XW (xrm 1 0 0) mX0_add (xE n Q X 0 0) n 0 0 h 0 [some (.ref f), some (.int v)] [] := by
  rcases hf.1 with rfl | rfl
  · refine xi_aload_n (by decide +kernel : decode mX0_add.2.1 0 = .ok (.aload_n 0, 1)) rfl rfl (?_ : XW _ _ _ _ _ _ _ 1 _ _)
    refine xi_getI (by decide +kernel : decode mX0_add.2.1 1 = .ok (.getfield 30, 3)) fX0_30 rfl (by omega) rfl (?_ : XW _ _ _ _ _ _ _ 4 _ _)
    refine xi_if_lt (by decide +kernel : decode mX0_add.2.1 4 = .ok (.ifCond .lt 35, 3)) (by decide) (fun c => (?_ : XW _ _ _ _ _ _ _ 39 _ _)) (fun c => (?_ : XW _ _ _ _ _ _ _ 7 _ _))
    · replace vc := vc.1 c
      exact xi_vret (by decide +kernel : decode mX0_add.2.1 39 = .ok (.return_, 1)) rfl vc
    · replace vc := vc.2 c
      refine xi_aload_n (by decide +kernel : decode mX0_add.2.1 7 = .ok (.aload_n 0, 1)) rfl rfl (?_ : XW _ _ _ _ _ _ _ 8 _ _)
      refine xi_getI (by decide +kernel : decode mX0_add.2.1 8 = .ok (.getfield 30, 3)) fX0_30 rfl (by omega) rfl (?_ : XW _ _ _ _ _ _ _ 11 _ _)
      refine xi_aload_n (by decide +kernel : decode mX0_add.2.1 11 = .ok (.aload_n 0, 1)) rfl rfl (?_ : XW _ _ _ _ _ _ _ 12 _ _)
      refine xi_getR (y := 5) (by decide +kernel : decode mX0_add.2.1 12 = .ok (.getfield 15, 3)) fX0_15 rfl (by omega) rfl hf.2.2.1 (?_ : XW _ _ _ _ _ _ _ 15 _ _)
      refine xi_alen (v := 500) (by decide +kernel : decode mX0_add.2.1 15 = .ok (.arraylength, 1)) rfl (by omega) (Or.inl rfl) rfl (?_ : XW _ _ _ _ _ _ _ 16 _ _)
      refine xi_icmp_ge (by decide +kernel : decode mX0_add.2.1 16 = .ok (.if_icmp .ge 23, 3)) (by decide) (fun c => (?_ : XW _ _ _ _ _ _ _ 39 _ _)) (fun c => (?_ : XW _ _ _ _ _ _ _ 19 _ _))
      · replace vc := vc.1 c
        exact xi_vret (by decide +kernel : decode mX0_add.2.1 39 = .ok (.return_, 1)) rfl vc
      · replace vc := vc.2 c
        refine xi_aload_n (by decide +kernel : decode mX0_add.2.1 19 = .ok (.aload_n 0, 1)) rfl rfl (?_ : XW _ _ _ _ _ _ _ 20 _ _)
        refine xi_getR (y := 5) (by decide +kernel : decode mX0_add.2.1 20 = .ok (.getfield 15, 3)) fX0_15 rfl (by omega) rfl hf.2.2.1 (?_ : XW _ _ _ _ _ _ _ 23 _ _)
        refine xi_aload_n (by decide +kernel : decode mX0_add.2.1 23 = .ok (.aload_n 0, 1)) rfl rfl (?_ : XW _ _ _ _ _ _ _ 24 _ _)
        refine xi_getI (by decide +kernel : decode mX0_add.2.1 24 = .ok (.getfield 30, 3)) fX0_30 rfl (by omega) rfl (?_ : XW _ _ _ _ _ _ _ 27 _ _)
        refine xi_iload_n (by decide +kernel : decode mX0_add.2.1 27 = .ok (.iload_n 1, 1)) rfl rfl (?_ : XW _ _ _ _ _ _ _ 28 _ _)
        obtain ⟨s1, vc⟩ := vc
        refine xi_iast (by decide +kernel : decode mX0_add.2.1 28 = .ok (.iastore, 1)) rfl (by omega) s1 (?_ : XW _ _ _ _ _ _ (xSI (5) (va_up (xI h (5)) (xI h 3 3).toNatClampNeg v) h) 29 _ _)
        refine xi_aload_n (by decide +kernel : decode mX0_add.2.1 29 = .ok (.aload_n 0, 1)) rfl rfl (?_ : XW _ _ _ _ _ _ _ 30 _ _)
        refine xi_dup (by decide +kernel : decode mX0_add.2.1 30 = .ok (.dup, 1)) rfl (?_ : XW _ _ _ _ _ _ _ 31 _ _)
        refine xi_getI (by decide +kernel : decode mX0_add.2.1 31 = .ok (.getfield 30, 3)) fX0_30 rfl (by omega) rfl (?_ : XW _ _ _ _ _ _ _ 34 _ [.int (xI h 3 3), .ref 3])
        refine xi_iconst (v := 1) (by decide +kernel : decode mX0_add.2.1 34 = .ok (.iconst 1, 1)) (by decide) (?_ : XW _ _ _ _ _ _ _ 35 _ _)
        refine xi_iadd (by decide +kernel : decode mX0_add.2.1 35 = .ok (.iadd, 1)) (?_ : XW _ _ _ _ _ _ _ 36 _ _)
        refine xi_putI (by decide +kernel : decode mX0_add.2.1 36 = .ok (.putfield 30, 3)) fX0_30 rfl (by omega) rfl rfl rfl (?_ : XW _ _ _ _ _ _ (xSI 3 (va_up (xI h 3) 3 ((xI h 3 3) + 1)) (xSI (5) (va_up (xI h (5)) (xI h 3 3).toNatClampNeg v) h)) 39 _ _)
        exact xi_vret (by decide +kernel : decode mX0_add.2.1 39 = .ok (.return_, 1)) rfl vc
  · refine xi_aload_n (by decide +kernel : decode mX0_add.2.1 0 = .ok (.aload_n 0, 1)) rfl rfl (?_ : XW _ _ _ _ _ _ _ 1 _ _)
    refine xi_getI (by decide +kernel : decode mX0_add.2.1 1 = .ok (.getfield 30, 3)) fX0_30 rfl (by omega) rfl (?_ : XW _ _ _ _ _ _ _ 4 _ _)
    refine xi_if_lt (by decide +kernel : decode mX0_add.2.1 4 = .ok (.ifCond .lt 35, 3)) (by decide) (fun c => (?_ : XW _ _ _ _ _ _ _ 39 _ _)) (fun c => (?_ : XW _ _ _ _ _ _ _ 7 _ _))
    · replace vc := vc.1 c
      exact xi_vret (by decide +kernel : decode mX0_add.2.1 39 = .ok (.return_, 1)) rfl vc
    · replace vc := vc.2 c
      refine xi_aload_n (by decide +kernel : decode mX0_add.2.1 7 = .ok (.aload_n 0, 1)) rfl rfl (?_ : XW _ _ _ _ _ _ _ 8 _ _)
      refine xi_getI (by decide +kernel : decode mX0_add.2.1 8 = .ok (.getfield 30, 3)) fX0_30 rfl (by omega) rfl (?_ : XW _ _ _ _ _ _ _ 11 _ _)
      refine xi_aload_n (by decide +kernel : decode mX0_add.2.1 11 = .ok (.aload_n 0, 1)) rfl rfl (?_ : XW _ _ _ _ _ _ _ 12 _ _)
      refine xi_getR (y := 15) (by decide +kernel : decode mX0_add.2.1 12 = .ok (.getfield 15, 3)) fX0_15 rfl (by omega) rfl hf.2.2.1 (?_ : XW _ _ _ _ _ _ _ 15 _ _)
      refine xi_alen (v := 500) (by decide +kernel : decode mX0_add.2.1 15 = .ok (.arraylength, 1)) rfl (by omega) (Or.inl rfl) rfl (?_ : XW _ _ _ _ _ _ _ 16 _ _)
      refine xi_icmp_ge (by decide +kernel : decode mX0_add.2.1 16 = .ok (.if_icmp .ge 23, 3)) (by decide) (fun c => (?_ : XW _ _ _ _ _ _ _ 39 _ _)) (fun c => (?_ : XW _ _ _ _ _ _ _ 19 _ _))
      · replace vc := vc.1 c
        exact xi_vret (by decide +kernel : decode mX0_add.2.1 39 = .ok (.return_, 1)) rfl vc
      · replace vc := vc.2 c
        refine xi_aload_n (by decide +kernel : decode mX0_add.2.1 19 = .ok (.aload_n 0, 1)) rfl rfl (?_ : XW _ _ _ _ _ _ _ 20 _ _)
        refine xi_getR (y := 15) (by decide +kernel : decode mX0_add.2.1 20 = .ok (.getfield 15, 3)) fX0_15 rfl (by omega) rfl hf.2.2.1 (?_ : XW _ _ _ _ _ _ _ 23 _ _)
        refine xi_aload_n (by decide +kernel : decode mX0_add.2.1 23 = .ok (.aload_n 0, 1)) rfl rfl (?_ : XW _ _ _ _ _ _ _ 24 _ _)
        refine xi_getI (by decide +kernel : decode mX0_add.2.1 24 = .ok (.getfield 30, 3)) fX0_30 rfl (by omega) rfl (?_ : XW _ _ _ _ _ _ _ 27 _ _)
        refine xi_iload_n (by decide +kernel : decode mX0_add.2.1 27 = .ok (.iload_n 1, 1)) rfl rfl (?_ : XW _ _ _ _ _ _ _ 28 _ _)
        obtain ⟨s1, vc⟩ := vc
        refine xi_iast (by decide +kernel : decode mX0_add.2.1 28 = .ok (.iastore, 1)) rfl (by omega) s1 (?_ : XW _ _ _ _ _ _ (xSI (15) (va_up (xI h (15)) (xI h 13 3).toNatClampNeg v) h) 29 _ _)
        refine xi_aload_n (by decide +kernel : decode mX0_add.2.1 29 = .ok (.aload_n 0, 1)) rfl rfl (?_ : XW _ _ _ _ _ _ _ 30 _ _)
        refine xi_dup (by decide +kernel : decode mX0_add.2.1 30 = .ok (.dup, 1)) rfl (?_ : XW _ _ _ _ _ _ _ 31 _ _)
        refine xi_getI (by decide +kernel : decode mX0_add.2.1 31 = .ok (.getfield 30, 3)) fX0_30 rfl (by omega) rfl (?_ : XW _ _ _ _ _ _ _ 34 _ [.int (xI h 13 3), .ref 13])
        refine xi_iconst (v := 1) (by decide +kernel : decode mX0_add.2.1 34 = .ok (.iconst 1, 1)) (by decide) (?_ : XW _ _ _ _ _ _ _ 35 _ _)
        refine xi_iadd (by decide +kernel : decode mX0_add.2.1 35 = .ok (.iadd, 1)) (?_ : XW _ _ _ _ _ _ _ 36 _ _)
        refine xi_putI (by decide +kernel : decode mX0_add.2.1 36 = .ok (.putfield 30, 3)) fX0_30 rfl (by omega) rfl rfl rfl (?_ : XW _ _ _ _ _ _ (xSI 13 (va_up (xI h 13) 3 ((xI h 13 3) + 1)) (xSI (15) (va_up (xI h (15)) (xI h 13 3).toNatClampNeg v) h)) 39 _ _)
        exact xi_vret (by decide +kernel : decode mX0_add.2.1 39 = .ok (.return_, 1)) rfl vc

set_option maxRecDepth 20000 in
theorem v_X0_addSign_0 {h : XH} {Q : Option Value → XH → Prop} {X : String → XH → Prop} (n f : Nat) (hf : xFor f (xP h)) (hn : f + 4 ≤ n)  (v : Int32)
    (vc : ((xI h f 1) < 0 → Q none h) ∧ (¬ (xI h f 1) < 0 → (1000 ≤ (xI h f 1) → Q none h) ∧ (¬ 1000 ≤ (xI h f 1) → (vp_in (xI h f 1) 1000) ∧ (Q none (xSI f (va_up (xI h f) 1 ((xI h f 1) + 1)) (xSI (f + 1) (va_up (xI h (f + 1)) (xI h f 1).toNatClampNeg (vp_nar .char v)) h)))))) :
    XW (xrm 1 0 0) mX0_addSign (xE n Q X 0 0) n 0 0 h 0 [some (.ref f), some (.int v)] [] := by
  rcases hf.1 with rfl | rfl
  · refine xi_aload_n (by decide +kernel : decode mX0_addSign.2.1 0 = .ok (.aload_n 0, 1)) rfl rfl (?_ : XW _ _ _ _ _ _ _ 1 _ _)
    refine xi_getI (by decide +kernel : decode mX0_addSign.2.1 1 = .ok (.getfield 26, 3)) fX0_26 rfl (by omega) rfl (?_ : XW _ _ _ _ _ _ _ 4 _ _)
    refine xi_if_lt (by decide +kernel : decode mX0_addSign.2.1 4 = .ok (.ifCond .lt 35, 3)) (by decide) (fun c => (?_ : XW _ _ _ _ _ _ _ 39 _ _)) (fun c => (?_ : XW _ _ _ _ _ _ _ 7 _ _))
    · replace vc := vc.1 c
      exact xi_vret (by decide +kernel : decode mX0_addSign.2.1 39 = .ok (.return_, 1)) rfl vc
    · replace vc := vc.2 c
      refine xi_aload_n (by decide +kernel : decode mX0_addSign.2.1 7 = .ok (.aload_n 0, 1)) rfl rfl (?_ : XW _ _ _ _ _ _ _ 8 _ _)
      refine xi_getI (by decide +kernel : decode mX0_addSign.2.1 8 = .ok (.getfield 26, 3)) fX0_26 rfl (by omega) rfl (?_ : XW _ _ _ _ _ _ _ 11 _ _)
      refine xi_aload_n (by decide +kernel : decode mX0_addSign.2.1 11 = .ok (.aload_n 0, 1)) rfl rfl (?_ : XW _ _ _ _ _ _ _ 12 _ _)
      refine xi_getR (y := 4) (by decide +kernel : decode mX0_addSign.2.1 12 = .ok (.getfield 9, 3)) fX0_9 rfl (by omega) rfl hf.2.1 (?_ : XW _ _ _ _ _ _ _ 15 _ _)
      refine xi_alen (v := 1000) (by decide +kernel : decode mX0_addSign.2.1 15 = .ok (.arraylength, 1)) rfl (by omega) (Or.inl rfl) rfl (?_ : XW _ _ _ _ _ _ _ 16 _ _)
      refine xi_icmp_ge (by decide +kernel : decode mX0_addSign.2.1 16 = .ok (.if_icmp .ge 23, 3)) (by decide) (fun c => (?_ : XW _ _ _ _ _ _ _ 39 _ _)) (fun c => (?_ : XW _ _ _ _ _ _ _ 19 _ _))
      · replace vc := vc.1 c
        exact xi_vret (by decide +kernel : decode mX0_addSign.2.1 39 = .ok (.return_, 1)) rfl vc
      · replace vc := vc.2 c
        refine xi_aload_n (by decide +kernel : decode mX0_addSign.2.1 19 = .ok (.aload_n 0, 1)) rfl rfl (?_ : XW _ _ _ _ _ _ _ 20 _ _)
        refine xi_getR (y := 4) (by decide +kernel : decode mX0_addSign.2.1 20 = .ok (.getfield 9, 3)) fX0_9 rfl (by omega) rfl hf.2.1 (?_ : XW _ _ _ _ _ _ _ 23 _ _)
        refine xi_aload_n (by decide +kernel : decode mX0_addSign.2.1 23 = .ok (.aload_n 0, 1)) rfl rfl (?_ : XW _ _ _ _ _ _ _ 24 _ _)
        refine xi_getI (by decide +kernel : decode mX0_addSign.2.1 24 = .ok (.getfield 26, 3)) fX0_26 rfl (by omega) rfl (?_ : XW _ _ _ _ _ _ _ 27 _ _)
        refine xi_iload_n (by decide +kernel : decode mX0_addSign.2.1 27 = .ok (.iload_n 1, 1)) rfl rfl (?_ : XW _ _ _ _ _ _ _ 28 _ _)
        obtain ⟨s1, vc⟩ := vc
        refine xi_cast (by decide +kernel : decode mX0_addSign.2.1 28 = .ok (.castore, 1)) rfl (by omega) s1 (?_ : XW _ _ _ _ _ _ (xSI (4) (va_up (xI h (4)) (xI h 3 1).toNatClampNeg (vp_nar .char v)) h) 29 _ _)
        refine xi_aload_n (by decide +kernel : decode mX0_addSign.2.1 29 = .ok (.aload_n 0, 1)) rfl rfl (?_ : XW _ _ _ _ _ _ _ 30 _ _)
        refine xi_dup (by decide +kernel : decode mX0_addSign.2.1 30 = .ok (.dup, 1)) rfl (?_ : XW _ _ _ _ _ _ _ 31 _ _)
        refine xi_getI (by decide +kernel : decode mX0_addSign.2.1 31 = .ok (.getfield 26, 3)) fX0_26 rfl (by omega) rfl (?_ : XW _ _ _ _ _ _ _ 34 _ [.int (xI h 3 1), .ref 3])
        refine xi_iconst (v := 1) (by decide +kernel : decode mX0_addSign.2.1 34 = .ok (.iconst 1, 1)) (by decide) (?_ : XW _ _ _ _ _ _ _ 35 _ _)
        refine xi_iadd (by decide +kernel : decode mX0_addSign.2.1 35 = .ok (.iadd, 1)) (?_ : XW _ _ _ _ _ _ _ 36 _ _)
        refine xi_putI (by decide +kernel : decode mX0_addSign.2.1 36 = .ok (.putfield 26, 3)) fX0_26 rfl (by omega) rfl rfl rfl (?_ : XW _ _ _ _ _ _ (xSI 3 (va_up (xI h 3) 1 ((xI h 3 1) + 1)) (xSI (4) (va_up (xI h (4)) (xI h 3 1).toNatClampNeg (vp_nar .char v)) h)) 39 _ _)
        exact xi_vret (by decide +kernel : decode mX0_addSign.2.1 39 = .ok (.return_, 1)) rfl vc
  · refine xi_aload_n (by decide +kernel : decode mX0_addSign.2.1 0 = .ok (.aload_n 0, 1)) rfl rfl (?_ : XW _ _ _ _ _ _ _ 1 _ _)
    refine xi_getI (by decide +kernel : decode mX0_addSign.2.1 1 = .ok (.getfield 26, 3)) fX0_26 rfl (by omega) rfl (?_ : XW _ _ _ _ _ _ _ 4 _ _)
    refine xi_if_lt (by decide +kernel : decode mX0_addSign.2.1 4 = .ok (.ifCond .lt 35, 3)) (by decide) (fun c => (?_ : XW _ _ _ _ _ _ _ 39 _ _)) (fun c => (?_ : XW _ _ _ _ _ _ _ 7 _ _))
    · replace vc := vc.1 c
      exact xi_vret (by decide +kernel : decode mX0_addSign.2.1 39 = .ok (.return_, 1)) rfl vc
    · replace vc := vc.2 c
      refine xi_aload_n (by decide +kernel : decode mX0_addSign.2.1 7 = .ok (.aload_n 0, 1)) rfl rfl (?_ : XW _ _ _ _ _ _ _ 8 _ _)
      refine xi_getI (by decide +kernel : decode mX0_addSign.2.1 8 = .ok (.getfield 26, 3)) fX0_26 rfl (by omega) rfl (?_ : XW _ _ _ _ _ _ _ 11 _ _)
      refine xi_aload_n (by decide +kernel : decode mX0_addSign.2.1 11 = .ok (.aload_n 0, 1)) rfl rfl (?_ : XW _ _ _ _ _ _ _ 12 _ _)
      refine xi_getR (y := 14) (by decide +kernel : decode mX0_addSign.2.1 12 = .ok (.getfield 9, 3)) fX0_9 rfl (by omega) rfl hf.2.1 (?_ : XW _ _ _ _ _ _ _ 15 _ _)
      refine xi_alen (v := 1000) (by decide +kernel : decode mX0_addSign.2.1 15 = .ok (.arraylength, 1)) rfl (by omega) (Or.inl rfl) rfl (?_ : XW _ _ _ _ _ _ _ 16 _ _)
      refine xi_icmp_ge (by decide +kernel : decode mX0_addSign.2.1 16 = .ok (.if_icmp .ge 23, 3)) (by decide) (fun c => (?_ : XW _ _ _ _ _ _ _ 39 _ _)) (fun c => (?_ : XW _ _ _ _ _ _ _ 19 _ _))
      · replace vc := vc.1 c
        exact xi_vret (by decide +kernel : decode mX0_addSign.2.1 39 = .ok (.return_, 1)) rfl vc
      · replace vc := vc.2 c
        refine xi_aload_n (by decide +kernel : decode mX0_addSign.2.1 19 = .ok (.aload_n 0, 1)) rfl rfl (?_ : XW _ _ _ _ _ _ _ 20 _ _)
        refine xi_getR (y := 14) (by decide +kernel : decode mX0_addSign.2.1 20 = .ok (.getfield 9, 3)) fX0_9 rfl (by omega) rfl hf.2.1 (?_ : XW _ _ _ _ _ _ _ 23 _ _)
        refine xi_aload_n (by decide +kernel : decode mX0_addSign.2.1 23 = .ok (.aload_n 0, 1)) rfl rfl (?_ : XW _ _ _ _ _ _ _ 24 _ _)
        refine xi_getI (by decide +kernel : decode mX0_addSign.2.1 24 = .ok (.getfield 26, 3)) fX0_26 rfl (by omega) rfl (?_ : XW _ _ _ _ _ _ _ 27 _ _)
        refine xi_iload_n (by decide +kernel : decode mX0_addSign.2.1 27 = .ok (.iload_n 1, 1)) rfl rfl (?_ : XW _ _ _ _ _ _ _ 28 _ _)
        obtain ⟨s1, vc⟩ := vc
        refine xi_cast (by decide +kernel : decode mX0_addSign.2.1 28 = .ok (.castore, 1)) rfl (by omega) s1 (?_ : XW _ _ _ _ _ _ (xSI (14) (va_up (xI h (14)) (xI h 13 1).toNatClampNeg (vp_nar .char v)) h) 29 _ _)
        refine xi_aload_n (by decide +kernel : decode mX0_addSign.2.1 29 = .ok (.aload_n 0, 1)) rfl rfl (?_ : XW _ _ _ _ _ _ _ 30 _ _)
        refine xi_dup (by decide +kernel : decode mX0_addSign.2.1 30 = .ok (.dup, 1)) rfl (?_ : XW _ _ _ _ _ _ _ 31 _ _)
        refine xi_getI (by decide +kernel : decode mX0_addSign.2.1 31 = .ok (.getfield 26, 3)) fX0_26 rfl (by omega) rfl (?_ : XW _ _ _ _ _ _ _ 34 _ [.int (xI h 13 1), .ref 13])
        refine xi_iconst (v := 1) (by decide +kernel : decode mX0_addSign.2.1 34 = .ok (.iconst 1, 1)) (by decide) (?_ : XW _ _ _ _ _ _ _ 35 _ _)
        refine xi_iadd (by decide +kernel : decode mX0_addSign.2.1 35 = .ok (.iadd, 1)) (?_ : XW _ _ _ _ _ _ _ 36 _ _)
        refine xi_putI (by decide +kernel : decode mX0_addSign.2.1 36 = .ok (.putfield 26, 3)) fX0_26 rfl (by omega) rfl rfl rfl (?_ : XW _ _ _ _ _ _ (xSI 13 (va_up (xI h 13) 1 ((xI h 13 1) + 1)) (xSI (14) (va_up (xI h (14)) (xI h 13 1).toNatClampNeg (vp_nar .char v)) h)) 39 _ _)
        exact xi_vret (by decide +kernel : decode mX0_addSign.2.1 39 = .ok (.return_, 1)) rfl vc

set_option maxRecDepth 20000 in
theorem v_X0_begin_0 {h : XH} {Q : Option Value → XH → Prop} {X : String → XH → Prop} (n f : Nat) (hf : xFor f (xP h)) (hn : f + 4 ≤ n) 
    (vc : Q none (xSI f (va_up (va_up (va_up (xI h f) 0 1) 1 0) 3 0) (xSI f (va_up (va_up (xI h f) 0 1) 1 0) (xSI f (va_up (xI h f) 0 1) h)))) :
    XW (xrm 1 0 0) mX0_begin (xE n Q X 0 0) n 0 0 h 0 [some (.ref f)] [] := by
  rcases hf.1 with rfl | rfl
  · refine xi_aload_n (by decide +kernel : decode mX0_begin.2.1 0 = .ok (.aload_n 0, 1)) rfl rfl (?_ : XW _ _ _ _ _ _ _ 1 _ _)
    refine xi_iconst (v := 1) (by decide +kernel : decode mX0_begin.2.1 1 = .ok (.iconst 1, 1)) (by decide) (?_ : XW _ _ _ _ _ _ _ 2 _ _)
    refine xi_putI (by decide +kernel : decode mX0_begin.2.1 2 = .ok (.putfield 22, 3)) fX0_22 rfl (by omega) rfl rfl rfl (?_ : XW _ _ _ _ _ _ (xSI 3 (va_up (xI h 3) 0 1) h) 5 _ _)
    refine xi_aload_n (by decide +kernel : decode mX0_begin.2.1 5 = .ok (.aload_n 0, 1)) rfl rfl (?_ : XW _ _ _ _ _ _ _ 6 _ _)
    refine xi_iconst (v := 0) (by decide +kernel : decode mX0_begin.2.1 6 = .ok (.iconst 0, 1)) (by decide) (?_ : XW _ _ _ _ _ _ _ 7 _ _)
    refine xi_putI (by decide +kernel : decode mX0_begin.2.1 7 = .ok (.putfield 26, 3)) fX0_26 rfl (by omega) rfl rfl rfl (?_ : XW _ _ _ _ _ _ (xSI 3 (va_up (va_up (xI h 3) 0 1) 1 0) (xSI 3 (va_up (xI h 3) 0 1) h)) 10 _ _)
    refine xi_aload_n (by decide +kernel : decode mX0_begin.2.1 10 = .ok (.aload_n 0, 1)) rfl rfl (?_ : XW _ _ _ _ _ _ _ 11 _ _)
    refine xi_iconst (v := 0) (by decide +kernel : decode mX0_begin.2.1 11 = .ok (.iconst 0, 1)) (by decide) (?_ : XW _ _ _ _ _ _ _ 12 _ _)
    refine xi_putI (by decide +kernel : decode mX0_begin.2.1 12 = .ok (.putfield 30, 3)) fX0_30 rfl (by omega) rfl rfl rfl (?_ : XW _ _ _ _ _ _ (xSI 3 (va_up (va_up (va_up (xI h 3) 0 1) 1 0) 3 0) (xSI 3 (va_up (va_up (xI h 3) 0 1) 1 0) (xSI 3 (va_up (xI h 3) 0 1) h))) 15 _ _)
    exact xi_vret (by decide +kernel : decode mX0_begin.2.1 15 = .ok (.return_, 1)) rfl vc
  · refine xi_aload_n (by decide +kernel : decode mX0_begin.2.1 0 = .ok (.aload_n 0, 1)) rfl rfl (?_ : XW _ _ _ _ _ _ _ 1 _ _)
    refine xi_iconst (v := 1) (by decide +kernel : decode mX0_begin.2.1 1 = .ok (.iconst 1, 1)) (by decide) (?_ : XW _ _ _ _ _ _ _ 2 _ _)
    refine xi_putI (by decide +kernel : decode mX0_begin.2.1 2 = .ok (.putfield 22, 3)) fX0_22 rfl (by omega) rfl rfl rfl (?_ : XW _ _ _ _ _ _ (xSI 13 (va_up (xI h 13) 0 1) h) 5 _ _)
    refine xi_aload_n (by decide +kernel : decode mX0_begin.2.1 5 = .ok (.aload_n 0, 1)) rfl rfl (?_ : XW _ _ _ _ _ _ _ 6 _ _)
    refine xi_iconst (v := 0) (by decide +kernel : decode mX0_begin.2.1 6 = .ok (.iconst 0, 1)) (by decide) (?_ : XW _ _ _ _ _ _ _ 7 _ _)
    refine xi_putI (by decide +kernel : decode mX0_begin.2.1 7 = .ok (.putfield 26, 3)) fX0_26 rfl (by omega) rfl rfl rfl (?_ : XW _ _ _ _ _ _ (xSI 13 (va_up (va_up (xI h 13) 0 1) 1 0) (xSI 13 (va_up (xI h 13) 0 1) h)) 10 _ _)
    refine xi_aload_n (by decide +kernel : decode mX0_begin.2.1 10 = .ok (.aload_n 0, 1)) rfl rfl (?_ : XW _ _ _ _ _ _ _ 11 _ _)
    refine xi_iconst (v := 0) (by decide +kernel : decode mX0_begin.2.1 11 = .ok (.iconst 0, 1)) (by decide) (?_ : XW _ _ _ _ _ _ _ 12 _ _)
    refine xi_putI (by decide +kernel : decode mX0_begin.2.1 12 = .ok (.putfield 30, 3)) fX0_30 rfl (by omega) rfl rfl rfl (?_ : XW _ _ _ _ _ _ (xSI 13 (va_up (va_up (va_up (xI h 13) 0 1) 1 0) 3 0) (xSI 13 (va_up (va_up (xI h 13) 0 1) 1 0) (xSI 13 (va_up (xI h 13) 0 1) h))) 15 _ _)
    exact xi_vret (by decide +kernel : decode mX0_begin.2.1 15 = .ok (.return_, 1)) rfl vc

set_option maxRecDepth 20000 in
theorem v_X0_operand_0 {h : XH} {Q : Option Value → XH → Prop} {X : String → XH → Prop} (n : Nat)  (a1 : Int32) (a2 : Int32) (a3 : Int32) (a4 : Int32) (a5 : Int32)
    (vc : (a1 = (-4) → Q (some (.int a5)) h) ∧ (a1 = (-3) → Q (some (.int a4)) h) ∧ (a1 = (-2) → Q (some (.int a3)) h) ∧ (a1 = (-1) → Q (some (.int a2)) h) ∧ ((a1.toInt < -4 ∨ -1 < a1.toInt) → Q (some (.int a1)) h)) :
    XW (xrm 1 0 0) mX0_operand (xE n Q X 0 0) n 0 0 h 0 [some (.int a1), some (.int a2), some (.int a3), some (.int a4), some (.int a5)] [] := by
  refine xi_iload_n (by decide +kernel : decode mX0_operand.2.1 0 = .ok (.iload_n 0, 1)) rfl rfl (?_ : XW _ _ _ _ _ _ _ 1 _ _)
  by_cases c9 : a1.toInt < -4 ∨ -1 < a1.toInt
  · replace vc := vc.2.2.2.2 c9
    refine xi_tableOut (by decide +kernel : decode mX0_operand.2.1 1 = .ok (.tableswitch 40 (-4) (-1) #[37, 35, 33, 31], 31)) c9 (by decide) (?_ : XW _ _ _ _ _ _ _ 41 _ _)
    refine xi_iload_n (by decide +kernel : decode mX0_operand.2.1 41 = .ok (.iload_n 0, 1)) rfl rfl (?_ : XW _ _ _ _ _ _ _ 42 _ _)
    exact xi_iret (by decide +kernel : decode mX0_operand.2.1 42 = .ok (.ireturn, 1)) rfl rfl vc
  · have c8 := x_tabcases (lo := -4) (hi := -1) (by omega) (by omega) c9
    obtain ⟨j, hj, c7⟩ := c8
    have hj2 : j < 4 := by omega
    by_cases e0 : j = 0
    · subst e0
      have c6 : a1 = (-4) := c7.trans (by decide)
      replace vc := vc.1 c6
      refine xi_tableIn (off := 37) (by decide +kernel : decode mX0_operand.2.1 1 = .ok (.tableswitch 40 (-4) (-1) #[37, 35, 33, 31], 31)) (by omega) (by omega) (by rw [c6]; decide) (by decide) (?_ : XW _ _ _ _ _ _ _ 38 _ _)
      refine xi_iload (by decide +kernel : decode mX0_operand.2.1 38 = .ok (.iload 4, 2)) rfl (?_ : XW _ _ _ _ _ _ _ 40 _ _)
      exact xi_iret (by decide +kernel : decode mX0_operand.2.1 40 = .ok (.ireturn, 1)) rfl rfl vc
    by_cases e1 : j = 1
    · subst e1
      have c6 : a1 = (-3) := c7.trans (by decide)
      replace vc := vc.2.1 c6
      refine xi_tableIn (off := 35) (by decide +kernel : decode mX0_operand.2.1 1 = .ok (.tableswitch 40 (-4) (-1) #[37, 35, 33, 31], 31)) (by omega) (by omega) (by rw [c6]; decide) (by decide) (?_ : XW _ _ _ _ _ _ _ 36 _ _)
      refine xi_iload_n (by decide +kernel : decode mX0_operand.2.1 36 = .ok (.iload_n 3, 1)) rfl rfl (?_ : XW _ _ _ _ _ _ _ 37 _ _)
      exact xi_iret (by decide +kernel : decode mX0_operand.2.1 37 = .ok (.ireturn, 1)) rfl rfl vc
    by_cases e2 : j = 2
    · subst e2
      have c6 : a1 = (-2) := c7.trans (by decide)
      replace vc := vc.2.2.1 c6
      refine xi_tableIn (off := 33) (by decide +kernel : decode mX0_operand.2.1 1 = .ok (.tableswitch 40 (-4) (-1) #[37, 35, 33, 31], 31)) (by omega) (by omega) (by rw [c6]; decide) (by decide) (?_ : XW _ _ _ _ _ _ _ 34 _ _)
      refine xi_iload_n (by decide +kernel : decode mX0_operand.2.1 34 = .ok (.iload_n 2, 1)) rfl rfl (?_ : XW _ _ _ _ _ _ _ 35 _ _)
      exact xi_iret (by decide +kernel : decode mX0_operand.2.1 35 = .ok (.ireturn, 1)) rfl rfl vc
    by_cases e3 : j = 3
    · subst e3
      have c6 : a1 = (-1) := c7.trans (by decide)
      replace vc := vc.2.2.2.1 c6
      refine xi_tableIn (off := 31) (by decide +kernel : decode mX0_operand.2.1 1 = .ok (.tableswitch 40 (-4) (-1) #[37, 35, 33, 31], 31)) (by omega) (by omega) (by rw [c6]; decide) (by decide) (?_ : XW _ _ _ _ _ _ _ 32 _ _)
      refine xi_iload_n (by decide +kernel : decode mX0_operand.2.1 32 = .ok (.iload_n 1, 1)) rfl rfl (?_ : XW _ _ _ _ _ _ _ 33 _ _)
      exact xi_iret (by decide +kernel : decode mX0_operand.2.1 33 = .ok (.ireturn, 1)) rfl rfl vc
    omega

set_option maxRecDepth 20000 in
theorem v_X0_holds_0 {h : XH} {Q : Option Value → XH → Prop} {X : String → XH → Prop} (n : Nat)  (v : Int32)
    (vc : (v = 0 → Q (some (.int 0)) h) ∧ (¬ v = 0 → Q (some (.int 1)) h)) :
    XW (xrm 1 0 0) mX0_holds (xE n Q X 0 0) n 0 0 h 0 [some (.int v)] [] := by
  refine xi_iload_n (by decide +kernel : decode mX0_holds.2.1 0 = .ok (.iload_n 0, 1)) rfl rfl (?_ : XW _ _ _ _ _ _ _ 1 _ _)
  refine xi_if_eq (by decide +kernel : decode mX0_holds.2.1 1 = .ok (.ifCond .eq 7, 3)) (by decide) (fun c => (?_ : XW _ _ _ _ _ _ _ 8 _ _)) (fun c => (?_ : XW _ _ _ _ _ _ _ 4 _ _))
  · replace vc := vc.1 c
    refine xi_iconst (v := 0) (by decide +kernel : decode mX0_holds.2.1 8 = .ok (.iconst 0, 1)) (by decide) (?_ : XW _ _ _ _ _ _ _ 9 _ _)
    exact xi_iret (by decide +kernel : decode mX0_holds.2.1 9 = .ok (.ireturn, 1)) rfl rfl vc
  · replace vc := vc.2 c
    refine xi_iconst (v := 1) (by decide +kernel : decode mX0_holds.2.1 4 = .ok (.iconst 1, 1)) (by decide) (?_ : XW _ _ _ _ _ _ _ 5 _ _)
    refine xi_goto (by decide +kernel : decode mX0_holds.2.1 5 = .ok (.goto 4, 3)) (by decide) (?_ : XW _ _ _ _ _ _ _ 9 _ _)
    exact xi_iret (by decide +kernel : decode mX0_holds.2.1 9 = .ok (.ireturn, 1)) rfl rfl vc

set_option maxRecDepth 20000 in
theorem v_X5_putOdds_0 {h : XH} {Q : Option Value → XH → Prop} {X : String → XH → Prop} (n r : Nat) (hr : xRul r (xP h)) (hn : r + 9 ≤ n)  (fc : Int32) (v : Int32)
    (vc : (fc < 0 → Q none h) ∧ (¬ fc < 0 → (7 ≤ fc → Q none h) ∧ (¬ 7 ≤ fc → (vp_in fc 7) ∧ (Q none (xSI (r + 5) (va_up (xI h (r + 5)) fc.toNatClampNeg v) h))))) :
    XW (xrm 1 0 0) mX5_putOdds (xE n Q X 0 0) n 0 0 h 0 [some (.ref r), some (.int fc), some (.int v)] [] := by
  rcases hr.1 with rfl | rfl
  · refine xi_iload_n (by decide +kernel : decode mX5_putOdds.2.1 0 = .ok (.iload_n 1, 1)) rfl rfl (?_ : XW _ _ _ _ _ _ _ 1 _ _)
    refine xi_if_lt (by decide +kernel : decode mX5_putOdds.2.1 1 = .ok (.ifCond .lt 19, 3)) (by decide) (fun c => (?_ : XW _ _ _ _ _ _ _ 20 _ _)) (fun c => (?_ : XW _ _ _ _ _ _ _ 4 _ _))
    · replace vc := vc.1 c
      exact xi_vret (by decide +kernel : decode mX5_putOdds.2.1 20 = .ok (.return_, 1)) rfl vc
    · replace vc := vc.2 c
      refine xi_iload_n (by decide +kernel : decode mX5_putOdds.2.1 4 = .ok (.iload_n 1, 1)) rfl rfl (?_ : XW _ _ _ _ _ _ _ 5 _ _)
      refine xi_aload_n (by decide +kernel : decode mX5_putOdds.2.1 5 = .ok (.aload_n 0, 1)) rfl rfl (?_ : XW _ _ _ _ _ _ _ 6 _ _)
      refine xi_getR (y := 7) (by decide +kernel : decode mX5_putOdds.2.1 6 = .ok (.getfield 18, 3)) fX5_18 rfl (by omega) rfl hr.2.2.1 (?_ : XW _ _ _ _ _ _ _ 9 _ _)
      refine xi_alen (v := 7) (by decide +kernel : decode mX5_putOdds.2.1 9 = .ok (.arraylength, 1)) rfl (by omega) (Or.inl rfl) rfl (?_ : XW _ _ _ _ _ _ _ 10 _ _)
      refine xi_icmp_ge (by decide +kernel : decode mX5_putOdds.2.1 10 = .ok (.if_icmp .ge 10, 3)) (by decide) (fun c => (?_ : XW _ _ _ _ _ _ _ 20 _ _)) (fun c => (?_ : XW _ _ _ _ _ _ _ 13 _ _))
      · replace vc := vc.1 c
        exact xi_vret (by decide +kernel : decode mX5_putOdds.2.1 20 = .ok (.return_, 1)) rfl vc
      · replace vc := vc.2 c
        refine xi_aload_n (by decide +kernel : decode mX5_putOdds.2.1 13 = .ok (.aload_n 0, 1)) rfl rfl (?_ : XW _ _ _ _ _ _ _ 14 _ _)
        refine xi_getR (y := 7) (by decide +kernel : decode mX5_putOdds.2.1 14 = .ok (.getfield 18, 3)) fX5_18 rfl (by omega) rfl hr.2.2.1 (?_ : XW _ _ _ _ _ _ _ 17 _ _)
        refine xi_iload_n (by decide +kernel : decode mX5_putOdds.2.1 17 = .ok (.iload_n 1, 1)) rfl rfl (?_ : XW _ _ _ _ _ _ _ 18 _ _)
        refine xi_iload_n (by decide +kernel : decode mX5_putOdds.2.1 18 = .ok (.iload_n 2, 1)) rfl rfl (?_ : XW _ _ _ _ _ _ _ 19 _ _)
        obtain ⟨s1, vc⟩ := vc
        refine xi_iast (by decide +kernel : decode mX5_putOdds.2.1 19 = .ok (.iastore, 1)) rfl (by omega) s1 (?_ : XW _ _ _ _ _ _ (xSI (7) (va_up (xI h (7)) fc.toNatClampNeg v) h) 20 _ _)
        exact xi_vret (by decide +kernel : decode mX5_putOdds.2.1 20 = .ok (.return_, 1)) rfl vc
  · refine xi_iload_n (by decide +kernel : decode mX5_putOdds.2.1 0 = .ok (.iload_n 1, 1)) rfl rfl (?_ : XW _ _ _ _ _ _ _ 1 _ _)
    refine xi_if_lt (by decide +kernel : decode mX5_putOdds.2.1 1 = .ok (.ifCond .lt 19, 3)) (by decide) (fun c => (?_ : XW _ _ _ _ _ _ _ 20 _ _)) (fun c => (?_ : XW _ _ _ _ _ _ _ 4 _ _))
    · replace vc := vc.1 c
      exact xi_vret (by decide +kernel : decode mX5_putOdds.2.1 20 = .ok (.return_, 1)) rfl vc
    · replace vc := vc.2 c
      refine xi_iload_n (by decide +kernel : decode mX5_putOdds.2.1 4 = .ok (.iload_n 1, 1)) rfl rfl (?_ : XW _ _ _ _ _ _ _ 5 _ _)
      refine xi_aload_n (by decide +kernel : decode mX5_putOdds.2.1 5 = .ok (.aload_n 0, 1)) rfl rfl (?_ : XW _ _ _ _ _ _ _ 6 _ _)
      refine xi_getR (y := 17) (by decide +kernel : decode mX5_putOdds.2.1 6 = .ok (.getfield 18, 3)) fX5_18 rfl (by omega) rfl hr.2.2.1 (?_ : XW _ _ _ _ _ _ _ 9 _ _)
      refine xi_alen (v := 7) (by decide +kernel : decode mX5_putOdds.2.1 9 = .ok (.arraylength, 1)) rfl (by omega) (Or.inl rfl) rfl (?_ : XW _ _ _ _ _ _ _ 10 _ _)
      refine xi_icmp_ge (by decide +kernel : decode mX5_putOdds.2.1 10 = .ok (.if_icmp .ge 10, 3)) (by decide) (fun c => (?_ : XW _ _ _ _ _ _ _ 20 _ _)) (fun c => (?_ : XW _ _ _ _ _ _ _ 13 _ _))
      · replace vc := vc.1 c
        exact xi_vret (by decide +kernel : decode mX5_putOdds.2.1 20 = .ok (.return_, 1)) rfl vc
      · replace vc := vc.2 c
        refine xi_aload_n (by decide +kernel : decode mX5_putOdds.2.1 13 = .ok (.aload_n 0, 1)) rfl rfl (?_ : XW _ _ _ _ _ _ _ 14 _ _)
        refine xi_getR (y := 17) (by decide +kernel : decode mX5_putOdds.2.1 14 = .ok (.getfield 18, 3)) fX5_18 rfl (by omega) rfl hr.2.2.1 (?_ : XW _ _ _ _ _ _ _ 17 _ _)
        refine xi_iload_n (by decide +kernel : decode mX5_putOdds.2.1 17 = .ok (.iload_n 1, 1)) rfl rfl (?_ : XW _ _ _ _ _ _ _ 18 _ _)
        refine xi_iload_n (by decide +kernel : decode mX5_putOdds.2.1 18 = .ok (.iload_n 2, 1)) rfl rfl (?_ : XW _ _ _ _ _ _ _ 19 _ _)
        obtain ⟨s1, vc⟩ := vc
        refine xi_iast (by decide +kernel : decode mX5_putOdds.2.1 19 = .ok (.iastore, 1)) rfl (by omega) s1 (?_ : XW _ _ _ _ _ _ (xSI (17) (va_up (xI h (17)) fc.toNatClampNeg v) h) 20 _ _)
        exact xi_vret (by decide +kernel : decode mX5_putOdds.2.1 20 = .ok (.return_, 1)) rfl vc

set_option maxRecDepth 20000 in
theorem v_X5_oddsOf_0 {h : XH} {Q : Option Value → XH → Prop} {X : String → XH → Prop} (n r : Nat) (hr : xRul r (xP h)) (hn : r + 9 ≤ n)  (fc : Int32)
    (vc : (fc < 0 → Q (some (.int 0)) h) ∧ (¬ fc < 0 → (7 ≤ fc → Q (some (.int 0)) h) ∧ (¬ 7 ≤ fc → (vp_in fc 7) ∧ (Q (some (.int (xI h (r + 5) fc.toNatClampNeg))) h)))) :
    XW (xrm 1 0 0) mX5_oddsOf (xE n Q X 0 0) n 0 0 h 0 [some (.ref r), some (.int fc)] [] := by
  rcases hr.1 with rfl | rfl
  · refine xi_iload_n (by decide +kernel : decode mX5_oddsOf.2.1 0 = .ok (.iload_n 1, 1)) rfl rfl (?_ : XW _ _ _ _ _ _ _ 1 _ _)
    refine xi_if_lt (by decide +kernel : decode mX5_oddsOf.2.1 1 = .ok (.ifCond .lt 21, 3)) (by decide) (fun c => (?_ : XW _ _ _ _ _ _ _ 22 _ _)) (fun c => (?_ : XW _ _ _ _ _ _ _ 4 _ _))
    · replace vc := vc.1 c
      refine xi_iconst (v := 0) (by decide +kernel : decode mX5_oddsOf.2.1 22 = .ok (.iconst 0, 1)) (by decide) (?_ : XW _ _ _ _ _ _ _ 23 _ _)
      exact xi_iret (by decide +kernel : decode mX5_oddsOf.2.1 23 = .ok (.ireturn, 1)) rfl rfl vc
    · replace vc := vc.2 c
      refine xi_iload_n (by decide +kernel : decode mX5_oddsOf.2.1 4 = .ok (.iload_n 1, 1)) rfl rfl (?_ : XW _ _ _ _ _ _ _ 5 _ _)
      refine xi_aload_n (by decide +kernel : decode mX5_oddsOf.2.1 5 = .ok (.aload_n 0, 1)) rfl rfl (?_ : XW _ _ _ _ _ _ _ 6 _ _)
      refine xi_getR (y := 7) (by decide +kernel : decode mX5_oddsOf.2.1 6 = .ok (.getfield 18, 3)) fX5_18 rfl (by omega) rfl hr.2.2.1 (?_ : XW _ _ _ _ _ _ _ 9 _ _)
      refine xi_alen (v := 7) (by decide +kernel : decode mX5_oddsOf.2.1 9 = .ok (.arraylength, 1)) rfl (by omega) (Or.inl rfl) rfl (?_ : XW _ _ _ _ _ _ _ 10 _ _)
      refine xi_icmp_ge (by decide +kernel : decode mX5_oddsOf.2.1 10 = .ok (.if_icmp .ge 12, 3)) (by decide) (fun c => (?_ : XW _ _ _ _ _ _ _ 22 _ _)) (fun c => (?_ : XW _ _ _ _ _ _ _ 13 _ _))
      · replace vc := vc.1 c
        refine xi_iconst (v := 0) (by decide +kernel : decode mX5_oddsOf.2.1 22 = .ok (.iconst 0, 1)) (by decide) (?_ : XW _ _ _ _ _ _ _ 23 _ _)
        exact xi_iret (by decide +kernel : decode mX5_oddsOf.2.1 23 = .ok (.ireturn, 1)) rfl rfl vc
      · replace vc := vc.2 c
        refine xi_aload_n (by decide +kernel : decode mX5_oddsOf.2.1 13 = .ok (.aload_n 0, 1)) rfl rfl (?_ : XW _ _ _ _ _ _ _ 14 _ _)
        refine xi_getR (y := 7) (by decide +kernel : decode mX5_oddsOf.2.1 14 = .ok (.getfield 18, 3)) fX5_18 rfl (by omega) rfl hr.2.2.1 (?_ : XW _ _ _ _ _ _ _ 17 _ _)
        refine xi_iload_n (by decide +kernel : decode mX5_oddsOf.2.1 17 = .ok (.iload_n 1, 1)) rfl rfl (?_ : XW _ _ _ _ _ _ _ 18 _ _)
        obtain ⟨s1, vc⟩ := vc
        refine xi_iald (by decide +kernel : decode mX5_oddsOf.2.1 18 = .ok (.iaload, 1)) rfl (by omega) s1 (?_ : XW _ _ _ _ _ _ _ 19 _ _)
        refine xi_goto (by decide +kernel : decode mX5_oddsOf.2.1 19 = .ok (.goto 4, 3)) (by decide) (?_ : XW _ _ _ _ _ _ _ 23 _ _)
        exact xi_iret (by decide +kernel : decode mX5_oddsOf.2.1 23 = .ok (.ireturn, 1)) rfl rfl vc
  · refine xi_iload_n (by decide +kernel : decode mX5_oddsOf.2.1 0 = .ok (.iload_n 1, 1)) rfl rfl (?_ : XW _ _ _ _ _ _ _ 1 _ _)
    refine xi_if_lt (by decide +kernel : decode mX5_oddsOf.2.1 1 = .ok (.ifCond .lt 21, 3)) (by decide) (fun c => (?_ : XW _ _ _ _ _ _ _ 22 _ _)) (fun c => (?_ : XW _ _ _ _ _ _ _ 4 _ _))
    · replace vc := vc.1 c
      refine xi_iconst (v := 0) (by decide +kernel : decode mX5_oddsOf.2.1 22 = .ok (.iconst 0, 1)) (by decide) (?_ : XW _ _ _ _ _ _ _ 23 _ _)
      exact xi_iret (by decide +kernel : decode mX5_oddsOf.2.1 23 = .ok (.ireturn, 1)) rfl rfl vc
    · replace vc := vc.2 c
      refine xi_iload_n (by decide +kernel : decode mX5_oddsOf.2.1 4 = .ok (.iload_n 1, 1)) rfl rfl (?_ : XW _ _ _ _ _ _ _ 5 _ _)
      refine xi_aload_n (by decide +kernel : decode mX5_oddsOf.2.1 5 = .ok (.aload_n 0, 1)) rfl rfl (?_ : XW _ _ _ _ _ _ _ 6 _ _)
      refine xi_getR (y := 17) (by decide +kernel : decode mX5_oddsOf.2.1 6 = .ok (.getfield 18, 3)) fX5_18 rfl (by omega) rfl hr.2.2.1 (?_ : XW _ _ _ _ _ _ _ 9 _ _)
      refine xi_alen (v := 7) (by decide +kernel : decode mX5_oddsOf.2.1 9 = .ok (.arraylength, 1)) rfl (by omega) (Or.inl rfl) rfl (?_ : XW _ _ _ _ _ _ _ 10 _ _)
      refine xi_icmp_ge (by decide +kernel : decode mX5_oddsOf.2.1 10 = .ok (.if_icmp .ge 12, 3)) (by decide) (fun c => (?_ : XW _ _ _ _ _ _ _ 22 _ _)) (fun c => (?_ : XW _ _ _ _ _ _ _ 13 _ _))
      · replace vc := vc.1 c
        refine xi_iconst (v := 0) (by decide +kernel : decode mX5_oddsOf.2.1 22 = .ok (.iconst 0, 1)) (by decide) (?_ : XW _ _ _ _ _ _ _ 23 _ _)
        exact xi_iret (by decide +kernel : decode mX5_oddsOf.2.1 23 = .ok (.ireturn, 1)) rfl rfl vc
      · replace vc := vc.2 c
        refine xi_aload_n (by decide +kernel : decode mX5_oddsOf.2.1 13 = .ok (.aload_n 0, 1)) rfl rfl (?_ : XW _ _ _ _ _ _ _ 14 _ _)
        refine xi_getR (y := 17) (by decide +kernel : decode mX5_oddsOf.2.1 14 = .ok (.getfield 18, 3)) fX5_18 rfl (by omega) rfl hr.2.2.1 (?_ : XW _ _ _ _ _ _ _ 17 _ _)
        refine xi_iload_n (by decide +kernel : decode mX5_oddsOf.2.1 17 = .ok (.iload_n 1, 1)) rfl rfl (?_ : XW _ _ _ _ _ _ _ 18 _ _)
        obtain ⟨s1, vc⟩ := vc
        refine xi_iald (by decide +kernel : decode mX5_oddsOf.2.1 18 = .ok (.iaload, 1)) rfl (by omega) s1 (?_ : XW _ _ _ _ _ _ _ 19 _ _)
        refine xi_goto (by decide +kernel : decode mX5_oddsOf.2.1 19 = .ok (.goto 4, 3)) (by decide) (?_ : XW _ _ _ _ _ _ _ 23 _ _)
        exact xi_iret (by decide +kernel : decode mX5_oddsOf.2.1 23 = .ok (.ireturn, 1)) rfl rfl vc

set_option maxRecDepth 20000 in
theorem v_X5_isFoot_0 {h : XH} {Q : Option Value → XH → Prop} {X : String → XH → Prop} (n r : Nat) (hr : xRul r (xP h)) (hn : r + 9 ≤ n)  (q : Int32)
    (vc : (q < 0 → Q (some (.int 0)) h) ∧ (¬ q < 0 → (101 ≤ q → Q (some (.int 0)) h) ∧ (¬ 101 ≤ q → (vp_in q 101) ∧ (((xI h (r + 8) q.toNatClampNeg) = 0 → Q (some (.int 0)) h) ∧ (¬ (xI h (r + 8) q.toNatClampNeg) = 0 → Q (some (.int 1)) h))))) :
    XW (xrm 1 0 0) mX5_isFoot (xE n Q X 0 0) n 0 0 h 0 [some (.ref r), some (.int q)] [] := by
  rcases hr.1 with rfl | rfl
  · refine xi_iload_n (by decide +kernel : decode mX5_isFoot.2.1 0 = .ok (.iload_n 1, 1)) rfl rfl (?_ : XW _ _ _ _ _ _ _ 1 _ _)
    refine xi_if_lt (by decide +kernel : decode mX5_isFoot.2.1 1 = .ok (.ifCond .lt 25, 3)) (by decide) (fun c => (?_ : XW _ _ _ _ _ _ _ 26 _ _)) (fun c => (?_ : XW _ _ _ _ _ _ _ 4 _ _))
    · replace vc := vc.1 c
      refine xi_iconst (v := 0) (by decide +kernel : decode mX5_isFoot.2.1 26 = .ok (.iconst 0, 1)) (by decide) (?_ : XW _ _ _ _ _ _ _ 27 _ _)
      exact xi_iret (by decide +kernel : decode mX5_isFoot.2.1 27 = .ok (.ireturn, 1)) rfl rfl vc
    · replace vc := vc.2 c
      refine xi_iload_n (by decide +kernel : decode mX5_isFoot.2.1 4 = .ok (.iload_n 1, 1)) rfl rfl (?_ : XW _ _ _ _ _ _ _ 5 _ _)
      refine xi_aload_n (by decide +kernel : decode mX5_isFoot.2.1 5 = .ok (.aload_n 0, 1)) rfl rfl (?_ : XW _ _ _ _ _ _ _ 6 _ _)
      refine xi_getR (y := 10) (by decide +kernel : decode mX5_isFoot.2.1 6 = .ok (.getfield 28, 3)) fX5_28 rfl (by omega) rfl hr.2.2.2.2.2.1 (?_ : XW _ _ _ _ _ _ _ 9 _ _)
      refine xi_alen (v := 101) (by decide +kernel : decode mX5_isFoot.2.1 9 = .ok (.arraylength, 1)) rfl (by omega) (Or.inl rfl) rfl (?_ : XW _ _ _ _ _ _ _ 10 _ _)
      refine xi_icmp_ge (by decide +kernel : decode mX5_isFoot.2.1 10 = .ok (.if_icmp .ge 16, 3)) (by decide) (fun c => (?_ : XW _ _ _ _ _ _ _ 26 _ _)) (fun c => (?_ : XW _ _ _ _ _ _ _ 13 _ _))
      · replace vc := vc.1 c
        refine xi_iconst (v := 0) (by decide +kernel : decode mX5_isFoot.2.1 26 = .ok (.iconst 0, 1)) (by decide) (?_ : XW _ _ _ _ _ _ _ 27 _ _)
        exact xi_iret (by decide +kernel : decode mX5_isFoot.2.1 27 = .ok (.ireturn, 1)) rfl rfl vc
      · replace vc := vc.2 c
        refine xi_aload_n (by decide +kernel : decode mX5_isFoot.2.1 13 = .ok (.aload_n 0, 1)) rfl rfl (?_ : XW _ _ _ _ _ _ _ 14 _ _)
        refine xi_getR (y := 10) (by decide +kernel : decode mX5_isFoot.2.1 14 = .ok (.getfield 28, 3)) fX5_28 rfl (by omega) rfl hr.2.2.2.2.2.1 (?_ : XW _ _ _ _ _ _ _ 17 _ _)
        refine xi_iload_n (by decide +kernel : decode mX5_isFoot.2.1 17 = .ok (.iload_n 1, 1)) rfl rfl (?_ : XW _ _ _ _ _ _ _ 18 _ _)
        obtain ⟨s1, vc⟩ := vc
        refine xi_zald (by decide +kernel : decode mX5_isFoot.2.1 18 = .ok (.baload, 1)) rfl (by omega) s1 (?_ : XW _ _ _ _ _ _ _ 19 _ _)
        refine xi_if_eq (by decide +kernel : decode mX5_isFoot.2.1 19 = .ok (.ifCond .eq 7, 3)) (by decide) (fun c => (?_ : XW _ _ _ _ _ _ _ 26 _ _)) (fun c => (?_ : XW _ _ _ _ _ _ _ 22 _ _))
        · replace vc := vc.1 c
          refine xi_iconst (v := 0) (by decide +kernel : decode mX5_isFoot.2.1 26 = .ok (.iconst 0, 1)) (by decide) (?_ : XW _ _ _ _ _ _ _ 27 _ _)
          exact xi_iret (by decide +kernel : decode mX5_isFoot.2.1 27 = .ok (.ireturn, 1)) rfl rfl vc
        · replace vc := vc.2 c
          refine xi_iconst (v := 1) (by decide +kernel : decode mX5_isFoot.2.1 22 = .ok (.iconst 1, 1)) (by decide) (?_ : XW _ _ _ _ _ _ _ 23 _ _)
          refine xi_goto (by decide +kernel : decode mX5_isFoot.2.1 23 = .ok (.goto 4, 3)) (by decide) (?_ : XW _ _ _ _ _ _ _ 27 _ _)
          exact xi_iret (by decide +kernel : decode mX5_isFoot.2.1 27 = .ok (.ireturn, 1)) rfl rfl vc
  · refine xi_iload_n (by decide +kernel : decode mX5_isFoot.2.1 0 = .ok (.iload_n 1, 1)) rfl rfl (?_ : XW _ _ _ _ _ _ _ 1 _ _)
    refine xi_if_lt (by decide +kernel : decode mX5_isFoot.2.1 1 = .ok (.ifCond .lt 25, 3)) (by decide) (fun c => (?_ : XW _ _ _ _ _ _ _ 26 _ _)) (fun c => (?_ : XW _ _ _ _ _ _ _ 4 _ _))
    · replace vc := vc.1 c
      refine xi_iconst (v := 0) (by decide +kernel : decode mX5_isFoot.2.1 26 = .ok (.iconst 0, 1)) (by decide) (?_ : XW _ _ _ _ _ _ _ 27 _ _)
      exact xi_iret (by decide +kernel : decode mX5_isFoot.2.1 27 = .ok (.ireturn, 1)) rfl rfl vc
    · replace vc := vc.2 c
      refine xi_iload_n (by decide +kernel : decode mX5_isFoot.2.1 4 = .ok (.iload_n 1, 1)) rfl rfl (?_ : XW _ _ _ _ _ _ _ 5 _ _)
      refine xi_aload_n (by decide +kernel : decode mX5_isFoot.2.1 5 = .ok (.aload_n 0, 1)) rfl rfl (?_ : XW _ _ _ _ _ _ _ 6 _ _)
      refine xi_getR (y := 20) (by decide +kernel : decode mX5_isFoot.2.1 6 = .ok (.getfield 28, 3)) fX5_28 rfl (by omega) rfl hr.2.2.2.2.2.1 (?_ : XW _ _ _ _ _ _ _ 9 _ _)
      refine xi_alen (v := 101) (by decide +kernel : decode mX5_isFoot.2.1 9 = .ok (.arraylength, 1)) rfl (by omega) (Or.inl rfl) rfl (?_ : XW _ _ _ _ _ _ _ 10 _ _)
      refine xi_icmp_ge (by decide +kernel : decode mX5_isFoot.2.1 10 = .ok (.if_icmp .ge 16, 3)) (by decide) (fun c => (?_ : XW _ _ _ _ _ _ _ 26 _ _)) (fun c => (?_ : XW _ _ _ _ _ _ _ 13 _ _))
      · replace vc := vc.1 c
        refine xi_iconst (v := 0) (by decide +kernel : decode mX5_isFoot.2.1 26 = .ok (.iconst 0, 1)) (by decide) (?_ : XW _ _ _ _ _ _ _ 27 _ _)
        exact xi_iret (by decide +kernel : decode mX5_isFoot.2.1 27 = .ok (.ireturn, 1)) rfl rfl vc
      · replace vc := vc.2 c
        refine xi_aload_n (by decide +kernel : decode mX5_isFoot.2.1 13 = .ok (.aload_n 0, 1)) rfl rfl (?_ : XW _ _ _ _ _ _ _ 14 _ _)
        refine xi_getR (y := 20) (by decide +kernel : decode mX5_isFoot.2.1 14 = .ok (.getfield 28, 3)) fX5_28 rfl (by omega) rfl hr.2.2.2.2.2.1 (?_ : XW _ _ _ _ _ _ _ 17 _ _)
        refine xi_iload_n (by decide +kernel : decode mX5_isFoot.2.1 17 = .ok (.iload_n 1, 1)) rfl rfl (?_ : XW _ _ _ _ _ _ _ 18 _ _)
        obtain ⟨s1, vc⟩ := vc
        refine xi_zald (by decide +kernel : decode mX5_isFoot.2.1 18 = .ok (.baload, 1)) rfl (by omega) s1 (?_ : XW _ _ _ _ _ _ _ 19 _ _)
        refine xi_if_eq (by decide +kernel : decode mX5_isFoot.2.1 19 = .ok (.ifCond .eq 7, 3)) (by decide) (fun c => (?_ : XW _ _ _ _ _ _ _ 26 _ _)) (fun c => (?_ : XW _ _ _ _ _ _ _ 22 _ _))
        · replace vc := vc.1 c
          refine xi_iconst (v := 0) (by decide +kernel : decode mX5_isFoot.2.1 26 = .ok (.iconst 0, 1)) (by decide) (?_ : XW _ _ _ _ _ _ _ 27 _ _)
          exact xi_iret (by decide +kernel : decode mX5_isFoot.2.1 27 = .ok (.ireturn, 1)) rfl rfl vc
        · replace vc := vc.2 c
          refine xi_iconst (v := 1) (by decide +kernel : decode mX5_isFoot.2.1 22 = .ok (.iconst 1, 1)) (by decide) (?_ : XW _ _ _ _ _ _ _ 23 _ _)
          refine xi_goto (by decide +kernel : decode mX5_isFoot.2.1 23 = .ok (.goto 4, 3)) (by decide) (?_ : XW _ _ _ _ _ _ _ 27 _ _)
          exact xi_iret (by decide +kernel : decode mX5_isFoot.2.1 27 = .ok (.ireturn, 1)) rfl rfl vc

set_option maxRecDepth 20000 in
theorem v_X5_addExit_0 {h : XH} {Q : Option Value → XH → Prop} {X : String → XH → Prop} (n r : Nat) (hr : xRul r (xP h)) (hn : r + 9 ≤ n)  (ft : Int32) (hd : Int32)
    (vc : ((xI h r 7) < 0 → Q none h) ∧ (¬ (xI h r 7) < 0 → (24 ≤ (xI h r 7) → Q none h) ∧ (¬ 24 ≤ (xI h r 7) → (ft < 0 → Q none h) ∧ (¬ ft < 0 → (101 ≤ ft → Q none h) ∧ (¬ 101 ≤ ft → (vp_in (xI h r 7) 24) ∧ ((vp_in (xI h r 7) 24) ∧ ((vp_in ft 101) ∧ (Q none (xSI r (va_up (xI h r) 7 ((xI h r 7) + 1)) (xSI (r + 8) (va_up (xI h (r + 8)) ft.toNatClampNeg (vp_nar .boolean 1)) (xSI (r + 7) (va_up (xI h (r + 7)) (xI h r 7).toNatClampNeg hd) (xSI (r + 6) (va_up (xI h (r + 6)) (xI h r 7).toNatClampNeg ft) h)))))))))))) :
    XW (xrm 1 0 0) mX5_addExit (xE n Q X 0 0) n 0 0 h 0 [some (.ref r), some (.int ft), some (.int hd)] [] := by
  rcases hr.1 with rfl | rfl
  · refine xi_aload_n (by decide +kernel : decode mX5_addExit.2.1 0 = .ok (.aload_n 0, 1)) rfl rfl (?_ : XW _ _ _ _ _ _ _ 1 _ _)
    refine xi_getI (by decide +kernel : decode mX5_addExit.2.1 1 = .ok (.getfield 62, 3)) fX5_62 rfl (by omega) rfl (?_ : XW _ _ _ _ _ _ _ 4 _ _)
    refine xi_if_lt (by decide +kernel : decode mX5_addExit.2.1 4 = .ok (.ifCond .lt 62, 3)) (by decide) (fun c => (?_ : XW _ _ _ _ _ _ _ 66 _ _)) (fun c => (?_ : XW _ _ _ _ _ _ _ 7 _ _))
    · replace vc := vc.1 c
      exact xi_vret (by decide +kernel : decode mX5_addExit.2.1 66 = .ok (.return_, 1)) rfl vc
    · replace vc := vc.2 c
      refine xi_aload_n (by decide +kernel : decode mX5_addExit.2.1 7 = .ok (.aload_n 0, 1)) rfl rfl (?_ : XW _ _ _ _ _ _ _ 8 _ _)
      refine xi_getI (by decide +kernel : decode mX5_addExit.2.1 8 = .ok (.getfield 62, 3)) fX5_62 rfl (by omega) rfl (?_ : XW _ _ _ _ _ _ _ 11 _ _)
      refine xi_bipush (v := 24) (by decide +kernel : decode mX5_addExit.2.1 11 = .ok (.bipush 24, 2)) (by decide) (?_ : XW _ _ _ _ _ _ _ 13 _ _)
      refine xi_icmp_ge (by decide +kernel : decode mX5_addExit.2.1 13 = .ok (.if_icmp .ge 53, 3)) (by decide) (fun c => (?_ : XW _ _ _ _ _ _ _ 66 _ _)) (fun c => (?_ : XW _ _ _ _ _ _ _ 16 _ _))
      · replace vc := vc.1 c
        exact xi_vret (by decide +kernel : decode mX5_addExit.2.1 66 = .ok (.return_, 1)) rfl vc
      · replace vc := vc.2 c
        refine xi_iload_n (by decide +kernel : decode mX5_addExit.2.1 16 = .ok (.iload_n 1, 1)) rfl rfl (?_ : XW _ _ _ _ _ _ _ 17 _ _)
        refine xi_if_lt (by decide +kernel : decode mX5_addExit.2.1 17 = .ok (.ifCond .lt 49, 3)) (by decide) (fun c => (?_ : XW _ _ _ _ _ _ _ 66 _ _)) (fun c => (?_ : XW _ _ _ _ _ _ _ 20 _ _))
        · replace vc := vc.1 c
          exact xi_vret (by decide +kernel : decode mX5_addExit.2.1 66 = .ok (.return_, 1)) rfl vc
        · replace vc := vc.2 c
          refine xi_iload_n (by decide +kernel : decode mX5_addExit.2.1 20 = .ok (.iload_n 1, 1)) rfl rfl (?_ : XW _ _ _ _ _ _ _ 21 _ _)
          refine xi_aload_n (by decide +kernel : decode mX5_addExit.2.1 21 = .ok (.aload_n 0, 1)) rfl rfl (?_ : XW _ _ _ _ _ _ _ 22 _ _)
          refine xi_getR (y := 10) (by decide +kernel : decode mX5_addExit.2.1 22 = .ok (.getfield 28, 3)) fX5_28 rfl (by omega) rfl hr.2.2.2.2.2.1 (?_ : XW _ _ _ _ _ _ _ 25 _ _)
          refine xi_alen (v := 101) (by decide +kernel : decode mX5_addExit.2.1 25 = .ok (.arraylength, 1)) rfl (by omega) (Or.inl rfl) rfl (?_ : XW _ _ _ _ _ _ _ 26 _ _)
          refine xi_icmp_ge (by decide +kernel : decode mX5_addExit.2.1 26 = .ok (.if_icmp .ge 40, 3)) (by decide) (fun c => (?_ : XW _ _ _ _ _ _ _ 66 _ _)) (fun c => (?_ : XW _ _ _ _ _ _ _ 29 _ _))
          · replace vc := vc.1 c
            exact xi_vret (by decide +kernel : decode mX5_addExit.2.1 66 = .ok (.return_, 1)) rfl vc
          · replace vc := vc.2 c
            refine xi_aload_n (by decide +kernel : decode mX5_addExit.2.1 29 = .ok (.aload_n 0, 1)) rfl rfl (?_ : XW _ _ _ _ _ _ _ 30 _ _)
            refine xi_getR (y := 8) (by decide +kernel : decode mX5_addExit.2.1 30 = .ok (.getfield 22, 3)) fX5_22 rfl (by omega) rfl hr.2.2.2.1 (?_ : XW _ _ _ _ _ _ _ 33 _ _)
            refine xi_aload_n (by decide +kernel : decode mX5_addExit.2.1 33 = .ok (.aload_n 0, 1)) rfl rfl (?_ : XW _ _ _ _ _ _ _ 34 _ _)
            refine xi_getI (by decide +kernel : decode mX5_addExit.2.1 34 = .ok (.getfield 62, 3)) fX5_62 rfl (by omega) rfl (?_ : XW _ _ _ _ _ _ _ 37 _ _)
            refine xi_iload_n (by decide +kernel : decode mX5_addExit.2.1 37 = .ok (.iload_n 1, 1)) rfl rfl (?_ : XW _ _ _ _ _ _ _ 38 _ _)
            obtain ⟨s1, vc⟩ := vc
            refine xi_iast (by decide +kernel : decode mX5_addExit.2.1 38 = .ok (.iastore, 1)) rfl (by omega) s1 (?_ : XW _ _ _ _ _ _ (xSI (8) (va_up (xI h (8)) (xI h 2 7).toNatClampNeg ft) h) 39 _ _)
            refine xi_aload_n (by decide +kernel : decode mX5_addExit.2.1 39 = .ok (.aload_n 0, 1)) rfl rfl (?_ : XW _ _ _ _ _ _ _ 40 _ _)
            refine xi_getR (y := 9) (by decide +kernel : decode mX5_addExit.2.1 40 = .ok (.getfield 25, 3)) fX5_25 rfl (by omega) rfl hr.2.2.2.2.1 (?_ : XW _ _ _ _ _ _ _ 43 _ _)
            refine xi_aload_n (by decide +kernel : decode mX5_addExit.2.1 43 = .ok (.aload_n 0, 1)) rfl rfl (?_ : XW _ _ _ _ _ _ _ 44 _ _)
            refine xi_getI (by decide +kernel : decode mX5_addExit.2.1 44 = .ok (.getfield 62, 3)) fX5_62 rfl (by omega) rfl (?_ : XW _ _ _ _ _ _ _ 47 _ [.int (xI h 2 7), .ref (9)])
            refine xi_iload_n (by decide +kernel : decode mX5_addExit.2.1 47 = .ok (.iload_n 2, 1)) rfl rfl (?_ : XW _ _ _ _ _ _ _ 48 _ _)
            obtain ⟨s1, vc⟩ := vc
            refine xi_iast (by decide +kernel : decode mX5_addExit.2.1 48 = .ok (.iastore, 1)) rfl (by omega) s1 (?_ : XW _ _ _ _ _ _ (xSI (9) (va_up (xI h (9)) (xI h 2 7).toNatClampNeg hd) (xSI (8) (va_up (xI h (8)) (xI h 2 7).toNatClampNeg ft) h)) 49 _ _)
            refine xi_aload_n (by decide +kernel : decode mX5_addExit.2.1 49 = .ok (.aload_n 0, 1)) rfl rfl (?_ : XW _ _ _ _ _ _ _ 50 _ _)
            refine xi_getR (y := 10) (by decide +kernel : decode mX5_addExit.2.1 50 = .ok (.getfield 28, 3)) fX5_28 rfl (by omega) rfl hr.2.2.2.2.2.1 (?_ : XW _ _ _ _ _ _ _ 53 _ _)
            refine xi_iload_n (by decide +kernel : decode mX5_addExit.2.1 53 = .ok (.iload_n 1, 1)) rfl rfl (?_ : XW _ _ _ _ _ _ _ 54 _ _)
            refine xi_iconst (v := 1) (by decide +kernel : decode mX5_addExit.2.1 54 = .ok (.iconst 1, 1)) (by decide) (?_ : XW _ _ _ _ _ _ _ 55 _ _)
            obtain ⟨s1, vc⟩ := vc
            refine xi_zast (by decide +kernel : decode mX5_addExit.2.1 55 = .ok (.bastore, 1)) rfl (by omega) s1 (?_ : XW _ _ _ _ _ _ (xSI (10) (va_up (xI h (10)) ft.toNatClampNeg (vp_nar .boolean 1)) (xSI (9) (va_up (xI h (9)) (xI h 2 7).toNatClampNeg hd) (xSI (8) (va_up (xI h (8)) (xI h 2 7).toNatClampNeg ft) h))) 56 _ _)
            refine xi_aload_n (by decide +kernel : decode mX5_addExit.2.1 56 = .ok (.aload_n 0, 1)) rfl rfl (?_ : XW _ _ _ _ _ _ _ 57 _ _)
            refine xi_dup (by decide +kernel : decode mX5_addExit.2.1 57 = .ok (.dup, 1)) rfl (?_ : XW _ _ _ _ _ _ _ 58 _ _)
            refine xi_getI (by decide +kernel : decode mX5_addExit.2.1 58 = .ok (.getfield 62, 3)) fX5_62 rfl (by omega) rfl (?_ : XW _ _ _ _ _ _ _ 61 _ [.int (xI h 2 7), .ref 2])
            refine xi_iconst (v := 1) (by decide +kernel : decode mX5_addExit.2.1 61 = .ok (.iconst 1, 1)) (by decide) (?_ : XW _ _ _ _ _ _ _ 62 _ _)
            refine xi_iadd (by decide +kernel : decode mX5_addExit.2.1 62 = .ok (.iadd, 1)) (?_ : XW _ _ _ _ _ _ _ 63 _ _)
            refine xi_putI (by decide +kernel : decode mX5_addExit.2.1 63 = .ok (.putfield 62, 3)) fX5_62 rfl (by omega) rfl rfl rfl (?_ : XW _ _ _ _ _ _ (xSI 2 (va_up (xI h 2) 7 ((xI h 2 7) + 1)) (xSI (10) (va_up (xI h (10)) ft.toNatClampNeg (vp_nar .boolean 1)) (xSI (9) (va_up (xI h (9)) (xI h 2 7).toNatClampNeg hd) (xSI (8) (va_up (xI h (8)) (xI h 2 7).toNatClampNeg ft) h)))) 66 _ _)
            exact xi_vret (by decide +kernel : decode mX5_addExit.2.1 66 = .ok (.return_, 1)) rfl vc
  · refine xi_aload_n (by decide +kernel : decode mX5_addExit.2.1 0 = .ok (.aload_n 0, 1)) rfl rfl (?_ : XW _ _ _ _ _ _ _ 1 _ _)
    refine xi_getI (by decide +kernel : decode mX5_addExit.2.1 1 = .ok (.getfield 62, 3)) fX5_62 rfl (by omega) rfl (?_ : XW _ _ _ _ _ _ _ 4 _ _)
    refine xi_if_lt (by decide +kernel : decode mX5_addExit.2.1 4 = .ok (.ifCond .lt 62, 3)) (by decide) (fun c => (?_ : XW _ _ _ _ _ _ _ 66 _ _)) (fun c => (?_ : XW _ _ _ _ _ _ _ 7 _ _))
    · replace vc := vc.1 c
      exact xi_vret (by decide +kernel : decode mX5_addExit.2.1 66 = .ok (.return_, 1)) rfl vc
    · replace vc := vc.2 c
      refine xi_aload_n (by decide +kernel : decode mX5_addExit.2.1 7 = .ok (.aload_n 0, 1)) rfl rfl (?_ : XW _ _ _ _ _ _ _ 8 _ _)
      refine xi_getI (by decide +kernel : decode mX5_addExit.2.1 8 = .ok (.getfield 62, 3)) fX5_62 rfl (by omega) rfl (?_ : XW _ _ _ _ _ _ _ 11 _ _)
      refine xi_bipush (v := 24) (by decide +kernel : decode mX5_addExit.2.1 11 = .ok (.bipush 24, 2)) (by decide) (?_ : XW _ _ _ _ _ _ _ 13 _ _)
      refine xi_icmp_ge (by decide +kernel : decode mX5_addExit.2.1 13 = .ok (.if_icmp .ge 53, 3)) (by decide) (fun c => (?_ : XW _ _ _ _ _ _ _ 66 _ _)) (fun c => (?_ : XW _ _ _ _ _ _ _ 16 _ _))
      · replace vc := vc.1 c
        exact xi_vret (by decide +kernel : decode mX5_addExit.2.1 66 = .ok (.return_, 1)) rfl vc
      · replace vc := vc.2 c
        refine xi_iload_n (by decide +kernel : decode mX5_addExit.2.1 16 = .ok (.iload_n 1, 1)) rfl rfl (?_ : XW _ _ _ _ _ _ _ 17 _ _)
        refine xi_if_lt (by decide +kernel : decode mX5_addExit.2.1 17 = .ok (.ifCond .lt 49, 3)) (by decide) (fun c => (?_ : XW _ _ _ _ _ _ _ 66 _ _)) (fun c => (?_ : XW _ _ _ _ _ _ _ 20 _ _))
        · replace vc := vc.1 c
          exact xi_vret (by decide +kernel : decode mX5_addExit.2.1 66 = .ok (.return_, 1)) rfl vc
        · replace vc := vc.2 c
          refine xi_iload_n (by decide +kernel : decode mX5_addExit.2.1 20 = .ok (.iload_n 1, 1)) rfl rfl (?_ : XW _ _ _ _ _ _ _ 21 _ _)
          refine xi_aload_n (by decide +kernel : decode mX5_addExit.2.1 21 = .ok (.aload_n 0, 1)) rfl rfl (?_ : XW _ _ _ _ _ _ _ 22 _ _)
          refine xi_getR (y := 20) (by decide +kernel : decode mX5_addExit.2.1 22 = .ok (.getfield 28, 3)) fX5_28 rfl (by omega) rfl hr.2.2.2.2.2.1 (?_ : XW _ _ _ _ _ _ _ 25 _ _)
          refine xi_alen (v := 101) (by decide +kernel : decode mX5_addExit.2.1 25 = .ok (.arraylength, 1)) rfl (by omega) (Or.inl rfl) rfl (?_ : XW _ _ _ _ _ _ _ 26 _ _)
          refine xi_icmp_ge (by decide +kernel : decode mX5_addExit.2.1 26 = .ok (.if_icmp .ge 40, 3)) (by decide) (fun c => (?_ : XW _ _ _ _ _ _ _ 66 _ _)) (fun c => (?_ : XW _ _ _ _ _ _ _ 29 _ _))
          · replace vc := vc.1 c
            exact xi_vret (by decide +kernel : decode mX5_addExit.2.1 66 = .ok (.return_, 1)) rfl vc
          · replace vc := vc.2 c
            refine xi_aload_n (by decide +kernel : decode mX5_addExit.2.1 29 = .ok (.aload_n 0, 1)) rfl rfl (?_ : XW _ _ _ _ _ _ _ 30 _ _)
            refine xi_getR (y := 18) (by decide +kernel : decode mX5_addExit.2.1 30 = .ok (.getfield 22, 3)) fX5_22 rfl (by omega) rfl hr.2.2.2.1 (?_ : XW _ _ _ _ _ _ _ 33 _ _)
            refine xi_aload_n (by decide +kernel : decode mX5_addExit.2.1 33 = .ok (.aload_n 0, 1)) rfl rfl (?_ : XW _ _ _ _ _ _ _ 34 _ _)
            refine xi_getI (by decide +kernel : decode mX5_addExit.2.1 34 = .ok (.getfield 62, 3)) fX5_62 rfl (by omega) rfl (?_ : XW _ _ _ _ _ _ _ 37 _ _)
            refine xi_iload_n (by decide +kernel : decode mX5_addExit.2.1 37 = .ok (.iload_n 1, 1)) rfl rfl (?_ : XW _ _ _ _ _ _ _ 38 _ _)
            obtain ⟨s1, vc⟩ := vc
            refine xi_iast (by decide +kernel : decode mX5_addExit.2.1 38 = .ok (.iastore, 1)) rfl (by omega) s1 (?_ : XW _ _ _ _ _ _ (xSI (18) (va_up (xI h (18)) (xI h 12 7).toNatClampNeg ft) h) 39 _ _)
            refine xi_aload_n (by decide +kernel : decode mX5_addExit.2.1 39 = .ok (.aload_n 0, 1)) rfl rfl (?_ : XW _ _ _ _ _ _ _ 40 _ _)
            refine xi_getR (y := 19) (by decide +kernel : decode mX5_addExit.2.1 40 = .ok (.getfield 25, 3)) fX5_25 rfl (by omega) rfl hr.2.2.2.2.1 (?_ : XW _ _ _ _ _ _ _ 43 _ _)
            refine xi_aload_n (by decide +kernel : decode mX5_addExit.2.1 43 = .ok (.aload_n 0, 1)) rfl rfl (?_ : XW _ _ _ _ _ _ _ 44 _ _)
            refine xi_getI (by decide +kernel : decode mX5_addExit.2.1 44 = .ok (.getfield 62, 3)) fX5_62 rfl (by omega) rfl (?_ : XW _ _ _ _ _ _ _ 47 _ [.int (xI h 12 7), .ref (19)])
            refine xi_iload_n (by decide +kernel : decode mX5_addExit.2.1 47 = .ok (.iload_n 2, 1)) rfl rfl (?_ : XW _ _ _ _ _ _ _ 48 _ _)
            obtain ⟨s1, vc⟩ := vc
            refine xi_iast (by decide +kernel : decode mX5_addExit.2.1 48 = .ok (.iastore, 1)) rfl (by omega) s1 (?_ : XW _ _ _ _ _ _ (xSI (19) (va_up (xI h (19)) (xI h 12 7).toNatClampNeg hd) (xSI (18) (va_up (xI h (18)) (xI h 12 7).toNatClampNeg ft) h)) 49 _ _)
            refine xi_aload_n (by decide +kernel : decode mX5_addExit.2.1 49 = .ok (.aload_n 0, 1)) rfl rfl (?_ : XW _ _ _ _ _ _ _ 50 _ _)
            refine xi_getR (y := 20) (by decide +kernel : decode mX5_addExit.2.1 50 = .ok (.getfield 28, 3)) fX5_28 rfl (by omega) rfl hr.2.2.2.2.2.1 (?_ : XW _ _ _ _ _ _ _ 53 _ _)
            refine xi_iload_n (by decide +kernel : decode mX5_addExit.2.1 53 = .ok (.iload_n 1, 1)) rfl rfl (?_ : XW _ _ _ _ _ _ _ 54 _ _)
            refine xi_iconst (v := 1) (by decide +kernel : decode mX5_addExit.2.1 54 = .ok (.iconst 1, 1)) (by decide) (?_ : XW _ _ _ _ _ _ _ 55 _ _)
            obtain ⟨s1, vc⟩ := vc
            refine xi_zast (by decide +kernel : decode mX5_addExit.2.1 55 = .ok (.bastore, 1)) rfl (by omega) s1 (?_ : XW _ _ _ _ _ _ (xSI (20) (va_up (xI h (20)) ft.toNatClampNeg (vp_nar .boolean 1)) (xSI (19) (va_up (xI h (19)) (xI h 12 7).toNatClampNeg hd) (xSI (18) (va_up (xI h (18)) (xI h 12 7).toNatClampNeg ft) h))) 56 _ _)
            refine xi_aload_n (by decide +kernel : decode mX5_addExit.2.1 56 = .ok (.aload_n 0, 1)) rfl rfl (?_ : XW _ _ _ _ _ _ _ 57 _ _)
            refine xi_dup (by decide +kernel : decode mX5_addExit.2.1 57 = .ok (.dup, 1)) rfl (?_ : XW _ _ _ _ _ _ _ 58 _ _)
            refine xi_getI (by decide +kernel : decode mX5_addExit.2.1 58 = .ok (.getfield 62, 3)) fX5_62 rfl (by omega) rfl (?_ : XW _ _ _ _ _ _ _ 61 _ [.int (xI h 12 7), .ref 12])
            refine xi_iconst (v := 1) (by decide +kernel : decode mX5_addExit.2.1 61 = .ok (.iconst 1, 1)) (by decide) (?_ : XW _ _ _ _ _ _ _ 62 _ _)
            refine xi_iadd (by decide +kernel : decode mX5_addExit.2.1 62 = .ok (.iadd, 1)) (?_ : XW _ _ _ _ _ _ _ 63 _ _)
            refine xi_putI (by decide +kernel : decode mX5_addExit.2.1 63 = .ok (.putfield 62, 3)) fX5_62 rfl (by omega) rfl rfl rfl (?_ : XW _ _ _ _ _ _ (xSI 12 (va_up (xI h 12) 7 ((xI h 12 7) + 1)) (xSI (20) (va_up (xI h (20)) ft.toNatClampNeg (vp_nar .boolean 1)) (xSI (19) (va_up (xI h (19)) (xI h 12 7).toNatClampNeg hd) (xSI (18) (va_up (xI h (18)) (xI h 12 7).toNatClampNeg ft) h)))) 66 _ _)
            exact xi_vret (by decide +kernel : decode mX5_addExit.2.1 66 = .ok (.return_, 1)) rfl vc

set_option maxRecDepth 20000 in
theorem v_X5_footOf_0 {h : XH} {Q : Option Value → XH → Prop} {X : String → XH → Prop} (n r : Nat) (hr : xRul r (xP h)) (hn : r + 9 ≤ n)  (e : Int32)
    (vc : (e < 0 → Q (some (.int 0)) h) ∧ (¬ e < 0 → (24 ≤ e → Q (some (.int 0)) h) ∧ (¬ 24 ≤ e → (vp_in e 24) ∧ (Q (some (.int (xI h (r + 6) e.toNatClampNeg))) h)))) :
    XW (xrm 1 0 0) mX5_footOf (xE n Q X 0 0) n 0 0 h 0 [some (.ref r), some (.int e)] [] := by
  rcases hr.1 with rfl | rfl
  · refine xi_iload_n (by decide +kernel : decode mX5_footOf.2.1 0 = .ok (.iload_n 1, 1)) rfl rfl (?_ : XW _ _ _ _ _ _ _ 1 _ _)
    refine xi_if_lt (by decide +kernel : decode mX5_footOf.2.1 1 = .ok (.ifCond .lt 21, 3)) (by decide) (fun c => (?_ : XW _ _ _ _ _ _ _ 22 _ _)) (fun c => (?_ : XW _ _ _ _ _ _ _ 4 _ _))
    · replace vc := vc.1 c
      refine xi_iconst (v := 0) (by decide +kernel : decode mX5_footOf.2.1 22 = .ok (.iconst 0, 1)) (by decide) (?_ : XW _ _ _ _ _ _ _ 23 _ _)
      exact xi_iret (by decide +kernel : decode mX5_footOf.2.1 23 = .ok (.ireturn, 1)) rfl rfl vc
    · replace vc := vc.2 c
      refine xi_iload_n (by decide +kernel : decode mX5_footOf.2.1 4 = .ok (.iload_n 1, 1)) rfl rfl (?_ : XW _ _ _ _ _ _ _ 5 _ _)
      refine xi_aload_n (by decide +kernel : decode mX5_footOf.2.1 5 = .ok (.aload_n 0, 1)) rfl rfl (?_ : XW _ _ _ _ _ _ _ 6 _ _)
      refine xi_getR (y := 8) (by decide +kernel : decode mX5_footOf.2.1 6 = .ok (.getfield 22, 3)) fX5_22 rfl (by omega) rfl hr.2.2.2.1 (?_ : XW _ _ _ _ _ _ _ 9 _ _)
      refine xi_alen (v := 24) (by decide +kernel : decode mX5_footOf.2.1 9 = .ok (.arraylength, 1)) rfl (by omega) (Or.inl rfl) rfl (?_ : XW _ _ _ _ _ _ _ 10 _ _)
      refine xi_icmp_ge (by decide +kernel : decode mX5_footOf.2.1 10 = .ok (.if_icmp .ge 12, 3)) (by decide) (fun c => (?_ : XW _ _ _ _ _ _ _ 22 _ _)) (fun c => (?_ : XW _ _ _ _ _ _ _ 13 _ _))
      · replace vc := vc.1 c
        refine xi_iconst (v := 0) (by decide +kernel : decode mX5_footOf.2.1 22 = .ok (.iconst 0, 1)) (by decide) (?_ : XW _ _ _ _ _ _ _ 23 _ _)
        exact xi_iret (by decide +kernel : decode mX5_footOf.2.1 23 = .ok (.ireturn, 1)) rfl rfl vc
      · replace vc := vc.2 c
        refine xi_aload_n (by decide +kernel : decode mX5_footOf.2.1 13 = .ok (.aload_n 0, 1)) rfl rfl (?_ : XW _ _ _ _ _ _ _ 14 _ _)
        refine xi_getR (y := 8) (by decide +kernel : decode mX5_footOf.2.1 14 = .ok (.getfield 22, 3)) fX5_22 rfl (by omega) rfl hr.2.2.2.1 (?_ : XW _ _ _ _ _ _ _ 17 _ _)
        refine xi_iload_n (by decide +kernel : decode mX5_footOf.2.1 17 = .ok (.iload_n 1, 1)) rfl rfl (?_ : XW _ _ _ _ _ _ _ 18 _ _)
        obtain ⟨s1, vc⟩ := vc
        refine xi_iald (by decide +kernel : decode mX5_footOf.2.1 18 = .ok (.iaload, 1)) rfl (by omega) s1 (?_ : XW _ _ _ _ _ _ _ 19 _ _)
        refine xi_goto (by decide +kernel : decode mX5_footOf.2.1 19 = .ok (.goto 4, 3)) (by decide) (?_ : XW _ _ _ _ _ _ _ 23 _ _)
        exact xi_iret (by decide +kernel : decode mX5_footOf.2.1 23 = .ok (.ireturn, 1)) rfl rfl vc
  · refine xi_iload_n (by decide +kernel : decode mX5_footOf.2.1 0 = .ok (.iload_n 1, 1)) rfl rfl (?_ : XW _ _ _ _ _ _ _ 1 _ _)
    refine xi_if_lt (by decide +kernel : decode mX5_footOf.2.1 1 = .ok (.ifCond .lt 21, 3)) (by decide) (fun c => (?_ : XW _ _ _ _ _ _ _ 22 _ _)) (fun c => (?_ : XW _ _ _ _ _ _ _ 4 _ _))
    · replace vc := vc.1 c
      refine xi_iconst (v := 0) (by decide +kernel : decode mX5_footOf.2.1 22 = .ok (.iconst 0, 1)) (by decide) (?_ : XW _ _ _ _ _ _ _ 23 _ _)
      exact xi_iret (by decide +kernel : decode mX5_footOf.2.1 23 = .ok (.ireturn, 1)) rfl rfl vc
    · replace vc := vc.2 c
      refine xi_iload_n (by decide +kernel : decode mX5_footOf.2.1 4 = .ok (.iload_n 1, 1)) rfl rfl (?_ : XW _ _ _ _ _ _ _ 5 _ _)
      refine xi_aload_n (by decide +kernel : decode mX5_footOf.2.1 5 = .ok (.aload_n 0, 1)) rfl rfl (?_ : XW _ _ _ _ _ _ _ 6 _ _)
      refine xi_getR (y := 18) (by decide +kernel : decode mX5_footOf.2.1 6 = .ok (.getfield 22, 3)) fX5_22 rfl (by omega) rfl hr.2.2.2.1 (?_ : XW _ _ _ _ _ _ _ 9 _ _)
      refine xi_alen (v := 24) (by decide +kernel : decode mX5_footOf.2.1 9 = .ok (.arraylength, 1)) rfl (by omega) (Or.inl rfl) rfl (?_ : XW _ _ _ _ _ _ _ 10 _ _)
      refine xi_icmp_ge (by decide +kernel : decode mX5_footOf.2.1 10 = .ok (.if_icmp .ge 12, 3)) (by decide) (fun c => (?_ : XW _ _ _ _ _ _ _ 22 _ _)) (fun c => (?_ : XW _ _ _ _ _ _ _ 13 _ _))
      · replace vc := vc.1 c
        refine xi_iconst (v := 0) (by decide +kernel : decode mX5_footOf.2.1 22 = .ok (.iconst 0, 1)) (by decide) (?_ : XW _ _ _ _ _ _ _ 23 _ _)
        exact xi_iret (by decide +kernel : decode mX5_footOf.2.1 23 = .ok (.ireturn, 1)) rfl rfl vc
      · replace vc := vc.2 c
        refine xi_aload_n (by decide +kernel : decode mX5_footOf.2.1 13 = .ok (.aload_n 0, 1)) rfl rfl (?_ : XW _ _ _ _ _ _ _ 14 _ _)
        refine xi_getR (y := 18) (by decide +kernel : decode mX5_footOf.2.1 14 = .ok (.getfield 22, 3)) fX5_22 rfl (by omega) rfl hr.2.2.2.1 (?_ : XW _ _ _ _ _ _ _ 17 _ _)
        refine xi_iload_n (by decide +kernel : decode mX5_footOf.2.1 17 = .ok (.iload_n 1, 1)) rfl rfl (?_ : XW _ _ _ _ _ _ _ 18 _ _)
        obtain ⟨s1, vc⟩ := vc
        refine xi_iald (by decide +kernel : decode mX5_footOf.2.1 18 = .ok (.iaload, 1)) rfl (by omega) s1 (?_ : XW _ _ _ _ _ _ _ 19 _ _)
        refine xi_goto (by decide +kernel : decode mX5_footOf.2.1 19 = .ok (.goto 4, 3)) (by decide) (?_ : XW _ _ _ _ _ _ _ 23 _ _)
        exact xi_iret (by decide +kernel : decode mX5_footOf.2.1 23 = .ok (.ireturn, 1)) rfl rfl vc

set_option maxRecDepth 20000 in
theorem v_X5_headOf_0 {h : XH} {Q : Option Value → XH → Prop} {X : String → XH → Prop} (n r : Nat) (hr : xRul r (xP h)) (hn : r + 9 ≤ n)  (e : Int32)
    (vc : (e < 0 → Q (some (.int 0)) h) ∧ (¬ e < 0 → (24 ≤ e → Q (some (.int 0)) h) ∧ (¬ 24 ≤ e → (vp_in e 24) ∧ (Q (some (.int (xI h (r + 7) e.toNatClampNeg))) h)))) :
    XW (xrm 1 0 0) mX5_headOf (xE n Q X 0 0) n 0 0 h 0 [some (.ref r), some (.int e)] [] := by
  rcases hr.1 with rfl | rfl
  · refine xi_iload_n (by decide +kernel : decode mX5_headOf.2.1 0 = .ok (.iload_n 1, 1)) rfl rfl (?_ : XW _ _ _ _ _ _ _ 1 _ _)
    refine xi_if_lt (by decide +kernel : decode mX5_headOf.2.1 1 = .ok (.ifCond .lt 21, 3)) (by decide) (fun c => (?_ : XW _ _ _ _ _ _ _ 22 _ _)) (fun c => (?_ : XW _ _ _ _ _ _ _ 4 _ _))
    · replace vc := vc.1 c
      refine xi_iconst (v := 0) (by decide +kernel : decode mX5_headOf.2.1 22 = .ok (.iconst 0, 1)) (by decide) (?_ : XW _ _ _ _ _ _ _ 23 _ _)
      exact xi_iret (by decide +kernel : decode mX5_headOf.2.1 23 = .ok (.ireturn, 1)) rfl rfl vc
    · replace vc := vc.2 c
      refine xi_iload_n (by decide +kernel : decode mX5_headOf.2.1 4 = .ok (.iload_n 1, 1)) rfl rfl (?_ : XW _ _ _ _ _ _ _ 5 _ _)
      refine xi_aload_n (by decide +kernel : decode mX5_headOf.2.1 5 = .ok (.aload_n 0, 1)) rfl rfl (?_ : XW _ _ _ _ _ _ _ 6 _ _)
      refine xi_getR (y := 9) (by decide +kernel : decode mX5_headOf.2.1 6 = .ok (.getfield 25, 3)) fX5_25 rfl (by omega) rfl hr.2.2.2.2.1 (?_ : XW _ _ _ _ _ _ _ 9 _ _)
      refine xi_alen (v := 24) (by decide +kernel : decode mX5_headOf.2.1 9 = .ok (.arraylength, 1)) rfl (by omega) (Or.inl rfl) rfl (?_ : XW _ _ _ _ _ _ _ 10 _ _)
      refine xi_icmp_ge (by decide +kernel : decode mX5_headOf.2.1 10 = .ok (.if_icmp .ge 12, 3)) (by decide) (fun c => (?_ : XW _ _ _ _ _ _ _ 22 _ _)) (fun c => (?_ : XW _ _ _ _ _ _ _ 13 _ _))
      · replace vc := vc.1 c
        refine xi_iconst (v := 0) (by decide +kernel : decode mX5_headOf.2.1 22 = .ok (.iconst 0, 1)) (by decide) (?_ : XW _ _ _ _ _ _ _ 23 _ _)
        exact xi_iret (by decide +kernel : decode mX5_headOf.2.1 23 = .ok (.ireturn, 1)) rfl rfl vc
      · replace vc := vc.2 c
        refine xi_aload_n (by decide +kernel : decode mX5_headOf.2.1 13 = .ok (.aload_n 0, 1)) rfl rfl (?_ : XW _ _ _ _ _ _ _ 14 _ _)
        refine xi_getR (y := 9) (by decide +kernel : decode mX5_headOf.2.1 14 = .ok (.getfield 25, 3)) fX5_25 rfl (by omega) rfl hr.2.2.2.2.1 (?_ : XW _ _ _ _ _ _ _ 17 _ _)
        refine xi_iload_n (by decide +kernel : decode mX5_headOf.2.1 17 = .ok (.iload_n 1, 1)) rfl rfl (?_ : XW _ _ _ _ _ _ _ 18 _ _)
        obtain ⟨s1, vc⟩ := vc
        refine xi_iald (by decide +kernel : decode mX5_headOf.2.1 18 = .ok (.iaload, 1)) rfl (by omega) s1 (?_ : XW _ _ _ _ _ _ _ 19 _ _)
        refine xi_goto (by decide +kernel : decode mX5_headOf.2.1 19 = .ok (.goto 4, 3)) (by decide) (?_ : XW _ _ _ _ _ _ _ 23 _ _)
        exact xi_iret (by decide +kernel : decode mX5_headOf.2.1 23 = .ok (.ireturn, 1)) rfl rfl vc
  · refine xi_iload_n (by decide +kernel : decode mX5_headOf.2.1 0 = .ok (.iload_n 1, 1)) rfl rfl (?_ : XW _ _ _ _ _ _ _ 1 _ _)
    refine xi_if_lt (by decide +kernel : decode mX5_headOf.2.1 1 = .ok (.ifCond .lt 21, 3)) (by decide) (fun c => (?_ : XW _ _ _ _ _ _ _ 22 _ _)) (fun c => (?_ : XW _ _ _ _ _ _ _ 4 _ _))
    · replace vc := vc.1 c
      refine xi_iconst (v := 0) (by decide +kernel : decode mX5_headOf.2.1 22 = .ok (.iconst 0, 1)) (by decide) (?_ : XW _ _ _ _ _ _ _ 23 _ _)
      exact xi_iret (by decide +kernel : decode mX5_headOf.2.1 23 = .ok (.ireturn, 1)) rfl rfl vc
    · replace vc := vc.2 c
      refine xi_iload_n (by decide +kernel : decode mX5_headOf.2.1 4 = .ok (.iload_n 1, 1)) rfl rfl (?_ : XW _ _ _ _ _ _ _ 5 _ _)
      refine xi_aload_n (by decide +kernel : decode mX5_headOf.2.1 5 = .ok (.aload_n 0, 1)) rfl rfl (?_ : XW _ _ _ _ _ _ _ 6 _ _)
      refine xi_getR (y := 19) (by decide +kernel : decode mX5_headOf.2.1 6 = .ok (.getfield 25, 3)) fX5_25 rfl (by omega) rfl hr.2.2.2.2.1 (?_ : XW _ _ _ _ _ _ _ 9 _ _)
      refine xi_alen (v := 24) (by decide +kernel : decode mX5_headOf.2.1 9 = .ok (.arraylength, 1)) rfl (by omega) (Or.inl rfl) rfl (?_ : XW _ _ _ _ _ _ _ 10 _ _)
      refine xi_icmp_ge (by decide +kernel : decode mX5_headOf.2.1 10 = .ok (.if_icmp .ge 12, 3)) (by decide) (fun c => (?_ : XW _ _ _ _ _ _ _ 22 _ _)) (fun c => (?_ : XW _ _ _ _ _ _ _ 13 _ _))
      · replace vc := vc.1 c
        refine xi_iconst (v := 0) (by decide +kernel : decode mX5_headOf.2.1 22 = .ok (.iconst 0, 1)) (by decide) (?_ : XW _ _ _ _ _ _ _ 23 _ _)
        exact xi_iret (by decide +kernel : decode mX5_headOf.2.1 23 = .ok (.ireturn, 1)) rfl rfl vc
      · replace vc := vc.2 c
        refine xi_aload_n (by decide +kernel : decode mX5_headOf.2.1 13 = .ok (.aload_n 0, 1)) rfl rfl (?_ : XW _ _ _ _ _ _ _ 14 _ _)
        refine xi_getR (y := 19) (by decide +kernel : decode mX5_headOf.2.1 14 = .ok (.getfield 25, 3)) fX5_25 rfl (by omega) rfl hr.2.2.2.2.1 (?_ : XW _ _ _ _ _ _ _ 17 _ _)
        refine xi_iload_n (by decide +kernel : decode mX5_headOf.2.1 17 = .ok (.iload_n 1, 1)) rfl rfl (?_ : XW _ _ _ _ _ _ _ 18 _ _)
        obtain ⟨s1, vc⟩ := vc
        refine xi_iald (by decide +kernel : decode mX5_headOf.2.1 18 = .ok (.iaload, 1)) rfl (by omega) s1 (?_ : XW _ _ _ _ _ _ _ 19 _ _)
        refine xi_goto (by decide +kernel : decode mX5_headOf.2.1 19 = .ok (.goto 4, 3)) (by decide) (?_ : XW _ _ _ _ _ _ _ 23 _ _)
        exact xi_iret (by decide +kernel : decode mX5_headOf.2.1 23 = .ok (.ireturn, 1)) rfl rfl vc

set_option maxRecDepth 20000 in
theorem v_X3_putFoot_0 {h : XH} {Q : Option Value → XH → Prop} {X : String → XH → Prop} (n a : Nat) (ha : xPth a (xP h)) (hn : a + 4 ≤ n)  (ft : Int32) (hd : Int32)
    (vc : (ft < 0 → Q none h) ∧ (¬ ft < 0 → (101 ≤ ft → Q none h) ∧ (¬ 101 ≤ ft → (vp_in ft 101) ∧ (Q none (xSI (a + 1) (va_up (xI h (a + 1)) ft.toNatClampNeg hd) h))))) :
    XW (xrm 1 0 0) mX3_putFoot (xE n Q X 0 0) n 0 0 h 0 [some (.ref a), some (.int ft), some (.int hd)] [] := by
  rcases ha.1 with rfl | rfl
  · refine xi_iload_n (by decide +kernel : decode mX3_putFoot.2.1 0 = .ok (.iload_n 1, 1)) rfl rfl (?_ : XW _ _ _ _ _ _ _ 1 _ _)
    refine xi_if_lt (by decide +kernel : decode mX3_putFoot.2.1 1 = .ok (.ifCond .lt 19, 3)) (by decide) (fun c => (?_ : XW _ _ _ _ _ _ _ 20 _ _)) (fun c => (?_ : XW _ _ _ _ _ _ _ 4 _ _))
    · replace vc := vc.1 c
      exact xi_vret (by decide +kernel : decode mX3_putFoot.2.1 20 = .ok (.return_, 1)) rfl vc
    · replace vc := vc.2 c
      refine xi_iload_n (by decide +kernel : decode mX3_putFoot.2.1 4 = .ok (.iload_n 1, 1)) rfl rfl (?_ : XW _ _ _ _ _ _ _ 5 _ _)
      refine xi_aload_n (by decide +kernel : decode mX3_putFoot.2.1 5 = .ok (.aload_n 0, 1)) rfl rfl (?_ : XW _ _ _ _ _ _ _ 6 _ _)
      refine xi_getR (y := 22) (by decide +kernel : decode mX3_putFoot.2.1 6 = .ok (.getfield 9, 3)) fX3_9 rfl (by omega) rfl ha.2.1 (?_ : XW _ _ _ _ _ _ _ 9 _ _)
      refine xi_alen (v := 101) (by decide +kernel : decode mX3_putFoot.2.1 9 = .ok (.arraylength, 1)) rfl (by omega) (Or.inl rfl) rfl (?_ : XW _ _ _ _ _ _ _ 10 _ _)
      refine xi_icmp_ge (by decide +kernel : decode mX3_putFoot.2.1 10 = .ok (.if_icmp .ge 10, 3)) (by decide) (fun c => (?_ : XW _ _ _ _ _ _ _ 20 _ _)) (fun c => (?_ : XW _ _ _ _ _ _ _ 13 _ _))
      · replace vc := vc.1 c
        exact xi_vret (by decide +kernel : decode mX3_putFoot.2.1 20 = .ok (.return_, 1)) rfl vc
      · replace vc := vc.2 c
        refine xi_aload_n (by decide +kernel : decode mX3_putFoot.2.1 13 = .ok (.aload_n 0, 1)) rfl rfl (?_ : XW _ _ _ _ _ _ _ 14 _ _)
        refine xi_getR (y := 22) (by decide +kernel : decode mX3_putFoot.2.1 14 = .ok (.getfield 9, 3)) fX3_9 rfl (by omega) rfl ha.2.1 (?_ : XW _ _ _ _ _ _ _ 17 _ _)
        refine xi_iload_n (by decide +kernel : decode mX3_putFoot.2.1 17 = .ok (.iload_n 1, 1)) rfl rfl (?_ : XW _ _ _ _ _ _ _ 18 _ _)
        refine xi_iload_n (by decide +kernel : decode mX3_putFoot.2.1 18 = .ok (.iload_n 2, 1)) rfl rfl (?_ : XW _ _ _ _ _ _ _ 19 _ _)
        obtain ⟨s1, vc⟩ := vc
        refine xi_iast (by decide +kernel : decode mX3_putFoot.2.1 19 = .ok (.iastore, 1)) rfl (by omega) s1 (?_ : XW _ _ _ _ _ _ (xSI (22) (va_up (xI h (22)) ft.toNatClampNeg hd) h) 20 _ _)
        exact xi_vret (by decide +kernel : decode mX3_putFoot.2.1 20 = .ok (.return_, 1)) rfl vc
  · refine xi_iload_n (by decide +kernel : decode mX3_putFoot.2.1 0 = .ok (.iload_n 1, 1)) rfl rfl (?_ : XW _ _ _ _ _ _ _ 1 _ _)
    refine xi_if_lt (by decide +kernel : decode mX3_putFoot.2.1 1 = .ok (.ifCond .lt 19, 3)) (by decide) (fun c => (?_ : XW _ _ _ _ _ _ _ 20 _ _)) (fun c => (?_ : XW _ _ _ _ _ _ _ 4 _ _))
    · replace vc := vc.1 c
      exact xi_vret (by decide +kernel : decode mX3_putFoot.2.1 20 = .ok (.return_, 1)) rfl vc
    · replace vc := vc.2 c
      refine xi_iload_n (by decide +kernel : decode mX3_putFoot.2.1 4 = .ok (.iload_n 1, 1)) rfl rfl (?_ : XW _ _ _ _ _ _ _ 5 _ _)
      refine xi_aload_n (by decide +kernel : decode mX3_putFoot.2.1 5 = .ok (.aload_n 0, 1)) rfl rfl (?_ : XW _ _ _ _ _ _ _ 6 _ _)
      refine xi_getR (y := 26) (by decide +kernel : decode mX3_putFoot.2.1 6 = .ok (.getfield 9, 3)) fX3_9 rfl (by omega) rfl ha.2.1 (?_ : XW _ _ _ _ _ _ _ 9 _ _)
      refine xi_alen (v := 101) (by decide +kernel : decode mX3_putFoot.2.1 9 = .ok (.arraylength, 1)) rfl (by omega) (Or.inl rfl) rfl (?_ : XW _ _ _ _ _ _ _ 10 _ _)
      refine xi_icmp_ge (by decide +kernel : decode mX3_putFoot.2.1 10 = .ok (.if_icmp .ge 10, 3)) (by decide) (fun c => (?_ : XW _ _ _ _ _ _ _ 20 _ _)) (fun c => (?_ : XW _ _ _ _ _ _ _ 13 _ _))
      · replace vc := vc.1 c
        exact xi_vret (by decide +kernel : decode mX3_putFoot.2.1 20 = .ok (.return_, 1)) rfl vc
      · replace vc := vc.2 c
        refine xi_aload_n (by decide +kernel : decode mX3_putFoot.2.1 13 = .ok (.aload_n 0, 1)) rfl rfl (?_ : XW _ _ _ _ _ _ _ 14 _ _)
        refine xi_getR (y := 26) (by decide +kernel : decode mX3_putFoot.2.1 14 = .ok (.getfield 9, 3)) fX3_9 rfl (by omega) rfl ha.2.1 (?_ : XW _ _ _ _ _ _ _ 17 _ _)
        refine xi_iload_n (by decide +kernel : decode mX3_putFoot.2.1 17 = .ok (.iload_n 1, 1)) rfl rfl (?_ : XW _ _ _ _ _ _ _ 18 _ _)
        refine xi_iload_n (by decide +kernel : decode mX3_putFoot.2.1 18 = .ok (.iload_n 2, 1)) rfl rfl (?_ : XW _ _ _ _ _ _ _ 19 _ _)
        obtain ⟨s1, vc⟩ := vc
        refine xi_iast (by decide +kernel : decode mX3_putFoot.2.1 19 = .ok (.iastore, 1)) rfl (by omega) s1 (?_ : XW _ _ _ _ _ _ (xSI (26) (va_up (xI h (26)) ft.toNatClampNeg hd) h) 20 _ _)
        exact xi_vret (by decide +kernel : decode mX3_putFoot.2.1 20 = .ok (.return_, 1)) rfl vc

set_option maxRecDepth 20000 in
theorem v_X3_to_0 {h : XH} {Q : Option Value → XH → Prop} {X : String → XH → Prop} (n a : Nat) (ha : xPth a (xP h)) (hn : a + 4 ≤ n)  (q : Int32) (t : Int32)
    (vc : (((q * 7) + t) < 0 → Q (some (.int 0)) h) ∧ (¬ ((q * 7) + t) < 0 → (707 ≤ ((q * 7) + t) → Q (some (.int 0)) h) ∧ (¬ 707 ≤ ((q * 7) + t) → (vp_in ((q * 7) + t) 707) ∧ (Q (some (.int (xI h (a + 3) ((q * 7) + t).toNatClampNeg))) h)))) :
    XW (xrm 1 0 0) mX3_to (xE n Q X 0 0) n 0 0 h 0 [some (.ref a), some (.int q), some (.int t), none] [] := by
  rcases ha.1 with rfl | rfl
  · refine xi_iload_n (by decide +kernel : decode mX3_to.2.1 0 = .ok (.iload_n 1, 1)) rfl rfl (?_ : XW _ _ _ _ _ _ _ 1 _ _)
    refine xi_bipush (v := 7) (by decide +kernel : decode mX3_to.2.1 1 = .ok (.bipush 7, 2)) (by decide) (?_ : XW _ _ _ _ _ _ _ 3 _ _)
    refine xi_imul (by decide +kernel : decode mX3_to.2.1 3 = .ok (.imul, 1)) (?_ : XW _ _ _ _ _ _ _ 4 _ _)
    refine xi_iload_n (by decide +kernel : decode mX3_to.2.1 4 = .ok (.iload_n 2, 1)) rfl rfl (?_ : XW _ _ _ _ _ _ _ 5 _ _)
    refine xi_iadd (by decide +kernel : decode mX3_to.2.1 5 = .ok (.iadd, 1)) (?_ : XW _ _ _ _ _ _ _ 6 _ _)
    refine xi_istore_n (ls' := [some (.ref 21), some (.int q), some (.int t), some (.int ((q * 7) + t))]) (by decide +kernel : decode mX3_to.2.1 6 = .ok (.istore_n 3, 1)) rfl (by decide) rfl (?_ : XW _ _ _ _ _ _ _ 7 _ _)
    refine xi_iload_n (by decide +kernel : decode mX3_to.2.1 7 = .ok (.iload_n 3, 1)) rfl rfl (?_ : XW _ _ _ _ _ _ _ 8 _ _)
    refine xi_if_lt (by decide +kernel : decode mX3_to.2.1 8 = .ok (.ifCond .lt 21, 3)) (by decide) (fun c => (?_ : XW _ _ _ _ _ _ _ 29 _ _)) (fun c => (?_ : XW _ _ _ _ _ _ _ 11 _ _))
    · replace vc := vc.1 c
      refine xi_iconst (v := 0) (by decide +kernel : decode mX3_to.2.1 29 = .ok (.iconst 0, 1)) (by decide) (?_ : XW _ _ _ _ _ _ _ 30 _ _)
      exact xi_iret (by decide +kernel : decode mX3_to.2.1 30 = .ok (.ireturn, 1)) rfl rfl vc
    · replace vc := vc.2 c
      refine xi_iload_n (by decide +kernel : decode mX3_to.2.1 11 = .ok (.iload_n 3, 1)) rfl rfl (?_ : XW _ _ _ _ _ _ _ 12 _ _)
      refine xi_aload_n (by decide +kernel : decode mX3_to.2.1 12 = .ok (.aload_n 0, 1)) rfl rfl (?_ : XW _ _ _ _ _ _ _ 13 _ _)
      refine xi_getR (y := 24) (by decide +kernel : decode mX3_to.2.1 13 = .ok (.getfield 18, 3)) fX3_18 rfl (by omega) rfl ha.2.2.2 (?_ : XW _ _ _ _ _ _ _ 16 _ _)
      refine xi_alen (v := 707) (by decide +kernel : decode mX3_to.2.1 16 = .ok (.arraylength, 1)) rfl (by omega) (Or.inl rfl) rfl (?_ : XW _ _ _ _ _ _ _ 17 _ _)
      refine xi_icmp_ge (by decide +kernel : decode mX3_to.2.1 17 = .ok (.if_icmp .ge 12, 3)) (by decide) (fun c => (?_ : XW _ _ _ _ _ _ _ 29 _ _)) (fun c => (?_ : XW _ _ _ _ _ _ _ 20 _ _))
      · replace vc := vc.1 c
        refine xi_iconst (v := 0) (by decide +kernel : decode mX3_to.2.1 29 = .ok (.iconst 0, 1)) (by decide) (?_ : XW _ _ _ _ _ _ _ 30 _ _)
        exact xi_iret (by decide +kernel : decode mX3_to.2.1 30 = .ok (.ireturn, 1)) rfl rfl vc
      · replace vc := vc.2 c
        refine xi_aload_n (by decide +kernel : decode mX3_to.2.1 20 = .ok (.aload_n 0, 1)) rfl rfl (?_ : XW _ _ _ _ _ _ _ 21 _ _)
        refine xi_getR (y := 24) (by decide +kernel : decode mX3_to.2.1 21 = .ok (.getfield 18, 3)) fX3_18 rfl (by omega) rfl ha.2.2.2 (?_ : XW _ _ _ _ _ _ _ 24 _ _)
        refine xi_iload_n (by decide +kernel : decode mX3_to.2.1 24 = .ok (.iload_n 3, 1)) rfl rfl (?_ : XW _ _ _ _ _ _ _ 25 _ _)
        obtain ⟨s1, vc⟩ := vc
        refine xi_iald (by decide +kernel : decode mX3_to.2.1 25 = .ok (.iaload, 1)) rfl (by omega) s1 (?_ : XW _ _ _ _ _ _ _ 26 _ _)
        refine xi_goto (by decide +kernel : decode mX3_to.2.1 26 = .ok (.goto 4, 3)) (by decide) (?_ : XW _ _ _ _ _ _ _ 30 _ _)
        exact xi_iret (by decide +kernel : decode mX3_to.2.1 30 = .ok (.ireturn, 1)) rfl rfl vc
  · refine xi_iload_n (by decide +kernel : decode mX3_to.2.1 0 = .ok (.iload_n 1, 1)) rfl rfl (?_ : XW _ _ _ _ _ _ _ 1 _ _)
    refine xi_bipush (v := 7) (by decide +kernel : decode mX3_to.2.1 1 = .ok (.bipush 7, 2)) (by decide) (?_ : XW _ _ _ _ _ _ _ 3 _ _)
    refine xi_imul (by decide +kernel : decode mX3_to.2.1 3 = .ok (.imul, 1)) (?_ : XW _ _ _ _ _ _ _ 4 _ _)
    refine xi_iload_n (by decide +kernel : decode mX3_to.2.1 4 = .ok (.iload_n 2, 1)) rfl rfl (?_ : XW _ _ _ _ _ _ _ 5 _ _)
    refine xi_iadd (by decide +kernel : decode mX3_to.2.1 5 = .ok (.iadd, 1)) (?_ : XW _ _ _ _ _ _ _ 6 _ _)
    refine xi_istore_n (ls' := [some (.ref 25), some (.int q), some (.int t), some (.int ((q * 7) + t))]) (by decide +kernel : decode mX3_to.2.1 6 = .ok (.istore_n 3, 1)) rfl (by decide) rfl (?_ : XW _ _ _ _ _ _ _ 7 _ _)
    refine xi_iload_n (by decide +kernel : decode mX3_to.2.1 7 = .ok (.iload_n 3, 1)) rfl rfl (?_ : XW _ _ _ _ _ _ _ 8 _ _)
    refine xi_if_lt (by decide +kernel : decode mX3_to.2.1 8 = .ok (.ifCond .lt 21, 3)) (by decide) (fun c => (?_ : XW _ _ _ _ _ _ _ 29 _ _)) (fun c => (?_ : XW _ _ _ _ _ _ _ 11 _ _))
    · replace vc := vc.1 c
      refine xi_iconst (v := 0) (by decide +kernel : decode mX3_to.2.1 29 = .ok (.iconst 0, 1)) (by decide) (?_ : XW _ _ _ _ _ _ _ 30 _ _)
      exact xi_iret (by decide +kernel : decode mX3_to.2.1 30 = .ok (.ireturn, 1)) rfl rfl vc
    · replace vc := vc.2 c
      refine xi_iload_n (by decide +kernel : decode mX3_to.2.1 11 = .ok (.iload_n 3, 1)) rfl rfl (?_ : XW _ _ _ _ _ _ _ 12 _ _)
      refine xi_aload_n (by decide +kernel : decode mX3_to.2.1 12 = .ok (.aload_n 0, 1)) rfl rfl (?_ : XW _ _ _ _ _ _ _ 13 _ _)
      refine xi_getR (y := 28) (by decide +kernel : decode mX3_to.2.1 13 = .ok (.getfield 18, 3)) fX3_18 rfl (by omega) rfl ha.2.2.2 (?_ : XW _ _ _ _ _ _ _ 16 _ _)
      refine xi_alen (v := 707) (by decide +kernel : decode mX3_to.2.1 16 = .ok (.arraylength, 1)) rfl (by omega) (Or.inl rfl) rfl (?_ : XW _ _ _ _ _ _ _ 17 _ _)
      refine xi_icmp_ge (by decide +kernel : decode mX3_to.2.1 17 = .ok (.if_icmp .ge 12, 3)) (by decide) (fun c => (?_ : XW _ _ _ _ _ _ _ 29 _ _)) (fun c => (?_ : XW _ _ _ _ _ _ _ 20 _ _))
      · replace vc := vc.1 c
        refine xi_iconst (v := 0) (by decide +kernel : decode mX3_to.2.1 29 = .ok (.iconst 0, 1)) (by decide) (?_ : XW _ _ _ _ _ _ _ 30 _ _)
        exact xi_iret (by decide +kernel : decode mX3_to.2.1 30 = .ok (.ireturn, 1)) rfl rfl vc
      · replace vc := vc.2 c
        refine xi_aload_n (by decide +kernel : decode mX3_to.2.1 20 = .ok (.aload_n 0, 1)) rfl rfl (?_ : XW _ _ _ _ _ _ _ 21 _ _)
        refine xi_getR (y := 28) (by decide +kernel : decode mX3_to.2.1 21 = .ok (.getfield 18, 3)) fX3_18 rfl (by omega) rfl ha.2.2.2 (?_ : XW _ _ _ _ _ _ _ 24 _ _)
        refine xi_iload_n (by decide +kernel : decode mX3_to.2.1 24 = .ok (.iload_n 3, 1)) rfl rfl (?_ : XW _ _ _ _ _ _ _ 25 _ _)
        obtain ⟨s1, vc⟩ := vc
        refine xi_iald (by decide +kernel : decode mX3_to.2.1 25 = .ok (.iaload, 1)) rfl (by omega) s1 (?_ : XW _ _ _ _ _ _ _ 26 _ _)
        refine xi_goto (by decide +kernel : decode mX3_to.2.1 26 = .ok (.goto 4, 3)) (by decide) (?_ : XW _ _ _ _ _ _ _ 30 _ _)
        exact xi_iret (by decide +kernel : decode mX3_to.2.1 30 = .ok (.ireturn, 1)) rfl rfl vc

set_option maxRecDepth 20000 in
theorem v_X7_refuse_0 {h : XH} {Q : Option Value → XH → Prop} {X : String → XH → Prop} (n u : Nat) (hu : xSta u (xP h)) (hn : u + 5 ≤ n)  (w : Int32)
    (vc : (w < 0 → Q none h) ∧ (¬ w < 0 → (3 ≤ w → Q none h) ∧ (¬ 3 ≤ w → (vp_in w 3) ∧ ((vp_in w 3) ∧ (Q none (xSI (u + 4) (va_up (xI h (u + 4)) w.toNatClampNeg ((xI h (u + 4) w.toNatClampNeg) + 1)) h)))))) :
    XW (xrm 1 0 0) mX7_refuse (xE n Q X 0 0) n 0 0 h 0 [some (.ref u), some (.int w)] [] := by
  rcases hu.1 with rfl | rfl
  · refine xi_iload_n (by decide +kernel : decode mX7_refuse.2.1 0 = .ok (.iload_n 1, 1)) rfl rfl (?_ : XW _ _ _ _ _ _ _ 1 _ _)
    refine xi_if_lt (by decide +kernel : decode mX7_refuse.2.1 1 = .ok (.ifCond .lt 22, 3)) (by decide) (fun c => (?_ : XW _ _ _ _ _ _ _ 23 _ _)) (fun c => (?_ : XW _ _ _ _ _ _ _ 4 _ _))
    · replace vc := vc.1 c
      exact xi_vret (by decide +kernel : decode mX7_refuse.2.1 23 = .ok (.return_, 1)) rfl vc
    · replace vc := vc.2 c
      refine xi_iload_n (by decide +kernel : decode mX7_refuse.2.1 4 = .ok (.iload_n 1, 1)) rfl rfl (?_ : XW _ _ _ _ _ _ _ 5 _ _)
      refine xi_aload_n (by decide +kernel : decode mX7_refuse.2.1 5 = .ok (.aload_n 0, 1)) rfl rfl (?_ : XW _ _ _ _ _ _ _ 6 _ _)
      refine xi_getR (y := 33) (by decide +kernel : decode mX7_refuse.2.1 6 = .ok (.getfield 21, 3)) fX7_21 rfl (by omega) rfl hu.2.2.2.2 (?_ : XW _ _ _ _ _ _ _ 9 _ _)
      refine xi_alen (v := 3) (by decide +kernel : decode mX7_refuse.2.1 9 = .ok (.arraylength, 1)) rfl (by omega) (Or.inl rfl) rfl (?_ : XW _ _ _ _ _ _ _ 10 _ _)
      refine xi_icmp_ge (by decide +kernel : decode mX7_refuse.2.1 10 = .ok (.if_icmp .ge 13, 3)) (by decide) (fun c => (?_ : XW _ _ _ _ _ _ _ 23 _ _)) (fun c => (?_ : XW _ _ _ _ _ _ _ 13 _ _))
      · replace vc := vc.1 c
        exact xi_vret (by decide +kernel : decode mX7_refuse.2.1 23 = .ok (.return_, 1)) rfl vc
      · replace vc := vc.2 c
        refine xi_aload_n (by decide +kernel : decode mX7_refuse.2.1 13 = .ok (.aload_n 0, 1)) rfl rfl (?_ : XW _ _ _ _ _ _ _ 14 _ _)
        refine xi_getR (y := 33) (by decide +kernel : decode mX7_refuse.2.1 14 = .ok (.getfield 21, 3)) fX7_21 rfl (by omega) rfl hu.2.2.2.2 (?_ : XW _ _ _ _ _ _ _ 17 _ _)
        refine xi_iload_n (by decide +kernel : decode mX7_refuse.2.1 17 = .ok (.iload_n 1, 1)) rfl rfl (?_ : XW _ _ _ _ _ _ _ 18 _ _)
        refine xi_dup2 (by decide +kernel : decode mX7_refuse.2.1 18 = .ok (.dup2, 1)) rfl rfl (?_ : XW _ _ _ _ _ _ _ 19 _ _)
        obtain ⟨s1, vc⟩ := vc
        refine xi_iald (by decide +kernel : decode mX7_refuse.2.1 19 = .ok (.iaload, 1)) rfl (by omega) s1 (?_ : XW _ _ _ _ _ _ _ 20 _ _)
        refine xi_iconst (v := 1) (by decide +kernel : decode mX7_refuse.2.1 20 = .ok (.iconst 1, 1)) (by decide) (?_ : XW _ _ _ _ _ _ _ 21 _ _)
        refine xi_iadd (by decide +kernel : decode mX7_refuse.2.1 21 = .ok (.iadd, 1)) (?_ : XW _ _ _ _ _ _ _ 22 _ _)
        obtain ⟨s1, vc⟩ := vc
        refine xi_iast (by decide +kernel : decode mX7_refuse.2.1 22 = .ok (.iastore, 1)) rfl (by omega) s1 (?_ : XW _ _ _ _ _ _ (xSI (33) (va_up (xI h (33)) w.toNatClampNeg ((xI h (33) w.toNatClampNeg) + 1)) h) 23 _ _)
        exact xi_vret (by decide +kernel : decode mX7_refuse.2.1 23 = .ok (.return_, 1)) rfl vc
  · refine xi_iload_n (by decide +kernel : decode mX7_refuse.2.1 0 = .ok (.iload_n 1, 1)) rfl rfl (?_ : XW _ _ _ _ _ _ _ 1 _ _)
    refine xi_if_lt (by decide +kernel : decode mX7_refuse.2.1 1 = .ok (.ifCond .lt 22, 3)) (by decide) (fun c => (?_ : XW _ _ _ _ _ _ _ 23 _ _)) (fun c => (?_ : XW _ _ _ _ _ _ _ 4 _ _))
    · replace vc := vc.1 c
      exact xi_vret (by decide +kernel : decode mX7_refuse.2.1 23 = .ok (.return_, 1)) rfl vc
    · replace vc := vc.2 c
      refine xi_iload_n (by decide +kernel : decode mX7_refuse.2.1 4 = .ok (.iload_n 1, 1)) rfl rfl (?_ : XW _ _ _ _ _ _ _ 5 _ _)
      refine xi_aload_n (by decide +kernel : decode mX7_refuse.2.1 5 = .ok (.aload_n 0, 1)) rfl rfl (?_ : XW _ _ _ _ _ _ _ 6 _ _)
      refine xi_getR (y := 38) (by decide +kernel : decode mX7_refuse.2.1 6 = .ok (.getfield 21, 3)) fX7_21 rfl (by omega) rfl hu.2.2.2.2 (?_ : XW _ _ _ _ _ _ _ 9 _ _)
      refine xi_alen (v := 3) (by decide +kernel : decode mX7_refuse.2.1 9 = .ok (.arraylength, 1)) rfl (by omega) (Or.inl rfl) rfl (?_ : XW _ _ _ _ _ _ _ 10 _ _)
      refine xi_icmp_ge (by decide +kernel : decode mX7_refuse.2.1 10 = .ok (.if_icmp .ge 13, 3)) (by decide) (fun c => (?_ : XW _ _ _ _ _ _ _ 23 _ _)) (fun c => (?_ : XW _ _ _ _ _ _ _ 13 _ _))
      · replace vc := vc.1 c
        exact xi_vret (by decide +kernel : decode mX7_refuse.2.1 23 = .ok (.return_, 1)) rfl vc
      · replace vc := vc.2 c
        refine xi_aload_n (by decide +kernel : decode mX7_refuse.2.1 13 = .ok (.aload_n 0, 1)) rfl rfl (?_ : XW _ _ _ _ _ _ _ 14 _ _)
        refine xi_getR (y := 38) (by decide +kernel : decode mX7_refuse.2.1 14 = .ok (.getfield 21, 3)) fX7_21 rfl (by omega) rfl hu.2.2.2.2 (?_ : XW _ _ _ _ _ _ _ 17 _ _)
        refine xi_iload_n (by decide +kernel : decode mX7_refuse.2.1 17 = .ok (.iload_n 1, 1)) rfl rfl (?_ : XW _ _ _ _ _ _ _ 18 _ _)
        refine xi_dup2 (by decide +kernel : decode mX7_refuse.2.1 18 = .ok (.dup2, 1)) rfl rfl (?_ : XW _ _ _ _ _ _ _ 19 _ _)
        obtain ⟨s1, vc⟩ := vc
        refine xi_iald (by decide +kernel : decode mX7_refuse.2.1 19 = .ok (.iaload, 1)) rfl (by omega) s1 (?_ : XW _ _ _ _ _ _ _ 20 _ _)
        refine xi_iconst (v := 1) (by decide +kernel : decode mX7_refuse.2.1 20 = .ok (.iconst 1, 1)) (by decide) (?_ : XW _ _ _ _ _ _ _ 21 _ _)
        refine xi_iadd (by decide +kernel : decode mX7_refuse.2.1 21 = .ok (.iadd, 1)) (?_ : XW _ _ _ _ _ _ _ 22 _ _)
        obtain ⟨s1, vc⟩ := vc
        refine xi_iast (by decide +kernel : decode mX7_refuse.2.1 22 = .ok (.iastore, 1)) rfl (by omega) s1 (?_ : XW _ _ _ _ _ _ (xSI (38) (va_up (xI h (38)) w.toNatClampNeg ((xI h (38) w.toNatClampNeg) + 1)) h) 23 _ _)
        exact xi_vret (by decide +kernel : decode mX7_refuse.2.1 23 = .ok (.return_, 1)) rfl vc

set_option maxRecDepth 20000 in
theorem v_X7_refusedOf_0 {h : XH} {Q : Option Value → XH → Prop} {X : String → XH → Prop} (n u : Nat) (hu : xSta u (xP h)) (hn : u + 5 ≤ n)  (w : Int32)
    (vc : (w < 0 → Q (some (.int 0)) h) ∧ (¬ w < 0 → (3 ≤ w → Q (some (.int 0)) h) ∧ (¬ 3 ≤ w → (vp_in w 3) ∧ (Q (some (.int (xI h (u + 4) w.toNatClampNeg))) h)))) :
    XW (xrm 1 0 0) mX7_refusedOf (xE n Q X 0 0) n 0 0 h 0 [some (.ref u), some (.int w)] [] := by
  rcases hu.1 with rfl | rfl
  · refine xi_iload_n (by decide +kernel : decode mX7_refusedOf.2.1 0 = .ok (.iload_n 1, 1)) rfl rfl (?_ : XW _ _ _ _ _ _ _ 1 _ _)
    refine xi_if_lt (by decide +kernel : decode mX7_refusedOf.2.1 1 = .ok (.ifCond .lt 21, 3)) (by decide) (fun c => (?_ : XW _ _ _ _ _ _ _ 22 _ _)) (fun c => (?_ : XW _ _ _ _ _ _ _ 4 _ _))
    · replace vc := vc.1 c
      refine xi_iconst (v := 0) (by decide +kernel : decode mX7_refusedOf.2.1 22 = .ok (.iconst 0, 1)) (by decide) (?_ : XW _ _ _ _ _ _ _ 23 _ _)
      exact xi_iret (by decide +kernel : decode mX7_refusedOf.2.1 23 = .ok (.ireturn, 1)) rfl rfl vc
    · replace vc := vc.2 c
      refine xi_iload_n (by decide +kernel : decode mX7_refusedOf.2.1 4 = .ok (.iload_n 1, 1)) rfl rfl (?_ : XW _ _ _ _ _ _ _ 5 _ _)
      refine xi_aload_n (by decide +kernel : decode mX7_refusedOf.2.1 5 = .ok (.aload_n 0, 1)) rfl rfl (?_ : XW _ _ _ _ _ _ _ 6 _ _)
      refine xi_getR (y := 33) (by decide +kernel : decode mX7_refusedOf.2.1 6 = .ok (.getfield 21, 3)) fX7_21 rfl (by omega) rfl hu.2.2.2.2 (?_ : XW _ _ _ _ _ _ _ 9 _ _)
      refine xi_alen (v := 3) (by decide +kernel : decode mX7_refusedOf.2.1 9 = .ok (.arraylength, 1)) rfl (by omega) (Or.inl rfl) rfl (?_ : XW _ _ _ _ _ _ _ 10 _ _)
      refine xi_icmp_ge (by decide +kernel : decode mX7_refusedOf.2.1 10 = .ok (.if_icmp .ge 12, 3)) (by decide) (fun c => (?_ : XW _ _ _ _ _ _ _ 22 _ _)) (fun c => (?_ : XW _ _ _ _ _ _ _ 13 _ _))
      · replace vc := vc.1 c
        refine xi_iconst (v := 0) (by decide +kernel : decode mX7_refusedOf.2.1 22 = .ok (.iconst 0, 1)) (by decide) (?_ : XW _ _ _ _ _ _ _ 23 _ _)
        exact xi_iret (by decide +kernel : decode mX7_refusedOf.2.1 23 = .ok (.ireturn, 1)) rfl rfl vc
      · replace vc := vc.2 c
        refine xi_aload_n (by decide +kernel : decode mX7_refusedOf.2.1 13 = .ok (.aload_n 0, 1)) rfl rfl (?_ : XW _ _ _ _ _ _ _ 14 _ _)
        refine xi_getR (y := 33) (by decide +kernel : decode mX7_refusedOf.2.1 14 = .ok (.getfield 21, 3)) fX7_21 rfl (by omega) rfl hu.2.2.2.2 (?_ : XW _ _ _ _ _ _ _ 17 _ _)
        refine xi_iload_n (by decide +kernel : decode mX7_refusedOf.2.1 17 = .ok (.iload_n 1, 1)) rfl rfl (?_ : XW _ _ _ _ _ _ _ 18 _ _)
        obtain ⟨s1, vc⟩ := vc
        refine xi_iald (by decide +kernel : decode mX7_refusedOf.2.1 18 = .ok (.iaload, 1)) rfl (by omega) s1 (?_ : XW _ _ _ _ _ _ _ 19 _ _)
        refine xi_goto (by decide +kernel : decode mX7_refusedOf.2.1 19 = .ok (.goto 4, 3)) (by decide) (?_ : XW _ _ _ _ _ _ _ 23 _ _)
        exact xi_iret (by decide +kernel : decode mX7_refusedOf.2.1 23 = .ok (.ireturn, 1)) rfl rfl vc
  · refine xi_iload_n (by decide +kernel : decode mX7_refusedOf.2.1 0 = .ok (.iload_n 1, 1)) rfl rfl (?_ : XW _ _ _ _ _ _ _ 1 _ _)
    refine xi_if_lt (by decide +kernel : decode mX7_refusedOf.2.1 1 = .ok (.ifCond .lt 21, 3)) (by decide) (fun c => (?_ : XW _ _ _ _ _ _ _ 22 _ _)) (fun c => (?_ : XW _ _ _ _ _ _ _ 4 _ _))
    · replace vc := vc.1 c
      refine xi_iconst (v := 0) (by decide +kernel : decode mX7_refusedOf.2.1 22 = .ok (.iconst 0, 1)) (by decide) (?_ : XW _ _ _ _ _ _ _ 23 _ _)
      exact xi_iret (by decide +kernel : decode mX7_refusedOf.2.1 23 = .ok (.ireturn, 1)) rfl rfl vc
    · replace vc := vc.2 c
      refine xi_iload_n (by decide +kernel : decode mX7_refusedOf.2.1 4 = .ok (.iload_n 1, 1)) rfl rfl (?_ : XW _ _ _ _ _ _ _ 5 _ _)
      refine xi_aload_n (by decide +kernel : decode mX7_refusedOf.2.1 5 = .ok (.aload_n 0, 1)) rfl rfl (?_ : XW _ _ _ _ _ _ _ 6 _ _)
      refine xi_getR (y := 38) (by decide +kernel : decode mX7_refusedOf.2.1 6 = .ok (.getfield 21, 3)) fX7_21 rfl (by omega) rfl hu.2.2.2.2 (?_ : XW _ _ _ _ _ _ _ 9 _ _)
      refine xi_alen (v := 3) (by decide +kernel : decode mX7_refusedOf.2.1 9 = .ok (.arraylength, 1)) rfl (by omega) (Or.inl rfl) rfl (?_ : XW _ _ _ _ _ _ _ 10 _ _)
      refine xi_icmp_ge (by decide +kernel : decode mX7_refusedOf.2.1 10 = .ok (.if_icmp .ge 12, 3)) (by decide) (fun c => (?_ : XW _ _ _ _ _ _ _ 22 _ _)) (fun c => (?_ : XW _ _ _ _ _ _ _ 13 _ _))
      · replace vc := vc.1 c
        refine xi_iconst (v := 0) (by decide +kernel : decode mX7_refusedOf.2.1 22 = .ok (.iconst 0, 1)) (by decide) (?_ : XW _ _ _ _ _ _ _ 23 _ _)
        exact xi_iret (by decide +kernel : decode mX7_refusedOf.2.1 23 = .ok (.ireturn, 1)) rfl rfl vc
      · replace vc := vc.2 c
        refine xi_aload_n (by decide +kernel : decode mX7_refusedOf.2.1 13 = .ok (.aload_n 0, 1)) rfl rfl (?_ : XW _ _ _ _ _ _ _ 14 _ _)
        refine xi_getR (y := 38) (by decide +kernel : decode mX7_refusedOf.2.1 14 = .ok (.getfield 21, 3)) fX7_21 rfl (by omega) rfl hu.2.2.2.2 (?_ : XW _ _ _ _ _ _ _ 17 _ _)
        refine xi_iload_n (by decide +kernel : decode mX7_refusedOf.2.1 17 = .ok (.iload_n 1, 1)) rfl rfl (?_ : XW _ _ _ _ _ _ _ 18 _ _)
        obtain ⟨s1, vc⟩ := vc
        refine xi_iald (by decide +kernel : decode mX7_refusedOf.2.1 18 = .ok (.iaload, 1)) rfl (by omega) s1 (?_ : XW _ _ _ _ _ _ _ 19 _ _)
        refine xi_goto (by decide +kernel : decode mX7_refusedOf.2.1 19 = .ok (.goto 4, 3)) (by decide) (?_ : XW _ _ _ _ _ _ _ 23 _ _)
        exact xi_iret (by decide +kernel : decode mX7_refusedOf.2.1 23 = .ok (.ireturn, 1)) rfl rfl vc

set_option maxRecDepth 20000 in
theorem v_X7_placeOf_0 {h : XH} {Q : Option Value → XH → Prop} {X : String → XH → Prop} (n u : Nat) (hu : xSta u (xP h)) (hn : u + 5 ≤ n)  (p : Int32)
    (vc : (p < 0 → Q (some (.int 0)) h) ∧ (¬ p < 0 → (4 ≤ p → Q (some (.int 0)) h) ∧ (¬ 4 ≤ p → (vp_in p 4) ∧ (Q (some (.int (xI h (u + 1) p.toNatClampNeg))) h)))) :
    XW (xrm 1 0 0) mX7_placeOf (xE n Q X 0 0) n 0 0 h 0 [some (.ref u), some (.int p)] [] := by
  rcases hu.1 with rfl | rfl
  · refine xi_iload_n (by decide +kernel : decode mX7_placeOf.2.1 0 = .ok (.iload_n 1, 1)) rfl rfl (?_ : XW _ _ _ _ _ _ _ 1 _ _)
    refine xi_if_lt (by decide +kernel : decode mX7_placeOf.2.1 1 = .ok (.ifCond .lt 21, 3)) (by decide) (fun c => (?_ : XW _ _ _ _ _ _ _ 22 _ _)) (fun c => (?_ : XW _ _ _ _ _ _ _ 4 _ _))
    · replace vc := vc.1 c
      refine xi_iconst (v := 0) (by decide +kernel : decode mX7_placeOf.2.1 22 = .ok (.iconst 0, 1)) (by decide) (?_ : XW _ _ _ _ _ _ _ 23 _ _)
      exact xi_iret (by decide +kernel : decode mX7_placeOf.2.1 23 = .ok (.ireturn, 1)) rfl rfl vc
    · replace vc := vc.2 c
      refine xi_iload_n (by decide +kernel : decode mX7_placeOf.2.1 4 = .ok (.iload_n 1, 1)) rfl rfl (?_ : XW _ _ _ _ _ _ _ 5 _ _)
      refine xi_aload_n (by decide +kernel : decode mX7_placeOf.2.1 5 = .ok (.aload_n 0, 1)) rfl rfl (?_ : XW _ _ _ _ _ _ _ 6 _ _)
      refine xi_getR (y := 30) (by decide +kernel : decode mX7_placeOf.2.1 6 = .ok (.getfield 9, 3)) fX7_9 rfl (by omega) rfl hu.2.1 (?_ : XW _ _ _ _ _ _ _ 9 _ _)
      refine xi_alen (v := 4) (by decide +kernel : decode mX7_placeOf.2.1 9 = .ok (.arraylength, 1)) rfl (by omega) (Or.inl rfl) rfl (?_ : XW _ _ _ _ _ _ _ 10 _ _)
      refine xi_icmp_ge (by decide +kernel : decode mX7_placeOf.2.1 10 = .ok (.if_icmp .ge 12, 3)) (by decide) (fun c => (?_ : XW _ _ _ _ _ _ _ 22 _ _)) (fun c => (?_ : XW _ _ _ _ _ _ _ 13 _ _))
      · replace vc := vc.1 c
        refine xi_iconst (v := 0) (by decide +kernel : decode mX7_placeOf.2.1 22 = .ok (.iconst 0, 1)) (by decide) (?_ : XW _ _ _ _ _ _ _ 23 _ _)
        exact xi_iret (by decide +kernel : decode mX7_placeOf.2.1 23 = .ok (.ireturn, 1)) rfl rfl vc
      · replace vc := vc.2 c
        refine xi_aload_n (by decide +kernel : decode mX7_placeOf.2.1 13 = .ok (.aload_n 0, 1)) rfl rfl (?_ : XW _ _ _ _ _ _ _ 14 _ _)
        refine xi_getR (y := 30) (by decide +kernel : decode mX7_placeOf.2.1 14 = .ok (.getfield 9, 3)) fX7_9 rfl (by omega) rfl hu.2.1 (?_ : XW _ _ _ _ _ _ _ 17 _ _)
        refine xi_iload_n (by decide +kernel : decode mX7_placeOf.2.1 17 = .ok (.iload_n 1, 1)) rfl rfl (?_ : XW _ _ _ _ _ _ _ 18 _ _)
        obtain ⟨s1, vc⟩ := vc
        refine xi_iald (by decide +kernel : decode mX7_placeOf.2.1 18 = .ok (.iaload, 1)) rfl (by omega) s1 (?_ : XW _ _ _ _ _ _ _ 19 _ _)
        refine xi_goto (by decide +kernel : decode mX7_placeOf.2.1 19 = .ok (.goto 4, 3)) (by decide) (?_ : XW _ _ _ _ _ _ _ 23 _ _)
        exact xi_iret (by decide +kernel : decode mX7_placeOf.2.1 23 = .ok (.ireturn, 1)) rfl rfl vc
  · refine xi_iload_n (by decide +kernel : decode mX7_placeOf.2.1 0 = .ok (.iload_n 1, 1)) rfl rfl (?_ : XW _ _ _ _ _ _ _ 1 _ _)
    refine xi_if_lt (by decide +kernel : decode mX7_placeOf.2.1 1 = .ok (.ifCond .lt 21, 3)) (by decide) (fun c => (?_ : XW _ _ _ _ _ _ _ 22 _ _)) (fun c => (?_ : XW _ _ _ _ _ _ _ 4 _ _))
    · replace vc := vc.1 c
      refine xi_iconst (v := 0) (by decide +kernel : decode mX7_placeOf.2.1 22 = .ok (.iconst 0, 1)) (by decide) (?_ : XW _ _ _ _ _ _ _ 23 _ _)
      exact xi_iret (by decide +kernel : decode mX7_placeOf.2.1 23 = .ok (.ireturn, 1)) rfl rfl vc
    · replace vc := vc.2 c
      refine xi_iload_n (by decide +kernel : decode mX7_placeOf.2.1 4 = .ok (.iload_n 1, 1)) rfl rfl (?_ : XW _ _ _ _ _ _ _ 5 _ _)
      refine xi_aload_n (by decide +kernel : decode mX7_placeOf.2.1 5 = .ok (.aload_n 0, 1)) rfl rfl (?_ : XW _ _ _ _ _ _ _ 6 _ _)
      refine xi_getR (y := 35) (by decide +kernel : decode mX7_placeOf.2.1 6 = .ok (.getfield 9, 3)) fX7_9 rfl (by omega) rfl hu.2.1 (?_ : XW _ _ _ _ _ _ _ 9 _ _)
      refine xi_alen (v := 4) (by decide +kernel : decode mX7_placeOf.2.1 9 = .ok (.arraylength, 1)) rfl (by omega) (Or.inl rfl) rfl (?_ : XW _ _ _ _ _ _ _ 10 _ _)
      refine xi_icmp_ge (by decide +kernel : decode mX7_placeOf.2.1 10 = .ok (.if_icmp .ge 12, 3)) (by decide) (fun c => (?_ : XW _ _ _ _ _ _ _ 22 _ _)) (fun c => (?_ : XW _ _ _ _ _ _ _ 13 _ _))
      · replace vc := vc.1 c
        refine xi_iconst (v := 0) (by decide +kernel : decode mX7_placeOf.2.1 22 = .ok (.iconst 0, 1)) (by decide) (?_ : XW _ _ _ _ _ _ _ 23 _ _)
        exact xi_iret (by decide +kernel : decode mX7_placeOf.2.1 23 = .ok (.ireturn, 1)) rfl rfl vc
      · replace vc := vc.2 c
        refine xi_aload_n (by decide +kernel : decode mX7_placeOf.2.1 13 = .ok (.aload_n 0, 1)) rfl rfl (?_ : XW _ _ _ _ _ _ _ 14 _ _)
        refine xi_getR (y := 35) (by decide +kernel : decode mX7_placeOf.2.1 14 = .ok (.getfield 9, 3)) fX7_9 rfl (by omega) rfl hu.2.1 (?_ : XW _ _ _ _ _ _ _ 17 _ _)
        refine xi_iload_n (by decide +kernel : decode mX7_placeOf.2.1 17 = .ok (.iload_n 1, 1)) rfl rfl (?_ : XW _ _ _ _ _ _ _ 18 _ _)
        obtain ⟨s1, vc⟩ := vc
        refine xi_iald (by decide +kernel : decode mX7_placeOf.2.1 18 = .ok (.iaload, 1)) rfl (by omega) s1 (?_ : XW _ _ _ _ _ _ _ 19 _ _)
        refine xi_goto (by decide +kernel : decode mX7_placeOf.2.1 19 = .ok (.goto 4, 3)) (by decide) (?_ : XW _ _ _ _ _ _ _ 23 _ _)
        exact xi_iret (by decide +kernel : decode mX7_placeOf.2.1 23 = .ok (.ireturn, 1)) rfl rfl vc

set_option maxRecDepth 20000 in
theorem v_X7_place_0 {h : XH} {Q : Option Value → XH → Prop} {X : String → XH → Prop} (n u : Nat) (hu : xSta u (xP h)) (hn : u + 5 ≤ n)  (p : Int32) (q : Int32)
    (vc : (p < 0 → Q none h) ∧ (¬ p < 0 → (4 ≤ p → Q none h) ∧ (¬ 4 ≤ p → (vp_in p 4) ∧ (Q none (xSI (u + 1) (va_up (xI h (u + 1)) p.toNatClampNeg q) h))))) :
    XW (xrm 1 0 0) mX7_place (xE n Q X 0 0) n 0 0 h 0 [some (.ref u), some (.int p), some (.int q)] [] := by
  rcases hu.1 with rfl | rfl
  · refine xi_iload_n (by decide +kernel : decode mX7_place.2.1 0 = .ok (.iload_n 1, 1)) rfl rfl (?_ : XW _ _ _ _ _ _ _ 1 _ _)
    refine xi_if_lt (by decide +kernel : decode mX7_place.2.1 1 = .ok (.ifCond .lt 19, 3)) (by decide) (fun c => (?_ : XW _ _ _ _ _ _ _ 20 _ _)) (fun c => (?_ : XW _ _ _ _ _ _ _ 4 _ _))
    · replace vc := vc.1 c
      exact xi_vret (by decide +kernel : decode mX7_place.2.1 20 = .ok (.return_, 1)) rfl vc
    · replace vc := vc.2 c
      refine xi_iload_n (by decide +kernel : decode mX7_place.2.1 4 = .ok (.iload_n 1, 1)) rfl rfl (?_ : XW _ _ _ _ _ _ _ 5 _ _)
      refine xi_aload_n (by decide +kernel : decode mX7_place.2.1 5 = .ok (.aload_n 0, 1)) rfl rfl (?_ : XW _ _ _ _ _ _ _ 6 _ _)
      refine xi_getR (y := 30) (by decide +kernel : decode mX7_place.2.1 6 = .ok (.getfield 9, 3)) fX7_9 rfl (by omega) rfl hu.2.1 (?_ : XW _ _ _ _ _ _ _ 9 _ _)
      refine xi_alen (v := 4) (by decide +kernel : decode mX7_place.2.1 9 = .ok (.arraylength, 1)) rfl (by omega) (Or.inl rfl) rfl (?_ : XW _ _ _ _ _ _ _ 10 _ _)
      refine xi_icmp_ge (by decide +kernel : decode mX7_place.2.1 10 = .ok (.if_icmp .ge 10, 3)) (by decide) (fun c => (?_ : XW _ _ _ _ _ _ _ 20 _ _)) (fun c => (?_ : XW _ _ _ _ _ _ _ 13 _ _))
      · replace vc := vc.1 c
        exact xi_vret (by decide +kernel : decode mX7_place.2.1 20 = .ok (.return_, 1)) rfl vc
      · replace vc := vc.2 c
        refine xi_aload_n (by decide +kernel : decode mX7_place.2.1 13 = .ok (.aload_n 0, 1)) rfl rfl (?_ : XW _ _ _ _ _ _ _ 14 _ _)
        refine xi_getR (y := 30) (by decide +kernel : decode mX7_place.2.1 14 = .ok (.getfield 9, 3)) fX7_9 rfl (by omega) rfl hu.2.1 (?_ : XW _ _ _ _ _ _ _ 17 _ _)
        refine xi_iload_n (by decide +kernel : decode mX7_place.2.1 17 = .ok (.iload_n 1, 1)) rfl rfl (?_ : XW _ _ _ _ _ _ _ 18 _ _)
        refine xi_iload_n (by decide +kernel : decode mX7_place.2.1 18 = .ok (.iload_n 2, 1)) rfl rfl (?_ : XW _ _ _ _ _ _ _ 19 _ _)
        obtain ⟨s1, vc⟩ := vc
        refine xi_iast (by decide +kernel : decode mX7_place.2.1 19 = .ok (.iastore, 1)) rfl (by omega) s1 (?_ : XW _ _ _ _ _ _ (xSI (30) (va_up (xI h (30)) p.toNatClampNeg q) h) 20 _ _)
        exact xi_vret (by decide +kernel : decode mX7_place.2.1 20 = .ok (.return_, 1)) rfl vc
  · refine xi_iload_n (by decide +kernel : decode mX7_place.2.1 0 = .ok (.iload_n 1, 1)) rfl rfl (?_ : XW _ _ _ _ _ _ _ 1 _ _)
    refine xi_if_lt (by decide +kernel : decode mX7_place.2.1 1 = .ok (.ifCond .lt 19, 3)) (by decide) (fun c => (?_ : XW _ _ _ _ _ _ _ 20 _ _)) (fun c => (?_ : XW _ _ _ _ _ _ _ 4 _ _))
    · replace vc := vc.1 c
      exact xi_vret (by decide +kernel : decode mX7_place.2.1 20 = .ok (.return_, 1)) rfl vc
    · replace vc := vc.2 c
      refine xi_iload_n (by decide +kernel : decode mX7_place.2.1 4 = .ok (.iload_n 1, 1)) rfl rfl (?_ : XW _ _ _ _ _ _ _ 5 _ _)
      refine xi_aload_n (by decide +kernel : decode mX7_place.2.1 5 = .ok (.aload_n 0, 1)) rfl rfl (?_ : XW _ _ _ _ _ _ _ 6 _ _)
      refine xi_getR (y := 35) (by decide +kernel : decode mX7_place.2.1 6 = .ok (.getfield 9, 3)) fX7_9 rfl (by omega) rfl hu.2.1 (?_ : XW _ _ _ _ _ _ _ 9 _ _)
      refine xi_alen (v := 4) (by decide +kernel : decode mX7_place.2.1 9 = .ok (.arraylength, 1)) rfl (by omega) (Or.inl rfl) rfl (?_ : XW _ _ _ _ _ _ _ 10 _ _)
      refine xi_icmp_ge (by decide +kernel : decode mX7_place.2.1 10 = .ok (.if_icmp .ge 10, 3)) (by decide) (fun c => (?_ : XW _ _ _ _ _ _ _ 20 _ _)) (fun c => (?_ : XW _ _ _ _ _ _ _ 13 _ _))
      · replace vc := vc.1 c
        exact xi_vret (by decide +kernel : decode mX7_place.2.1 20 = .ok (.return_, 1)) rfl vc
      · replace vc := vc.2 c
        refine xi_aload_n (by decide +kernel : decode mX7_place.2.1 13 = .ok (.aload_n 0, 1)) rfl rfl (?_ : XW _ _ _ _ _ _ _ 14 _ _)
        refine xi_getR (y := 35) (by decide +kernel : decode mX7_place.2.1 14 = .ok (.getfield 9, 3)) fX7_9 rfl (by omega) rfl hu.2.1 (?_ : XW _ _ _ _ _ _ _ 17 _ _)
        refine xi_iload_n (by decide +kernel : decode mX7_place.2.1 17 = .ok (.iload_n 1, 1)) rfl rfl (?_ : XW _ _ _ _ _ _ _ 18 _ _)
        refine xi_iload_n (by decide +kernel : decode mX7_place.2.1 18 = .ok (.iload_n 2, 1)) rfl rfl (?_ : XW _ _ _ _ _ _ _ 19 _ _)
        obtain ⟨s1, vc⟩ := vc
        refine xi_iast (by decide +kernel : decode mX7_place.2.1 19 = .ok (.iastore, 1)) rfl (by omega) s1 (?_ : XW _ _ _ _ _ _ (xSI (35) (va_up (xI h (35)) p.toNatClampNeg q) h) 20 _ _)
        exact xi_vret (by decide +kernel : decode mX7_place.2.1 20 = .ok (.return_, 1)) rfl vc

set_option maxRecDepth 20000 in
theorem v_X7_logged_0 {h : XH} {Q : Option Value → XH → Prop} {X : String → XH → Prop} (n u : Nat) (hu : xSta u (xP h)) (hn : u + 5 ≤ n)  (i : Int32) (t : Int32)
    (vc : (((i * 5) + t) < 0 → Q (some (.int 0)) h) ∧ (¬ ((i * 5) + t) < 0 → (1000 ≤ ((i * 5) + t) → Q (some (.int 0)) h) ∧ (¬ 1000 ≤ ((i * 5) + t) → (vp_in ((i * 5) + t) 1000) ∧ (Q (some (.int (xI h (u + 2) ((i * 5) + t).toNatClampNeg))) h)))) :
    XW (xrm 1 0 0) mX7_logged (xE n Q X 0 0) n 0 0 h 0 [some (.ref u), some (.int i), some (.int t), none] [] := by
  rcases hu.1 with rfl | rfl
  · refine xi_iload_n (by decide +kernel : decode mX7_logged.2.1 0 = .ok (.iload_n 1, 1)) rfl rfl (?_ : XW _ _ _ _ _ _ _ 1 _ _)
    refine xi_iconst (v := 5) (by decide +kernel : decode mX7_logged.2.1 1 = .ok (.iconst 5, 1)) (by decide) (?_ : XW _ _ _ _ _ _ _ 2 _ _)
    refine xi_imul (by decide +kernel : decode mX7_logged.2.1 2 = .ok (.imul, 1)) (?_ : XW _ _ _ _ _ _ _ 3 _ _)
    refine xi_iload_n (by decide +kernel : decode mX7_logged.2.1 3 = .ok (.iload_n 2, 1)) rfl rfl (?_ : XW _ _ _ _ _ _ _ 4 _ _)
    refine xi_iadd (by decide +kernel : decode mX7_logged.2.1 4 = .ok (.iadd, 1)) (?_ : XW _ _ _ _ _ _ _ 5 _ _)
    refine xi_istore_n (ls' := [some (.ref 29), some (.int i), some (.int t), some (.int ((i * 5) + t))]) (by decide +kernel : decode mX7_logged.2.1 5 = .ok (.istore_n 3, 1)) rfl (by decide) rfl (?_ : XW _ _ _ _ _ _ _ 6 _ _)
    refine xi_iload_n (by decide +kernel : decode mX7_logged.2.1 6 = .ok (.iload_n 3, 1)) rfl rfl (?_ : XW _ _ _ _ _ _ _ 7 _ _)
    refine xi_if_lt (by decide +kernel : decode mX7_logged.2.1 7 = .ok (.ifCond .lt 21, 3)) (by decide) (fun c => (?_ : XW _ _ _ _ _ _ _ 28 _ _)) (fun c => (?_ : XW _ _ _ _ _ _ _ 10 _ _))
    · replace vc := vc.1 c
      refine xi_iconst (v := 0) (by decide +kernel : decode mX7_logged.2.1 28 = .ok (.iconst 0, 1)) (by decide) (?_ : XW _ _ _ _ _ _ _ 29 _ _)
      exact xi_iret (by decide +kernel : decode mX7_logged.2.1 29 = .ok (.ireturn, 1)) rfl rfl vc
    · replace vc := vc.2 c
      refine xi_iload_n (by decide +kernel : decode mX7_logged.2.1 10 = .ok (.iload_n 3, 1)) rfl rfl (?_ : XW _ _ _ _ _ _ _ 11 _ _)
      refine xi_aload_n (by decide +kernel : decode mX7_logged.2.1 11 = .ok (.aload_n 0, 1)) rfl rfl (?_ : XW _ _ _ _ _ _ _ 12 _ _)
      refine xi_getR (y := 31) (by decide +kernel : decode mX7_logged.2.1 12 = .ok (.getfield 15, 3)) fX7_15 rfl (by omega) rfl hu.2.2.1 (?_ : XW _ _ _ _ _ _ _ 15 _ _)
      refine xi_alen (v := 1000) (by decide +kernel : decode mX7_logged.2.1 15 = .ok (.arraylength, 1)) rfl (by omega) (Or.inl rfl) rfl (?_ : XW _ _ _ _ _ _ _ 16 _ _)
      refine xi_icmp_ge (by decide +kernel : decode mX7_logged.2.1 16 = .ok (.if_icmp .ge 12, 3)) (by decide) (fun c => (?_ : XW _ _ _ _ _ _ _ 28 _ _)) (fun c => (?_ : XW _ _ _ _ _ _ _ 19 _ _))
      · replace vc := vc.1 c
        refine xi_iconst (v := 0) (by decide +kernel : decode mX7_logged.2.1 28 = .ok (.iconst 0, 1)) (by decide) (?_ : XW _ _ _ _ _ _ _ 29 _ _)
        exact xi_iret (by decide +kernel : decode mX7_logged.2.1 29 = .ok (.ireturn, 1)) rfl rfl vc
      · replace vc := vc.2 c
        refine xi_aload_n (by decide +kernel : decode mX7_logged.2.1 19 = .ok (.aload_n 0, 1)) rfl rfl (?_ : XW _ _ _ _ _ _ _ 20 _ _)
        refine xi_getR (y := 31) (by decide +kernel : decode mX7_logged.2.1 20 = .ok (.getfield 15, 3)) fX7_15 rfl (by omega) rfl hu.2.2.1 (?_ : XW _ _ _ _ _ _ _ 23 _ _)
        refine xi_iload_n (by decide +kernel : decode mX7_logged.2.1 23 = .ok (.iload_n 3, 1)) rfl rfl (?_ : XW _ _ _ _ _ _ _ 24 _ _)
        obtain ⟨s1, vc⟩ := vc
        refine xi_iald (by decide +kernel : decode mX7_logged.2.1 24 = .ok (.iaload, 1)) rfl (by omega) s1 (?_ : XW _ _ _ _ _ _ _ 25 _ _)
        refine xi_goto (by decide +kernel : decode mX7_logged.2.1 25 = .ok (.goto 4, 3)) (by decide) (?_ : XW _ _ _ _ _ _ _ 29 _ _)
        exact xi_iret (by decide +kernel : decode mX7_logged.2.1 29 = .ok (.ireturn, 1)) rfl rfl vc
  · refine xi_iload_n (by decide +kernel : decode mX7_logged.2.1 0 = .ok (.iload_n 1, 1)) rfl rfl (?_ : XW _ _ _ _ _ _ _ 1 _ _)
    refine xi_iconst (v := 5) (by decide +kernel : decode mX7_logged.2.1 1 = .ok (.iconst 5, 1)) (by decide) (?_ : XW _ _ _ _ _ _ _ 2 _ _)
    refine xi_imul (by decide +kernel : decode mX7_logged.2.1 2 = .ok (.imul, 1)) (?_ : XW _ _ _ _ _ _ _ 3 _ _)
    refine xi_iload_n (by decide +kernel : decode mX7_logged.2.1 3 = .ok (.iload_n 2, 1)) rfl rfl (?_ : XW _ _ _ _ _ _ _ 4 _ _)
    refine xi_iadd (by decide +kernel : decode mX7_logged.2.1 4 = .ok (.iadd, 1)) (?_ : XW _ _ _ _ _ _ _ 5 _ _)
    refine xi_istore_n (ls' := [some (.ref 34), some (.int i), some (.int t), some (.int ((i * 5) + t))]) (by decide +kernel : decode mX7_logged.2.1 5 = .ok (.istore_n 3, 1)) rfl (by decide) rfl (?_ : XW _ _ _ _ _ _ _ 6 _ _)
    refine xi_iload_n (by decide +kernel : decode mX7_logged.2.1 6 = .ok (.iload_n 3, 1)) rfl rfl (?_ : XW _ _ _ _ _ _ _ 7 _ _)
    refine xi_if_lt (by decide +kernel : decode mX7_logged.2.1 7 = .ok (.ifCond .lt 21, 3)) (by decide) (fun c => (?_ : XW _ _ _ _ _ _ _ 28 _ _)) (fun c => (?_ : XW _ _ _ _ _ _ _ 10 _ _))
    · replace vc := vc.1 c
      refine xi_iconst (v := 0) (by decide +kernel : decode mX7_logged.2.1 28 = .ok (.iconst 0, 1)) (by decide) (?_ : XW _ _ _ _ _ _ _ 29 _ _)
      exact xi_iret (by decide +kernel : decode mX7_logged.2.1 29 = .ok (.ireturn, 1)) rfl rfl vc
    · replace vc := vc.2 c
      refine xi_iload_n (by decide +kernel : decode mX7_logged.2.1 10 = .ok (.iload_n 3, 1)) rfl rfl (?_ : XW _ _ _ _ _ _ _ 11 _ _)
      refine xi_aload_n (by decide +kernel : decode mX7_logged.2.1 11 = .ok (.aload_n 0, 1)) rfl rfl (?_ : XW _ _ _ _ _ _ _ 12 _ _)
      refine xi_getR (y := 36) (by decide +kernel : decode mX7_logged.2.1 12 = .ok (.getfield 15, 3)) fX7_15 rfl (by omega) rfl hu.2.2.1 (?_ : XW _ _ _ _ _ _ _ 15 _ _)
      refine xi_alen (v := 1000) (by decide +kernel : decode mX7_logged.2.1 15 = .ok (.arraylength, 1)) rfl (by omega) (Or.inl rfl) rfl (?_ : XW _ _ _ _ _ _ _ 16 _ _)
      refine xi_icmp_ge (by decide +kernel : decode mX7_logged.2.1 16 = .ok (.if_icmp .ge 12, 3)) (by decide) (fun c => (?_ : XW _ _ _ _ _ _ _ 28 _ _)) (fun c => (?_ : XW _ _ _ _ _ _ _ 19 _ _))
      · replace vc := vc.1 c
        refine xi_iconst (v := 0) (by decide +kernel : decode mX7_logged.2.1 28 = .ok (.iconst 0, 1)) (by decide) (?_ : XW _ _ _ _ _ _ _ 29 _ _)
        exact xi_iret (by decide +kernel : decode mX7_logged.2.1 29 = .ok (.ireturn, 1)) rfl rfl vc
      · replace vc := vc.2 c
        refine xi_aload_n (by decide +kernel : decode mX7_logged.2.1 19 = .ok (.aload_n 0, 1)) rfl rfl (?_ : XW _ _ _ _ _ _ _ 20 _ _)
        refine xi_getR (y := 36) (by decide +kernel : decode mX7_logged.2.1 20 = .ok (.getfield 15, 3)) fX7_15 rfl (by omega) rfl hu.2.2.1 (?_ : XW _ _ _ _ _ _ _ 23 _ _)
        refine xi_iload_n (by decide +kernel : decode mX7_logged.2.1 23 = .ok (.iload_n 3, 1)) rfl rfl (?_ : XW _ _ _ _ _ _ _ 24 _ _)
        obtain ⟨s1, vc⟩ := vc
        refine xi_iald (by decide +kernel : decode mX7_logged.2.1 24 = .ok (.iaload, 1)) rfl (by omega) s1 (?_ : XW _ _ _ _ _ _ _ 25 _ _)
        refine xi_goto (by decide +kernel : decode mX7_logged.2.1 25 = .ok (.goto 4, 3)) (by decide) (?_ : XW _ _ _ _ _ _ _ 29 _ _)
        exact xi_iret (by decide +kernel : decode mX7_logged.2.1 29 = .ok (.ireturn, 1)) rfl rfl vc

set_option maxRecDepth 20000 in
theorem v_X7_putLog_0 {h : XH} {Q : Option Value → XH → Prop} {X : String → XH → Prop} (n u : Nat) (hu : xSta u (xP h)) (hn : u + 5 ≤ n)  (t : Int32) (v : Int32)
    (vc : ((((xI h u 1) * 5) + t) < 0 → Q none h) ∧ (¬ (((xI h u 1) * 5) + t) < 0 → (1000 ≤ (((xI h u 1) * 5) + t) → Q none h) ∧ (¬ 1000 ≤ (((xI h u 1) * 5) + t) → (vp_in (((xI h u 1) * 5) + t) 1000) ∧ (Q none (xSI (u + 2) (va_up (xI h (u + 2)) (((xI h u 1) * 5) + t).toNatClampNeg v) h))))) :
    XW (xrm 1 0 0) mX7_putLog (xE n Q X 0 0) n 0 0 h 0 [some (.ref u), some (.int t), some (.int v), none] [] := by
  rcases hu.1 with rfl | rfl
  · refine xi_aload_n (by decide +kernel : decode mX7_putLog.2.1 0 = .ok (.aload_n 0, 1)) rfl rfl (?_ : XW _ _ _ _ _ _ _ 1 _ _)
    refine xi_getI (by decide +kernel : decode mX7_putLog.2.1 1 = .ok (.getfield 46, 3)) fX7_46 rfl (by omega) rfl (?_ : XW _ _ _ _ _ _ _ 4 _ _)
    refine xi_iconst (v := 5) (by decide +kernel : decode mX7_putLog.2.1 4 = .ok (.iconst 5, 1)) (by decide) (?_ : XW _ _ _ _ _ _ _ 5 _ _)
    refine xi_imul (by decide +kernel : decode mX7_putLog.2.1 5 = .ok (.imul, 1)) (?_ : XW _ _ _ _ _ _ _ 6 _ _)
    refine xi_iload_n (by decide +kernel : decode mX7_putLog.2.1 6 = .ok (.iload_n 1, 1)) rfl rfl (?_ : XW _ _ _ _ _ _ _ 7 _ _)
    refine xi_iadd (by decide +kernel : decode mX7_putLog.2.1 7 = .ok (.iadd, 1)) (?_ : XW _ _ _ _ _ _ _ 8 _ _)
    refine xi_istore_n (ls' := [some (.ref 29), some (.int t), some (.int v), some (.int (((xI h 29 1) * 5) + t))]) (by decide +kernel : decode mX7_putLog.2.1 8 = .ok (.istore_n 3, 1)) rfl (by decide) rfl (?_ : XW _ _ _ _ _ _ _ 9 _ _)
    refine xi_iload_n (by decide +kernel : decode mX7_putLog.2.1 9 = .ok (.iload_n 3, 1)) rfl rfl (?_ : XW _ _ _ _ _ _ _ 10 _ _)
    refine xi_if_lt (by decide +kernel : decode mX7_putLog.2.1 10 = .ok (.ifCond .lt 19, 3)) (by decide) (fun c => (?_ : XW _ _ _ _ _ _ _ 29 _ _)) (fun c => (?_ : XW _ _ _ _ _ _ _ 13 _ _))
    · replace vc := vc.1 c
      exact xi_vret (by decide +kernel : decode mX7_putLog.2.1 29 = .ok (.return_, 1)) rfl vc
    · replace vc := vc.2 c
      refine xi_iload_n (by decide +kernel : decode mX7_putLog.2.1 13 = .ok (.iload_n 3, 1)) rfl rfl (?_ : XW _ _ _ _ _ _ _ 14 _ _)
      refine xi_aload_n (by decide +kernel : decode mX7_putLog.2.1 14 = .ok (.aload_n 0, 1)) rfl rfl (?_ : XW _ _ _ _ _ _ _ 15 _ _)
      refine xi_getR (y := 31) (by decide +kernel : decode mX7_putLog.2.1 15 = .ok (.getfield 15, 3)) fX7_15 rfl (by omega) rfl hu.2.2.1 (?_ : XW _ _ _ _ _ _ _ 18 _ _)
      refine xi_alen (v := 1000) (by decide +kernel : decode mX7_putLog.2.1 18 = .ok (.arraylength, 1)) rfl (by omega) (Or.inl rfl) rfl (?_ : XW _ _ _ _ _ _ _ 19 _ _)
      refine xi_icmp_ge (by decide +kernel : decode mX7_putLog.2.1 19 = .ok (.if_icmp .ge 10, 3)) (by decide) (fun c => (?_ : XW _ _ _ _ _ _ _ 29 _ _)) (fun c => (?_ : XW _ _ _ _ _ _ _ 22 _ _))
      · replace vc := vc.1 c
        exact xi_vret (by decide +kernel : decode mX7_putLog.2.1 29 = .ok (.return_, 1)) rfl vc
      · replace vc := vc.2 c
        refine xi_aload_n (by decide +kernel : decode mX7_putLog.2.1 22 = .ok (.aload_n 0, 1)) rfl rfl (?_ : XW _ _ _ _ _ _ _ 23 _ _)
        refine xi_getR (y := 31) (by decide +kernel : decode mX7_putLog.2.1 23 = .ok (.getfield 15, 3)) fX7_15 rfl (by omega) rfl hu.2.2.1 (?_ : XW _ _ _ _ _ _ _ 26 _ _)
        refine xi_iload_n (by decide +kernel : decode mX7_putLog.2.1 26 = .ok (.iload_n 3, 1)) rfl rfl (?_ : XW _ _ _ _ _ _ _ 27 _ _)
        refine xi_iload_n (by decide +kernel : decode mX7_putLog.2.1 27 = .ok (.iload_n 2, 1)) rfl rfl (?_ : XW _ _ _ _ _ _ _ 28 _ _)
        obtain ⟨s1, vc⟩ := vc
        refine xi_iast (by decide +kernel : decode mX7_putLog.2.1 28 = .ok (.iastore, 1)) rfl (by omega) s1 (?_ : XW _ _ _ _ _ _ (xSI (31) (va_up (xI h (31)) (((xI h 29 1) * 5) + t).toNatClampNeg v) h) 29 _ _)
        exact xi_vret (by decide +kernel : decode mX7_putLog.2.1 29 = .ok (.return_, 1)) rfl vc
  · refine xi_aload_n (by decide +kernel : decode mX7_putLog.2.1 0 = .ok (.aload_n 0, 1)) rfl rfl (?_ : XW _ _ _ _ _ _ _ 1 _ _)
    refine xi_getI (by decide +kernel : decode mX7_putLog.2.1 1 = .ok (.getfield 46, 3)) fX7_46 rfl (by omega) rfl (?_ : XW _ _ _ _ _ _ _ 4 _ _)
    refine xi_iconst (v := 5) (by decide +kernel : decode mX7_putLog.2.1 4 = .ok (.iconst 5, 1)) (by decide) (?_ : XW _ _ _ _ _ _ _ 5 _ _)
    refine xi_imul (by decide +kernel : decode mX7_putLog.2.1 5 = .ok (.imul, 1)) (?_ : XW _ _ _ _ _ _ _ 6 _ _)
    refine xi_iload_n (by decide +kernel : decode mX7_putLog.2.1 6 = .ok (.iload_n 1, 1)) rfl rfl (?_ : XW _ _ _ _ _ _ _ 7 _ _)
    refine xi_iadd (by decide +kernel : decode mX7_putLog.2.1 7 = .ok (.iadd, 1)) (?_ : XW _ _ _ _ _ _ _ 8 _ _)
    refine xi_istore_n (ls' := [some (.ref 34), some (.int t), some (.int v), some (.int (((xI h 34 1) * 5) + t))]) (by decide +kernel : decode mX7_putLog.2.1 8 = .ok (.istore_n 3, 1)) rfl (by decide) rfl (?_ : XW _ _ _ _ _ _ _ 9 _ _)
    refine xi_iload_n (by decide +kernel : decode mX7_putLog.2.1 9 = .ok (.iload_n 3, 1)) rfl rfl (?_ : XW _ _ _ _ _ _ _ 10 _ _)
    refine xi_if_lt (by decide +kernel : decode mX7_putLog.2.1 10 = .ok (.ifCond .lt 19, 3)) (by decide) (fun c => (?_ : XW _ _ _ _ _ _ _ 29 _ _)) (fun c => (?_ : XW _ _ _ _ _ _ _ 13 _ _))
    · replace vc := vc.1 c
      exact xi_vret (by decide +kernel : decode mX7_putLog.2.1 29 = .ok (.return_, 1)) rfl vc
    · replace vc := vc.2 c
      refine xi_iload_n (by decide +kernel : decode mX7_putLog.2.1 13 = .ok (.iload_n 3, 1)) rfl rfl (?_ : XW _ _ _ _ _ _ _ 14 _ _)
      refine xi_aload_n (by decide +kernel : decode mX7_putLog.2.1 14 = .ok (.aload_n 0, 1)) rfl rfl (?_ : XW _ _ _ _ _ _ _ 15 _ _)
      refine xi_getR (y := 36) (by decide +kernel : decode mX7_putLog.2.1 15 = .ok (.getfield 15, 3)) fX7_15 rfl (by omega) rfl hu.2.2.1 (?_ : XW _ _ _ _ _ _ _ 18 _ _)
      refine xi_alen (v := 1000) (by decide +kernel : decode mX7_putLog.2.1 18 = .ok (.arraylength, 1)) rfl (by omega) (Or.inl rfl) rfl (?_ : XW _ _ _ _ _ _ _ 19 _ _)
      refine xi_icmp_ge (by decide +kernel : decode mX7_putLog.2.1 19 = .ok (.if_icmp .ge 10, 3)) (by decide) (fun c => (?_ : XW _ _ _ _ _ _ _ 29 _ _)) (fun c => (?_ : XW _ _ _ _ _ _ _ 22 _ _))
      · replace vc := vc.1 c
        exact xi_vret (by decide +kernel : decode mX7_putLog.2.1 29 = .ok (.return_, 1)) rfl vc
      · replace vc := vc.2 c
        refine xi_aload_n (by decide +kernel : decode mX7_putLog.2.1 22 = .ok (.aload_n 0, 1)) rfl rfl (?_ : XW _ _ _ _ _ _ _ 23 _ _)
        refine xi_getR (y := 36) (by decide +kernel : decode mX7_putLog.2.1 23 = .ok (.getfield 15, 3)) fX7_15 rfl (by omega) rfl hu.2.2.1 (?_ : XW _ _ _ _ _ _ _ 26 _ _)
        refine xi_iload_n (by decide +kernel : decode mX7_putLog.2.1 26 = .ok (.iload_n 3, 1)) rfl rfl (?_ : XW _ _ _ _ _ _ _ 27 _ _)
        refine xi_iload_n (by decide +kernel : decode mX7_putLog.2.1 27 = .ok (.iload_n 2, 1)) rfl rfl (?_ : XW _ _ _ _ _ _ _ 28 _ _)
        obtain ⟨s1, vc⟩ := vc
        refine xi_iast (by decide +kernel : decode mX7_putLog.2.1 28 = .ok (.iastore, 1)) rfl (by omega) s1 (?_ : XW _ _ _ _ _ _ (xSI (36) (va_up (xI h (36)) (((xI h 34 1) * 5) + t).toNatClampNeg v) h) 29 _ _)
        exact xi_vret (by decide +kernel : decode mX7_putLog.2.1 29 = .ok (.return_, 1)) rfl vc

set_option maxRecDepth 20000 in
theorem v_X7_canMove_0 {h : XH} {Q : Option Value → XH → Prop} {X : String → XH → Prop} (n u : Nat) (hu : xSta u (xP h)) (hn : u + 5 ≤ n) 
    (vc : ((xI h u 0) = (-1) → Q (some (.int 0)) h) ∧ (¬ (xI h u 0) = (-1) → (200 ≤ (xI h u 1) → Q (some (.int 0)) h) ∧ (¬ 200 ≤ (xI h u 1) → Q (some (.int 1)) h))) :
    XW (xrm 1 0 0) mX7_canMove (xE n Q X 0 0) n 0 0 h 0 [some (.ref u)] [] := by
  rcases hu.1 with rfl | rfl
  · refine xi_aload_n (by decide +kernel : decode mX7_canMove.2.1 0 = .ok (.aload_n 0, 1)) rfl rfl (?_ : XW _ _ _ _ _ _ _ 1 _ _)
    refine xi_getI (by decide +kernel : decode mX7_canMove.2.1 1 = .ok (.getfield 43, 3)) fX7_43 rfl (by omega) rfl (?_ : XW _ _ _ _ _ _ _ 4 _ _)
    refine xi_iconst (v := (-1)) (by decide +kernel : decode mX7_canMove.2.1 4 = .ok (.iconst (-1), 1)) (by decide) (?_ : XW _ _ _ _ _ _ _ 5 _ _)
    refine xi_icmp_eq (by decide +kernel : decode mX7_canMove.2.1 5 = .ok (.if_icmp .eq 17, 3)) (by decide) (fun c => (?_ : XW _ _ _ _ _ _ _ 22 _ _)) (fun c => (?_ : XW _ _ _ _ _ _ _ 8 _ _))
    · replace vc := vc.1 c
      refine xi_iconst (v := 0) (by decide +kernel : decode mX7_canMove.2.1 22 = .ok (.iconst 0, 1)) (by decide) (?_ : XW _ _ _ _ _ _ _ 23 _ _)
      exact xi_iret (by decide +kernel : decode mX7_canMove.2.1 23 = .ok (.ireturn, 1)) rfl rfl vc
    · replace vc := vc.2 c
      refine xi_aload_n (by decide +kernel : decode mX7_canMove.2.1 8 = .ok (.aload_n 0, 1)) rfl rfl (?_ : XW _ _ _ _ _ _ _ 9 _ _)
      refine xi_getI (by decide +kernel : decode mX7_canMove.2.1 9 = .ok (.getfield 46, 3)) fX7_46 rfl (by omega) rfl (?_ : XW _ _ _ _ _ _ _ 12 _ _)
      refine xi_sipush (v := 200) (by decide +kernel : decode mX7_canMove.2.1 12 = .ok (.sipush 200, 3)) (by decide) (?_ : XW _ _ _ _ _ _ _ 15 _ _)
      refine xi_icmp_ge (by decide +kernel : decode mX7_canMove.2.1 15 = .ok (.if_icmp .ge 7, 3)) (by decide) (fun c => (?_ : XW _ _ _ _ _ _ _ 22 _ _)) (fun c => (?_ : XW _ _ _ _ _ _ _ 18 _ _))
      · replace vc := vc.1 c
        refine xi_iconst (v := 0) (by decide +kernel : decode mX7_canMove.2.1 22 = .ok (.iconst 0, 1)) (by decide) (?_ : XW _ _ _ _ _ _ _ 23 _ _)
        exact xi_iret (by decide +kernel : decode mX7_canMove.2.1 23 = .ok (.ireturn, 1)) rfl rfl vc
      · replace vc := vc.2 c
        refine xi_iconst (v := 1) (by decide +kernel : decode mX7_canMove.2.1 18 = .ok (.iconst 1, 1)) (by decide) (?_ : XW _ _ _ _ _ _ _ 19 _ _)
        refine xi_goto (by decide +kernel : decode mX7_canMove.2.1 19 = .ok (.goto 4, 3)) (by decide) (?_ : XW _ _ _ _ _ _ _ 23 _ _)
        exact xi_iret (by decide +kernel : decode mX7_canMove.2.1 23 = .ok (.ireturn, 1)) rfl rfl vc
  · refine xi_aload_n (by decide +kernel : decode mX7_canMove.2.1 0 = .ok (.aload_n 0, 1)) rfl rfl (?_ : XW _ _ _ _ _ _ _ 1 _ _)
    refine xi_getI (by decide +kernel : decode mX7_canMove.2.1 1 = .ok (.getfield 43, 3)) fX7_43 rfl (by omega) rfl (?_ : XW _ _ _ _ _ _ _ 4 _ _)
    refine xi_iconst (v := (-1)) (by decide +kernel : decode mX7_canMove.2.1 4 = .ok (.iconst (-1), 1)) (by decide) (?_ : XW _ _ _ _ _ _ _ 5 _ _)
    refine xi_icmp_eq (by decide +kernel : decode mX7_canMove.2.1 5 = .ok (.if_icmp .eq 17, 3)) (by decide) (fun c => (?_ : XW _ _ _ _ _ _ _ 22 _ _)) (fun c => (?_ : XW _ _ _ _ _ _ _ 8 _ _))
    · replace vc := vc.1 c
      refine xi_iconst (v := 0) (by decide +kernel : decode mX7_canMove.2.1 22 = .ok (.iconst 0, 1)) (by decide) (?_ : XW _ _ _ _ _ _ _ 23 _ _)
      exact xi_iret (by decide +kernel : decode mX7_canMove.2.1 23 = .ok (.ireturn, 1)) rfl rfl vc
    · replace vc := vc.2 c
      refine xi_aload_n (by decide +kernel : decode mX7_canMove.2.1 8 = .ok (.aload_n 0, 1)) rfl rfl (?_ : XW _ _ _ _ _ _ _ 9 _ _)
      refine xi_getI (by decide +kernel : decode mX7_canMove.2.1 9 = .ok (.getfield 46, 3)) fX7_46 rfl (by omega) rfl (?_ : XW _ _ _ _ _ _ _ 12 _ _)
      refine xi_sipush (v := 200) (by decide +kernel : decode mX7_canMove.2.1 12 = .ok (.sipush 200, 3)) (by decide) (?_ : XW _ _ _ _ _ _ _ 15 _ _)
      refine xi_icmp_ge (by decide +kernel : decode mX7_canMove.2.1 15 = .ok (.if_icmp .ge 7, 3)) (by decide) (fun c => (?_ : XW _ _ _ _ _ _ _ 22 _ _)) (fun c => (?_ : XW _ _ _ _ _ _ _ 18 _ _))
      · replace vc := vc.1 c
        refine xi_iconst (v := 0) (by decide +kernel : decode mX7_canMove.2.1 22 = .ok (.iconst 0, 1)) (by decide) (?_ : XW _ _ _ _ _ _ _ 23 _ _)
        exact xi_iret (by decide +kernel : decode mX7_canMove.2.1 23 = .ok (.ireturn, 1)) rfl rfl vc
      · replace vc := vc.2 c
        refine xi_iconst (v := 1) (by decide +kernel : decode mX7_canMove.2.1 18 = .ok (.iconst 1, 1)) (by decide) (?_ : XW _ _ _ _ _ _ _ 19 _ _)
        refine xi_goto (by decide +kernel : decode mX7_canMove.2.1 19 = .ok (.goto 4, 3)) (by decide) (?_ : XW _ _ _ _ _ _ _ 23 _ _)
        exact xi_iret (by decide +kernel : decode mX7_canMove.2.1 23 = .ok (.ireturn, 1)) rfl rfl vc

set_option maxRecDepth 20000 in
theorem v_X7_putNote_0 {h : XH} {Q : Option Value → XH → Prop} {X : String → XH → Prop} (n u : Nat) (hu : xSta u (xP h)) (hn : u + 5 ≤ n)  (q : Int32)
    (vc : ((xI h u 2) < 0 → Q none h) ∧ (¬ (xI h u 2) < 0 → (40 ≤ (xI h u 2) → Q none h) ∧ (¬ 40 ≤ (xI h u 2) → (vp_in (xI h u 2) 40) ∧ (Q none (xSI u (va_up (xI h u) 2 ((xI h u 2) + 1)) (xSI (u + 3) (va_up (xI h (u + 3)) (xI h u 2).toNatClampNeg q) h)))))) :
    XW (xrm 1 0 0) mX7_putNote (xE n Q X 0 0) n 0 0 h 0 [some (.ref u), some (.int q)] [] := by
  rcases hu.1 with rfl | rfl
  · refine xi_aload_n (by decide +kernel : decode mX7_putNote.2.1 0 = .ok (.aload_n 0, 1)) rfl rfl (?_ : XW _ _ _ _ _ _ _ 1 _ _)
    refine xi_getI (by decide +kernel : decode mX7_putNote.2.1 1 = .ok (.getfield 49, 3)) fX7_49 rfl (by omega) rfl (?_ : XW _ _ _ _ _ _ _ 4 _ _)
    refine xi_if_lt (by decide +kernel : decode mX7_putNote.2.1 4 = .ok (.ifCond .lt 35, 3)) (by decide) (fun c => (?_ : XW _ _ _ _ _ _ _ 39 _ _)) (fun c => (?_ : XW _ _ _ _ _ _ _ 7 _ _))
    · replace vc := vc.1 c
      exact xi_vret (by decide +kernel : decode mX7_putNote.2.1 39 = .ok (.return_, 1)) rfl vc
    · replace vc := vc.2 c
      refine xi_aload_n (by decide +kernel : decode mX7_putNote.2.1 7 = .ok (.aload_n 0, 1)) rfl rfl (?_ : XW _ _ _ _ _ _ _ 8 _ _)
      refine xi_getI (by decide +kernel : decode mX7_putNote.2.1 8 = .ok (.getfield 49, 3)) fX7_49 rfl (by omega) rfl (?_ : XW _ _ _ _ _ _ _ 11 _ _)
      refine xi_aload_n (by decide +kernel : decode mX7_putNote.2.1 11 = .ok (.aload_n 0, 1)) rfl rfl (?_ : XW _ _ _ _ _ _ _ 12 _ _)
      refine xi_getR (y := 32) (by decide +kernel : decode mX7_putNote.2.1 12 = .ok (.getfield 18, 3)) fX7_18 rfl (by omega) rfl hu.2.2.2.1 (?_ : XW _ _ _ _ _ _ _ 15 _ _)
      refine xi_alen (v := 40) (by decide +kernel : decode mX7_putNote.2.1 15 = .ok (.arraylength, 1)) rfl (by omega) (Or.inl rfl) rfl (?_ : XW _ _ _ _ _ _ _ 16 _ _)
      refine xi_icmp_ge (by decide +kernel : decode mX7_putNote.2.1 16 = .ok (.if_icmp .ge 23, 3)) (by decide) (fun c => (?_ : XW _ _ _ _ _ _ _ 39 _ _)) (fun c => (?_ : XW _ _ _ _ _ _ _ 19 _ _))
      · replace vc := vc.1 c
        exact xi_vret (by decide +kernel : decode mX7_putNote.2.1 39 = .ok (.return_, 1)) rfl vc
      · replace vc := vc.2 c
        refine xi_aload_n (by decide +kernel : decode mX7_putNote.2.1 19 = .ok (.aload_n 0, 1)) rfl rfl (?_ : XW _ _ _ _ _ _ _ 20 _ _)
        refine xi_getR (y := 32) (by decide +kernel : decode mX7_putNote.2.1 20 = .ok (.getfield 18, 3)) fX7_18 rfl (by omega) rfl hu.2.2.2.1 (?_ : XW _ _ _ _ _ _ _ 23 _ _)
        refine xi_aload_n (by decide +kernel : decode mX7_putNote.2.1 23 = .ok (.aload_n 0, 1)) rfl rfl (?_ : XW _ _ _ _ _ _ _ 24 _ _)
        refine xi_getI (by decide +kernel : decode mX7_putNote.2.1 24 = .ok (.getfield 49, 3)) fX7_49 rfl (by omega) rfl (?_ : XW _ _ _ _ _ _ _ 27 _ _)
        refine xi_iload_n (by decide +kernel : decode mX7_putNote.2.1 27 = .ok (.iload_n 1, 1)) rfl rfl (?_ : XW _ _ _ _ _ _ _ 28 _ _)
        obtain ⟨s1, vc⟩ := vc
        refine xi_iast (by decide +kernel : decode mX7_putNote.2.1 28 = .ok (.iastore, 1)) rfl (by omega) s1 (?_ : XW _ _ _ _ _ _ (xSI (32) (va_up (xI h (32)) (xI h 29 2).toNatClampNeg q) h) 29 _ _)
        refine xi_aload_n (by decide +kernel : decode mX7_putNote.2.1 29 = .ok (.aload_n 0, 1)) rfl rfl (?_ : XW _ _ _ _ _ _ _ 30 _ _)
        refine xi_dup (by decide +kernel : decode mX7_putNote.2.1 30 = .ok (.dup, 1)) rfl (?_ : XW _ _ _ _ _ _ _ 31 _ _)
        refine xi_getI (by decide +kernel : decode mX7_putNote.2.1 31 = .ok (.getfield 49, 3)) fX7_49 rfl (by omega) rfl (?_ : XW _ _ _ _ _ _ _ 34 _ [.int (xI h 29 2), .ref 29])
        refine xi_iconst (v := 1) (by decide +kernel : decode mX7_putNote.2.1 34 = .ok (.iconst 1, 1)) (by decide) (?_ : XW _ _ _ _ _ _ _ 35 _ _)
        refine xi_iadd (by decide +kernel : decode mX7_putNote.2.1 35 = .ok (.iadd, 1)) (?_ : XW _ _ _ _ _ _ _ 36 _ _)
        refine xi_putI (by decide +kernel : decode mX7_putNote.2.1 36 = .ok (.putfield 49, 3)) fX7_49 rfl (by omega) rfl rfl rfl (?_ : XW _ _ _ _ _ _ (xSI 29 (va_up (xI h 29) 2 ((xI h 29 2) + 1)) (xSI (32) (va_up (xI h (32)) (xI h 29 2).toNatClampNeg q) h)) 39 _ _)
        exact xi_vret (by decide +kernel : decode mX7_putNote.2.1 39 = .ok (.return_, 1)) rfl vc
  · refine xi_aload_n (by decide +kernel : decode mX7_putNote.2.1 0 = .ok (.aload_n 0, 1)) rfl rfl (?_ : XW _ _ _ _ _ _ _ 1 _ _)
    refine xi_getI (by decide +kernel : decode mX7_putNote.2.1 1 = .ok (.getfield 49, 3)) fX7_49 rfl (by omega) rfl (?_ : XW _ _ _ _ _ _ _ 4 _ _)
    refine xi_if_lt (by decide +kernel : decode mX7_putNote.2.1 4 = .ok (.ifCond .lt 35, 3)) (by decide) (fun c => (?_ : XW _ _ _ _ _ _ _ 39 _ _)) (fun c => (?_ : XW _ _ _ _ _ _ _ 7 _ _))
    · replace vc := vc.1 c
      exact xi_vret (by decide +kernel : decode mX7_putNote.2.1 39 = .ok (.return_, 1)) rfl vc
    · replace vc := vc.2 c
      refine xi_aload_n (by decide +kernel : decode mX7_putNote.2.1 7 = .ok (.aload_n 0, 1)) rfl rfl (?_ : XW _ _ _ _ _ _ _ 8 _ _)
      refine xi_getI (by decide +kernel : decode mX7_putNote.2.1 8 = .ok (.getfield 49, 3)) fX7_49 rfl (by omega) rfl (?_ : XW _ _ _ _ _ _ _ 11 _ _)
      refine xi_aload_n (by decide +kernel : decode mX7_putNote.2.1 11 = .ok (.aload_n 0, 1)) rfl rfl (?_ : XW _ _ _ _ _ _ _ 12 _ _)
      refine xi_getR (y := 37) (by decide +kernel : decode mX7_putNote.2.1 12 = .ok (.getfield 18, 3)) fX7_18 rfl (by omega) rfl hu.2.2.2.1 (?_ : XW _ _ _ _ _ _ _ 15 _ _)
      refine xi_alen (v := 40) (by decide +kernel : decode mX7_putNote.2.1 15 = .ok (.arraylength, 1)) rfl (by omega) (Or.inl rfl) rfl (?_ : XW _ _ _ _ _ _ _ 16 _ _)
      refine xi_icmp_ge (by decide +kernel : decode mX7_putNote.2.1 16 = .ok (.if_icmp .ge 23, 3)) (by decide) (fun c => (?_ : XW _ _ _ _ _ _ _ 39 _ _)) (fun c => (?_ : XW _ _ _ _ _ _ _ 19 _ _))
      · replace vc := vc.1 c
        exact xi_vret (by decide +kernel : decode mX7_putNote.2.1 39 = .ok (.return_, 1)) rfl vc
      · replace vc := vc.2 c
        refine xi_aload_n (by decide +kernel : decode mX7_putNote.2.1 19 = .ok (.aload_n 0, 1)) rfl rfl (?_ : XW _ _ _ _ _ _ _ 20 _ _)
        refine xi_getR (y := 37) (by decide +kernel : decode mX7_putNote.2.1 20 = .ok (.getfield 18, 3)) fX7_18 rfl (by omega) rfl hu.2.2.2.1 (?_ : XW _ _ _ _ _ _ _ 23 _ _)
        refine xi_aload_n (by decide +kernel : decode mX7_putNote.2.1 23 = .ok (.aload_n 0, 1)) rfl rfl (?_ : XW _ _ _ _ _ _ _ 24 _ _)
        refine xi_getI (by decide +kernel : decode mX7_putNote.2.1 24 = .ok (.getfield 49, 3)) fX7_49 rfl (by omega) rfl (?_ : XW _ _ _ _ _ _ _ 27 _ _)
        refine xi_iload_n (by decide +kernel : decode mX7_putNote.2.1 27 = .ok (.iload_n 1, 1)) rfl rfl (?_ : XW _ _ _ _ _ _ _ 28 _ _)
        obtain ⟨s1, vc⟩ := vc
        refine xi_iast (by decide +kernel : decode mX7_putNote.2.1 28 = .ok (.iastore, 1)) rfl (by omega) s1 (?_ : XW _ _ _ _ _ _ (xSI (37) (va_up (xI h (37)) (xI h 34 2).toNatClampNeg q) h) 29 _ _)
        refine xi_aload_n (by decide +kernel : decode mX7_putNote.2.1 29 = .ok (.aload_n 0, 1)) rfl rfl (?_ : XW _ _ _ _ _ _ _ 30 _ _)
        refine xi_dup (by decide +kernel : decode mX7_putNote.2.1 30 = .ok (.dup, 1)) rfl (?_ : XW _ _ _ _ _ _ _ 31 _ _)
        refine xi_getI (by decide +kernel : decode mX7_putNote.2.1 31 = .ok (.getfield 49, 3)) fX7_49 rfl (by omega) rfl (?_ : XW _ _ _ _ _ _ _ 34 _ [.int (xI h 34 2), .ref 34])
        refine xi_iconst (v := 1) (by decide +kernel : decode mX7_putNote.2.1 34 = .ok (.iconst 1, 1)) (by decide) (?_ : XW _ _ _ _ _ _ _ 35 _ _)
        refine xi_iadd (by decide +kernel : decode mX7_putNote.2.1 35 = .ok (.iadd, 1)) (?_ : XW _ _ _ _ _ _ _ 36 _ _)
        refine xi_putI (by decide +kernel : decode mX7_putNote.2.1 36 = .ok (.putfield 49, 3)) fX7_49 rfl (by omega) rfl rfl rfl (?_ : XW _ _ _ _ _ _ (xSI 34 (va_up (xI h 34) 2 ((xI h 34 2) + 1)) (xSI (37) (va_up (xI h (37)) (xI h 34 2).toNatClampNeg q) h)) 39 _ _)
        exact xi_vret (by decide +kernel : decode mX7_putNote.2.1 39 = .ok (.return_, 1)) rfl vc

set_option maxRecDepth 20000 in
theorem v_X7_noteOf_0 {h : XH} {Q : Option Value → XH → Prop} {X : String → XH → Prop} (n u : Nat) (hu : xSta u (xP h)) (hn : u + 5 ≤ n)  (i : Int32)
    (vc : (i < 0 → Q (some (.int (-1))) h) ∧ (¬ i < 0 → (40 ≤ i → Q (some (.int (-1))) h) ∧ (¬ 40 ≤ i → (vp_in i 40) ∧ (Q (some (.int (xI h (u + 3) i.toNatClampNeg))) h)))) :
    XW (xrm 1 0 0) mX7_noteOf (xE n Q X 0 0) n 0 0 h 0 [some (.ref u), some (.int i)] [] := by
  rcases hu.1 with rfl | rfl
  · refine xi_iload_n (by decide +kernel : decode mX7_noteOf.2.1 0 = .ok (.iload_n 1, 1)) rfl rfl (?_ : XW _ _ _ _ _ _ _ 1 _ _)
    refine xi_if_lt (by decide +kernel : decode mX7_noteOf.2.1 1 = .ok (.ifCond .lt 21, 3)) (by decide) (fun c => (?_ : XW _ _ _ _ _ _ _ 22 _ _)) (fun c => (?_ : XW _ _ _ _ _ _ _ 4 _ _))
    · replace vc := vc.1 c
      refine xi_iconst (v := (-1)) (by decide +kernel : decode mX7_noteOf.2.1 22 = .ok (.iconst (-1), 1)) (by decide) (?_ : XW _ _ _ _ _ _ _ 23 _ _)
      exact xi_iret (by decide +kernel : decode mX7_noteOf.2.1 23 = .ok (.ireturn, 1)) rfl rfl vc
    · replace vc := vc.2 c
      refine xi_iload_n (by decide +kernel : decode mX7_noteOf.2.1 4 = .ok (.iload_n 1, 1)) rfl rfl (?_ : XW _ _ _ _ _ _ _ 5 _ _)
      refine xi_aload_n (by decide +kernel : decode mX7_noteOf.2.1 5 = .ok (.aload_n 0, 1)) rfl rfl (?_ : XW _ _ _ _ _ _ _ 6 _ _)
      refine xi_getR (y := 32) (by decide +kernel : decode mX7_noteOf.2.1 6 = .ok (.getfield 18, 3)) fX7_18 rfl (by omega) rfl hu.2.2.2.1 (?_ : XW _ _ _ _ _ _ _ 9 _ _)
      refine xi_alen (v := 40) (by decide +kernel : decode mX7_noteOf.2.1 9 = .ok (.arraylength, 1)) rfl (by omega) (Or.inl rfl) rfl (?_ : XW _ _ _ _ _ _ _ 10 _ _)
      refine xi_icmp_ge (by decide +kernel : decode mX7_noteOf.2.1 10 = .ok (.if_icmp .ge 12, 3)) (by decide) (fun c => (?_ : XW _ _ _ _ _ _ _ 22 _ _)) (fun c => (?_ : XW _ _ _ _ _ _ _ 13 _ _))
      · replace vc := vc.1 c
        refine xi_iconst (v := (-1)) (by decide +kernel : decode mX7_noteOf.2.1 22 = .ok (.iconst (-1), 1)) (by decide) (?_ : XW _ _ _ _ _ _ _ 23 _ _)
        exact xi_iret (by decide +kernel : decode mX7_noteOf.2.1 23 = .ok (.ireturn, 1)) rfl rfl vc
      · replace vc := vc.2 c
        refine xi_aload_n (by decide +kernel : decode mX7_noteOf.2.1 13 = .ok (.aload_n 0, 1)) rfl rfl (?_ : XW _ _ _ _ _ _ _ 14 _ _)
        refine xi_getR (y := 32) (by decide +kernel : decode mX7_noteOf.2.1 14 = .ok (.getfield 18, 3)) fX7_18 rfl (by omega) rfl hu.2.2.2.1 (?_ : XW _ _ _ _ _ _ _ 17 _ _)
        refine xi_iload_n (by decide +kernel : decode mX7_noteOf.2.1 17 = .ok (.iload_n 1, 1)) rfl rfl (?_ : XW _ _ _ _ _ _ _ 18 _ _)
        obtain ⟨s1, vc⟩ := vc
        refine xi_iald (by decide +kernel : decode mX7_noteOf.2.1 18 = .ok (.iaload, 1)) rfl (by omega) s1 (?_ : XW _ _ _ _ _ _ _ 19 _ _)
        refine xi_goto (by decide +kernel : decode mX7_noteOf.2.1 19 = .ok (.goto 4, 3)) (by decide) (?_ : XW _ _ _ _ _ _ _ 23 _ _)
        exact xi_iret (by decide +kernel : decode mX7_noteOf.2.1 23 = .ok (.ireturn, 1)) rfl rfl vc
  · refine xi_iload_n (by decide +kernel : decode mX7_noteOf.2.1 0 = .ok (.iload_n 1, 1)) rfl rfl (?_ : XW _ _ _ _ _ _ _ 1 _ _)
    refine xi_if_lt (by decide +kernel : decode mX7_noteOf.2.1 1 = .ok (.ifCond .lt 21, 3)) (by decide) (fun c => (?_ : XW _ _ _ _ _ _ _ 22 _ _)) (fun c => (?_ : XW _ _ _ _ _ _ _ 4 _ _))
    · replace vc := vc.1 c
      refine xi_iconst (v := (-1)) (by decide +kernel : decode mX7_noteOf.2.1 22 = .ok (.iconst (-1), 1)) (by decide) (?_ : XW _ _ _ _ _ _ _ 23 _ _)
      exact xi_iret (by decide +kernel : decode mX7_noteOf.2.1 23 = .ok (.ireturn, 1)) rfl rfl vc
    · replace vc := vc.2 c
      refine xi_iload_n (by decide +kernel : decode mX7_noteOf.2.1 4 = .ok (.iload_n 1, 1)) rfl rfl (?_ : XW _ _ _ _ _ _ _ 5 _ _)
      refine xi_aload_n (by decide +kernel : decode mX7_noteOf.2.1 5 = .ok (.aload_n 0, 1)) rfl rfl (?_ : XW _ _ _ _ _ _ _ 6 _ _)
      refine xi_getR (y := 37) (by decide +kernel : decode mX7_noteOf.2.1 6 = .ok (.getfield 18, 3)) fX7_18 rfl (by omega) rfl hu.2.2.2.1 (?_ : XW _ _ _ _ _ _ _ 9 _ _)
      refine xi_alen (v := 40) (by decide +kernel : decode mX7_noteOf.2.1 9 = .ok (.arraylength, 1)) rfl (by omega) (Or.inl rfl) rfl (?_ : XW _ _ _ _ _ _ _ 10 _ _)
      refine xi_icmp_ge (by decide +kernel : decode mX7_noteOf.2.1 10 = .ok (.if_icmp .ge 12, 3)) (by decide) (fun c => (?_ : XW _ _ _ _ _ _ _ 22 _ _)) (fun c => (?_ : XW _ _ _ _ _ _ _ 13 _ _))
      · replace vc := vc.1 c
        refine xi_iconst (v := (-1)) (by decide +kernel : decode mX7_noteOf.2.1 22 = .ok (.iconst (-1), 1)) (by decide) (?_ : XW _ _ _ _ _ _ _ 23 _ _)
        exact xi_iret (by decide +kernel : decode mX7_noteOf.2.1 23 = .ok (.ireturn, 1)) rfl rfl vc
      · replace vc := vc.2 c
        refine xi_aload_n (by decide +kernel : decode mX7_noteOf.2.1 13 = .ok (.aload_n 0, 1)) rfl rfl (?_ : XW _ _ _ _ _ _ _ 14 _ _)
        refine xi_getR (y := 37) (by decide +kernel : decode mX7_noteOf.2.1 14 = .ok (.getfield 18, 3)) fX7_18 rfl (by omega) rfl hu.2.2.2.1 (?_ : XW _ _ _ _ _ _ _ 17 _ _)
        refine xi_iload_n (by decide +kernel : decode mX7_noteOf.2.1 17 = .ok (.iload_n 1, 1)) rfl rfl (?_ : XW _ _ _ _ _ _ _ 18 _ _)
        obtain ⟨s1, vc⟩ := vc
        refine xi_iald (by decide +kernel : decode mX7_noteOf.2.1 18 = .ok (.iaload, 1)) rfl (by omega) s1 (?_ : XW _ _ _ _ _ _ _ 19 _ _)
        refine xi_goto (by decide +kernel : decode mX7_noteOf.2.1 19 = .ok (.goto 4, 3)) (by decide) (?_ : XW _ _ _ _ _ _ _ 23 _ _)
        exact xi_iret (by decide +kernel : decode mX7_noteOf.2.1 23 = .ok (.ireturn, 1)) rfl rfl vc
