/-! DRAW: the walks -/
set_option maxRecDepth 20000 in
theorem v_X0_clear_0 {h : XH} {Q : Option Value → XH → Prop} {X : String → XH → Prop} (f : Nat) (hf : xFor f (xP h)) (hn : f + 4 ≤ 100) 
    (vc : ∃ Q1, XSpec mX0_add 1 0 0 100 100 [.ref f, .int (-1)] (xSI f (va_up (va_up (va_up (xI h f) 0 0) 1 0) 3 0) (xSI f (va_up (va_up (xI h f) 0 0) 1 0) (xSI f (va_up (xI h f) 0 0) h))) Q1 xno ∧ ∀ v h1, Q1 v h1 → v = none ∧ (Q none h1)) :
    XW (xrm 2 0 0) mX0_clear (xE 100 Q X 0 0) 100 0 0 h 0 [some (.ref f)] [] := by
  rcases hf.1 with rfl | rfl
  · refine xi_aload_n (by decide +kernel : decode mX0_clear.2.1 0 = .ok (.aload_n 0, 1)) rfl rfl (?_ : XW _ _ _ _ _ _ _ 1 _ _)
    refine xi_iconst (v := 0) (by decide +kernel : decode mX0_clear.2.1 1 = .ok (.iconst 0, 1)) (by decide) (?_ : XW _ _ _ _ _ _ _ 2 _ _)
    refine xi_putI (by decide +kernel : decode mX0_clear.2.1 2 = .ok (.putfield 22, 3)) fX0_22 rfl (by omega) rfl rfl rfl (?_ : XW _ _ _ _ _ _ (xSI 3 (va_up (xI h 3) 0 0) h) 5 _ _)
    refine xi_aload_n (by decide +kernel : decode mX0_clear.2.1 5 = .ok (.aload_n 0, 1)) rfl rfl (?_ : XW _ _ _ _ _ _ _ 6 _ _)
    refine xi_iconst (v := 0) (by decide +kernel : decode mX0_clear.2.1 6 = .ok (.iconst 0, 1)) (by decide) (?_ : XW _ _ _ _ _ _ _ 7 _ _)
    refine xi_putI (by decide +kernel : decode mX0_clear.2.1 7 = .ok (.putfield 26, 3)) fX0_26 rfl (by omega) rfl rfl rfl (?_ : XW _ _ _ _ _ _ (xSI 3 (va_up (va_up (xI h 3) 0 0) 1 0) (xSI 3 (va_up (xI h 3) 0 0) h)) 10 _ _)
    refine xi_aload_n (by decide +kernel : decode mX0_clear.2.1 10 = .ok (.aload_n 0, 1)) rfl rfl (?_ : XW _ _ _ _ _ _ _ 11 _ _)
    refine xi_iconst (v := 0) (by decide +kernel : decode mX0_clear.2.1 11 = .ok (.iconst 0, 1)) (by decide) (?_ : XW _ _ _ _ _ _ _ 12 _ _)
    refine xi_putI (by decide +kernel : decode mX0_clear.2.1 12 = .ok (.putfield 30, 3)) fX0_30 rfl (by omega) rfl rfl rfl (?_ : XW _ _ _ _ _ _ (xSI 3 (va_up (va_up (va_up (xI h 3) 0 0) 1 0) 3 0) (xSI 3 (va_up (va_up (xI h 3) 0 0) 1 0) (xSI 3 (va_up (xI h 3) 0 0) h))) 15 _ _)
    refine xi_aload_n (by decide +kernel : decode mX0_clear.2.1 15 = .ok (.aload_n 0, 1)) rfl rfl (?_ : XW _ _ _ _ _ _ _ 16 _ _)
    refine xi_iconst (v := (-1)) (by decide +kernel : decode mX0_clear.2.1 16 = .ok (.iconst (-1), 1)) (by decide) (?_ : XW _ _ _ _ _ _ _ 17 _ _)
    obtain ⟨Q1, sp, vc⟩ := vc
    refine xi_callV (b := 0) (bs := 0) (As := [.int (-1)]) (st := []) (by decide +kernel : decode mX0_clear.2.1 17 = .ok (.invokevirtual 33, 3)) kX0_33 rfl rfl (by omega) rfl sp (by decide) (by decide) (Nat.le_of_ble_eq_true rfl) (by omega) (fun v9 h1 hq9 => ?_)
    obtain ⟨e9, vc⟩ := vc v9 h1 hq9
    subst e9
    show XW _ _ _ _ _ _ _ 20 _ []
    exact xi_vret (by decide +kernel : decode mX0_clear.2.1 20 = .ok (.return_, 1)) rfl vc
  · refine xi_aload_n (by decide +kernel : decode mX0_clear.2.1 0 = .ok (.aload_n 0, 1)) rfl rfl (?_ : XW _ _ _ _ _ _ _ 1 _ _)
    refine xi_iconst (v := 0) (by decide +kernel : decode mX0_clear.2.1 1 = .ok (.iconst 0, 1)) (by decide) (?_ : XW _ _ _ _ _ _ _ 2 _ _)
    refine xi_putI (by decide +kernel : decode mX0_clear.2.1 2 = .ok (.putfield 22, 3)) fX0_22 rfl (by omega) rfl rfl rfl (?_ : XW _ _ _ _ _ _ (xSI 13 (va_up (xI h 13) 0 0) h) 5 _ _)
    refine xi_aload_n (by decide +kernel : decode mX0_clear.2.1 5 = .ok (.aload_n 0, 1)) rfl rfl (?_ : XW _ _ _ _ _ _ _ 6 _ _)
    refine xi_iconst (v := 0) (by decide +kernel : decode mX0_clear.2.1 6 = .ok (.iconst 0, 1)) (by decide) (?_ : XW _ _ _ _ _ _ _ 7 _ _)
    refine xi_putI (by decide +kernel : decode mX0_clear.2.1 7 = .ok (.putfield 26, 3)) fX0_26 rfl (by omega) rfl rfl rfl (?_ : XW _ _ _ _ _ _ (xSI 13 (va_up (va_up (xI h 13) 0 0) 1 0) (xSI 13 (va_up (xI h 13) 0 0) h)) 10 _ _)
    refine xi_aload_n (by decide +kernel : decode mX0_clear.2.1 10 = .ok (.aload_n 0, 1)) rfl rfl (?_ : XW _ _ _ _ _ _ _ 11 _ _)
    refine xi_iconst (v := 0) (by decide +kernel : decode mX0_clear.2.1 11 = .ok (.iconst 0, 1)) (by decide) (?_ : XW _ _ _ _ _ _ _ 12 _ _)
    refine xi_putI (by decide +kernel : decode mX0_clear.2.1 12 = .ok (.putfield 30, 3)) fX0_30 rfl (by omega) rfl rfl rfl (?_ : XW _ _ _ _ _ _ (xSI 13 (va_up (va_up (va_up (xI h 13) 0 0) 1 0) 3 0) (xSI 13 (va_up (va_up (xI h 13) 0 0) 1 0) (xSI 13 (va_up (xI h 13) 0 0) h))) 15 _ _)
    refine xi_aload_n (by decide +kernel : decode mX0_clear.2.1 15 = .ok (.aload_n 0, 1)) rfl rfl (?_ : XW _ _ _ _ _ _ _ 16 _ _)
    refine xi_iconst (v := (-1)) (by decide +kernel : decode mX0_clear.2.1 16 = .ok (.iconst (-1), 1)) (by decide) (?_ : XW _ _ _ _ _ _ _ 17 _ _)
    obtain ⟨Q1, sp, vc⟩ := vc
    refine xi_callV (b := 0) (bs := 0) (As := [.int (-1)]) (st := []) (by decide +kernel : decode mX0_clear.2.1 17 = .ok (.invokevirtual 33, 3)) kX0_33 rfl rfl (by omega) rfl sp (by decide) (by decide) (Nat.le_of_ble_eq_true rfl) (by omega) (fun v9 h1 hq9 => ?_)
    obtain ⟨e9, vc⟩ := vc v9 h1 hq9
    subst e9
    show XW _ _ _ _ _ _ _ 20 _ []
    exact xi_vret (by decide +kernel : decode mX0_clear.2.1 20 = .ok (.return_, 1)) rfl vc

set_option maxRecDepth 20000 in
theorem v_X5_clearButDie_0 {h : XH} {Q : Option Value → XH → Prop} {X : String → XH → Prop} (r : Nat) (hr : xRul r (xP h)) (hnr : r + 9 ≤ 100) 
    (vc : XW (xrm 3 0 0) mX5_clearButDie (xE 100 Q X 0 0) 100 0 0 (xSI r (va_up (va_up (va_up (va_up (va_up (va_up (xI h r) 0 36) 3 0) 4 0) 5 0) 6 2) 7 0) (xSI r (va_up (va_up (va_up (va_up (va_up (xI h r) 0 36) 3 0) 4 0) 5 0) 6 2) (xSI r (va_up (va_up (va_up (va_up (xI h r) 0 36) 3 0) 4 0) 5 0) (xSI r (va_up (va_up (va_up (xI h r) 0 36) 3 0) 4 0) (xSI r (va_up (va_up (xI h r) 0 36) 3 0) (xSI r (va_up (xI h r) 0 36) h)))))) 33 [some (.ref r), some (.int 0)] []) :
    XW (xrm 3 0 0) mX5_clearButDie (xE 100 Q X 0 0) 100 0 0 h 0 [some (.ref r), none] [] := by
  rcases hr.1 with rfl | rfl
  · refine xi_aload_n (by decide +kernel : decode mX5_clearButDie.2.1 0 = .ok (.aload_n 0, 1)) rfl rfl (?_ : XW _ _ _ _ _ _ _ 1 _ _)
    refine xi_bipush (v := 36) (by decide +kernel : decode mX5_clearButDie.2.1 1 = .ok (.bipush 36, 2)) (by decide) (?_ : XW _ _ _ _ _ _ _ 3 _ _)
    refine xi_putI (by decide +kernel : decode mX5_clearButDie.2.1 3 = .ok (.putfield 45, 3)) fX5_45 (xRul_s0 hr) (by omega) rfl rfl rfl (?_ : XW _ _ _ _ _ _ (xSI 2 (va_up (xI h 2) 0 36) h) 6 _ _)
    refine xi_aload_n (by decide +kernel : decode mX5_clearButDie.2.1 6 = .ok (.aload_n 0, 1)) rfl rfl (?_ : XW _ _ _ _ _ _ _ 7 _ _)
    refine xi_iconst (v := 0) (by decide +kernel : decode mX5_clearButDie.2.1 7 = .ok (.iconst 0, 1)) (by decide) (?_ : XW _ _ _ _ _ _ _ 8 _ _)
    refine xi_putI (by decide +kernel : decode mX5_clearButDie.2.1 8 = .ok (.putfield 49, 3)) fX5_49 (xRul_s0 hr) (by omega) rfl rfl rfl (?_ : XW _ _ _ _ _ _ (xSI 2 (va_up (va_up (xI h 2) 0 36) 3 0) (xSI 2 (va_up (xI h 2) 0 36) h)) 11 _ _)
    refine xi_aload_n (by decide +kernel : decode mX5_clearButDie.2.1 11 = .ok (.aload_n 0, 1)) rfl rfl (?_ : XW _ _ _ _ _ _ _ 12 _ _)
    refine xi_iconst (v := 0) (by decide +kernel : decode mX5_clearButDie.2.1 12 = .ok (.iconst 0, 1)) (by decide) (?_ : XW _ _ _ _ _ _ _ 13 _ _)
    refine xi_putI (by decide +kernel : decode mX5_clearButDie.2.1 13 = .ok (.putfield 52, 3)) fX5_52 (xRul_s0 hr) (by omega) rfl rfl rfl (?_ : XW _ _ _ _ _ _ (xSI 2 (va_up (va_up (va_up (xI h 2) 0 36) 3 0) 4 0) (xSI 2 (va_up (va_up (xI h 2) 0 36) 3 0) (xSI 2 (va_up (xI h 2) 0 36) h))) 16 _ _)
    refine xi_aload_n (by decide +kernel : decode mX5_clearButDie.2.1 16 = .ok (.aload_n 0, 1)) rfl rfl (?_ : XW _ _ _ _ _ _ _ 17 _ _)
    refine xi_iconst (v := 0) (by decide +kernel : decode mX5_clearButDie.2.1 17 = .ok (.iconst 0, 1)) (by decide) (?_ : XW _ _ _ _ _ _ _ 18 _ _)
    refine xi_putI (by decide +kernel : decode mX5_clearButDie.2.1 18 = .ok (.putfield 55, 3)) fX5_55 (xRul_s0 hr) (by omega) rfl rfl rfl (?_ : XW _ _ _ _ _ _ (xSI 2 (va_up (va_up (va_up (va_up (xI h 2) 0 36) 3 0) 4 0) 5 0) (xSI 2 (va_up (va_up (va_up (xI h 2) 0 36) 3 0) 4 0) (xSI 2 (va_up (va_up (xI h 2) 0 36) 3 0) (xSI 2 (va_up (xI h 2) 0 36) h)))) 21 _ _)
    refine xi_aload_n (by decide +kernel : decode mX5_clearButDie.2.1 21 = .ok (.aload_n 0, 1)) rfl rfl (?_ : XW _ _ _ _ _ _ _ 22 _ _)
    refine xi_iconst (v := 2) (by decide +kernel : decode mX5_clearButDie.2.1 22 = .ok (.iconst 2, 1)) (by decide) (?_ : XW _ _ _ _ _ _ _ 23 _ _)
    refine xi_putI (by decide +kernel : decode mX5_clearButDie.2.1 23 = .ok (.putfield 59, 3)) fX5_59 (xRul_s0 hr) (by omega) rfl rfl rfl (?_ : XW _ _ _ _ _ _ (xSI 2 (va_up (va_up (va_up (va_up (va_up (xI h 2) 0 36) 3 0) 4 0) 5 0) 6 2) (xSI 2 (va_up (va_up (va_up (va_up (xI h 2) 0 36) 3 0) 4 0) 5 0) (xSI 2 (va_up (va_up (va_up (xI h 2) 0 36) 3 0) 4 0) (xSI 2 (va_up (va_up (xI h 2) 0 36) 3 0) (xSI 2 (va_up (xI h 2) 0 36) h))))) 26 _ _)
    refine xi_aload_n (by decide +kernel : decode mX5_clearButDie.2.1 26 = .ok (.aload_n 0, 1)) rfl rfl (?_ : XW _ _ _ _ _ _ _ 27 _ _)
    refine xi_iconst (v := 0) (by decide +kernel : decode mX5_clearButDie.2.1 27 = .ok (.iconst 0, 1)) (by decide) (?_ : XW _ _ _ _ _ _ _ 28 _ _)
    refine xi_putI (by decide +kernel : decode mX5_clearButDie.2.1 28 = .ok (.putfield 62, 3)) fX5_62 (xRul_s0 hr) (by omega) rfl rfl rfl (?_ : XW _ _ _ _ _ _ (xSI 2 (va_up (va_up (va_up (va_up (va_up (va_up (xI h 2) 0 36) 3 0) 4 0) 5 0) 6 2) 7 0) (xSI 2 (va_up (va_up (va_up (va_up (va_up (xI h 2) 0 36) 3 0) 4 0) 5 0) 6 2) (xSI 2 (va_up (va_up (va_up (va_up (xI h 2) 0 36) 3 0) 4 0) 5 0) (xSI 2 (va_up (va_up (va_up (xI h 2) 0 36) 3 0) 4 0) (xSI 2 (va_up (va_up (xI h 2) 0 36) 3 0) (xSI 2 (va_up (xI h 2) 0 36) h)))))) 31 _ _)
    refine xi_iconst (v := 0) (by decide +kernel : decode mX5_clearButDie.2.1 31 = .ok (.iconst 0, 1)) (by decide) (?_ : XW _ _ _ _ _ _ _ 32 _ _)
    refine xi_istore_n (ls' := [some (.ref 2), some (.int 0)]) (by decide +kernel : decode mX5_clearButDie.2.1 32 = .ok (.istore_n 1, 1)) rfl (by decide) rfl (?_ : XW _ _ _ _ _ _ _ 33 _ _)
    exact vc
  · refine xi_aload_n (by decide +kernel : decode mX5_clearButDie.2.1 0 = .ok (.aload_n 0, 1)) rfl rfl (?_ : XW _ _ _ _ _ _ _ 1 _ _)
    refine xi_bipush (v := 36) (by decide +kernel : decode mX5_clearButDie.2.1 1 = .ok (.bipush 36, 2)) (by decide) (?_ : XW _ _ _ _ _ _ _ 3 _ _)
    refine xi_putI (by decide +kernel : decode mX5_clearButDie.2.1 3 = .ok (.putfield 45, 3)) fX5_45 (xRul_s0 hr) (by omega) rfl rfl rfl (?_ : XW _ _ _ _ _ _ (xSI 12 (va_up (xI h 12) 0 36) h) 6 _ _)
    refine xi_aload_n (by decide +kernel : decode mX5_clearButDie.2.1 6 = .ok (.aload_n 0, 1)) rfl rfl (?_ : XW _ _ _ _ _ _ _ 7 _ _)
    refine xi_iconst (v := 0) (by decide +kernel : decode mX5_clearButDie.2.1 7 = .ok (.iconst 0, 1)) (by decide) (?_ : XW _ _ _ _ _ _ _ 8 _ _)
    refine xi_putI (by decide +kernel : decode mX5_clearButDie.2.1 8 = .ok (.putfield 49, 3)) fX5_49 (xRul_s0 hr) (by omega) rfl rfl rfl (?_ : XW _ _ _ _ _ _ (xSI 12 (va_up (va_up (xI h 12) 0 36) 3 0) (xSI 12 (va_up (xI h 12) 0 36) h)) 11 _ _)
    refine xi_aload_n (by decide +kernel : decode mX5_clearButDie.2.1 11 = .ok (.aload_n 0, 1)) rfl rfl (?_ : XW _ _ _ _ _ _ _ 12 _ _)
    refine xi_iconst (v := 0) (by decide +kernel : decode mX5_clearButDie.2.1 12 = .ok (.iconst 0, 1)) (by decide) (?_ : XW _ _ _ _ _ _ _ 13 _ _)
    refine xi_putI (by decide +kernel : decode mX5_clearButDie.2.1 13 = .ok (.putfield 52, 3)) fX5_52 (xRul_s0 hr) (by omega) rfl rfl rfl (?_ : XW _ _ _ _ _ _ (xSI 12 (va_up (va_up (va_up (xI h 12) 0 36) 3 0) 4 0) (xSI 12 (va_up (va_up (xI h 12) 0 36) 3 0) (xSI 12 (va_up (xI h 12) 0 36) h))) 16 _ _)
    refine xi_aload_n (by decide +kernel : decode mX5_clearButDie.2.1 16 = .ok (.aload_n 0, 1)) rfl rfl (?_ : XW _ _ _ _ _ _ _ 17 _ _)
    refine xi_iconst (v := 0) (by decide +kernel : decode mX5_clearButDie.2.1 17 = .ok (.iconst 0, 1)) (by decide) (?_ : XW _ _ _ _ _ _ _ 18 _ _)
    refine xi_putI (by decide +kernel : decode mX5_clearButDie.2.1 18 = .ok (.putfield 55, 3)) fX5_55 (xRul_s0 hr) (by omega) rfl rfl rfl (?_ : XW _ _ _ _ _ _ (xSI 12 (va_up (va_up (va_up (va_up (xI h 12) 0 36) 3 0) 4 0) 5 0) (xSI 12 (va_up (va_up (va_up (xI h 12) 0 36) 3 0) 4 0) (xSI 12 (va_up (va_up (xI h 12) 0 36) 3 0) (xSI 12 (va_up (xI h 12) 0 36) h)))) 21 _ _)
    refine xi_aload_n (by decide +kernel : decode mX5_clearButDie.2.1 21 = .ok (.aload_n 0, 1)) rfl rfl (?_ : XW _ _ _ _ _ _ _ 22 _ _)
    refine xi_iconst (v := 2) (by decide +kernel : decode mX5_clearButDie.2.1 22 = .ok (.iconst 2, 1)) (by decide) (?_ : XW _ _ _ _ _ _ _ 23 _ _)
    refine xi_putI (by decide +kernel : decode mX5_clearButDie.2.1 23 = .ok (.putfield 59, 3)) fX5_59 (xRul_s0 hr) (by omega) rfl rfl rfl (?_ : XW _ _ _ _ _ _ (xSI 12 (va_up (va_up (va_up (va_up (va_up (xI h 12) 0 36) 3 0) 4 0) 5 0) 6 2) (xSI 12 (va_up (va_up (va_up (va_up (xI h 12) 0 36) 3 0) 4 0) 5 0) (xSI 12 (va_up (va_up (va_up (xI h 12) 0 36) 3 0) 4 0) (xSI 12 (va_up (va_up (xI h 12) 0 36) 3 0) (xSI 12 (va_up (xI h 12) 0 36) h))))) 26 _ _)
    refine xi_aload_n (by decide +kernel : decode mX5_clearButDie.2.1 26 = .ok (.aload_n 0, 1)) rfl rfl (?_ : XW _ _ _ _ _ _ _ 27 _ _)
    refine xi_iconst (v := 0) (by decide +kernel : decode mX5_clearButDie.2.1 27 = .ok (.iconst 0, 1)) (by decide) (?_ : XW _ _ _ _ _ _ _ 28 _ _)
    refine xi_putI (by decide +kernel : decode mX5_clearButDie.2.1 28 = .ok (.putfield 62, 3)) fX5_62 (xRul_s0 hr) (by omega) rfl rfl rfl (?_ : XW _ _ _ _ _ _ (xSI 12 (va_up (va_up (va_up (va_up (va_up (va_up (xI h 12) 0 36) 3 0) 4 0) 5 0) 6 2) 7 0) (xSI 12 (va_up (va_up (va_up (va_up (va_up (xI h 12) 0 36) 3 0) 4 0) 5 0) 6 2) (xSI 12 (va_up (va_up (va_up (va_up (xI h 12) 0 36) 3 0) 4 0) 5 0) (xSI 12 (va_up (va_up (va_up (xI h 12) 0 36) 3 0) 4 0) (xSI 12 (va_up (va_up (xI h 12) 0 36) 3 0) (xSI 12 (va_up (xI h 12) 0 36) h)))))) 31 _ _)
    refine xi_iconst (v := 0) (by decide +kernel : decode mX5_clearButDie.2.1 31 = .ok (.iconst 0, 1)) (by decide) (?_ : XW _ _ _ _ _ _ _ 32 _ _)
    refine xi_istore_n (ls' := [some (.ref 12), some (.int 0)]) (by decide +kernel : decode mX5_clearButDie.2.1 32 = .ok (.istore_n 1, 1)) rfl (by decide) rfl (?_ : XW _ _ _ _ _ _ _ 33 _ _)
    exact vc

set_option maxRecDepth 20000 in
theorem v_X5_clearButDie_33 {h : XH} {Q : Option Value → XH → Prop} {X : String → XH → Prop} (r : Nat) (hr : xRul r (xP h)) (hnr : r + 9 ≤ 100)  (x1 : Int32)
    (vc : (101 ≤ x1 → ∃ Q1, XSpec mX0_clear 2 0 0 100 100 [.ref (r + 1)] h Q1 xno ∧ ∀ v h1, Q1 v h1 → v = none ∧ (Q none h1)) ∧ (¬ 101 ≤ x1 → (vp_in x1 101) ∧ (XW (xrm 3 0 0) mX5_clearButDie (xE 100 Q X 0 0) 100 0 0 (xSI (r + 8) (va_up (xI h (r + 8)) x1.toNatClampNeg (vp_nar .boolean 0)) h) 33 [some (.ref r), some (.int (x1 + 1))] []))) :
    XW (xrm 3 0 0) mX5_clearButDie (xE 100 Q X 0 0) 100 0 0 h 33 [some (.ref r), some (.int x1)] [] := by
  rcases hr.1 with rfl | rfl
  · refine xi_iload_n (by decide +kernel : decode mX5_clearButDie.2.1 33 = .ok (.iload_n 1, 1)) rfl rfl (?_ : XW _ _ _ _ _ _ _ 34 _ _)
    refine xi_aload_n (by decide +kernel : decode mX5_clearButDie.2.1 34 = .ok (.aload_n 0, 1)) rfl rfl (?_ : XW _ _ _ _ _ _ _ 35 _ _)
    refine xi_getR (y := 10) (by decide +kernel : decode mX5_clearButDie.2.1 35 = .ok (.getfield 28, 3)) fX5_28 (xRul_s0 hr) (by omega) rfl hr.2.2.2.2.2.1 (?_ : XW _ _ _ _ _ _ _ 38 _ _)
    refine xi_alen (v := 101) (by decide +kernel : decode mX5_clearButDie.2.1 38 = .ok (.arraylength, 1)) (xRul_s8 hr) (by omega) (Or.inl rfl) rfl (?_ : XW _ _ _ _ _ _ _ 39 _ _)
    refine xi_icmp_ge (by decide +kernel : decode mX5_clearButDie.2.1 39 = .ok (.if_icmp .ge 16, 3)) (by decide) (fun c => (?_ : XW _ _ _ _ _ _ _ 55 _ _)) (fun c => (?_ : XW _ _ _ _ _ _ _ 42 _ _))
    · replace vc := vc.1 c
      refine xi_aload_n (by decide +kernel : decode mX5_clearButDie.2.1 55 = .ok (.aload_n 0, 1)) rfl rfl (?_ : XW _ _ _ _ _ _ _ 56 _ _)
      refine xi_getR (y := 3) (by decide +kernel : decode mX5_clearButDie.2.1 56 = .ok (.getfield 12, 3)) fX5_12 (xRul_s0 hr) (by omega) rfl hr.2.1 (?_ : XW _ _ _ _ _ _ _ 59 _ _)
      obtain ⟨Q1, sp, vc⟩ := vc
      refine xi_callV (b := 0) (bs := 0) (As := []) (st := []) (by decide +kernel : decode mX5_clearButDie.2.1 59 = .ok (.invokevirtual 65, 3)) kX5_65 rfl (xRul_s1 hr) (by omega) rfl sp (by decide) (by decide) (Nat.le_of_ble_eq_true rfl) (by omega) (fun v9 h1 hq9 => ?_)
      obtain ⟨e9, vc⟩ := vc v9 h1 hq9
      subst e9
      show XW _ _ _ _ _ _ _ 62 _ []
      exact xi_vret (by decide +kernel : decode mX5_clearButDie.2.1 62 = .ok (.return_, 1)) rfl vc
    · replace vc := vc.2 c
      refine xi_aload_n (by decide +kernel : decode mX5_clearButDie.2.1 42 = .ok (.aload_n 0, 1)) rfl rfl (?_ : XW _ _ _ _ _ _ _ 43 _ _)
      refine xi_getR (y := 10) (by decide +kernel : decode mX5_clearButDie.2.1 43 = .ok (.getfield 28, 3)) fX5_28 (xRul_s0 hr) (by omega) rfl hr.2.2.2.2.2.1 (?_ : XW _ _ _ _ _ _ _ 46 _ _)
      refine xi_iload_n (by decide +kernel : decode mX5_clearButDie.2.1 46 = .ok (.iload_n 1, 1)) rfl rfl (?_ : XW _ _ _ _ _ _ _ 47 _ _)
      refine xi_iconst (v := 0) (by decide +kernel : decode mX5_clearButDie.2.1 47 = .ok (.iconst 0, 1)) (by decide) (?_ : XW _ _ _ _ _ _ _ 48 _ _)
      obtain ⟨s1, vc⟩ := vc
      refine xi_zast (by decide +kernel : decode mX5_clearButDie.2.1 48 = .ok (.bastore, 1)) (xRul_s8 hr) (by omega) s1 (?_ : XW _ _ _ _ _ _ (xSI (10) (va_up (xI h (10)) x1.toNatClampNeg (vp_nar .boolean 0)) h) 49 _ _)
      refine xi_iinc (v := x1 + 1) (ls' := [some (.ref 2), some (.int (x1 + 1))]) (by decide +kernel : decode mX5_clearButDie.2.1 49 = .ok (.iinc 1 1, 3)) rfl rfl (by decide) rfl (?_ : XW _ _ _ _ _ _ _ 52 _ _)
      refine xi_goto (by decide +kernel : decode mX5_clearButDie.2.1 52 = .ok (.goto (-19), 3)) (by decide) (?_ : XW _ _ _ _ _ _ _ 33 _ _)
      exact vc
  · refine xi_iload_n (by decide +kernel : decode mX5_clearButDie.2.1 33 = .ok (.iload_n 1, 1)) rfl rfl (?_ : XW _ _ _ _ _ _ _ 34 _ _)
    refine xi_aload_n (by decide +kernel : decode mX5_clearButDie.2.1 34 = .ok (.aload_n 0, 1)) rfl rfl (?_ : XW _ _ _ _ _ _ _ 35 _ _)
    refine xi_getR (y := 20) (by decide +kernel : decode mX5_clearButDie.2.1 35 = .ok (.getfield 28, 3)) fX5_28 (xRul_s0 hr) (by omega) rfl hr.2.2.2.2.2.1 (?_ : XW _ _ _ _ _ _ _ 38 _ _)
    refine xi_alen (v := 101) (by decide +kernel : decode mX5_clearButDie.2.1 38 = .ok (.arraylength, 1)) (xRul_s8 hr) (by omega) (Or.inl rfl) rfl (?_ : XW _ _ _ _ _ _ _ 39 _ _)
    refine xi_icmp_ge (by decide +kernel : decode mX5_clearButDie.2.1 39 = .ok (.if_icmp .ge 16, 3)) (by decide) (fun c => (?_ : XW _ _ _ _ _ _ _ 55 _ _)) (fun c => (?_ : XW _ _ _ _ _ _ _ 42 _ _))
    · replace vc := vc.1 c
      refine xi_aload_n (by decide +kernel : decode mX5_clearButDie.2.1 55 = .ok (.aload_n 0, 1)) rfl rfl (?_ : XW _ _ _ _ _ _ _ 56 _ _)
      refine xi_getR (y := 13) (by decide +kernel : decode mX5_clearButDie.2.1 56 = .ok (.getfield 12, 3)) fX5_12 (xRul_s0 hr) (by omega) rfl hr.2.1 (?_ : XW _ _ _ _ _ _ _ 59 _ _)
      obtain ⟨Q1, sp, vc⟩ := vc
      refine xi_callV (b := 0) (bs := 0) (As := []) (st := []) (by decide +kernel : decode mX5_clearButDie.2.1 59 = .ok (.invokevirtual 65, 3)) kX5_65 rfl (xRul_s1 hr) (by omega) rfl sp (by decide) (by decide) (Nat.le_of_ble_eq_true rfl) (by omega) (fun v9 h1 hq9 => ?_)
      obtain ⟨e9, vc⟩ := vc v9 h1 hq9
      subst e9
      show XW _ _ _ _ _ _ _ 62 _ []
      exact xi_vret (by decide +kernel : decode mX5_clearButDie.2.1 62 = .ok (.return_, 1)) rfl vc
    · replace vc := vc.2 c
      refine xi_aload_n (by decide +kernel : decode mX5_clearButDie.2.1 42 = .ok (.aload_n 0, 1)) rfl rfl (?_ : XW _ _ _ _ _ _ _ 43 _ _)
      refine xi_getR (y := 20) (by decide +kernel : decode mX5_clearButDie.2.1 43 = .ok (.getfield 28, 3)) fX5_28 (xRul_s0 hr) (by omega) rfl hr.2.2.2.2.2.1 (?_ : XW _ _ _ _ _ _ _ 46 _ _)
      refine xi_iload_n (by decide +kernel : decode mX5_clearButDie.2.1 46 = .ok (.iload_n 1, 1)) rfl rfl (?_ : XW _ _ _ _ _ _ _ 47 _ _)
      refine xi_iconst (v := 0) (by decide +kernel : decode mX5_clearButDie.2.1 47 = .ok (.iconst 0, 1)) (by decide) (?_ : XW _ _ _ _ _ _ _ 48 _ _)
      obtain ⟨s1, vc⟩ := vc
      refine xi_zast (by decide +kernel : decode mX5_clearButDie.2.1 48 = .ok (.bastore, 1)) (xRul_s8 hr) (by omega) s1 (?_ : XW _ _ _ _ _ _ (xSI (20) (va_up (xI h (20)) x1.toNatClampNeg (vp_nar .boolean 0)) h) 49 _ _)
      refine xi_iinc (v := x1 + 1) (ls' := [some (.ref 12), some (.int (x1 + 1))]) (by decide +kernel : decode mX5_clearButDie.2.1 49 = .ok (.iinc 1 1, 3)) rfl rfl (by decide) rfl (?_ : XW _ _ _ _ _ _ _ 52 _ _)
      refine xi_goto (by decide +kernel : decode mX5_clearButDie.2.1 52 = .ok (.goto (-19), 3)) (by decide) (?_ : XW _ _ _ _ _ _ _ 33 _ _)
      exact vc

set_option maxRecDepth 20000 in
theorem v_X5_clear_0 {h : XH} {Q : Option Value → XH → Prop} {X : String → XH → Prop} (r : Nat) (hr : xRul r (xP h)) (hnr : r + 9 ≤ 100) 
    (vc : ∃ Q1, XSpec mX5_clearButDie 3 0 0 100 100 [.ref r] h Q1 xno ∧ ∀ v h1, Q1 v h1 → v = none ∧ (XW (xrm 4 0 0) mX5_clear (xE 100 Q X 0 0) 100 0 0 h1 6 [some (.ref r), some (.int 1)] [])) :
    XW (xrm 4 0 0) mX5_clear (xE 100 Q X 0 0) 100 0 0 h 0 [some (.ref r), none] [] := by
  rcases hr.1 with rfl | rfl
  · refine xi_aload_n (by decide +kernel : decode mX5_clear.2.1 0 = .ok (.aload_n 0, 1)) rfl rfl (?_ : XW _ _ _ _ _ _ _ 1 _ _)
    obtain ⟨Q1, sp, vc⟩ := vc
    refine xi_callV (b := 0) (bs := 0) (As := []) (st := []) (by decide +kernel : decode mX5_clear.2.1 1 = .ok (.invokevirtual 35, 3)) kX5_35 rfl (xRul_s0 hr) (by omega) rfl sp (by decide) (by decide) (Nat.le_of_ble_eq_true rfl) (by omega) (fun v9 h1 hq9 => ?_)
    obtain ⟨e9, vc⟩ := vc v9 h1 hq9
    subst e9
    show XW _ _ _ _ _ _ _ 4 _ []
    refine xi_iconst (v := 1) (by decide +kernel : decode mX5_clear.2.1 4 = .ok (.iconst 1, 1)) (by decide) (?_ : XW _ _ _ _ _ _ _ 5 _ _)
    refine xi_istore_n (ls' := [some (.ref 2), some (.int 1)]) (by decide +kernel : decode mX5_clear.2.1 5 = .ok (.istore_n 1, 1)) rfl (by decide) rfl (?_ : XW _ _ _ _ _ _ _ 6 _ _)
    exact vc
  · refine xi_aload_n (by decide +kernel : decode mX5_clear.2.1 0 = .ok (.aload_n 0, 1)) rfl rfl (?_ : XW _ _ _ _ _ _ _ 1 _ _)
    obtain ⟨Q1, sp, vc⟩ := vc
    refine xi_callV (b := 0) (bs := 0) (As := []) (st := []) (by decide +kernel : decode mX5_clear.2.1 1 = .ok (.invokevirtual 35, 3)) kX5_35 rfl (xRul_s0 hr) (by omega) rfl sp (by decide) (by decide) (Nat.le_of_ble_eq_true rfl) (by omega) (fun v9 h1 hq9 => ?_)
    obtain ⟨e9, vc⟩ := vc v9 h1 hq9
    subst e9
    show XW _ _ _ _ _ _ _ 4 _ []
    refine xi_iconst (v := 1) (by decide +kernel : decode mX5_clear.2.1 4 = .ok (.iconst 1, 1)) (by decide) (?_ : XW _ _ _ _ _ _ _ 5 _ _)
    refine xi_istore_n (ls' := [some (.ref 12), some (.int 1)]) (by decide +kernel : decode mX5_clear.2.1 5 = .ok (.istore_n 1, 1)) rfl (by decide) rfl (?_ : XW _ _ _ _ _ _ _ 6 _ _)
    exact vc

set_option maxRecDepth 20000 in
theorem v_X5_clear_6 {h : XH} {Q : Option Value → XH → Prop} {X : String → XH → Prop} (r : Nat) (hr : xRul r (xP h)) (hnr : r + 9 ≤ 100)  (x1 : Int32)
    (vc : (6 < x1 → ∃ Q1, XSpec mX5_sumOdds 2 0 0 100 100 [.ref r] h Q1 xno ∧ ∀ v h2, Q1 v h2 → v = none ∧ (Q none h2)) ∧ (¬ 6 < x1 → ∃ Q1, XSpec mX5_putOdds 1 0 0 100 100 [.ref r, .int x1, .int 1] h Q1 xno ∧ ∀ v h3, Q1 v h3 → v = none ∧ (XW (xrm 4 0 0) mX5_clear (xE 100 Q X 0 0) 100 0 0 h3 6 [some (.ref r), some (.int (x1 + 1))] []))) :
    XW (xrm 4 0 0) mX5_clear (xE 100 Q X 0 0) 100 0 0 h 6 [some (.ref r), some (.int x1)] [] := by
  rcases hr.1 with rfl | rfl
  · refine xi_iload_n (by decide +kernel : decode mX5_clear.2.1 6 = .ok (.iload_n 1, 1)) rfl rfl (?_ : XW _ _ _ _ _ _ _ 7 _ _)
    refine xi_bipush (v := 6) (by decide +kernel : decode mX5_clear.2.1 7 = .ok (.bipush 6, 2)) (by decide) (?_ : XW _ _ _ _ _ _ _ 9 _ _)
    refine xi_icmp_gt (by decide +kernel : decode mX5_clear.2.1 9 = .ok (.if_icmp .gt 15, 3)) (by decide) (fun c => (?_ : XW _ _ _ _ _ _ _ 24 _ _)) (fun c => (?_ : XW _ _ _ _ _ _ _ 12 _ _))
    · replace vc := vc.1 c
      refine xi_aload_n (by decide +kernel : decode mX5_clear.2.1 24 = .ok (.aload_n 0, 1)) rfl rfl (?_ : XW _ _ _ _ _ _ _ 25 _ _)
      obtain ⟨Q1, sp, vc⟩ := vc
      refine xi_callV (b := 0) (bs := 0) (As := []) (st := []) (by decide +kernel : decode mX5_clear.2.1 25 = .ok (.invokevirtual 42, 3)) kX5_42 rfl (xRul_s0 hr) (by omega) rfl sp (by decide) (by decide) (Nat.le_of_ble_eq_true rfl) (by omega) (fun v9 h2 hq9 => ?_)
      obtain ⟨e9, vc⟩ := vc v9 h2 hq9
      subst e9
      show XW _ _ _ _ _ _ _ 28 _ []
      exact xi_vret (by decide +kernel : decode mX5_clear.2.1 28 = .ok (.return_, 1)) rfl vc
    · replace vc := vc.2 c
      refine xi_aload_n (by decide +kernel : decode mX5_clear.2.1 12 = .ok (.aload_n 0, 1)) rfl rfl (?_ : XW _ _ _ _ _ _ _ 13 _ _)
      refine xi_iload_n (by decide +kernel : decode mX5_clear.2.1 13 = .ok (.iload_n 1, 1)) rfl rfl (?_ : XW _ _ _ _ _ _ _ 14 _ _)
      refine xi_iconst (v := 1) (by decide +kernel : decode mX5_clear.2.1 14 = .ok (.iconst 1, 1)) (by decide) (?_ : XW _ _ _ _ _ _ _ 15 _ _)
      obtain ⟨Q1, sp, vc⟩ := vc
      refine xi_callV (b := 0) (bs := 0) (As := [.int x1, .int 1]) (st := []) (by decide +kernel : decode mX5_clear.2.1 15 = .ok (.invokevirtual 38, 3)) kX5_38 rfl (xRul_s0 hr) (by omega) rfl sp (by decide) (by decide) (Nat.le_of_ble_eq_true rfl) (by omega) (fun v9 h3 hq9 => ?_)
      obtain ⟨e9, vc⟩ := vc v9 h3 hq9
      subst e9
      show XW _ _ _ _ _ _ _ 18 _ []
      refine xi_iinc (v := x1 + 1) (ls' := [some (.ref 2), some (.int (x1 + 1))]) (by decide +kernel : decode mX5_clear.2.1 18 = .ok (.iinc 1 1, 3)) rfl rfl (by decide) rfl (?_ : XW _ _ _ _ _ _ _ 21 _ _)
      refine xi_goto (by decide +kernel : decode mX5_clear.2.1 21 = .ok (.goto (-15), 3)) (by decide) (?_ : XW _ _ _ _ _ _ _ 6 _ _)
      exact vc
  · refine xi_iload_n (by decide +kernel : decode mX5_clear.2.1 6 = .ok (.iload_n 1, 1)) rfl rfl (?_ : XW _ _ _ _ _ _ _ 7 _ _)
    refine xi_bipush (v := 6) (by decide +kernel : decode mX5_clear.2.1 7 = .ok (.bipush 6, 2)) (by decide) (?_ : XW _ _ _ _ _ _ _ 9 _ _)
    refine xi_icmp_gt (by decide +kernel : decode mX5_clear.2.1 9 = .ok (.if_icmp .gt 15, 3)) (by decide) (fun c => (?_ : XW _ _ _ _ _ _ _ 24 _ _)) (fun c => (?_ : XW _ _ _ _ _ _ _ 12 _ _))
    · replace vc := vc.1 c
      refine xi_aload_n (by decide +kernel : decode mX5_clear.2.1 24 = .ok (.aload_n 0, 1)) rfl rfl (?_ : XW _ _ _ _ _ _ _ 25 _ _)
      obtain ⟨Q1, sp, vc⟩ := vc
      refine xi_callV (b := 0) (bs := 0) (As := []) (st := []) (by decide +kernel : decode mX5_clear.2.1 25 = .ok (.invokevirtual 42, 3)) kX5_42 rfl (xRul_s0 hr) (by omega) rfl sp (by decide) (by decide) (Nat.le_of_ble_eq_true rfl) (by omega) (fun v9 h2 hq9 => ?_)
      obtain ⟨e9, vc⟩ := vc v9 h2 hq9
      subst e9
      show XW _ _ _ _ _ _ _ 28 _ []
      exact xi_vret (by decide +kernel : decode mX5_clear.2.1 28 = .ok (.return_, 1)) rfl vc
    · replace vc := vc.2 c
      refine xi_aload_n (by decide +kernel : decode mX5_clear.2.1 12 = .ok (.aload_n 0, 1)) rfl rfl (?_ : XW _ _ _ _ _ _ _ 13 _ _)
      refine xi_iload_n (by decide +kernel : decode mX5_clear.2.1 13 = .ok (.iload_n 1, 1)) rfl rfl (?_ : XW _ _ _ _ _ _ _ 14 _ _)
      refine xi_iconst (v := 1) (by decide +kernel : decode mX5_clear.2.1 14 = .ok (.iconst 1, 1)) (by decide) (?_ : XW _ _ _ _ _ _ _ 15 _ _)
      obtain ⟨Q1, sp, vc⟩ := vc
      refine xi_callV (b := 0) (bs := 0) (As := [.int x1, .int 1]) (st := []) (by decide +kernel : decode mX5_clear.2.1 15 = .ok (.invokevirtual 38, 3)) kX5_38 rfl (xRul_s0 hr) (by omega) rfl sp (by decide) (by decide) (Nat.le_of_ble_eq_true rfl) (by omega) (fun v9 h3 hq9 => ?_)
      obtain ⟨e9, vc⟩ := vc v9 h3 hq9
      subst e9
      show XW _ _ _ _ _ _ _ 18 _ []
      refine xi_iinc (v := x1 + 1) (ls' := [some (.ref 12), some (.int (x1 + 1))]) (by decide +kernel : decode mX5_clear.2.1 18 = .ok (.iinc 1 1, 3)) rfl rfl (by decide) rfl (?_ : XW _ _ _ _ _ _ _ 21 _ _)
      refine xi_goto (by decide +kernel : decode mX5_clear.2.1 21 = .ok (.goto (-15), 3)) (by decide) (?_ : XW _ _ _ _ _ _ _ 6 _ _)
      exact vc

set_option maxRecDepth 20000 in
theorem v_X5_sumOdds_0 {h : XH} {Q : Option Value → XH → Prop} {X : String → XH → Prop} (r : Nat) (hr : xRul r (xP h)) (hnr : r + 9 ≤ 100) 
    (vc : XW (xrm 2 0 0) mX5_sumOdds (xE 100 Q X 0 0) 100 0 0 (xSI r (va_up (va_up (xI h r) 1 0) 2 0) (xSI r (va_up (xI h r) 1 0) h)) 13 [some (.ref r), some (.int 6)] []) :
    XW (xrm 2 0 0) mX5_sumOdds (xE 100 Q X 0 0) 100 0 0 h 0 [some (.ref r), none] [] := by
  rcases hr.1 with rfl | rfl
  · refine xi_aload_n (by decide +kernel : decode mX5_sumOdds.2.1 0 = .ok (.aload_n 0, 1)) rfl rfl (?_ : XW _ _ _ _ _ _ _ 1 _ _)
    refine xi_iconst (v := 0) (by decide +kernel : decode mX5_sumOdds.2.1 1 = .ok (.iconst 0, 1)) (by decide) (?_ : XW _ _ _ _ _ _ _ 2 _ _)
    refine xi_putI (by decide +kernel : decode mX5_sumOdds.2.1 2 = .ok (.putfield 66, 3)) fX5_66 (xRul_s0 hr) (by omega) rfl rfl rfl (?_ : XW _ _ _ _ _ _ (xSI 2 (va_up (xI h 2) 1 0) h) 5 _ _)
    refine xi_aload_n (by decide +kernel : decode mX5_sumOdds.2.1 5 = .ok (.aload_n 0, 1)) rfl rfl (?_ : XW _ _ _ _ _ _ _ 6 _ _)
    refine xi_iconst (v := 0) (by decide +kernel : decode mX5_sumOdds.2.1 6 = .ok (.iconst 0, 1)) (by decide) (?_ : XW _ _ _ _ _ _ _ 7 _ _)
    refine xi_putI (by decide +kernel : decode mX5_sumOdds.2.1 7 = .ok (.putfield 69, 3)) fX5_69 (xRul_s0 hr) (by omega) rfl rfl rfl (?_ : XW _ _ _ _ _ _ (xSI 2 (va_up (va_up (xI h 2) 1 0) 2 0) (xSI 2 (va_up (xI h 2) 1 0) h)) 10 _ _)
    refine xi_bipush (v := 6) (by decide +kernel : decode mX5_sumOdds.2.1 10 = .ok (.bipush 6, 2)) (by decide) (?_ : XW _ _ _ _ _ _ _ 12 _ _)
    refine xi_istore_n (ls' := [some (.ref 2), some (.int 6)]) (by decide +kernel : decode mX5_sumOdds.2.1 12 = .ok (.istore_n 1, 1)) rfl (by decide) rfl (?_ : XW _ _ _ _ _ _ _ 13 _ _)
    exact vc
  · refine xi_aload_n (by decide +kernel : decode mX5_sumOdds.2.1 0 = .ok (.aload_n 0, 1)) rfl rfl (?_ : XW _ _ _ _ _ _ _ 1 _ _)
    refine xi_iconst (v := 0) (by decide +kernel : decode mX5_sumOdds.2.1 1 = .ok (.iconst 0, 1)) (by decide) (?_ : XW _ _ _ _ _ _ _ 2 _ _)
    refine xi_putI (by decide +kernel : decode mX5_sumOdds.2.1 2 = .ok (.putfield 66, 3)) fX5_66 (xRul_s0 hr) (by omega) rfl rfl rfl (?_ : XW _ _ _ _ _ _ (xSI 12 (va_up (xI h 12) 1 0) h) 5 _ _)
    refine xi_aload_n (by decide +kernel : decode mX5_sumOdds.2.1 5 = .ok (.aload_n 0, 1)) rfl rfl (?_ : XW _ _ _ _ _ _ _ 6 _ _)
    refine xi_iconst (v := 0) (by decide +kernel : decode mX5_sumOdds.2.1 6 = .ok (.iconst 0, 1)) (by decide) (?_ : XW _ _ _ _ _ _ _ 7 _ _)
    refine xi_putI (by decide +kernel : decode mX5_sumOdds.2.1 7 = .ok (.putfield 69, 3)) fX5_69 (xRul_s0 hr) (by omega) rfl rfl rfl (?_ : XW _ _ _ _ _ _ (xSI 12 (va_up (va_up (xI h 12) 1 0) 2 0) (xSI 12 (va_up (xI h 12) 1 0) h)) 10 _ _)
    refine xi_bipush (v := 6) (by decide +kernel : decode mX5_sumOdds.2.1 10 = .ok (.bipush 6, 2)) (by decide) (?_ : XW _ _ _ _ _ _ _ 12 _ _)
    refine xi_istore_n (ls' := [some (.ref 12), some (.int 6)]) (by decide +kernel : decode mX5_sumOdds.2.1 12 = .ok (.istore_n 1, 1)) rfl (by decide) rfl (?_ : XW _ _ _ _ _ _ _ 13 _ _)
    exact vc

set_option maxRecDepth 20000 in
theorem v_X5_sumOdds_13 {h : XH} {Q : Option Value → XH → Prop} {X : String → XH → Prop} (r : Nat) (hr : xRul r (xP h)) (hnr : r + 9 ≤ 100)  (x1 : Int32)
    (vc : (x1 < 1 → Q none h) ∧ (¬ x1 < 1 → ∃ Q1, XSpec mX5_oddsOf 1 0 0 100 100 [.ref r, .int x1] h Q1 xno ∧ ∀ v h1, Q1 v h1 → ∃ r1 : Int32, v = some (.int r1) ∧ (∃ Q1, XSpec mX5_oddsOf 1 0 0 100 100 [.ref r, .int x1] (xSI r (va_up (xI h1 r) 1 ((xI h r 1) + r1)) h1) Q1 xno ∧ ∀ v h2, Q1 v h2 → ∃ r2 : Int32, v = some (.int r2) ∧ ((r2 ≤ 0 → XW (xrm 2 0 0) mX5_sumOdds (xE 100 Q X 0 0) 100 0 0 h2 13 [some (.ref r), some (.int (x1 + (-1)))] []) ∧ (¬ r2 ≤ 0 → XW (xrm 2 0 0) mX5_sumOdds (xE 100 Q X 0 0) 100 0 0 (xSI r (va_up (xI h2 r) 2 x1) h2) 13 [some (.ref r), some (.int (x1 + (-1)))] []))))) :
    XW (xrm 2 0 0) mX5_sumOdds (xE 100 Q X 0 0) 100 0 0 h 13 [some (.ref r), some (.int x1)] [] := by
  rcases hr.1 with rfl | rfl
  · refine xi_iload_n (by decide +kernel : decode mX5_sumOdds.2.1 13 = .ok (.iload_n 1, 1)) rfl rfl (?_ : XW _ _ _ _ _ _ _ 14 _ _)
    refine xi_iconst (v := 1) (by decide +kernel : decode mX5_sumOdds.2.1 14 = .ok (.iconst 1, 1)) (by decide) (?_ : XW _ _ _ _ _ _ _ 15 _ _)
    refine xi_icmp_lt (by decide +kernel : decode mX5_sumOdds.2.1 15 = .ok (.if_icmp .lt 36, 3)) (by decide) (fun c => (?_ : XW _ _ _ _ _ _ _ 51 _ _)) (fun c => (?_ : XW _ _ _ _ _ _ _ 18 _ _))
    · replace vc := vc.1 c
      exact xi_vret (by decide +kernel : decode mX5_sumOdds.2.1 51 = .ok (.return_, 1)) rfl vc
    · replace vc := vc.2 c
      refine xi_aload_n (by decide +kernel : decode mX5_sumOdds.2.1 18 = .ok (.aload_n 0, 1)) rfl rfl (?_ : XW _ _ _ _ _ _ _ 19 _ _)
      refine xi_dup (by decide +kernel : decode mX5_sumOdds.2.1 19 = .ok (.dup, 1)) rfl (?_ : XW _ _ _ _ _ _ _ 20 _ _)
      refine xi_getI (by decide +kernel : decode mX5_sumOdds.2.1 20 = .ok (.getfield 66, 3)) fX5_66 (xRul_s0 hr) (by omega) rfl (?_ : XW _ _ _ _ _ _ _ 23 _ _)
      refine xi_aload_n (by decide +kernel : decode mX5_sumOdds.2.1 23 = .ok (.aload_n 0, 1)) rfl rfl (?_ : XW _ _ _ _ _ _ _ 24 _ _)
      refine xi_iload_n (by decide +kernel : decode mX5_sumOdds.2.1 24 = .ok (.iload_n 1, 1)) rfl rfl (?_ : XW _ _ _ _ _ _ _ 25 _ _)
      obtain ⟨Q1, sp, vc⟩ := vc
      refine xi_callV (b := 0) (bs := 0) (As := [.int x1]) (st := [.int (xI h 2 1), .ref 2]) (by decide +kernel : decode mX5_sumOdds.2.1 25 = .ok (.invokevirtual 72, 3)) kX5_72 rfl (xRul_s0 hr) (by omega) rfl sp (by decide) (by decide) (Nat.le_of_ble_eq_true rfl) (by omega) (fun v9 h1 hq9 => ?_)
      obtain ⟨r1, e9, vc⟩ := vc v9 h1 hq9
      subst e9
      show XW _ _ _ _ _ _ _ 28 _ [.int r1, .int (xI h 2 1), .ref 2]
      refine xi_iadd (by decide +kernel : decode mX5_sumOdds.2.1 28 = .ok (.iadd, 1)) (?_ : XW _ _ _ _ _ _ _ 29 _ _)
      refine xi_putI (by decide +kernel : decode mX5_sumOdds.2.1 29 = .ok (.putfield 66, 3)) fX5_66 (xRul_s0 hr) (by omega) rfl rfl rfl (?_ : XW _ _ _ _ _ _ (xSI 2 (va_up (xI h1 2) 1 ((xI h 2 1) + r1)) h1) 32 _ _)
      refine xi_aload_n (by decide +kernel : decode mX5_sumOdds.2.1 32 = .ok (.aload_n 0, 1)) rfl rfl (?_ : XW _ _ _ _ _ _ _ 33 _ _)
      refine xi_iload_n (by decide +kernel : decode mX5_sumOdds.2.1 33 = .ok (.iload_n 1, 1)) rfl rfl (?_ : XW _ _ _ _ _ _ _ 34 _ _)
      obtain ⟨Q1, sp, vc⟩ := vc
      refine xi_callV (b := 0) (bs := 0) (As := [.int x1]) (st := []) (by decide +kernel : decode mX5_sumOdds.2.1 34 = .ok (.invokevirtual 72, 3)) kX5_72 rfl (xRul_s0 hr) (by omega) rfl sp (by decide) (by decide) (Nat.le_of_ble_eq_true rfl) (by omega) (fun v9 h2 hq9 => ?_)
      obtain ⟨r2, e9, vc⟩ := vc v9 h2 hq9
      subst e9
      show XW _ _ _ _ _ _ _ 37 _ [.int r2]
      refine xi_if_le (by decide +kernel : decode mX5_sumOdds.2.1 37 = .ok (.ifCond .le 8, 3)) (by decide) (fun c => (?_ : XW _ _ _ _ _ _ _ 45 _ _)) (fun c => (?_ : XW _ _ _ _ _ _ _ 40 _ _))
      · replace vc := vc.1 c
        refine xi_iinc (v := x1 + (-1)) (ls' := [some (.ref 2), some (.int (x1 + (-1)))]) (by decide +kernel : decode mX5_sumOdds.2.1 45 = .ok (.iinc 1 (-1), 3)) rfl rfl (by decide) rfl (?_ : XW _ _ _ _ _ _ _ 48 _ _)
        refine xi_goto (by decide +kernel : decode mX5_sumOdds.2.1 48 = .ok (.goto (-35), 3)) (by decide) (?_ : XW _ _ _ _ _ _ _ 13 _ _)
        exact vc
      · replace vc := vc.2 c
        refine xi_aload_n (by decide +kernel : decode mX5_sumOdds.2.1 40 = .ok (.aload_n 0, 1)) rfl rfl (?_ : XW _ _ _ _ _ _ _ 41 _ _)
        refine xi_iload_n (by decide +kernel : decode mX5_sumOdds.2.1 41 = .ok (.iload_n 1, 1)) rfl rfl (?_ : XW _ _ _ _ _ _ _ 42 _ _)
        refine xi_putI (by decide +kernel : decode mX5_sumOdds.2.1 42 = .ok (.putfield 69, 3)) fX5_69 (xRul_s0 hr) (by omega) rfl rfl rfl (?_ : XW _ _ _ _ _ _ (xSI 2 (va_up (xI h2 2) 2 x1) h2) 45 _ _)
        refine xi_iinc (v := x1 + (-1)) (ls' := [some (.ref 2), some (.int (x1 + (-1)))]) (by decide +kernel : decode mX5_sumOdds.2.1 45 = .ok (.iinc 1 (-1), 3)) rfl rfl (by decide) rfl (?_ : XW _ _ _ _ _ _ _ 48 _ _)
        refine xi_goto (by decide +kernel : decode mX5_sumOdds.2.1 48 = .ok (.goto (-35), 3)) (by decide) (?_ : XW _ _ _ _ _ _ _ 13 _ _)
        exact vc
  · refine xi_iload_n (by decide +kernel : decode mX5_sumOdds.2.1 13 = .ok (.iload_n 1, 1)) rfl rfl (?_ : XW _ _ _ _ _ _ _ 14 _ _)
    refine xi_iconst (v := 1) (by decide +kernel : decode mX5_sumOdds.2.1 14 = .ok (.iconst 1, 1)) (by decide) (?_ : XW _ _ _ _ _ _ _ 15 _ _)
    refine xi_icmp_lt (by decide +kernel : decode mX5_sumOdds.2.1 15 = .ok (.if_icmp .lt 36, 3)) (by decide) (fun c => (?_ : XW _ _ _ _ _ _ _ 51 _ _)) (fun c => (?_ : XW _ _ _ _ _ _ _ 18 _ _))
    · replace vc := vc.1 c
      exact xi_vret (by decide +kernel : decode mX5_sumOdds.2.1 51 = .ok (.return_, 1)) rfl vc
    · replace vc := vc.2 c
      refine xi_aload_n (by decide +kernel : decode mX5_sumOdds.2.1 18 = .ok (.aload_n 0, 1)) rfl rfl (?_ : XW _ _ _ _ _ _ _ 19 _ _)
      refine xi_dup (by decide +kernel : decode mX5_sumOdds.2.1 19 = .ok (.dup, 1)) rfl (?_ : XW _ _ _ _ _ _ _ 20 _ _)
      refine xi_getI (by decide +kernel : decode mX5_sumOdds.2.1 20 = .ok (.getfield 66, 3)) fX5_66 (xRul_s0 hr) (by omega) rfl (?_ : XW _ _ _ _ _ _ _ 23 _ _)
      refine xi_aload_n (by decide +kernel : decode mX5_sumOdds.2.1 23 = .ok (.aload_n 0, 1)) rfl rfl (?_ : XW _ _ _ _ _ _ _ 24 _ _)
      refine xi_iload_n (by decide +kernel : decode mX5_sumOdds.2.1 24 = .ok (.iload_n 1, 1)) rfl rfl (?_ : XW _ _ _ _ _ _ _ 25 _ _)
      obtain ⟨Q1, sp, vc⟩ := vc
      refine xi_callV (b := 0) (bs := 0) (As := [.int x1]) (st := [.int (xI h 12 1), .ref 12]) (by decide +kernel : decode mX5_sumOdds.2.1 25 = .ok (.invokevirtual 72, 3)) kX5_72 rfl (xRul_s0 hr) (by omega) rfl sp (by decide) (by decide) (Nat.le_of_ble_eq_true rfl) (by omega) (fun v9 h1 hq9 => ?_)
      obtain ⟨r1, e9, vc⟩ := vc v9 h1 hq9
      subst e9
      show XW _ _ _ _ _ _ _ 28 _ [.int r1, .int (xI h 12 1), .ref 12]
      refine xi_iadd (by decide +kernel : decode mX5_sumOdds.2.1 28 = .ok (.iadd, 1)) (?_ : XW _ _ _ _ _ _ _ 29 _ _)
      refine xi_putI (by decide +kernel : decode mX5_sumOdds.2.1 29 = .ok (.putfield 66, 3)) fX5_66 (xRul_s0 hr) (by omega) rfl rfl rfl (?_ : XW _ _ _ _ _ _ (xSI 12 (va_up (xI h1 12) 1 ((xI h 12 1) + r1)) h1) 32 _ _)
      refine xi_aload_n (by decide +kernel : decode mX5_sumOdds.2.1 32 = .ok (.aload_n 0, 1)) rfl rfl (?_ : XW _ _ _ _ _ _ _ 33 _ _)
      refine xi_iload_n (by decide +kernel : decode mX5_sumOdds.2.1 33 = .ok (.iload_n 1, 1)) rfl rfl (?_ : XW _ _ _ _ _ _ _ 34 _ _)
      obtain ⟨Q1, sp, vc⟩ := vc
      refine xi_callV (b := 0) (bs := 0) (As := [.int x1]) (st := []) (by decide +kernel : decode mX5_sumOdds.2.1 34 = .ok (.invokevirtual 72, 3)) kX5_72 rfl (xRul_s0 hr) (by omega) rfl sp (by decide) (by decide) (Nat.le_of_ble_eq_true rfl) (by omega) (fun v9 h2 hq9 => ?_)
      obtain ⟨r2, e9, vc⟩ := vc v9 h2 hq9
      subst e9
      show XW _ _ _ _ _ _ _ 37 _ [.int r2]
      refine xi_if_le (by decide +kernel : decode mX5_sumOdds.2.1 37 = .ok (.ifCond .le 8, 3)) (by decide) (fun c => (?_ : XW _ _ _ _ _ _ _ 45 _ _)) (fun c => (?_ : XW _ _ _ _ _ _ _ 40 _ _))
      · replace vc := vc.1 c
        refine xi_iinc (v := x1 + (-1)) (ls' := [some (.ref 12), some (.int (x1 + (-1)))]) (by decide +kernel : decode mX5_sumOdds.2.1 45 = .ok (.iinc 1 (-1), 3)) rfl rfl (by decide) rfl (?_ : XW _ _ _ _ _ _ _ 48 _ _)
        refine xi_goto (by decide +kernel : decode mX5_sumOdds.2.1 48 = .ok (.goto (-35), 3)) (by decide) (?_ : XW _ _ _ _ _ _ _ 13 _ _)
        exact vc
      · replace vc := vc.2 c
        refine xi_aload_n (by decide +kernel : decode mX5_sumOdds.2.1 40 = .ok (.aload_n 0, 1)) rfl rfl (?_ : XW _ _ _ _ _ _ _ 41 _ _)
        refine xi_iload_n (by decide +kernel : decode mX5_sumOdds.2.1 41 = .ok (.iload_n 1, 1)) rfl rfl (?_ : XW _ _ _ _ _ _ _ 42 _ _)
        refine xi_putI (by decide +kernel : decode mX5_sumOdds.2.1 42 = .ok (.putfield 69, 3)) fX5_69 (xRul_s0 hr) (by omega) rfl rfl rfl (?_ : XW _ _ _ _ _ _ (xSI 12 (va_up (xI h2 12) 2 x1) h2) 45 _ _)
        refine xi_iinc (v := x1 + (-1)) (ls' := [some (.ref 12), some (.int (x1 + (-1)))]) (by decide +kernel : decode mX5_sumOdds.2.1 45 = .ok (.iinc 1 (-1), 3)) rfl rfl (by decide) rfl (?_ : XW _ _ _ _ _ _ _ 48 _ _)
        refine xi_goto (by decide +kernel : decode mX5_sumOdds.2.1 48 = .ok (.goto (-35), 3)) (by decide) (?_ : XW _ _ _ _ _ _ _ 13 _ _)
        exact vc

set_option maxRecDepth 20000 in
theorem v_X7_begin_0 {h : XH} {Q : Option Value → XH → Prop} {X : String → XH → Prop} (r : Nat) (hbp : BP r h)  (m : Int32)
    (vc : Q none (xSI 29 (va_up (va_up (va_up (va_up (xI h 29) 3 (if 0 < (if 4 < m then 4 else m) then (if 4 < m then 4 else m) else 0)) 0 0) 1 0) 2 0) (xSI 29 (va_up (va_up (va_up (xI h 29) 3 (if 0 < (if 4 < m then 4 else m) then (if 4 < m then 4 else m) else 0)) 0 0) 1 0) (xSI 29 (va_up (va_up (xI h 29) 3 (if 0 < (if 4 < m then 4 else m) then (if 4 < m then 4 else m) else 0)) 0 0) (xSI 30 (fl 4 0 (xI h 30)) (xSI 29 (va_up (xI h 29) 3 (if 0 < (if 4 < m then 4 else m) then (if 4 < m then 4 else m) else 0)) h)))))) :
    XW (xrm 2 0 0) mX7_begin (xE 100 Q X 0 0) 100 0 0 h 0 [some (.ref 29), some (.int m)] [] := by
  obtain ⟨hb, hr, hnr, ha21, ha25, hu29, hu34, hw, hnt, hwr⟩ := hbp
  refine xi_aload_n (by decide +kernel : decode mX7_begin.2.1 0 = .ok (.aload_n 0, 1)) rfl rfl (?_ : XW _ _ _ _ _ _ _ 1 _ _)
  refine xi_iconst (v := 0) (by decide +kernel : decode mX7_begin.2.1 1 = .ok (.iconst 0, 1)) (by decide) (?_ : XW _ _ _ _ _ _ _ 2 _ _)
  refine xi_iload_n (by decide +kernel : decode mX7_begin.2.1 2 = .ok (.iload_n 1, 1)) rfl rfl (?_ : XW _ _ _ _ _ _ _ 3 _ _)
  refine xi_iconst (v := 4) (by decide +kernel : decode mX7_begin.2.1 3 = .ok (.iconst 4, 1)) (by decide) (?_ : XW _ _ _ _ _ _ _ 4 _ _)
  refine xi_mmin (by decide +kernel : decode mX7_begin.2.1 4 = .ok (.invokestatic 24, 3)) kX7_24.2.1 (by decide) (Nat.le_of_ble_eq_true rfl) (?_ : XW _ _ _ _ _ _ _ 7 _ _)
  refine xi_mmax (by decide +kernel : decode mX7_begin.2.1 7 = .ok (.invokestatic 30, 3)) kX7_30.2.1 (by decide) (Nat.le_of_ble_eq_true rfl) (?_ : XW _ _ _ _ _ _ _ 10 _ _)
  refine xi_putI (by decide +kernel : decode mX7_begin.2.1 10 = .ok (.putfield 33, 3)) fX7_33 rfl (by omega) rfl rfl rfl (?_ : XW _ _ _ _ _ _ (xSI 29 (va_up (xI h 29) 3 (if 0 < (if 4 < m then 4 else m) then (if 4 < m then 4 else m) else 0)) h) 13 _ _)
  refine xi_aload_n (by decide +kernel : decode mX7_begin.2.1 13 = .ok (.aload_n 0, 1)) rfl rfl (?_ : XW _ _ _ _ _ _ _ 14 _ _)
  refine xi_getR (y := 30) (by decide +kernel : decode mX7_begin.2.1 14 = .ok (.getfield 9, 3)) fX7_9 rfl (by omega) rfl hu29.2.1 (?_ : XW _ _ _ _ _ _ _ 17 _ _)
  refine xi_iconst (v := 0) (by decide +kernel : decode mX7_begin.2.1 17 = .ok (.iconst 0, 1)) (by decide) (?_ : XW _ _ _ _ _ _ _ 18 _ _)
  refine xi_callS (b := 0) (bs := 0) (As := [.ref 30, .int 0]) (st := []) (by decide +kernel : decode mX7_begin.2.1 18 = .ok (.invokestatic 37, 3)) kX7_37 rfl rfl (s_fillI 100 (xSI 29 (va_up (xI h 29) 3 (if 0 < (if 4 < m then 4 else m) then (if 4 < m then 4 else m) else 0)) h) 30 4 rfl (by omega) (by decide) 0) (by decide) (by decide) (Nat.le_of_ble_eq_true rfl) (by omega) (fun v9 h9 hq9 => ?_)
  rw [hq9.1, hq9.2]
  show XW _ _ _ _ _ _ _ 21 _ []
  refine xi_aload_n (by decide +kernel : decode mX7_begin.2.1 21 = .ok (.aload_n 0, 1)) rfl rfl (?_ : XW _ _ _ _ _ _ _ 22 _ _)
  refine xi_iconst (v := 0) (by decide +kernel : decode mX7_begin.2.1 22 = .ok (.iconst 0, 1)) (by decide) (?_ : XW _ _ _ _ _ _ _ 23 _ _)
  refine xi_putI (by decide +kernel : decode mX7_begin.2.1 23 = .ok (.putfield 43, 3)) fX7_43 rfl (by omega) rfl rfl rfl (?_ : XW _ _ _ _ _ _ (xSI 29 (va_up (va_up (xI h 29) 3 (if 0 < (if 4 < m then 4 else m) then (if 4 < m then 4 else m) else 0)) 0 0) (xSI 30 (fl 4 0 (xI h 30)) (xSI 29 (va_up (xI h 29) 3 (if 0 < (if 4 < m then 4 else m) then (if 4 < m then 4 else m) else 0)) h))) 26 _ _)
  refine xi_aload_n (by decide +kernel : decode mX7_begin.2.1 26 = .ok (.aload_n 0, 1)) rfl rfl (?_ : XW _ _ _ _ _ _ _ 27 _ _)
  refine xi_iconst (v := 0) (by decide +kernel : decode mX7_begin.2.1 27 = .ok (.iconst 0, 1)) (by decide) (?_ : XW _ _ _ _ _ _ _ 28 _ _)
  refine xi_putI (by decide +kernel : decode mX7_begin.2.1 28 = .ok (.putfield 46, 3)) fX7_46 rfl (by omega) rfl rfl rfl (?_ : XW _ _ _ _ _ _ (xSI 29 (va_up (va_up (va_up (xI h 29) 3 (if 0 < (if 4 < m then 4 else m) then (if 4 < m then 4 else m) else 0)) 0 0) 1 0) (xSI 29 (va_up (va_up (xI h 29) 3 (if 0 < (if 4 < m then 4 else m) then (if 4 < m then 4 else m) else 0)) 0 0) (xSI 30 (fl 4 0 (xI h 30)) (xSI 29 (va_up (xI h 29) 3 (if 0 < (if 4 < m then 4 else m) then (if 4 < m then 4 else m) else 0)) h)))) 31 _ _)
  refine xi_aload_n (by decide +kernel : decode mX7_begin.2.1 31 = .ok (.aload_n 0, 1)) rfl rfl (?_ : XW _ _ _ _ _ _ _ 32 _ _)
  refine xi_iconst (v := 0) (by decide +kernel : decode mX7_begin.2.1 32 = .ok (.iconst 0, 1)) (by decide) (?_ : XW _ _ _ _ _ _ _ 33 _ _)
  refine xi_putI (by decide +kernel : decode mX7_begin.2.1 33 = .ok (.putfield 49, 3)) fX7_49 rfl (by omega) rfl rfl rfl (?_ : XW _ _ _ _ _ _ (xSI 29 (va_up (va_up (va_up (va_up (xI h 29) 3 (if 0 < (if 4 < m then 4 else m) then (if 4 < m then 4 else m) else 0)) 0 0) 1 0) 2 0) (xSI 29 (va_up (va_up (va_up (xI h 29) 3 (if 0 < (if 4 < m then 4 else m) then (if 4 < m then 4 else m) else 0)) 0 0) 1 0) (xSI 29 (va_up (va_up (xI h 29) 3 (if 0 < (if 4 < m then 4 else m) then (if 4 < m then 4 else m) else 0)) 0 0) (xSI 30 (fl 4 0 (xI h 30)) (xSI 29 (va_up (xI h 29) 3 (if 0 < (if 4 < m then 4 else m) then (if 4 < m then 4 else m) else 0)) h))))) 36 _ _)
  exact xi_vret (by decide +kernel : decode mX7_begin.2.1 36 = .ok (.return_, 1)) rfl vc

set_option maxRecDepth 20000 in
theorem v_X10_startAnew_0 {h : XH} {Q : Option Value → XH → Prop} {X : String → XH → Prop} (r : Nat) (hbp : BP r h) 
    (vc : ∃ Q1, XSpec mX3_takeFeet 2 0 0 100 100 [.ref 21, .ref r] h Q1 xno ∧ ∀ v h1, Q1 v h1 → v = none ∧ ((xP h1 0 5 = some 21) ∧ ((xP h1 0 3 = some r) ∧ (∃ Q1, XSpec mX3_measure 5 0 0 100 100 [.ref 21, .ref r] h1 Q1 xno ∧ ∀ v h2, Q1 v h2 → v = none ∧ ((xP h2 0 5 = some 21) ∧ ((xP h2 0 3 = some r) ∧ ((xP h2 0 3 = some r) ∧ (∃ Q1, XSpec mX3_lay 3 0 0 100 100 [.ref 21, .ref r, .int (xI h2 r 3)] h2 Q1 xno ∧ ∀ v h3, Q1 v h3 → v = none ∧ ((xP h3 0 7 = some 29) ∧ ((xP h3 0 3 = some r) ∧ (∃ Q1, XSpec mX7_begin 2 0 0 100 100 [.ref 29, .int (xI h3 r 6)] h3 Q1 xno ∧ ∀ v h4, Q1 v h4 → v = none ∧ ((xP h4 0 10 = some 39) ∧ (Q none (xSI 0 (va_up (xI h4 0) 9 0) (xSI 39 (va_up (xI h4 39) 0 (-1)) h4))))))))))))))) :
    XW (xrm 6 0 0) mX10_startAnew (xE 100 Q X 0 0) 100 0 0 h 0 [some (.ref 0)] [] := by
  obtain ⟨hb, hr, hnr, ha21, ha25, hu29, hu34, hw, hnt, hwr⟩ := hbp
  refine xi_aload_n (by decide +kernel : decode mX10_startAnew.2.1 0 = .ok (.aload_n 0, 1)) rfl rfl (?_ : XW _ _ _ _ _ _ _ 1 _ _)
  refine xi_getR (y := 21) (by decide +kernel : decode mX10_startAnew.2.1 1 = .ok (.getfield 39, 3)) fX10_39 rfl (by omega) rfl hb.2.2.2.1 (?_ : XW _ _ _ _ _ _ _ 4 _ _)
  refine xi_aload_n (by decide +kernel : decode mX10_startAnew.2.1 4 = .ok (.aload_n 0, 1)) rfl rfl (?_ : XW _ _ _ _ _ _ _ 5 _ _)
  refine xi_getR (y := r) (by decide +kernel : decode mX10_startAnew.2.1 5 = .ok (.getfield 23, 3)) fX10_23 rfl (by omega) rfl hb.2.1 (?_ : XW _ _ _ _ _ _ _ 8 _ _)
  obtain ⟨Q1, sp, vc⟩ := vc
  refine xi_callV (b := 0) (bs := 0) (As := [.ref r]) (st := []) (by decide +kernel : decode mX10_startAnew.2.1 8 = .ok (.invokevirtual 122, 3)) kX10_122 rfl rfl (by omega) rfl sp (by decide) (by decide) (Nat.le_of_ble_eq_true rfl) (by omega) (fun v9 h1 hq9 => ?_)
  obtain ⟨e9, vc⟩ := vc v9 h1 hq9
  subst e9
  show XW _ _ _ _ _ _ _ 11 _ []
  refine xi_aload_n (by decide +kernel : decode mX10_startAnew.2.1 11 = .ok (.aload_n 0, 1)) rfl rfl (?_ : XW _ _ _ _ _ _ _ 12 _ _)
  obtain ⟨s1, vc⟩ := vc
  refine xi_getR (y := 21) (by decide +kernel : decode mX10_startAnew.2.1 12 = .ok (.getfield 39, 3)) fX10_39 rfl (by omega) rfl s1 (?_ : XW _ _ _ _ _ _ _ 15 _ _)
  refine xi_aload_n (by decide +kernel : decode mX10_startAnew.2.1 15 = .ok (.aload_n 0, 1)) rfl rfl (?_ : XW _ _ _ _ _ _ _ 16 _ _)
  obtain ⟨s1, vc⟩ := vc
  refine xi_getR (y := r) (by decide +kernel : decode mX10_startAnew.2.1 16 = .ok (.getfield 23, 3)) fX10_23 rfl (by omega) rfl s1 (?_ : XW _ _ _ _ _ _ _ 19 _ _)
  obtain ⟨Q1, sp, vc⟩ := vc
  refine xi_callV (b := 0) (bs := 0) (As := [.ref r]) (st := []) (by decide +kernel : decode mX10_startAnew.2.1 19 = .ok (.invokevirtual 126, 3)) kX10_126 rfl rfl (by omega) rfl sp (by decide) (by decide) (Nat.le_of_ble_eq_true rfl) (by omega) (fun v9 h2 hq9 => ?_)
  obtain ⟨e9, vc⟩ := vc v9 h2 hq9
  subst e9
  show XW _ _ _ _ _ _ _ 22 _ []
  refine xi_aload_n (by decide +kernel : decode mX10_startAnew.2.1 22 = .ok (.aload_n 0, 1)) rfl rfl (?_ : XW _ _ _ _ _ _ _ 23 _ _)
  obtain ⟨s1, vc⟩ := vc
  refine xi_getR (y := 21) (by decide +kernel : decode mX10_startAnew.2.1 23 = .ok (.getfield 39, 3)) fX10_39 rfl (by omega) rfl s1 (?_ : XW _ _ _ _ _ _ _ 26 _ _)
  refine xi_aload_n (by decide +kernel : decode mX10_startAnew.2.1 26 = .ok (.aload_n 0, 1)) rfl rfl (?_ : XW _ _ _ _ _ _ _ 27 _ _)
  obtain ⟨s1, vc⟩ := vc
  refine xi_getR (y := r) (by decide +kernel : decode mX10_startAnew.2.1 27 = .ok (.getfield 23, 3)) fX10_23 rfl (by omega) rfl s1 (?_ : XW _ _ _ _ _ _ _ 30 _ _)
  refine xi_aload_n (by decide +kernel : decode mX10_startAnew.2.1 30 = .ok (.aload_n 0, 1)) rfl rfl (?_ : XW _ _ _ _ _ _ _ 31 _ _)
  obtain ⟨s1, vc⟩ := vc
  refine xi_getR (y := r) (by decide +kernel : decode mX10_startAnew.2.1 31 = .ok (.getfield 23, 3)) fX10_23 rfl (by omega) rfl s1 (?_ : XW _ _ _ _ _ _ _ 34 _ _)
  refine xi_getI (by decide +kernel : decode mX10_startAnew.2.1 34 = .ok (.getfield 129, 3)) fX10_129 (xRul_s0 hr) (by omega) rfl (?_ : XW _ _ _ _ _ _ _ 37 _ _)
  obtain ⟨Q1, sp, vc⟩ := vc
  refine xi_callV (b := 0) (bs := 0) (As := [.ref r, .int (xI h2 r 3)]) (st := []) (by decide +kernel : decode mX10_startAnew.2.1 37 = .ok (.invokevirtual 132, 3)) kX10_132 rfl rfl (by omega) rfl sp (by decide) (by decide) (Nat.le_of_ble_eq_true rfl) (by omega) (fun v9 h3 hq9 => ?_)
  obtain ⟨e9, vc⟩ := vc v9 h3 hq9
  subst e9
  show XW _ _ _ _ _ _ _ 40 _ []
  refine xi_aload_n (by decide +kernel : decode mX10_startAnew.2.1 40 = .ok (.aload_n 0, 1)) rfl rfl (?_ : XW _ _ _ _ _ _ _ 41 _ _)
  obtain ⟨s1, vc⟩ := vc
  refine xi_getR (y := 29) (by decide +kernel : decode mX10_startAnew.2.1 41 = .ok (.getfield 49, 3)) fX10_49 rfl (by omega) rfl s1 (?_ : XW _ _ _ _ _ _ _ 44 _ _)
  refine xi_aload_n (by decide +kernel : decode mX10_startAnew.2.1 44 = .ok (.aload_n 0, 1)) rfl rfl (?_ : XW _ _ _ _ _ _ _ 45 _ _)
  obtain ⟨s1, vc⟩ := vc
  refine xi_getR (y := r) (by decide +kernel : decode mX10_startAnew.2.1 45 = .ok (.getfield 23, 3)) fX10_23 rfl (by omega) rfl s1 (?_ : XW _ _ _ _ _ _ _ 48 _ _)
  refine xi_getI (by decide +kernel : decode mX10_startAnew.2.1 48 = .ok (.getfield 136, 3)) fX10_136 (xRul_s0 hr) (by omega) rfl (?_ : XW _ _ _ _ _ _ _ 51 _ _)
  obtain ⟨Q1, sp, vc⟩ := vc
  refine xi_callV (b := 0) (bs := 0) (As := [.int (xI h3 r 6)]) (st := []) (by decide +kernel : decode mX10_startAnew.2.1 51 = .ok (.invokevirtual 139, 3)) kX10_139 rfl rfl (by omega) rfl sp (by decide) (by decide) (Nat.le_of_ble_eq_true rfl) (by omega) (fun v9 h4 hq9 => ?_)
  obtain ⟨e9, vc⟩ := vc v9 h4 hq9
  subst e9
  show XW _ _ _ _ _ _ _ 54 _ []
  refine xi_aload_n (by decide +kernel : decode mX10_startAnew.2.1 54 = .ok (.aload_n 0, 1)) rfl rfl (?_ : XW _ _ _ _ _ _ _ 55 _ _)
  obtain ⟨s1, vc⟩ := vc
  refine xi_getR (y := 39) (by decide +kernel : decode mX10_startAnew.2.1 55 = .ok (.getfield 63, 3)) fX10_63 rfl (by omega) rfl s1 (?_ : XW _ _ _ _ _ _ _ 58 _ _)
  refine xi_iconst (v := (-1)) (by decide +kernel : decode mX10_startAnew.2.1 58 = .ok (.iconst (-1), 1)) (by decide) (?_ : XW _ _ _ _ _ _ _ 59 _ _)
  refine xi_putI (by decide +kernel : decode mX10_startAnew.2.1 59 = .ok (.putfield 142, 3)) fX10_142 rfl (by omega) rfl rfl rfl (?_ : XW _ _ _ _ _ _ (xSI 39 (va_up (xI h4 39) 0 (-1)) h4) 62 _ _)
  refine xi_aload_n (by decide +kernel : decode mX10_startAnew.2.1 62 = .ok (.aload_n 0, 1)) rfl rfl (?_ : XW _ _ _ _ _ _ _ 63 _ _)
  refine xi_iconst (v := 0) (by decide +kernel : decode mX10_startAnew.2.1 63 = .ok (.iconst 0, 1)) (by decide) (?_ : XW _ _ _ _ _ _ _ 64 _ _)
  refine xi_putI (by decide +kernel : decode mX10_startAnew.2.1 64 = .ok (.putfield 56, 3)) fX10_56 rfl (by omega) rfl rfl rfl (?_ : XW _ _ _ _ _ _ (xSI 0 (va_up (xI h4 0) 9 0) (xSI 39 (va_up (xI h4 39) 0 (-1)) h4)) 67 _ _)
  exact xi_vret (by decide +kernel : decode mX10_startAnew.2.1 67 = .ok (.return_, 1)) rfl vc

set_option maxRecDepth 20000 in
theorem v_X10_draw_0 {h : XH} {Q : Option Value → XH → Prop} {X : String → XH → Prop} (r : Nat) (hbp : BP r h)  (q : Int32) (m : Int32) (k0 : Int32)
    (vc : (m < 10 → X "java/lang/IllegalArgumentException" h) ∧ (¬ m < 10 → (100 < m → X "java/lang/IllegalArgumentException" h) ∧ (¬ 100 < m → (k0 < 0 → X "java/lang/IllegalArgumentException" h) ∧ (¬ k0 < 0 → (k0 ≤ 24 → ∃ Q1, XSpec mX5_clearButDie 3 0 0 100 100 [.ref r] h Q1 xno ∧ ∀ v h1, Q1 v h1 → v = none ∧ ((xP h1 0 3 = some r) ∧ (XW (xrm 7 1 6) mX10_draw (xE 100 Q X 1 6) 100 1 6 (xSI r (va_up (xI h1 r) 0 m) h1) 51 [some (.ref 0), none, some (.int m), some (.int k0), some (.int q), some (.int 0), none, none] []))) ∧ (¬ k0 ≤ 24 → X "java/lang/IllegalArgumentException" h))))) :
    XW (xrm 7 1 6) mX10_draw (xE 100 Q X 1 6) 100 1 6 h 0 [some (.ref 0), some (.int q), some (.int m), some (.int k0), none, none, none, none] [] := by
  obtain ⟨hb, hr, hnr, ha21, ha25, hu29, hu34, hw, hnt, hwr⟩ := hbp
  refine xi_iload_n (by decide +kernel : decode mX10_draw.2.1 0 = .ok (.iload_n 2, 1)) rfl rfl (?_ : XW _ _ _ _ _ _ _ 1 _ _)
  refine xi_bipush (v := 10) (by decide +kernel : decode mX10_draw.2.1 1 = .ok (.bipush 10, 2)) (by decide) (?_ : XW _ _ _ _ _ _ _ 3 _ _)
  refine xi_icmp_lt (by decide +kernel : decode mX10_draw.2.1 3 = .ok (.if_icmp .lt 19, 3)) (by decide) (fun c => (?_ : XW _ _ _ _ _ _ _ 22 _ _)) (fun c => (?_ : XW _ _ _ _ _ _ _ 6 _ _))
  · replace vc := vc.1 c
    exact xi_throw (b := 0) (bs := 0) xT_107 (by decide +kernel : decode mX10_draw.2.1 22 = .ok (.new 105, 3)) (by decide +kernel : decode mX10_draw.2.1 25 = .ok (.dup, 1)) (by decide +kernel : decode mX10_draw.2.1 26 = .ok (.invokespecial 107, 3)) (by decide +kernel : decode mX10_draw.2.1 29 = .ok (.athrow, 1)) rfl (by decide) (Nat.le_of_ble_eq_true rfl) vc
  · replace vc := vc.2 c
    refine xi_iload_n (by decide +kernel : decode mX10_draw.2.1 6 = .ok (.iload_n 2, 1)) rfl rfl (?_ : XW _ _ _ _ _ _ _ 7 _ _)
    refine xi_bipush (v := 100) (by decide +kernel : decode mX10_draw.2.1 7 = .ok (.bipush 100, 2)) (by decide) (?_ : XW _ _ _ _ _ _ _ 9 _ _)
    refine xi_icmp_gt (by decide +kernel : decode mX10_draw.2.1 9 = .ok (.if_icmp .gt 13, 3)) (by decide) (fun c => (?_ : XW _ _ _ _ _ _ _ 22 _ _)) (fun c => (?_ : XW _ _ _ _ _ _ _ 12 _ _))
    · replace vc := vc.1 c
      exact xi_throw (b := 0) (bs := 0) xT_107 (by decide +kernel : decode mX10_draw.2.1 22 = .ok (.new 105, 3)) (by decide +kernel : decode mX10_draw.2.1 25 = .ok (.dup, 1)) (by decide +kernel : decode mX10_draw.2.1 26 = .ok (.invokespecial 107, 3)) (by decide +kernel : decode mX10_draw.2.1 29 = .ok (.athrow, 1)) rfl (by decide) (Nat.le_of_ble_eq_true rfl) vc
    · replace vc := vc.2 c
      refine xi_iload_n (by decide +kernel : decode mX10_draw.2.1 12 = .ok (.iload_n 3, 1)) rfl rfl (?_ : XW _ _ _ _ _ _ _ 13 _ _)
      refine xi_if_lt (by decide +kernel : decode mX10_draw.2.1 13 = .ok (.ifCond .lt 9, 3)) (by decide) (fun c => (?_ : XW _ _ _ _ _ _ _ 22 _ _)) (fun c => (?_ : XW _ _ _ _ _ _ _ 16 _ _))
      · replace vc := vc.1 c
        exact xi_throw (b := 0) (bs := 0) xT_107 (by decide +kernel : decode mX10_draw.2.1 22 = .ok (.new 105, 3)) (by decide +kernel : decode mX10_draw.2.1 25 = .ok (.dup, 1)) (by decide +kernel : decode mX10_draw.2.1 26 = .ok (.invokespecial 107, 3)) (by decide +kernel : decode mX10_draw.2.1 29 = .ok (.athrow, 1)) rfl (by decide) (Nat.le_of_ble_eq_true rfl) vc
      · replace vc := vc.2 c
        refine xi_iload_n (by decide +kernel : decode mX10_draw.2.1 16 = .ok (.iload_n 3, 1)) rfl rfl (?_ : XW _ _ _ _ _ _ _ 17 _ _)
        refine xi_bipush (v := 24) (by decide +kernel : decode mX10_draw.2.1 17 = .ok (.bipush 24, 2)) (by decide) (?_ : XW _ _ _ _ _ _ _ 19 _ _)
        refine xi_icmp_le (by decide +kernel : decode mX10_draw.2.1 19 = .ok (.if_icmp .le 11, 3)) (by decide) (fun c => (?_ : XW _ _ _ _ _ _ _ 30 _ _)) (fun c => (?_ : XW _ _ _ _ _ _ _ 22 _ _))
        · replace vc := vc.1 c
          refine xi_aload_n (by decide +kernel : decode mX10_draw.2.1 30 = .ok (.aload_n 0, 1)) rfl rfl (?_ : XW _ _ _ _ _ _ _ 31 _ _)
          refine xi_getR (y := r) (by decide +kernel : decode mX10_draw.2.1 31 = .ok (.getfield 23, 3)) fX10_23 rfl (by omega) rfl hb.2.1 (?_ : XW _ _ _ _ _ _ _ 34 _ _)
          obtain ⟨Q1, sp, vc⟩ := vc
          refine xi_callV (b := 1) (bs := 6) (As := []) (st := []) (by decide +kernel : decode mX10_draw.2.1 34 = .ok (.invokevirtual 337, 3)) kX10_337 rfl (xRul_s0 hr) (by omega) rfl sp (by decide) (by decide) (Nat.le_of_ble_eq_true rfl) (by omega) (fun v9 h1 hq9 => ?_)
          obtain ⟨e9, vc⟩ := vc v9 h1 hq9
          subst e9
          show XW _ _ _ _ _ _ _ 37 _ []
          refine xi_aload_n (by decide +kernel : decode mX10_draw.2.1 37 = .ok (.aload_n 0, 1)) rfl rfl (?_ : XW _ _ _ _ _ _ _ 38 _ _)
          obtain ⟨s1, vc⟩ := vc
          refine xi_getR (y := r) (by decide +kernel : decode mX10_draw.2.1 38 = .ok (.getfield 23, 3)) fX10_23 rfl (by omega) rfl s1 (?_ : XW _ _ _ _ _ _ _ 41 _ _)
          refine xi_iload_n (by decide +kernel : decode mX10_draw.2.1 41 = .ok (.iload_n 2, 1)) rfl rfl (?_ : XW _ _ _ _ _ _ _ 42 _ _)
          refine xi_putI (by decide +kernel : decode mX10_draw.2.1 42 = .ok (.putfield 148, 3)) fX10_148 (xRul_s0 hr) (by omega) rfl rfl rfl (?_ : XW _ _ _ _ _ _ (xSI r (va_up (xI h1 r) 0 m) h1) 45 _ _)
          refine xi_iload_n (by decide +kernel : decode mX10_draw.2.1 45 = .ok (.iload_n 1, 1)) rfl rfl (?_ : XW _ _ _ _ _ _ _ 46 _ _)
          refine xi_istore (ls' := [some (.ref 0), some (.int q), some (.int m), some (.int k0), some (.int q), none, none, none]) (by decide +kernel : decode mX10_draw.2.1 46 = .ok (.istore 4, 2)) (by decide) rfl (?_ : XW _ _ _ _ _ _ _ 48 _ _)
          refine xi_iconst (v := 0) (by decide +kernel : decode mX10_draw.2.1 48 = .ok (.iconst 0, 1)) (by decide) (?_ : XW _ _ _ _ _ _ _ 49 _ _)
          refine xi_istore (ls' := [some (.ref 0), some (.int q), some (.int m), some (.int k0), some (.int q), some (.int 0), none, none]) (by decide +kernel : decode mX10_draw.2.1 49 = .ok (.istore 5, 2)) (by decide) rfl (?_ : XW _ _ _ _ _ _ _ 51 _ _)
          refine xw_drop 1 (ls' := [some (.ref 0), none, some (.int m), some (.int k0), some (.int q), some (.int 0), none, none]) rfl ?_
          exact vc
        · replace vc := vc.2 c
          exact xi_throw (b := 0) (bs := 0) xT_107 (by decide +kernel : decode mX10_draw.2.1 22 = .ok (.new 105, 3)) (by decide +kernel : decode mX10_draw.2.1 25 = .ok (.dup, 1)) (by decide +kernel : decode mX10_draw.2.1 26 = .ok (.invokespecial 107, 3)) (by decide +kernel : decode mX10_draw.2.1 29 = .ok (.athrow, 1)) rfl (by decide) (Nat.le_of_ble_eq_true rfl) vc

set_option maxRecDepth 20000 in
theorem v_X10_draw_51 {h : XH} {Q : Option Value → XH → Prop} {X : String → XH → Prop} (r : Nat) (hbp : BP r h)  (x2 : Int32) (x3 : Int32) (x4 : Int32) (x5 : Int32)
    (vc : (x3 ≤ x5 → ∃ Q1, XSpec mX10_startAnew 6 0 0 100 100 [.ref 0] h Q1 xno ∧ ∀ v h2, Q1 v h2 → v = none ∧ ((xP h2 0 3 = some r) ∧ (Q (some (.int (xI h2 r 7))) h2))) ∧ (¬ x3 ≤ x5 → ∃ Q1, XSpec mX10_nextSeed 1 0 0 100 100 [.int x4] h Q1 xno ∧ ∀ v h3, Q1 v h3 → ∃ r3 : Int32, v = some (.int r3) ∧ (∃ Q1, XSpec mX10_drawn 1 0 0 100 100 [.int r3, .int (x2 - 1)] h3 Q1 xno ∧ ∀ v h4, Q1 v h4 → ∃ r4 : Int32, v = some (.int r4) ∧ (∃ Q1, XSpec mX10_nextSeed 1 0 0 100 100 [.int r3] h4 Q1 xno ∧ ∀ v h5, Q1 v h5 → ∃ r5 : Int32, v = some (.int r5) ∧ (∃ Q1, XSpec mX10_drawn 1 0 0 100 100 [.int r5, .int x2] h5 Q1 xno ∧ ∀ v h6, Q1 v h6 → ∃ r6 : Int32, v = some (.int r6) ∧ (((r6 + 1) = (r4 + 1) → XW (xrm 7 1 6) mX10_draw (xE 100 Q X 1 6) 100 1 6 h6 51 [some (.ref 0), none, some (.int x2), some (.int x3), some (.int r5), some (.int (x5 + 1)), none, none] []) ∧ (¬ (r6 + 1) = (r4 + 1) → (xP h6 0 3 = some r) ∧ (∃ Q1, XSpec mX5_isFoot 1 0 0 100 100 [.ref r, .int (r4 + 1)] h6 Q1 xno ∧ ∀ v h7, Q1 v h7 → ∃ r7 : Int32, v = some (.int r7) ∧ ((¬ r7 = 0 → XW (xrm 7 1 6) mX10_draw (xE 100 Q X 1 6) 100 1 6 h7 51 [some (.ref 0), none, some (.int x2), some (.int x3), some (.int r5), some (.int (x5 + 1)), none, none] []) ∧ (r7 = 0 → (xP h7 0 3 = some r) ∧ (∃ Q1, XSpec mX5_addExit 1 0 0 100 100 [.ref r, .int (r4 + 1), .int (r6 + 1)] h7 Q1 xno ∧ ∀ v h8, Q1 v h8 → v = none ∧ (XW (xrm 7 1 6) mX10_draw (xE 100 Q X 1 6) 100 1 6 h8 51 [some (.ref 0), none, some (.int x2), some (.int x3), some (.int r5), some (.int (x5 + 1)), none, none] [])))))))))))) :
    XW (xrm 7 1 6) mX10_draw (xE 100 Q X 1 6) 100 1 6 h 51 [some (.ref 0), none, some (.int x2), some (.int x3), some (.int x4), some (.int x5), none, none] [] := by
  obtain ⟨hb, hr, hnr, ha21, ha25, hu29, hu34, hw, hnt, hwr⟩ := hbp
  refine xi_iload (by decide +kernel : decode mX10_draw.2.1 51 = .ok (.iload 5, 2)) rfl (?_ : XW _ _ _ _ _ _ _ 53 _ _)
  refine xi_iload_n (by decide +kernel : decode mX10_draw.2.1 53 = .ok (.iload_n 3, 1)) rfl rfl (?_ : XW _ _ _ _ _ _ _ 54 _ _)
  refine xi_icmp_ge (by decide +kernel : decode mX10_draw.2.1 54 = .ok (.if_icmp .ge 75, 3)) (by decide) (fun c => (?_ : XW _ _ _ _ _ _ _ 129 _ _)) (fun c => (?_ : XW _ _ _ _ _ _ _ 57 _ _))
  · replace vc := vc.1 c
    refine xi_aload_n (by decide +kernel : decode mX10_draw.2.1 129 = .ok (.aload_n 0, 1)) rfl rfl (?_ : XW _ _ _ _ _ _ _ 130 _ _)
    obtain ⟨Q1, sp, vc⟩ := vc
    refine xi_callV (b := 1) (bs := 6) (As := []) (st := []) (by decide +kernel : decode mX10_draw.2.1 130 = .ok (.invokevirtual 98, 3)) kX10_98 rfl rfl (by omega) rfl sp (by decide) (by decide) (Nat.le_of_ble_eq_true rfl) (by omega) (fun v9 h2 hq9 => ?_)
    obtain ⟨e9, vc⟩ := vc v9 h2 hq9
    subst e9
    show XW _ _ _ _ _ _ _ 133 _ []
    refine xi_aload_n (by decide +kernel : decode mX10_draw.2.1 133 = .ok (.aload_n 0, 1)) rfl rfl (?_ : XW _ _ _ _ _ _ _ 134 _ _)
    obtain ⟨s1, vc⟩ := vc
    refine xi_getR (y := r) (by decide +kernel : decode mX10_draw.2.1 134 = .ok (.getfield 23, 3)) fX10_23 rfl (by omega) rfl s1 (?_ : XW _ _ _ _ _ _ _ 137 _ _)
    refine xi_getI (by decide +kernel : decode mX10_draw.2.1 137 = .ok (.getfield 151, 3)) fX10_151 (xRul_s0 hr) (by omega) rfl (?_ : XW _ _ _ _ _ _ _ 140 _ _)
    exact xi_iret (by decide +kernel : decode mX10_draw.2.1 140 = .ok (.ireturn, 1)) rfl rfl vc
  · replace vc := vc.2 c
    refine xi_iload (by decide +kernel : decode mX10_draw.2.1 57 = .ok (.iload 4, 2)) rfl (?_ : XW _ _ _ _ _ _ _ 59 _ _)
    obtain ⟨Q1, sp, vc⟩ := vc
    refine xi_callS (b := 1) (bs := 6) (As := [.int x4]) (st := []) (by decide +kernel : decode mX10_draw.2.1 59 = .ok (.invokestatic 202, 3)) kX10_202 rfl rfl sp (by decide) (by decide) (Nat.le_of_ble_eq_true rfl) (by omega) (fun v9 h3 hq9 => ?_)
    obtain ⟨r3, e9, vc⟩ := vc v9 h3 hq9
    subst e9
    show XW _ _ _ _ _ _ _ 62 _ [.int r3]
    refine xi_istore (ls' := [some (.ref 0), none, some (.int x2), some (.int x3), some (.int r3), some (.int x5), none, none]) (by decide +kernel : decode mX10_draw.2.1 62 = .ok (.istore 4, 2)) (by decide) rfl (?_ : XW _ _ _ _ _ _ _ 64 _ _)
    refine xi_iload (by decide +kernel : decode mX10_draw.2.1 64 = .ok (.iload 4, 2)) rfl (?_ : XW _ _ _ _ _ _ _ 66 _ _)
    refine xi_iload_n (by decide +kernel : decode mX10_draw.2.1 66 = .ok (.iload_n 2, 1)) rfl rfl (?_ : XW _ _ _ _ _ _ _ 67 _ _)
    refine xi_iconst (v := 1) (by decide +kernel : decode mX10_draw.2.1 67 = .ok (.iconst 1, 1)) (by decide) (?_ : XW _ _ _ _ _ _ _ 68 _ _)
    refine xi_isub (by decide +kernel : decode mX10_draw.2.1 68 = .ok (.isub, 1)) (?_ : XW _ _ _ _ _ _ _ 69 _ _)
    obtain ⟨Q1, sp, vc⟩ := vc
    refine xi_callS (b := 1) (bs := 6) (As := [.int r3, .int (x2 - 1)]) (st := []) (by decide +kernel : decode mX10_draw.2.1 69 = .ok (.invokestatic 208, 3)) kX10_208 rfl rfl sp (by decide) (by decide) (Nat.le_of_ble_eq_true rfl) (by omega) (fun v9 h4 hq9 => ?_)
    obtain ⟨r4, e9, vc⟩ := vc v9 h4 hq9
    subst e9
    show XW _ _ _ _ _ _ _ 72 _ [.int r4]
    refine xi_iconst (v := 1) (by decide +kernel : decode mX10_draw.2.1 72 = .ok (.iconst 1, 1)) (by decide) (?_ : XW _ _ _ _ _ _ _ 73 _ _)
    refine xi_iadd (by decide +kernel : decode mX10_draw.2.1 73 = .ok (.iadd, 1)) (?_ : XW _ _ _ _ _ _ _ 74 _ _)
    refine xi_istore (ls' := [some (.ref 0), none, some (.int x2), some (.int x3), some (.int r3), some (.int x5), some (.int (r4 + 1)), none]) (by decide +kernel : decode mX10_draw.2.1 74 = .ok (.istore 6, 2)) (by decide) rfl (?_ : XW _ _ _ _ _ _ _ 76 _ _)
    refine xi_iload (by decide +kernel : decode mX10_draw.2.1 76 = .ok (.iload 4, 2)) rfl (?_ : XW _ _ _ _ _ _ _ 78 _ _)
    obtain ⟨Q1, sp, vc⟩ := vc
    refine xi_callS (b := 1) (bs := 6) (As := [.int r3]) (st := []) (by decide +kernel : decode mX10_draw.2.1 78 = .ok (.invokestatic 202, 3)) kX10_202 rfl rfl sp (by decide) (by decide) (Nat.le_of_ble_eq_true rfl) (by omega) (fun v9 h5 hq9 => ?_)
    obtain ⟨r5, e9, vc⟩ := vc v9 h5 hq9
    subst e9
    show XW _ _ _ _ _ _ _ 81 _ [.int r5]
    refine xi_istore (ls' := [some (.ref 0), none, some (.int x2), some (.int x3), some (.int r5), some (.int x5), some (.int (r4 + 1)), none]) (by decide +kernel : decode mX10_draw.2.1 81 = .ok (.istore 4, 2)) (by decide) rfl (?_ : XW _ _ _ _ _ _ _ 83 _ _)
    refine xi_iload (by decide +kernel : decode mX10_draw.2.1 83 = .ok (.iload 4, 2)) rfl (?_ : XW _ _ _ _ _ _ _ 85 _ _)
    refine xi_iload_n (by decide +kernel : decode mX10_draw.2.1 85 = .ok (.iload_n 2, 1)) rfl rfl (?_ : XW _ _ _ _ _ _ _ 86 _ _)
    obtain ⟨Q1, sp, vc⟩ := vc
    refine xi_callS (b := 1) (bs := 6) (As := [.int r5, .int x2]) (st := []) (by decide +kernel : decode mX10_draw.2.1 86 = .ok (.invokestatic 208, 3)) kX10_208 rfl rfl sp (by decide) (by decide) (Nat.le_of_ble_eq_true rfl) (by omega) (fun v9 h6 hq9 => ?_)
    obtain ⟨r6, e9, vc⟩ := vc v9 h6 hq9
    subst e9
    show XW _ _ _ _ _ _ _ 89 _ [.int r6]
    refine xi_iconst (v := 1) (by decide +kernel : decode mX10_draw.2.1 89 = .ok (.iconst 1, 1)) (by decide) (?_ : XW _ _ _ _ _ _ _ 90 _ _)
    refine xi_iadd (by decide +kernel : decode mX10_draw.2.1 90 = .ok (.iadd, 1)) (?_ : XW _ _ _ _ _ _ _ 91 _ _)
    refine xi_istore (ls' := [some (.ref 0), none, some (.int x2), some (.int x3), some (.int r5), some (.int x5), some (.int (r4 + 1)), some (.int (r6 + 1))]) (by decide +kernel : decode mX10_draw.2.1 91 = .ok (.istore 7, 2)) (by decide) rfl (?_ : XW _ _ _ _ _ _ _ 93 _ _)
    refine xi_iload (by decide +kernel : decode mX10_draw.2.1 93 = .ok (.iload 7, 2)) rfl (?_ : XW _ _ _ _ _ _ _ 95 _ _)
    refine xi_iload (by decide +kernel : decode mX10_draw.2.1 95 = .ok (.iload 6, 2)) rfl (?_ : XW _ _ _ _ _ _ _ 97 _ _)
    refine xi_icmp_eq (by decide +kernel : decode mX10_draw.2.1 97 = .ok (.if_icmp .eq 26, 3)) (by decide) (fun c => (?_ : XW _ _ _ _ _ _ _ 123 _ _)) (fun c => (?_ : XW _ _ _ _ _ _ _ 100 _ _))
    · replace vc := vc.1 c
      refine xi_iinc (v := x5 + 1) (ls' := [some (.ref 0), none, some (.int x2), some (.int x3), some (.int r5), some (.int (x5 + 1)), some (.int (r4 + 1)), some (.int (r6 + 1))]) (by decide +kernel : decode mX10_draw.2.1 123 = .ok (.iinc 5 1, 3)) rfl rfl (by decide) rfl (?_ : XW _ _ _ _ _ _ _ 126 _ _)
      refine xi_goto (by decide +kernel : decode mX10_draw.2.1 126 = .ok (.goto (-75), 3)) (by decide) (?_ : XW _ _ _ _ _ _ _ 51 _ _)
      refine xw_drop 6 (ls' := [some (.ref 0), none, some (.int x2), some (.int x3), some (.int r5), some (.int (x5 + 1)), none, some (.int (r6 + 1))]) rfl ?_
      refine xw_drop 7 (ls' := [some (.ref 0), none, some (.int x2), some (.int x3), some (.int r5), some (.int (x5 + 1)), none, none]) rfl ?_
      exact vc
    · replace vc := vc.2 c
      refine xi_aload_n (by decide +kernel : decode mX10_draw.2.1 100 = .ok (.aload_n 0, 1)) rfl rfl (?_ : XW _ _ _ _ _ _ _ 101 _ _)
      obtain ⟨s1, vc⟩ := vc
      refine xi_getR (y := r) (by decide +kernel : decode mX10_draw.2.1 101 = .ok (.getfield 23, 3)) fX10_23 rfl (by omega) rfl s1 (?_ : XW _ _ _ _ _ _ _ 104 _ _)
      refine xi_iload (by decide +kernel : decode mX10_draw.2.1 104 = .ok (.iload 6, 2)) rfl (?_ : XW _ _ _ _ _ _ _ 106 _ _)
      obtain ⟨Q1, sp, vc⟩ := vc
      refine xi_callV (b := 1) (bs := 6) (As := [.int (r4 + 1)]) (st := []) (by decide +kernel : decode mX10_draw.2.1 106 = .ok (.invokevirtual 295, 3)) kX10_295 rfl (xRul_s0 hr) (by omega) rfl sp (by decide) (by decide) (Nat.le_of_ble_eq_true rfl) (by omega) (fun v9 h7 hq9 => ?_)
      obtain ⟨r7, e9, vc⟩ := vc v9 h7 hq9
      subst e9
      show XW _ _ _ _ _ _ _ 109 _ [.int r7]
      refine xi_if_ne (by decide +kernel : decode mX10_draw.2.1 109 = .ok (.ifCond .ne 14, 3)) (by decide) (fun c => (?_ : XW _ _ _ _ _ _ _ 123 _ _)) (fun c => (?_ : XW _ _ _ _ _ _ _ 112 _ _))
      · replace vc := vc.1 c
        refine xi_iinc (v := x5 + 1) (ls' := [some (.ref 0), none, some (.int x2), some (.int x3), some (.int r5), some (.int (x5 + 1)), some (.int (r4 + 1)), some (.int (r6 + 1))]) (by decide +kernel : decode mX10_draw.2.1 123 = .ok (.iinc 5 1, 3)) rfl rfl (by decide) rfl (?_ : XW _ _ _ _ _ _ _ 126 _ _)
        refine xi_goto (by decide +kernel : decode mX10_draw.2.1 126 = .ok (.goto (-75), 3)) (by decide) (?_ : XW _ _ _ _ _ _ _ 51 _ _)
        refine xw_drop 6 (ls' := [some (.ref 0), none, some (.int x2), some (.int x3), some (.int r5), some (.int (x5 + 1)), none, some (.int (r6 + 1))]) rfl ?_
        refine xw_drop 7 (ls' := [some (.ref 0), none, some (.int x2), some (.int x3), some (.int r5), some (.int (x5 + 1)), none, none]) rfl ?_
        exact vc
      · replace vc := vc.2 c
        refine xi_aload_n (by decide +kernel : decode mX10_draw.2.1 112 = .ok (.aload_n 0, 1)) rfl rfl (?_ : XW _ _ _ _ _ _ _ 113 _ _)
        obtain ⟨s1, vc⟩ := vc
        refine xi_getR (y := r) (by decide +kernel : decode mX10_draw.2.1 113 = .ok (.getfield 23, 3)) fX10_23 rfl (by omega) rfl s1 (?_ : XW _ _ _ _ _ _ _ 116 _ _)
        refine xi_iload (by decide +kernel : decode mX10_draw.2.1 116 = .ok (.iload 6, 2)) rfl (?_ : XW _ _ _ _ _ _ _ 118 _ _)
        refine xi_iload (by decide +kernel : decode mX10_draw.2.1 118 = .ok (.iload 7, 2)) rfl (?_ : XW _ _ _ _ _ _ _ 120 _ _)
        obtain ⟨Q1, sp, vc⟩ := vc
        refine xi_callV (b := 1) (bs := 6) (As := [.int (r4 + 1), .int (r6 + 1)]) (st := []) (by decide +kernel : decode mX10_draw.2.1 120 = .ok (.invokevirtual 340, 3)) kX10_340 rfl (xRul_s0 hr) (by omega) rfl sp (by decide) (by decide) (Nat.le_of_ble_eq_true rfl) (by omega) (fun v9 h8 hq9 => ?_)
        obtain ⟨e9, vc⟩ := vc v9 h8 hq9
        subst e9
        show XW _ _ _ _ _ _ _ 123 _ []
        refine xi_iinc (v := x5 + 1) (ls' := [some (.ref 0), none, some (.int x2), some (.int x3), some (.int r5), some (.int (x5 + 1)), some (.int (r4 + 1)), some (.int (r6 + 1))]) (by decide +kernel : decode mX10_draw.2.1 123 = .ok (.iinc 5 1, 3)) rfl rfl (by decide) rfl (?_ : XW _ _ _ _ _ _ _ 126 _ _)
        refine xi_goto (by decide +kernel : decode mX10_draw.2.1 126 = .ok (.goto (-75), 3)) (by decide) (?_ : XW _ _ _ _ _ _ _ 51 _ _)
        refine xw_drop 6 (ls' := [some (.ref 0), none, some (.int x2), some (.int x3), some (.int r5), some (.int (x5 + 1)), none, some (.int (r6 + 1))]) rfl ?_
        refine xw_drop 7 (ls' := [some (.ref 0), none, some (.int x2), some (.int x3), some (.int r5), some (.int (x5 + 1)), none, none]) rfl ?_
        exact vc

set_option maxRecDepth 20000 in
theorem v_X11_takeHalf_0 {h : XH} {Q : Option Value → XH → Prop} {X : String → XH → Prop} (a9 N9 : Nat) (ha9 : SH a9 = .inl (.int, N9)) (han : a9 < 100) 
    (vc : XW (xrm 1 0 0) mX11_takeHalf (xE 100 Q X 0 0) 100 0 0 h 2 [some (.ref a9), some (.int 0)] []) :
    XW (xrm 1 0 0) mX11_takeHalf (xE 100 Q X 0 0) 100 0 0 h 0 [some (.ref a9), none] [] := by
  refine xi_iconst (v := 0) (by decide +kernel : decode mX11_takeHalf.2.1 0 = .ok (.iconst 0, 1)) (by decide) (?_ : XW _ _ _ _ _ _ _ 1 _ _)
  refine xi_istore_n (ls' := [some (.ref a9), some (.int 0)]) (by decide +kernel : decode mX11_takeHalf.2.1 1 = .ok (.istore_n 1, 1)) rfl (by decide) rfl (?_ : XW _ _ _ _ _ _ _ 2 _ _)
  exact vc

set_option maxRecDepth 20000 in
theorem v_X11_takeHalf_2 {h : XH} {Q : Option Value → XH → Prop} {X : String → XH → Prop} (a9 N9 : Nat) (ha9 : SH a9 = .inl (.int, N9)) (han : a9 < 100)  (x1 : Int32)
    (vc : (((nI N9) / 2) ≤ x1 → Q none h) ∧ (¬ ((nI N9) / 2) ≤ x1 → (vp_in (((nI N9) / 2) + x1) N9) ∧ ((vp_in x1 N9) ∧ (XW (xrm 1 0 0) mX11_takeHalf (xE 100 Q X 0 0) 100 0 0 (xSI a9 (va_up (xI h a9) x1.toNatClampNeg (xI h a9 (((nI N9) / 2) + x1).toNatClampNeg)) h) 2 [some (.ref a9), some (.int (x1 + 1))] [])))) :
    XW (xrm 1 0 0) mX11_takeHalf (xE 100 Q X 0 0) 100 0 0 h 2 [some (.ref a9), some (.int x1)] [] := by
  refine xi_iload_n (by decide +kernel : decode mX11_takeHalf.2.1 2 = .ok (.iload_n 1, 1)) rfl rfl (?_ : XW _ _ _ _ _ _ _ 3 _ _)
  refine xi_aload_n (by decide +kernel : decode mX11_takeHalf.2.1 3 = .ok (.aload_n 0, 1)) rfl rfl (?_ : XW _ _ _ _ _ _ _ 4 _ _)
  refine xi_alen (v := nI N9) (by decide +kernel : decode mX11_takeHalf.2.1 4 = .ok (.arraylength, 1)) ha9 (by omega) (Or.inl rfl) rfl (?_ : XW _ _ _ _ _ _ _ 5 _ _)
  refine xi_iconst (v := 2) (by decide +kernel : decode mX11_takeHalf.2.1 5 = .ok (.iconst 2, 1)) (by decide) (?_ : XW _ _ _ _ _ _ _ 6 _ _)
  refine xi_idiv (by decide +kernel : decode mX11_takeHalf.2.1 6 = .ok (.idiv, 1)) (by decide) (?_ : XW _ _ _ _ _ _ _ 7 _ _)
  refine xi_icmp_ge (by decide +kernel : decode mX11_takeHalf.2.1 7 = .ok (.if_icmp .ge 20, 3)) (by decide) (fun c => (?_ : XW _ _ _ _ _ _ _ 27 _ _)) (fun c => (?_ : XW _ _ _ _ _ _ _ 10 _ _))
  · replace vc := vc.1 c
    exact xi_vret (by decide +kernel : decode mX11_takeHalf.2.1 27 = .ok (.return_, 1)) rfl vc
  · replace vc := vc.2 c
    refine xi_aload_n (by decide +kernel : decode mX11_takeHalf.2.1 10 = .ok (.aload_n 0, 1)) rfl rfl (?_ : XW _ _ _ _ _ _ _ 11 _ _)
    refine xi_iload_n (by decide +kernel : decode mX11_takeHalf.2.1 11 = .ok (.iload_n 1, 1)) rfl rfl (?_ : XW _ _ _ _ _ _ _ 12 _ _)
    refine xi_aload_n (by decide +kernel : decode mX11_takeHalf.2.1 12 = .ok (.aload_n 0, 1)) rfl rfl (?_ : XW _ _ _ _ _ _ _ 13 _ _)
    refine xi_aload_n (by decide +kernel : decode mX11_takeHalf.2.1 13 = .ok (.aload_n 0, 1)) rfl rfl (?_ : XW _ _ _ _ _ _ _ 14 _ _)
    refine xi_alen (v := nI N9) (by decide +kernel : decode mX11_takeHalf.2.1 14 = .ok (.arraylength, 1)) ha9 (by omega) (Or.inl rfl) rfl (?_ : XW _ _ _ _ _ _ _ 15 _ _)
    refine xi_iconst (v := 2) (by decide +kernel : decode mX11_takeHalf.2.1 15 = .ok (.iconst 2, 1)) (by decide) (?_ : XW _ _ _ _ _ _ _ 16 _ _)
    refine xi_idiv (by decide +kernel : decode mX11_takeHalf.2.1 16 = .ok (.idiv, 1)) (by decide) (?_ : XW _ _ _ _ _ _ _ 17 _ _)
    refine xi_iload_n (by decide +kernel : decode mX11_takeHalf.2.1 17 = .ok (.iload_n 1, 1)) rfl rfl (?_ : XW _ _ _ _ _ _ _ 18 _ _)
    refine xi_iadd (by decide +kernel : decode mX11_takeHalf.2.1 18 = .ok (.iadd, 1)) (?_ : XW _ _ _ _ _ _ _ 19 _ _)
    obtain ⟨s1, vc⟩ := vc
    refine xi_iald (by decide +kernel : decode mX11_takeHalf.2.1 19 = .ok (.iaload, 1)) ha9 (by omega) s1 (?_ : XW _ _ _ _ _ _ _ 20 _ _)
    obtain ⟨s1, vc⟩ := vc
    refine xi_iast (by decide +kernel : decode mX11_takeHalf.2.1 20 = .ok (.iastore, 1)) ha9 (by omega) s1 (?_ : XW _ _ _ _ _ _ (xSI a9 (va_up (xI h a9) x1.toNatClampNeg (xI h a9 (((nI N9) / 2) + x1).toNatClampNeg)) h) 21 _ _)
    refine xi_iinc (v := x1 + 1) (ls' := [some (.ref a9), some (.int (x1 + 1))]) (by decide +kernel : decode mX11_takeHalf.2.1 21 = .ok (.iinc 1 1, 3)) rfl rfl (by decide) rfl (?_ : XW _ _ _ _ _ _ _ 24 _ _)
    refine xi_goto (by decide +kernel : decode mX11_takeHalf.2.1 24 = .ok (.goto (-22), 3)) (by decide) (?_ : XW _ _ _ _ _ _ _ 2 _ _)
    exact vc

set_option maxRecDepth 20000 in
theorem v_X11_begin_0 {h : XH} {Q : Option Value → XH → Prop} {X : String → XH → Prop} (hM : xMod (xP h)) 
    (vc : XW (xrm 1 0 0) mX11_begin (xE 100 Q X 0 0) 100 0 0 h 2 [some (.ref 56), some (.int 0)] []) :
    XW (xrm 1 0 0) mX11_begin (xE 100 Q X 0 0) 100 0 0 h 0 [some (.ref 56), none] [] := by
  refine xi_iconst (v := 0) (by decide +kernel : decode mX11_begin.2.1 0 = .ok (.iconst 0, 1)) (by decide) (?_ : XW _ _ _ _ _ _ _ 1 _ _)
  refine xi_istore_n (ls' := [some (.ref 56), some (.int 0)]) (by decide +kernel : decode mX11_begin.2.1 1 = .ok (.istore_n 1, 1)) rfl (by decide) rfl (?_ : XW _ _ _ _ _ _ _ 2 _ _)
  exact vc

set_option maxRecDepth 20000 in
theorem v_X11_begin_2 {h : XH} {Q : Option Value → XH → Prop} {X : String → XH → Prop} (hM : xMod (xP h))  (x1 : Int32)
    (vc : (8 ≤ x1 → XW (xrm 1 0 0) mX11_begin (xE 100 Q X 0 0) 100 0 0 h 44 [some (.ref 56), some (.int 0)] []) ∧ (¬ 8 ≤ x1 → (¬ x1 = 0 → (¬ x1 = 2 → (vp_in (8 + x1) 16) ∧ (XW (xrm 1 0 0) mX11_begin (xE 100 Q X 0 0) 100 0 0 (xSI 59 (va_up (xI h 59) (8 + x1).toNatClampNeg 0) h) 2 [some (.ref 56), some (.int (x1 + 1))] [])) ∧ (x1 = 2 → (vp_in (8 + x1) 16) ∧ (XW (xrm 1 0 0) mX11_begin (xE 100 Q X 0 0) 100 0 0 (xSI 59 (va_up (xI h 59) (8 + x1).toNatClampNeg 2) h) 2 [some (.ref 56), some (.int (x1 + 1))] []))) ∧ (x1 = 0 → (vp_in (8 + x1) 16) ∧ (XW (xrm 1 0 0) mX11_begin (xE 100 Q X 0 0) 100 0 0 (xSI 59 (va_up (xI h 59) (8 + x1).toNatClampNeg 36) h) 2 [some (.ref 56), some (.int (x1 + 1))] [])))) :
    XW (xrm 1 0 0) mX11_begin (xE 100 Q X 0 0) 100 0 0 h 2 [some (.ref 56), some (.int x1)] [] := by
  refine xi_iload_n (by decide +kernel : decode mX11_begin.2.1 2 = .ok (.iload_n 1, 1)) rfl rfl (?_ : XW _ _ _ _ _ _ _ 3 _ _)
  refine xi_bipush (v := 8) (by decide +kernel : decode mX11_begin.2.1 3 = .ok (.bipush 8, 2)) (by decide) (?_ : XW _ _ _ _ _ _ _ 5 _ _)
  refine xi_icmp_ge (by decide +kernel : decode mX11_begin.2.1 5 = .ok (.if_icmp .ge 37, 3)) (by decide) (fun c => (?_ : XW _ _ _ _ _ _ _ 42 _ _)) (fun c => (?_ : XW _ _ _ _ _ _ _ 8 _ _))
  · replace vc := vc.1 c
    refine xi_iconst (v := 0) (by decide +kernel : decode mX11_begin.2.1 42 = .ok (.iconst 0, 1)) (by decide) (?_ : XW _ _ _ _ _ _ _ 43 _ _)
    refine xi_istore_n (ls' := [some (.ref 56), some (.int 0)]) (by decide +kernel : decode mX11_begin.2.1 43 = .ok (.istore_n 1, 1)) rfl (by decide) rfl (?_ : XW _ _ _ _ _ _ _ 44 _ _)
    exact vc
  · replace vc := vc.2 c
    refine xi_aload_n (by decide +kernel : decode mX11_begin.2.1 8 = .ok (.aload_n 0, 1)) rfl rfl (?_ : XW _ _ _ _ _ _ _ 9 _ _)
    refine xi_getR (y := 59) (by decide +kernel : decode mX11_begin.2.1 9 = .ok (.getfield 32, 3)) fX11_32 rfl (by omega) rfl (mp_told hM) (?_ : XW _ _ _ _ _ _ _ 12 _ _)
    refine xi_bipush (v := 8) (by decide +kernel : decode mX11_begin.2.1 12 = .ok (.bipush 8, 2)) (by decide) (?_ : XW _ _ _ _ _ _ _ 14 _ _)
    refine xi_iload_n (by decide +kernel : decode mX11_begin.2.1 14 = .ok (.iload_n 1, 1)) rfl rfl (?_ : XW _ _ _ _ _ _ _ 15 _ _)
    refine xi_iadd (by decide +kernel : decode mX11_begin.2.1 15 = .ok (.iadd, 1)) (?_ : XW _ _ _ _ _ _ _ 16 _ _)
    refine xi_iload_n (by decide +kernel : decode mX11_begin.2.1 16 = .ok (.iload_n 1, 1)) rfl rfl (?_ : XW _ _ _ _ _ _ _ 17 _ _)
    refine xi_if_ne (by decide +kernel : decode mX11_begin.2.1 17 = .ok (.ifCond .ne 8, 3)) (by decide) (fun c => (?_ : XW _ _ _ _ _ _ _ 25 _ _)) (fun c => (?_ : XW _ _ _ _ _ _ _ 20 _ _))
    · replace vc := vc.1 c
      refine xi_iload_n (by decide +kernel : decode mX11_begin.2.1 25 = .ok (.iload_n 1, 1)) rfl rfl (?_ : XW _ _ _ _ _ _ _ 26 _ _)
      refine xi_iconst (v := 2) (by decide +kernel : decode mX11_begin.2.1 26 = .ok (.iconst 2, 1)) (by decide) (?_ : XW _ _ _ _ _ _ _ 27 _ _)
      refine xi_icmp_ne (by decide +kernel : decode mX11_begin.2.1 27 = .ok (.if_icmp .ne 7, 3)) (by decide) (fun c => (?_ : XW _ _ _ _ _ _ _ 34 _ _)) (fun c => (?_ : XW _ _ _ _ _ _ _ 30 _ _))
      · replace vc := vc.1 c
        refine xi_iconst (v := 0) (by decide +kernel : decode mX11_begin.2.1 34 = .ok (.iconst 0, 1)) (by decide) (?_ : XW _ _ _ _ _ _ _ 35 _ _)
        obtain ⟨s1, vc⟩ := vc
        refine xi_iast (by decide +kernel : decode mX11_begin.2.1 35 = .ok (.iastore, 1)) rfl (by omega) s1 (?_ : XW _ _ _ _ _ _ (xSI 59 (va_up (xI h 59) (8 + x1).toNatClampNeg 0) h) 36 _ _)
        refine xi_iinc (v := x1 + 1) (ls' := [some (.ref 56), some (.int (x1 + 1))]) (by decide +kernel : decode mX11_begin.2.1 36 = .ok (.iinc 1 1, 3)) rfl rfl (by decide) rfl (?_ : XW _ _ _ _ _ _ _ 39 _ _)
        refine xi_goto (by decide +kernel : decode mX11_begin.2.1 39 = .ok (.goto (-37), 3)) (by decide) (?_ : XW _ _ _ _ _ _ _ 2 _ _)
        exact vc
      · replace vc := vc.2 c
        refine xi_iconst (v := 2) (by decide +kernel : decode mX11_begin.2.1 30 = .ok (.iconst 2, 1)) (by decide) (?_ : XW _ _ _ _ _ _ _ 31 _ _)
        refine xi_goto (by decide +kernel : decode mX11_begin.2.1 31 = .ok (.goto 4, 3)) (by decide) (?_ : XW _ _ _ _ _ _ _ 35 _ _)
        obtain ⟨s1, vc⟩ := vc
        refine xi_iast (by decide +kernel : decode mX11_begin.2.1 35 = .ok (.iastore, 1)) rfl (by omega) s1 (?_ : XW _ _ _ _ _ _ (xSI 59 (va_up (xI h 59) (8 + x1).toNatClampNeg 2) h) 36 _ _)
        refine xi_iinc (v := x1 + 1) (ls' := [some (.ref 56), some (.int (x1 + 1))]) (by decide +kernel : decode mX11_begin.2.1 36 = .ok (.iinc 1 1, 3)) rfl rfl (by decide) rfl (?_ : XW _ _ _ _ _ _ _ 39 _ _)
        refine xi_goto (by decide +kernel : decode mX11_begin.2.1 39 = .ok (.goto (-37), 3)) (by decide) (?_ : XW _ _ _ _ _ _ _ 2 _ _)
        exact vc
    · replace vc := vc.2 c
      refine xi_bipush (v := 36) (by decide +kernel : decode mX11_begin.2.1 20 = .ok (.bipush 36, 2)) (by decide) (?_ : XW _ _ _ _ _ _ _ 22 _ _)
      refine xi_goto (by decide +kernel : decode mX11_begin.2.1 22 = .ok (.goto 13, 3)) (by decide) (?_ : XW _ _ _ _ _ _ _ 35 _ _)
      obtain ⟨s1, vc⟩ := vc
      refine xi_iast (by decide +kernel : decode mX11_begin.2.1 35 = .ok (.iastore, 1)) rfl (by omega) s1 (?_ : XW _ _ _ _ _ _ (xSI 59 (va_up (xI h 59) (8 + x1).toNatClampNeg 36) h) 36 _ _)
      refine xi_iinc (v := x1 + 1) (ls' := [some (.ref 56), some (.int (x1 + 1))]) (by decide +kernel : decode mX11_begin.2.1 36 = .ok (.iinc 1 1, 3)) rfl rfl (by decide) rfl (?_ : XW _ _ _ _ _ _ _ 39 _ _)
      refine xi_goto (by decide +kernel : decode mX11_begin.2.1 39 = .ok (.goto (-37), 3)) (by decide) (?_ : XW _ _ _ _ _ _ _ 2 _ _)
      exact vc

set_option maxRecDepth 20000 in
theorem v_X11_begin_44 {h : XH} {Q : Option Value → XH → Prop} {X : String → XH → Prop} (hM : xMod (xP h))  (x1 : Int32)
    (vc : (6 ≤ x1 → Q none h) ∧ (¬ 6 ≤ x1 → (vp_in (6 + x1) 12) ∧ (XW (xrm 1 0 0) mX11_begin (xE 100 Q X 0 0) 100 0 0 (xSI 60 (va_up (xI h 60) (6 + x1).toNatClampNeg 1) h) 44 [some (.ref 56), some (.int (x1 + 1))] []))) :
    XW (xrm 1 0 0) mX11_begin (xE 100 Q X 0 0) 100 0 0 h 44 [some (.ref 56), some (.int x1)] [] := by
  refine xi_iload_n (by decide +kernel : decode mX11_begin.2.1 44 = .ok (.iload_n 1, 1)) rfl rfl (?_ : XW _ _ _ _ _ _ _ 45 _ _)
  refine xi_bipush (v := 6) (by decide +kernel : decode mX11_begin.2.1 45 = .ok (.bipush 6, 2)) (by decide) (?_ : XW _ _ _ _ _ _ _ 47 _ _)
  refine xi_icmp_ge (by decide +kernel : decode mX11_begin.2.1 47 = .ok (.if_icmp .ge 19, 3)) (by decide) (fun c => (?_ : XW _ _ _ _ _ _ _ 66 _ _)) (fun c => (?_ : XW _ _ _ _ _ _ _ 50 _ _))
  · replace vc := vc.1 c
    exact xi_vret (by decide +kernel : decode mX11_begin.2.1 66 = .ok (.return_, 1)) rfl vc
  · replace vc := vc.2 c
    refine xi_aload_n (by decide +kernel : decode mX11_begin.2.1 50 = .ok (.aload_n 0, 1)) rfl rfl (?_ : XW _ _ _ _ _ _ _ 51 _ _)
    refine xi_getR (y := 60) (by decide +kernel : decode mX11_begin.2.1 51 = .ok (.getfield 36, 3)) fX11_36 rfl (by omega) rfl (mp_die hM) (?_ : XW _ _ _ _ _ _ _ 54 _ _)
    refine xi_bipush (v := 6) (by decide +kernel : decode mX11_begin.2.1 54 = .ok (.bipush 6, 2)) (by decide) (?_ : XW _ _ _ _ _ _ _ 56 _ _)
    refine xi_iload_n (by decide +kernel : decode mX11_begin.2.1 56 = .ok (.iload_n 1, 1)) rfl rfl (?_ : XW _ _ _ _ _ _ _ 57 _ _)
    refine xi_iadd (by decide +kernel : decode mX11_begin.2.1 57 = .ok (.iadd, 1)) (?_ : XW _ _ _ _ _ _ _ 58 _ _)
    refine xi_iconst (v := 1) (by decide +kernel : decode mX11_begin.2.1 58 = .ok (.iconst 1, 1)) (by decide) (?_ : XW _ _ _ _ _ _ _ 59 _ _)
    obtain ⟨s1, vc⟩ := vc
    refine xi_iast (by decide +kernel : decode mX11_begin.2.1 59 = .ok (.iastore, 1)) rfl (by omega) s1 (?_ : XW _ _ _ _ _ _ (xSI 60 (va_up (xI h 60) (6 + x1).toNatClampNeg 1) h) 60 _ _)
    refine xi_iinc (v := x1 + 1) (ls' := [some (.ref 56), some (.int (x1 + 1))]) (by decide +kernel : decode mX11_begin.2.1 60 = .ok (.iinc 1 1, 3)) rfl rfl (by decide) rfl (?_ : XW _ _ _ _ _ _ _ 63 _ _)
    refine xi_goto (by decide +kernel : decode mX11_begin.2.1 63 = .ok (.goto (-19), 3)) (by decide) (?_ : XW _ _ _ _ _ _ _ 44 _ _)
    exact vc

set_option maxRecDepth 20000 in
theorem v_X11_isFoot_0 {h : XH} {Q : Option Value → XH → Prop} {X : String → XH → Prop} (hM : xMod (xP h))  (q : Int32)
    (vc : XW (xrm 1 0 0) mX11_isFoot (xE 100 Q X 0 0) 100 0 0 h 2 [some (.ref 56), some (.int q), some (.int 0)] []) :
    XW (xrm 1 0 0) mX11_isFoot (xE 100 Q X 0 0) 100 0 0 h 0 [some (.ref 56), some (.int q), none] [] := by
  refine xi_iconst (v := 0) (by decide +kernel : decode mX11_isFoot.2.1 0 = .ok (.iconst 0, 1)) (by decide) (?_ : XW _ _ _ _ _ _ _ 1 _ _)
  refine xi_istore_n (ls' := [some (.ref 56), some (.int q), some (.int 0)]) (by decide +kernel : decode mX11_isFoot.2.1 1 = .ok (.istore_n 2, 1)) rfl (by decide) rfl (?_ : XW _ _ _ _ _ _ _ 2 _ _)
  exact vc

set_option maxRecDepth 20000 in
theorem v_X11_isFoot_2 {h : XH} {Q : Option Value → XH → Prop} {X : String → XH → Prop} (hM : xMod (xP h))  (x1 : Int32) (x2 : Int32)
    (vc : ((xI h 59 9) ≤ x2 → Q (some (.int 0)) h) ∧ (¬ (xI h 59 9) ≤ x2 → (vp_in (24 + x2) 48) ∧ ((¬ (xI h 61 (24 + x2).toNatClampNeg) = x1 → XW (xrm 1 0 0) mX11_isFoot (xE 100 Q X 0 0) 100 0 0 h 2 [some (.ref 56), some (.int x1), some (.int (x2 + 1))] []) ∧ ((xI h 61 (24 + x2).toNatClampNeg) = x1 → Q (some (.int 1)) h)))) :
    XW (xrm 1 0 0) mX11_isFoot (xE 100 Q X 0 0) 100 0 0 h 2 [some (.ref 56), some (.int x1), some (.int x2)] [] := by
  refine xi_iload_n (by decide +kernel : decode mX11_isFoot.2.1 2 = .ok (.iload_n 2, 1)) rfl rfl (?_ : XW _ _ _ _ _ _ _ 3 _ _)
  refine xi_aload_n (by decide +kernel : decode mX11_isFoot.2.1 3 = .ok (.aload_n 0, 1)) rfl rfl (?_ : XW _ _ _ _ _ _ _ 4 _ _)
  refine xi_getR (y := 59) (by decide +kernel : decode mX11_isFoot.2.1 4 = .ok (.getfield 32, 3)) fX11_32 rfl (by omega) rfl (mp_told hM) (?_ : XW _ _ _ _ _ _ _ 7 _ _)
  refine xi_bipush (v := 9) (by decide +kernel : decode mX11_isFoot.2.1 7 = .ok (.bipush 9, 2)) (by decide) (?_ : XW _ _ _ _ _ _ _ 9 _ _)
  refine xi_iald (by decide +kernel : decode mX11_isFoot.2.1 9 = .ok (.iaload, 1)) rfl (by omega) (by unfold vp_in; decide) (?_ : XW _ _ _ _ _ _ _ 10 _ [.int (xI h 59 9), .int x2])
  refine xi_icmp_ge (by decide +kernel : decode mX11_isFoot.2.1 10 = .ok (.if_icmp .ge 24, 3)) (by decide) (fun c => (?_ : XW _ _ _ _ _ _ _ 34 _ _)) (fun c => (?_ : XW _ _ _ _ _ _ _ 13 _ _))
  · replace vc := vc.1 c
    refine xi_iconst (v := 0) (by decide +kernel : decode mX11_isFoot.2.1 34 = .ok (.iconst 0, 1)) (by decide) (?_ : XW _ _ _ _ _ _ _ 35 _ _)
    exact xi_iret (by decide +kernel : decode mX11_isFoot.2.1 35 = .ok (.ireturn, 1)) rfl rfl vc
  · replace vc := vc.2 c
    refine xi_aload_n (by decide +kernel : decode mX11_isFoot.2.1 13 = .ok (.aload_n 0, 1)) rfl rfl (?_ : XW _ _ _ _ _ _ _ 14 _ _)
    refine xi_getR (y := 61) (by decide +kernel : decode mX11_isFoot.2.1 14 = .ok (.getfield 39, 3)) fX11_39 rfl (by omega) rfl (mp_foot hM) (?_ : XW _ _ _ _ _ _ _ 17 _ _)
    refine xi_bipush (v := 24) (by decide +kernel : decode mX11_isFoot.2.1 17 = .ok (.bipush 24, 2)) (by decide) (?_ : XW _ _ _ _ _ _ _ 19 _ _)
    refine xi_iload_n (by decide +kernel : decode mX11_isFoot.2.1 19 = .ok (.iload_n 2, 1)) rfl rfl (?_ : XW _ _ _ _ _ _ _ 20 _ _)
    refine xi_iadd (by decide +kernel : decode mX11_isFoot.2.1 20 = .ok (.iadd, 1)) (?_ : XW _ _ _ _ _ _ _ 21 _ _)
    obtain ⟨s1, vc⟩ := vc
    refine xi_iald (by decide +kernel : decode mX11_isFoot.2.1 21 = .ok (.iaload, 1)) rfl (by omega) s1 (?_ : XW _ _ _ _ _ _ _ 22 _ _)
    refine xi_iload_n (by decide +kernel : decode mX11_isFoot.2.1 22 = .ok (.iload_n 1, 1)) rfl rfl (?_ : XW _ _ _ _ _ _ _ 23 _ _)
    refine xi_icmp_ne (by decide +kernel : decode mX11_isFoot.2.1 23 = .ok (.if_icmp .ne 5, 3)) (by decide) (fun c => (?_ : XW _ _ _ _ _ _ _ 28 _ _)) (fun c => (?_ : XW _ _ _ _ _ _ _ 26 _ _))
    · replace vc := vc.1 c
      refine xi_iinc (v := x2 + 1) (ls' := [some (.ref 56), some (.int x1), some (.int (x2 + 1))]) (by decide +kernel : decode mX11_isFoot.2.1 28 = .ok (.iinc 2 1, 3)) rfl rfl (by decide) rfl (?_ : XW _ _ _ _ _ _ _ 31 _ _)
      refine xi_goto (by decide +kernel : decode mX11_isFoot.2.1 31 = .ok (.goto (-29), 3)) (by decide) (?_ : XW _ _ _ _ _ _ _ 2 _ _)
      exact vc
    · replace vc := vc.2 c
      refine xi_iconst (v := 1) (by decide +kernel : decode mX11_isFoot.2.1 26 = .ok (.iconst 1, 1)) (by decide) (?_ : XW _ _ _ _ _ _ _ 27 _ _)
      exact xi_iret (by decide +kernel : decode mX11_isFoot.2.1 27 = .ok (.ireturn, 1)) rfl rfl vc

set_option maxRecDepth 20000 in
theorem v_X11_take_0 {h : XH} {Q : Option Value → XH → Prop} {X : String → XH → Prop} (hM : xMod (xP h)) 
    (vc : ∃ Q1, XSpec mX11_takeHalf 1 0 0 100 100 [.ref 59] h Q1 xno ∧ ∀ v h1, Q1 v h1 → v = none ∧ ((xP h1 56 4 = some 60) ∧ (∃ Q1, XSpec mX11_takeHalf 1 0 0 100 100 [.ref 60] h1 Q1 xno ∧ ∀ v h2, Q1 v h2 → v = none ∧ ((xP h2 56 5 = some 61) ∧ (∃ Q1, XSpec mX11_takeHalf 1 0 0 100 100 [.ref 61] h2 Q1 xno ∧ ∀ v h3, Q1 v h3 → v = none ∧ ((xP h3 56 6 = some 62) ∧ (∃ Q1, XSpec mX11_takeHalf 1 0 0 100 100 [.ref 62] h3 Q1 xno ∧ ∀ v h4, Q1 v h4 → v = none ∧ ((xP h4 56 7 = some 63) ∧ (∃ Q1, XSpec mX11_takeHalf 1 0 0 100 100 [.ref 63] h4 Q1 xno ∧ ∀ v h5, Q1 v h5 → v = none ∧ ((xP h5 56 8 = some 64) ∧ (∃ Q1, XSpec mX11_takeHalf 1 0 0 100 100 [.ref 64] h5 Q1 xno ∧ ∀ v h6, Q1 v h6 → v = none ∧ (XW (xrm 2 0 0) mX11_take (xE 100 Q X 0 0) 100 0 0 h6 44 [some (.ref 56), some (.int 0)] [])))))))))))) :
    XW (xrm 2 0 0) mX11_take (xE 100 Q X 0 0) 100 0 0 h 0 [some (.ref 56), none] [] := by
  refine xi_aload_n (by decide +kernel : decode mX11_take.2.1 0 = .ok (.aload_n 0, 1)) rfl rfl (?_ : XW _ _ _ _ _ _ _ 1 _ _)
  refine xi_getR (y := 59) (by decide +kernel : decode mX11_take.2.1 1 = .ok (.getfield 32, 3)) fX11_32 rfl (by omega) rfl (mp_told hM) (?_ : XW _ _ _ _ _ _ _ 4 _ _)
  obtain ⟨Q1, sp, vc⟩ := vc
  refine xi_callS (b := 0) (bs := 0) (As := [.ref 59]) (st := []) (by decide +kernel : decode mX11_take.2.1 4 = .ok (.invokestatic 323, 3)) kX11_323 rfl rfl sp (by decide) (by decide) (Nat.le_of_ble_eq_true rfl) (by omega) (fun v9 h1 hq9 => ?_)
  obtain ⟨e9, vc⟩ := vc v9 h1 hq9
  subst e9
  show XW _ _ _ _ _ _ _ 7 _ []
  refine xi_aload_n (by decide +kernel : decode mX11_take.2.1 7 = .ok (.aload_n 0, 1)) rfl rfl (?_ : XW _ _ _ _ _ _ _ 8 _ _)
  obtain ⟨s1, vc⟩ := vc
  refine xi_getR (y := 60) (by decide +kernel : decode mX11_take.2.1 8 = .ok (.getfield 36, 3)) fX11_36 rfl (by omega) rfl s1 (?_ : XW _ _ _ _ _ _ _ 11 _ _)
  obtain ⟨Q1, sp, vc⟩ := vc
  refine xi_callS (b := 0) (bs := 0) (As := [.ref 60]) (st := []) (by decide +kernel : decode mX11_take.2.1 11 = .ok (.invokestatic 323, 3)) kX11_323 rfl rfl sp (by decide) (by decide) (Nat.le_of_ble_eq_true rfl) (by omega) (fun v9 h2 hq9 => ?_)
  obtain ⟨e9, vc⟩ := vc v9 h2 hq9
  subst e9
  show XW _ _ _ _ _ _ _ 14 _ []
  refine xi_aload_n (by decide +kernel : decode mX11_take.2.1 14 = .ok (.aload_n 0, 1)) rfl rfl (?_ : XW _ _ _ _ _ _ _ 15 _ _)
  obtain ⟨s1, vc⟩ := vc
  refine xi_getR (y := 61) (by decide +kernel : decode mX11_take.2.1 15 = .ok (.getfield 39, 3)) fX11_39 rfl (by omega) rfl s1 (?_ : XW _ _ _ _ _ _ _ 18 _ _)
  obtain ⟨Q1, sp, vc⟩ := vc
  refine xi_callS (b := 0) (bs := 0) (As := [.ref 61]) (st := []) (by decide +kernel : decode mX11_take.2.1 18 = .ok (.invokestatic 323, 3)) kX11_323 rfl rfl sp (by decide) (by decide) (Nat.le_of_ble_eq_true rfl) (by omega) (fun v9 h3 hq9 => ?_)
  obtain ⟨e9, vc⟩ := vc v9 h3 hq9
  subst e9
  show XW _ _ _ _ _ _ _ 21 _ []
  refine xi_aload_n (by decide +kernel : decode mX11_take.2.1 21 = .ok (.aload_n 0, 1)) rfl rfl (?_ : XW _ _ _ _ _ _ _ 22 _ _)
  obtain ⟨s1, vc⟩ := vc
  refine xi_getR (y := 62) (by decide +kernel : decode mX11_take.2.1 22 = .ok (.getfield 42, 3)) fX11_42 rfl (by omega) rfl s1 (?_ : XW _ _ _ _ _ _ _ 25 _ _)
  obtain ⟨Q1, sp, vc⟩ := vc
  refine xi_callS (b := 0) (bs := 0) (As := [.ref 62]) (st := []) (by decide +kernel : decode mX11_take.2.1 25 = .ok (.invokestatic 323, 3)) kX11_323 rfl rfl sp (by decide) (by decide) (Nat.le_of_ble_eq_true rfl) (by omega) (fun v9 h4 hq9 => ?_)
  obtain ⟨e9, vc⟩ := vc v9 h4 hq9
  subst e9
  show XW _ _ _ _ _ _ _ 28 _ []
  refine xi_aload_n (by decide +kernel : decode mX11_take.2.1 28 = .ok (.aload_n 0, 1)) rfl rfl (?_ : XW _ _ _ _ _ _ _ 29 _ _)
  obtain ⟨s1, vc⟩ := vc
  refine xi_getR (y := 63) (by decide +kernel : decode mX11_take.2.1 29 = .ok (.getfield 45, 3)) fX11_45 rfl (by omega) rfl s1 (?_ : XW _ _ _ _ _ _ _ 32 _ _)
  obtain ⟨Q1, sp, vc⟩ := vc
  refine xi_callS (b := 0) (bs := 0) (As := [.ref 63]) (st := []) (by decide +kernel : decode mX11_take.2.1 32 = .ok (.invokestatic 323, 3)) kX11_323 rfl rfl sp (by decide) (by decide) (Nat.le_of_ble_eq_true rfl) (by omega) (fun v9 h5 hq9 => ?_)
  obtain ⟨e9, vc⟩ := vc v9 h5 hq9
  subst e9
  show XW _ _ _ _ _ _ _ 35 _ []
  refine xi_aload_n (by decide +kernel : decode mX11_take.2.1 35 = .ok (.aload_n 0, 1)) rfl rfl (?_ : XW _ _ _ _ _ _ _ 36 _ _)
  obtain ⟨s1, vc⟩ := vc
  refine xi_getR (y := 64) (by decide +kernel : decode mX11_take.2.1 36 = .ok (.getfield 48, 3)) fX11_48 rfl (by omega) rfl s1 (?_ : XW _ _ _ _ _ _ _ 39 _ _)
  obtain ⟨Q1, sp, vc⟩ := vc
  refine xi_callS (b := 0) (bs := 0) (As := [.ref 64]) (st := []) (by decide +kernel : decode mX11_take.2.1 39 = .ok (.invokestatic 323, 3)) kX11_323 rfl rfl sp (by decide) (by decide) (Nat.le_of_ble_eq_true rfl) (by omega) (fun v9 h6 hq9 => ?_)
  obtain ⟨e9, vc⟩ := vc v9 h6 hq9
  subst e9
  show XW _ _ _ _ _ _ _ 42 _ []
  refine xi_iconst (v := 0) (by decide +kernel : decode mX11_take.2.1 42 = .ok (.iconst 0, 1)) (by decide) (?_ : XW _ _ _ _ _ _ _ 43 _ _)
  refine xi_istore_n (ls' := [some (.ref 56), some (.int 0)]) (by decide +kernel : decode mX11_take.2.1 43 = .ok (.istore_n 1, 1)) rfl (by decide) rfl (?_ : XW _ _ _ _ _ _ _ 44 _ _)
  exact vc

set_option maxRecDepth 20000 in
theorem v_X11_take_44 {h : XH} {Q : Option Value → XH → Prop} {X : String → XH → Prop} (hM : xMod (xP h))  (x1 : Int32)
    (vc : (4 ≤ x1 → Q none (xSI 56 (va_up (va_up (va_up (va_up (va_up (xI h 56) 33 0) 34 0) 46 0) 38 (-1)) 50 0) (xSI 56 (va_up (va_up (va_up (va_up (xI h 56) 33 0) 34 0) 46 0) 38 (-1)) (xSI 56 (va_up (va_up (va_up (xI h 56) 33 0) 34 0) 46 0) (xSI 56 (va_up (va_up (xI h 56) 33 0) 34 0) (xSI 56 (va_up (xI h 56) 33 0) h)))))) ∧ (¬ 4 ≤ x1 → (vp_in x1 4) ∧ (XW (xrm 2 0 0) mX11_take (xE 100 Q X 0 0) 100 0 0 (xSI 71 (va_up (xI h 71) x1.toNatClampNeg 0) h) 44 [some (.ref 56), some (.int (x1 + 1))] []))) :
    XW (xrm 2 0 0) mX11_take (xE 100 Q X 0 0) 100 0 0 h 44 [some (.ref 56), some (.int x1)] [] := by
  refine xi_iload_n (by decide +kernel : decode mX11_take.2.1 44 = .ok (.iload_n 1, 1)) rfl rfl (?_ : XW _ _ _ _ _ _ _ 45 _ _)
  refine xi_iconst (v := 4) (by decide +kernel : decode mX11_take.2.1 45 = .ok (.iconst 4, 1)) (by decide) (?_ : XW _ _ _ _ _ _ _ 46 _ _)
  refine xi_icmp_ge (by decide +kernel : decode mX11_take.2.1 46 = .ok (.if_icmp .ge 16, 3)) (by decide) (fun c => (?_ : XW _ _ _ _ _ _ _ 62 _ _)) (fun c => (?_ : XW _ _ _ _ _ _ _ 49 _ _))
  · replace vc := vc.1 c
    refine xi_aload_n (by decide +kernel : decode mX11_take.2.1 62 = .ok (.aload_n 0, 1)) rfl rfl (?_ : XW _ _ _ _ _ _ _ 63 _ _)
    refine xi_iconst (v := 0) (by decide +kernel : decode mX11_take.2.1 63 = .ok (.iconst 0, 1)) (by decide) (?_ : XW _ _ _ _ _ _ _ 64 _ _)
    refine xi_putI (by decide +kernel : decode mX11_take.2.1 64 = .ok (.putfield 327, 3)) fX11_327 rfl (by omega) rfl rfl rfl (?_ : XW _ _ _ _ _ _ (xSI 56 (va_up (xI h 56) 33 0) h) 67 _ _)
    refine xi_aload_n (by decide +kernel : decode mX11_take.2.1 67 = .ok (.aload_n 0, 1)) rfl rfl (?_ : XW _ _ _ _ _ _ _ 68 _ _)
    refine xi_iconst (v := 0) (by decide +kernel : decode mX11_take.2.1 68 = .ok (.iconst 0, 1)) (by decide) (?_ : XW _ _ _ _ _ _ _ 69 _ _)
    refine xi_putI (by decide +kernel : decode mX11_take.2.1 69 = .ok (.putfield 330, 3)) fX11_330 rfl (by omega) rfl rfl rfl (?_ : XW _ _ _ _ _ _ (xSI 56 (va_up (va_up (xI h 56) 33 0) 34 0) (xSI 56 (va_up (xI h 56) 33 0) h)) 72 _ _)
    refine xi_aload_n (by decide +kernel : decode mX11_take.2.1 72 = .ok (.aload_n 0, 1)) rfl rfl (?_ : XW _ _ _ _ _ _ _ 73 _ _)
    refine xi_iconst (v := 0) (by decide +kernel : decode mX11_take.2.1 73 = .ok (.iconst 0, 1)) (by decide) (?_ : XW _ _ _ _ _ _ _ 74 _ _)
    refine xi_putI (by decide +kernel : decode mX11_take.2.1 74 = .ok (.putfield 333, 3)) fX11_333 rfl (by omega) rfl rfl rfl (?_ : XW _ _ _ _ _ _ (xSI 56 (va_up (va_up (va_up (xI h 56) 33 0) 34 0) 46 0) (xSI 56 (va_up (va_up (xI h 56) 33 0) 34 0) (xSI 56 (va_up (xI h 56) 33 0) h))) 77 _ _)
    refine xi_aload_n (by decide +kernel : decode mX11_take.2.1 77 = .ok (.aload_n 0, 1)) rfl rfl (?_ : XW _ _ _ _ _ _ _ 78 _ _)
    refine xi_iconst (v := (-1)) (by decide +kernel : decode mX11_take.2.1 78 = .ok (.iconst (-1), 1)) (by decide) (?_ : XW _ _ _ _ _ _ _ 79 _ _)
    refine xi_putI (by decide +kernel : decode mX11_take.2.1 79 = .ok (.putfield 103, 3)) fX11_103 rfl (by omega) rfl rfl rfl (?_ : XW _ _ _ _ _ _ (xSI 56 (va_up (va_up (va_up (va_up (xI h 56) 33 0) 34 0) 46 0) 38 (-1)) (xSI 56 (va_up (va_up (va_up (xI h 56) 33 0) 34 0) 46 0) (xSI 56 (va_up (va_up (xI h 56) 33 0) 34 0) (xSI 56 (va_up (xI h 56) 33 0) h)))) 82 _ _)
    refine xi_aload_n (by decide +kernel : decode mX11_take.2.1 82 = .ok (.aload_n 0, 1)) rfl rfl (?_ : XW _ _ _ _ _ _ _ 83 _ _)
    refine xi_iconst (v := 0) (by decide +kernel : decode mX11_take.2.1 83 = .ok (.iconst 0, 1)) (by decide) (?_ : XW _ _ _ _ _ _ _ 84 _ _)
    refine xi_putI (by decide +kernel : decode mX11_take.2.1 84 = .ok (.putfield 336, 3)) fX11_336 rfl (by omega) rfl rfl rfl (?_ : XW _ _ _ _ _ _ (xSI 56 (va_up (va_up (va_up (va_up (va_up (xI h 56) 33 0) 34 0) 46 0) 38 (-1)) 50 0) (xSI 56 (va_up (va_up (va_up (va_up (xI h 56) 33 0) 34 0) 46 0) 38 (-1)) (xSI 56 (va_up (va_up (va_up (xI h 56) 33 0) 34 0) 46 0) (xSI 56 (va_up (va_up (xI h 56) 33 0) 34 0) (xSI 56 (va_up (xI h 56) 33 0) h))))) 87 _ _)
    exact xi_vret (by decide +kernel : decode mX11_take.2.1 87 = .ok (.return_, 1)) rfl vc
  · replace vc := vc.2 c
    refine xi_aload_n (by decide +kernel : decode mX11_take.2.1 49 = .ok (.aload_n 0, 1)) rfl rfl (?_ : XW _ _ _ _ _ _ _ 50 _ _)
    refine xi_getR (y := 71) (by decide +kernel : decode mX11_take.2.1 50 = .ok (.getfield 73, 3)) fX11_73 rfl (by omega) rfl (mp_place hM) (?_ : XW _ _ _ _ _ _ _ 53 _ _)
    refine xi_iload_n (by decide +kernel : decode mX11_take.2.1 53 = .ok (.iload_n 1, 1)) rfl rfl (?_ : XW _ _ _ _ _ _ _ 54 _ _)
    refine xi_iconst (v := 0) (by decide +kernel : decode mX11_take.2.1 54 = .ok (.iconst 0, 1)) (by decide) (?_ : XW _ _ _ _ _ _ _ 55 _ _)
    obtain ⟨s1, vc⟩ := vc
    refine xi_iast (by decide +kernel : decode mX11_take.2.1 55 = .ok (.iastore, 1)) rfl (by omega) s1 (?_ : XW _ _ _ _ _ _ (xSI 71 (va_up (xI h 71) x1.toNatClampNeg 0) h) 56 _ _)
    refine xi_iinc (v := x1 + 1) (ls' := [some (.ref 56), some (.int (x1 + 1))]) (by decide +kernel : decode mX11_take.2.1 56 = .ok (.iinc 1 1, 3)) rfl rfl (by decide) rfl (?_ : XW _ _ _ _ _ _ _ 59 _ _)
    refine xi_goto (by decide +kernel : decode mX11_take.2.1 59 = .ok (.goto (-15), 3)) (by decide) (?_ : XW _ _ _ _ _ _ _ 44 _ _)
    exact vc

set_option maxRecDepth 20000 in
theorem v_X11_draw_0 {h : XH} {Q : Option Value → XH → Prop} {X : String → XH → Prop} (hM : xMod (xP h))  (q : Int32) (m : Int32) (k0 : Int32)
    (vc : ∃ Q1, XSpec mX11_isIn 1 0 0 100 100 [.long (Int32.toInt64 m), .long 10, .long 100] (xSI 56 (va_up (xI h 56) 2 0) h) Q1 xno ∧ ∀ v h1, Q1 v h1 → ∃ r1 : Int32, v = some (.int r1) ∧ ((r1 = 0 → ∃ Q1, XSpec mX11_fail 1 0 0 100 100 [.ref 56, .int 1] h1 Q1 xno ∧ ∀ v h2, Q1 v h2 → ∃ r2 : Int32, v = some (.int r2) ∧ (Q (some (.int r2)) h2)) ∧ (¬ r1 = 0 → ∃ Q1, XSpec mX11_isIn 1 0 0 100 100 [.long (Int32.toInt64 k0), .long 0, .long 24] h1 Q1 xno ∧ ∀ v h3, Q1 v h3 → ∃ r3 : Int32, v = some (.int r3) ∧ ((¬ r3 = 0 → ∃ Q1, XSpec mX11_begin 1 0 0 100 100 [.ref 56] h3 Q1 xno ∧ ∀ v h4, Q1 v h4 → v = none ∧ (XW (xrm 3 0 0) mX11_draw (xE 100 Q X 0 0) 100 0 0 h4 44 [some (.ref 56), some (.int q), some (.int m), some (.int k0), some (.int 0), none, none] [])) ∧ (r3 = 0 → ∃ Q1, XSpec mX11_fail 1 0 0 100 100 [.ref 56, .int 1] h3 Q1 xno ∧ ∀ v h5, Q1 v h5 → ∃ r5 : Int32, v = some (.int r5) ∧ (Q (some (.int r5)) h5)))))) :
    XW (xrm 3 0 0) mX11_draw (xE 100 Q X 0 0) 100 0 0 h 0 [some (.ref 56), some (.int q), some (.int m), some (.int k0), none, none, none] [] := by
  refine xi_aload_n (by decide +kernel : decode mX11_draw.2.1 0 = .ok (.aload_n 0, 1)) rfl rfl (?_ : XW _ _ _ _ _ _ _ 1 _ _)
  refine xi_iconst (v := 0) (by decide +kernel : decode mX11_draw.2.1 1 = .ok (.iconst 0, 1)) (by decide) (?_ : XW _ _ _ _ _ _ _ 2 _ _)
  refine xi_putI (by decide +kernel : decode mX11_draw.2.1 2 = .ok (.putfield 161, 3)) fX11_161 rfl (by omega) rfl rfl rfl (?_ : XW _ _ _ _ _ _ (xSI 56 (va_up (xI h 56) 2 0) h) 5 _ _)
  refine xi_iload_n (by decide +kernel : decode mX11_draw.2.1 5 = .ok (.iload_n 2, 1)) rfl rfl (?_ : XW _ _ _ _ _ _ _ 6 _ _)
  refine xi_i2l (by decide +kernel : decode mX11_draw.2.1 6 = .ok (.i2l, 1)) (?_ : XW _ _ _ _ _ _ _ 7 _ _)
  refine xi_ldc2 (v := 10) (by decide +kernel : decode mX11_draw.2.1 7 = .ok (.ldc2_w 478, 3)) cK_X11_478 (?_ : XW _ _ _ _ _ _ _ 10 _ _)
  refine xi_ldc2 (v := 100) (by decide +kernel : decode mX11_draw.2.1 10 = .ok (.ldc2_w 438, 3)) cK_X11_438 (?_ : XW _ _ _ _ _ _ _ 13 _ _)
  obtain ⟨Q1, sp, vc⟩ := vc
  refine xi_callS (b := 0) (bs := 0) (As := [.long (Int32.toInt64 m), .long 10, .long 100]) (st := []) (by decide +kernel : decode mX11_draw.2.1 13 = .ok (.invokestatic 164, 3)) kX11_164 rfl rfl sp (by decide) (by decide) (Nat.le_of_ble_eq_true rfl) (by omega) (fun v9 h1 hq9 => ?_)
  obtain ⟨r1, e9, vc⟩ := vc v9 h1 hq9
  subst e9
  show XW _ _ _ _ _ _ _ 16 _ [.int r1]
  refine xi_if_eq (by decide +kernel : decode mX11_draw.2.1 16 = .ok (.ifCond .eq 15, 3)) (by decide) (fun c => (?_ : XW _ _ _ _ _ _ _ 31 _ _)) (fun c => (?_ : XW _ _ _ _ _ _ _ 19 _ _))
  · replace vc := vc.1 c
    refine xi_aload_n (by decide +kernel : decode mX11_draw.2.1 31 = .ok (.aload_n 0, 1)) rfl rfl (?_ : XW _ _ _ _ _ _ _ 32 _ _)
    refine xi_iconst (v := 1) (by decide +kernel : decode mX11_draw.2.1 32 = .ok (.iconst 1, 1)) (by decide) (?_ : XW _ _ _ _ _ _ _ 33 _ _)
    obtain ⟨Q1, sp, vc⟩ := vc
    refine xi_callV (b := 0) (bs := 0) (As := [.int 1]) (st := []) (by decide +kernel : decode mX11_draw.2.1 33 = .ok (.invokevirtual 311, 3)) kX11_311 rfl rfl (by omega) rfl sp (by decide) (by decide) (Nat.le_of_ble_eq_true rfl) (by omega) (fun v9 h2 hq9 => ?_)
    obtain ⟨r2, e9, vc⟩ := vc v9 h2 hq9
    subst e9
    show XW _ _ _ _ _ _ _ 36 _ [.int r2]
    exact xi_iret (by decide +kernel : decode mX11_draw.2.1 36 = .ok (.ireturn, 1)) rfl rfl vc
  · replace vc := vc.2 c
    refine xi_iload_n (by decide +kernel : decode mX11_draw.2.1 19 = .ok (.iload_n 3, 1)) rfl rfl (?_ : XW _ _ _ _ _ _ _ 20 _ _)
    refine xi_i2l (by decide +kernel : decode mX11_draw.2.1 20 = .ok (.i2l, 1)) (?_ : XW _ _ _ _ _ _ _ 21 _ _)
    refine xi_lconst (v := 0) (by decide +kernel : decode mX11_draw.2.1 21 = .ok (.lconst 0, 1)) (by decide) (?_ : XW _ _ _ _ _ _ _ 22 _ _)
    refine xi_ldc2 (v := 24) (by decide +kernel : decode mX11_draw.2.1 22 = .ok (.ldc2_w 480, 3)) cK_X11_480 (?_ : XW _ _ _ _ _ _ _ 25 _ _)
    obtain ⟨Q1, sp, vc⟩ := vc
    refine xi_callS (b := 0) (bs := 0) (As := [.long (Int32.toInt64 k0), .long 0, .long 24]) (st := []) (by decide +kernel : decode mX11_draw.2.1 25 = .ok (.invokestatic 164, 3)) kX11_164 rfl rfl sp (by decide) (by decide) (Nat.le_of_ble_eq_true rfl) (by omega) (fun v9 h3 hq9 => ?_)
    obtain ⟨r3, e9, vc⟩ := vc v9 h3 hq9
    subst e9
    show XW _ _ _ _ _ _ _ 28 _ [.int r3]
    refine xi_if_ne (by decide +kernel : decode mX11_draw.2.1 28 = .ok (.ifCond .ne 9, 3)) (by decide) (fun c => (?_ : XW _ _ _ _ _ _ _ 37 _ _)) (fun c => (?_ : XW _ _ _ _ _ _ _ 31 _ _))
    · replace vc := vc.1 c
      refine xi_aload_n (by decide +kernel : decode mX11_draw.2.1 37 = .ok (.aload_n 0, 1)) rfl rfl (?_ : XW _ _ _ _ _ _ _ 38 _ _)
      obtain ⟨Q1, sp, vc⟩ := vc
      refine xi_callV (b := 0) (bs := 0) (As := []) (st := []) (by decide +kernel : decode mX11_draw.2.1 38 = .ok (.invokevirtual 314, 3)) kX11_314 rfl rfl (by omega) rfl sp (by decide) (by decide) (Nat.le_of_ble_eq_true rfl) (by omega) (fun v9 h4 hq9 => ?_)
      obtain ⟨e9, vc⟩ := vc v9 h4 hq9
      subst e9
      show XW _ _ _ _ _ _ _ 41 _ []
      refine xi_iconst (v := 0) (by decide +kernel : decode mX11_draw.2.1 41 = .ok (.iconst 0, 1)) (by decide) (?_ : XW _ _ _ _ _ _ _ 42 _ _)
      refine xi_istore (ls' := [some (.ref 56), some (.int q), some (.int m), some (.int k0), some (.int 0), none, none]) (by decide +kernel : decode mX11_draw.2.1 42 = .ok (.istore 4, 2)) (by decide) rfl (?_ : XW _ _ _ _ _ _ _ 44 _ _)
      exact vc
    · replace vc := vc.2 c
      refine xi_aload_n (by decide +kernel : decode mX11_draw.2.1 31 = .ok (.aload_n 0, 1)) rfl rfl (?_ : XW _ _ _ _ _ _ _ 32 _ _)
      refine xi_iconst (v := 1) (by decide +kernel : decode mX11_draw.2.1 32 = .ok (.iconst 1, 1)) (by decide) (?_ : XW _ _ _ _ _ _ _ 33 _ _)
      obtain ⟨Q1, sp, vc⟩ := vc
      refine xi_callV (b := 0) (bs := 0) (As := [.int 1]) (st := []) (by decide +kernel : decode mX11_draw.2.1 33 = .ok (.invokevirtual 311, 3)) kX11_311 rfl rfl (by omega) rfl sp (by decide) (by decide) (Nat.le_of_ble_eq_true rfl) (by omega) (fun v9 h5 hq9 => ?_)
      obtain ⟨r5, e9, vc⟩ := vc v9 h5 hq9
      subst e9
      show XW _ _ _ _ _ _ _ 36 _ [.int r5]
      exact xi_iret (by decide +kernel : decode mX11_draw.2.1 36 = .ok (.ireturn, 1)) rfl rfl vc

set_option maxRecDepth 20000 in
theorem v_X11_draw_44 {h : XH} {Q : Option Value → XH → Prop} {X : String → XH → Prop} (hM : xMod (xP h))  (x1 : Int32) (x2 : Int32) (x3 : Int32) (x4 : Int32)
    (vc : (6 ≤ x4 → XW (xrm 3 0 0) mX11_draw (xE 100 Q X 0 0) 100 0 0 (xSI 56 (va_up (xI h 56) 35 x1) (xSI 59 (va_up (xI h 59) 8 x2) h)) 90 [some (.ref 56), none, some (.int x2), some (.int x3), some (.int 0), none, none] []) ∧ (¬ 6 ≤ x4 → (vp_in x4 12) ∧ ((vp_in (6 + x4) 12) ∧ (XW (xrm 3 0 0) mX11_draw (xE 100 Q X 0 0) 100 0 0 (xSI 60 (va_up (xI h 60) (6 + x4).toNatClampNeg (xI h 60 x4.toNatClampNeg)) h) 44 [some (.ref 56), some (.int x1), some (.int x2), some (.int x3), some (.int (x4 + 1)), none, none] [])))) :
    XW (xrm 3 0 0) mX11_draw (xE 100 Q X 0 0) 100 0 0 h 44 [some (.ref 56), some (.int x1), some (.int x2), some (.int x3), some (.int x4), none, none] [] := by
  refine xi_iload (by decide +kernel : decode mX11_draw.2.1 44 = .ok (.iload 4, 2)) rfl (?_ : XW _ _ _ _ _ _ _ 46 _ _)
  refine xi_bipush (v := 6) (by decide +kernel : decode mX11_draw.2.1 46 = .ok (.bipush 6, 2)) (by decide) (?_ : XW _ _ _ _ _ _ _ 48 _ _)
  refine xi_icmp_ge (by decide +kernel : decode mX11_draw.2.1 48 = .ok (.if_icmp .ge 26, 3)) (by decide) (fun c => (?_ : XW _ _ _ _ _ _ _ 74 _ _)) (fun c => (?_ : XW _ _ _ _ _ _ _ 51 _ _))
  · replace vc := vc.1 c
    refine xi_aload_n (by decide +kernel : decode mX11_draw.2.1 74 = .ok (.aload_n 0, 1)) rfl rfl (?_ : XW _ _ _ _ _ _ _ 75 _ _)
    refine xi_getR (y := 59) (by decide +kernel : decode mX11_draw.2.1 75 = .ok (.getfield 32, 3)) fX11_32 rfl (by omega) rfl (mp_told hM) (?_ : XW _ _ _ _ _ _ _ 78 _ _)
    refine xi_bipush (v := 8) (by decide +kernel : decode mX11_draw.2.1 78 = .ok (.bipush 8, 2)) (by decide) (?_ : XW _ _ _ _ _ _ _ 80 _ _)
    refine xi_iload_n (by decide +kernel : decode mX11_draw.2.1 80 = .ok (.iload_n 2, 1)) rfl rfl (?_ : XW _ _ _ _ _ _ _ 81 _ _)
    refine xi_iast (by decide +kernel : decode mX11_draw.2.1 81 = .ok (.iastore, 1)) rfl (by omega) (by unfold vp_in; decide) (?_ : XW _ _ _ _ _ _ (xSI 59 (va_up (xI h 59) 8 x2) h) 82 _ _)
    refine xi_aload_n (by decide +kernel : decode mX11_draw.2.1 82 = .ok (.aload_n 0, 1)) rfl rfl (?_ : XW _ _ _ _ _ _ _ 83 _ _)
    refine xi_iload_n (by decide +kernel : decode mX11_draw.2.1 83 = .ok (.iload_n 1, 1)) rfl rfl (?_ : XW _ _ _ _ _ _ _ 84 _ _)
    refine xi_putI (by decide +kernel : decode mX11_draw.2.1 84 = .ok (.putfield 382, 3)) fX11_382 rfl (by omega) rfl rfl rfl (?_ : XW _ _ _ _ _ _ (xSI 56 (va_up (xI h 56) 35 x1) (xSI 59 (va_up (xI h 59) 8 x2) h)) 87 _ _)
    refine xi_iconst (v := 0) (by decide +kernel : decode mX11_draw.2.1 87 = .ok (.iconst 0, 1)) (by decide) (?_ : XW _ _ _ _ _ _ _ 88 _ _)
    refine xi_istore (ls' := [some (.ref 56), some (.int x1), some (.int x2), some (.int x3), some (.int 0), none, none]) (by decide +kernel : decode mX11_draw.2.1 88 = .ok (.istore 4, 2)) (by decide) rfl (?_ : XW _ _ _ _ _ _ _ 90 _ _)
    refine xw_drop 1 (ls' := [some (.ref 56), none, some (.int x2), some (.int x3), some (.int 0), none, none]) rfl ?_
    exact vc
  · replace vc := vc.2 c
    refine xi_aload_n (by decide +kernel : decode mX11_draw.2.1 51 = .ok (.aload_n 0, 1)) rfl rfl (?_ : XW _ _ _ _ _ _ _ 52 _ _)
    refine xi_getR (y := 60) (by decide +kernel : decode mX11_draw.2.1 52 = .ok (.getfield 36, 3)) fX11_36 rfl (by omega) rfl (mp_die hM) (?_ : XW _ _ _ _ _ _ _ 55 _ _)
    refine xi_bipush (v := 6) (by decide +kernel : decode mX11_draw.2.1 55 = .ok (.bipush 6, 2)) (by decide) (?_ : XW _ _ _ _ _ _ _ 57 _ _)
    refine xi_iload (by decide +kernel : decode mX11_draw.2.1 57 = .ok (.iload 4, 2)) rfl (?_ : XW _ _ _ _ _ _ _ 59 _ _)
    refine xi_iadd (by decide +kernel : decode mX11_draw.2.1 59 = .ok (.iadd, 1)) (?_ : XW _ _ _ _ _ _ _ 60 _ _)
    refine xi_aload_n (by decide +kernel : decode mX11_draw.2.1 60 = .ok (.aload_n 0, 1)) rfl rfl (?_ : XW _ _ _ _ _ _ _ 61 _ _)
    refine xi_getR (y := 60) (by decide +kernel : decode mX11_draw.2.1 61 = .ok (.getfield 36, 3)) fX11_36 rfl (by omega) rfl (mp_die hM) (?_ : XW _ _ _ _ _ _ _ 64 _ _)
    refine xi_iload (by decide +kernel : decode mX11_draw.2.1 64 = .ok (.iload 4, 2)) rfl (?_ : XW _ _ _ _ _ _ _ 66 _ _)
    obtain ⟨s1, vc⟩ := vc
    refine xi_iald (by decide +kernel : decode mX11_draw.2.1 66 = .ok (.iaload, 1)) rfl (by omega) s1 (?_ : XW _ _ _ _ _ _ _ 67 _ _)
    obtain ⟨s1, vc⟩ := vc
    refine xi_iast (by decide +kernel : decode mX11_draw.2.1 67 = .ok (.iastore, 1)) rfl (by omega) s1 (?_ : XW _ _ _ _ _ _ (xSI 60 (va_up (xI h 60) (6 + x4).toNatClampNeg (xI h 60 x4.toNatClampNeg)) h) 68 _ _)
    refine xi_iinc (v := x4 + 1) (ls' := [some (.ref 56), some (.int x1), some (.int x2), some (.int x3), some (.int (x4 + 1)), none, none]) (by decide +kernel : decode mX11_draw.2.1 68 = .ok (.iinc 4 1, 3)) rfl rfl (by decide) rfl (?_ : XW _ _ _ _ _ _ _ 71 _ _)
    refine xi_goto (by decide +kernel : decode mX11_draw.2.1 71 = .ok (.goto (-27), 3)) (by decide) (?_ : XW _ _ _ _ _ _ _ 44 _ _)
    exact vc

set_option maxRecDepth 20000 in
theorem v_X11_draw_90 {h : XH} {Q : Option Value → XH → Prop} {X : String → XH → Prop} (hM : xMod (xP h))  (x2 : Int32) (x3 : Int32) (x4 : Int32)
    (vc : (x3 ≤ x4 → ∃ Q1, XSpec mX11_take 2 0 0 100 100 [.ref 56] h Q1 xno ∧ ∀ v h6, Q1 v h6 → v = none ∧ ((xP h6 56 3 = some 59) ∧ (Q (some (.int (xI h6 59 1))) h6))) ∧ (¬ x3 ≤ x4 → ∃ Q1, XSpec mX11_drawOf 1 0 0 100 100 [.ref 56, .int (x2 - 1)] h Q1 xno ∧ ∀ v h7, Q1 v h7 → ∃ r7 : Int32, v = some (.int r7) ∧ (∃ Q1, XSpec mX11_drawOf 1 0 0 100 100 [.ref 56, .int x2] h7 Q1 xno ∧ ∀ v h8, Q1 v h8 → ∃ r8 : Int32, v = some (.int r8) ∧ (((1 + r7) = (1 + r8) → XW (xrm 3 0 0) mX11_draw (xE 100 Q X 0 0) 100 0 0 h8 90 [some (.ref 56), none, some (.int x2), some (.int x3), some (.int (x4 + 1)), none, none] []) ∧ (¬ (1 + r7) = (1 + r8) → ∃ Q1, XSpec mX11_isFoot 1 0 0 100 100 [.ref 56, .int (1 + r7)] h8 Q1 xno ∧ ∀ v h9, Q1 v h9 → ∃ r9 : Int32, v = some (.int r9) ∧ ((r9 = 0 → (xP h9 56 5 = some 61) ∧ ((xP h9 56 3 = some 59) ∧ ((vp_in (24 + (xI h9 59 9)) 48) ∧ ((xP h9 56 6 = some 62) ∧ ((xP h9 56 3 = some 59) ∧ ((vp_in (24 + (xI h9 59 9)) 48) ∧ ((xP h9 56 3 = some 59) ∧ (XW (xrm 3 0 0) mX11_draw (xE 100 Q X 0 0) 100 0 0 (xSI 59 (va_up (xI h9 59) 9 ((xI h9 59 9) + 1)) (xSI 62 (va_up (xI h9 62) (24 + (xI h9 59 9)).toNatClampNeg (1 + r8)) (xSI 61 (va_up (xI h9 61) (24 + (xI h9 59 9)).toNatClampNeg (1 + r7)) h9))) 90 [some (.ref 56), none, some (.int x2), some (.int x3), some (.int (x4 + 1)), none, none] [])))))))) ∧ (¬ r9 = 0 → XW (xrm 3 0 0) mX11_draw (xE 100 Q X 0 0) 100 0 0 h9 90 [some (.ref 56), none, some (.int x2), some (.int x3), some (.int (x4 + 1)), none, none] []))))))) :
    XW (xrm 3 0 0) mX11_draw (xE 100 Q X 0 0) 100 0 0 h 90 [some (.ref 56), none, some (.int x2), some (.int x3), some (.int x4), none, none] [] := by
  refine xi_iload (by decide +kernel : decode mX11_draw.2.1 90 = .ok (.iload 4, 2)) rfl (?_ : XW _ _ _ _ _ _ _ 92 _ _)
  refine xi_iload_n (by decide +kernel : decode mX11_draw.2.1 92 = .ok (.iload_n 3, 1)) rfl rfl (?_ : XW _ _ _ _ _ _ _ 93 _ _)
  refine xi_icmp_ge (by decide +kernel : decode mX11_draw.2.1 93 = .ok (.if_icmp .ge 93, 3)) (by decide) (fun c => (?_ : XW _ _ _ _ _ _ _ 186 _ _)) (fun c => (?_ : XW _ _ _ _ _ _ _ 96 _ _))
  · replace vc := vc.1 c
    refine xi_aload_n (by decide +kernel : decode mX11_draw.2.1 186 = .ok (.aload_n 0, 1)) rfl rfl (?_ : XW _ _ _ _ _ _ _ 187 _ _)
    obtain ⟨Q1, sp, vc⟩ := vc
    refine xi_callV (b := 0) (bs := 0) (As := []) (st := []) (by decide +kernel : decode mX11_draw.2.1 187 = .ok (.invokevirtual 320, 3)) kX11_320 rfl rfl (by omega) rfl sp (by decide) (by decide) (Nat.le_of_ble_eq_true rfl) (by omega) (fun v9 h6 hq9 => ?_)
    obtain ⟨e9, vc⟩ := vc v9 h6 hq9
    subst e9
    show XW _ _ _ _ _ _ _ 190 _ []
    refine xi_aload_n (by decide +kernel : decode mX11_draw.2.1 190 = .ok (.aload_n 0, 1)) rfl rfl (?_ : XW _ _ _ _ _ _ _ 191 _ _)
    obtain ⟨s1, vc⟩ := vc
    refine xi_getR (y := 59) (by decide +kernel : decode mX11_draw.2.1 191 = .ok (.getfield 32, 3)) fX11_32 rfl (by omega) rfl s1 (?_ : XW _ _ _ _ _ _ _ 194 _ _)
    refine xi_iconst (v := 1) (by decide +kernel : decode mX11_draw.2.1 194 = .ok (.iconst 1, 1)) (by decide) (?_ : XW _ _ _ _ _ _ _ 195 _ _)
    refine xi_iald (by decide +kernel : decode mX11_draw.2.1 195 = .ok (.iaload, 1)) rfl (by omega) (by unfold vp_in; decide) (?_ : XW _ _ _ _ _ _ _ 196 _ [.int (xI h6 59 1)])
    exact xi_iret (by decide +kernel : decode mX11_draw.2.1 196 = .ok (.ireturn, 1)) rfl rfl vc
  · replace vc := vc.2 c
    refine xi_iconst (v := 1) (by decide +kernel : decode mX11_draw.2.1 96 = .ok (.iconst 1, 1)) (by decide) (?_ : XW _ _ _ _ _ _ _ 97 _ _)
    refine xi_aload_n (by decide +kernel : decode mX11_draw.2.1 97 = .ok (.aload_n 0, 1)) rfl rfl (?_ : XW _ _ _ _ _ _ _ 98 _ _)
    refine xi_iload_n (by decide +kernel : decode mX11_draw.2.1 98 = .ok (.iload_n 2, 1)) rfl rfl (?_ : XW _ _ _ _ _ _ _ 99 _ _)
    refine xi_iconst (v := 1) (by decide +kernel : decode mX11_draw.2.1 99 = .ok (.iconst 1, 1)) (by decide) (?_ : XW _ _ _ _ _ _ _ 100 _ _)
    refine xi_isub (by decide +kernel : decode mX11_draw.2.1 100 = .ok (.isub, 1)) (?_ : XW _ _ _ _ _ _ _ 101 _ _)
    obtain ⟨Q1, sp, vc⟩ := vc
    refine xi_callV (b := 0) (bs := 0) (As := [.int (x2 - 1)]) (st := [.int 1]) (by decide +kernel : decode mX11_draw.2.1 101 = .ok (.invokevirtual 391, 3)) kX11_391 rfl rfl (by omega) rfl sp (by decide) (by decide) (Nat.le_of_ble_eq_true rfl) (by omega) (fun v9 h7 hq9 => ?_)
    obtain ⟨r7, e9, vc⟩ := vc v9 h7 hq9
    subst e9
    show XW _ _ _ _ _ _ _ 104 _ [.int r7, .int 1]
    refine xi_iadd (by decide +kernel : decode mX11_draw.2.1 104 = .ok (.iadd, 1)) (?_ : XW _ _ _ _ _ _ _ 105 _ _)
    refine xi_istore (ls' := [some (.ref 56), none, some (.int x2), some (.int x3), some (.int x4), some (.int (1 + r7)), none]) (by decide +kernel : decode mX11_draw.2.1 105 = .ok (.istore 5, 2)) (by decide) rfl (?_ : XW _ _ _ _ _ _ _ 107 _ _)
    refine xi_iconst (v := 1) (by decide +kernel : decode mX11_draw.2.1 107 = .ok (.iconst 1, 1)) (by decide) (?_ : XW _ _ _ _ _ _ _ 108 _ _)
    refine xi_aload_n (by decide +kernel : decode mX11_draw.2.1 108 = .ok (.aload_n 0, 1)) rfl rfl (?_ : XW _ _ _ _ _ _ _ 109 _ _)
    refine xi_iload_n (by decide +kernel : decode mX11_draw.2.1 109 = .ok (.iload_n 2, 1)) rfl rfl (?_ : XW _ _ _ _ _ _ _ 110 _ _)
    obtain ⟨Q1, sp, vc⟩ := vc
    refine xi_callV (b := 0) (bs := 0) (As := [.int x2]) (st := [.int 1]) (by decide +kernel : decode mX11_draw.2.1 110 = .ok (.invokevirtual 391, 3)) kX11_391 rfl rfl (by omega) rfl sp (by decide) (by decide) (Nat.le_of_ble_eq_true rfl) (by omega) (fun v9 h8 hq9 => ?_)
    obtain ⟨r8, e9, vc⟩ := vc v9 h8 hq9
    subst e9
    show XW _ _ _ _ _ _ _ 113 _ [.int r8, .int 1]
    refine xi_iadd (by decide +kernel : decode mX11_draw.2.1 113 = .ok (.iadd, 1)) (?_ : XW _ _ _ _ _ _ _ 114 _ _)
    refine xi_istore (ls' := [some (.ref 56), none, some (.int x2), some (.int x3), some (.int x4), some (.int (1 + r7)), some (.int (1 + r8))]) (by decide +kernel : decode mX11_draw.2.1 114 = .ok (.istore 6, 2)) (by decide) rfl (?_ : XW _ _ _ _ _ _ _ 116 _ _)
    refine xi_iload (by decide +kernel : decode mX11_draw.2.1 116 = .ok (.iload 5, 2)) rfl (?_ : XW _ _ _ _ _ _ _ 118 _ _)
    refine xi_iload (by decide +kernel : decode mX11_draw.2.1 118 = .ok (.iload 6, 2)) rfl (?_ : XW _ _ _ _ _ _ _ 120 _ _)
    refine xi_icmp_eq (by decide +kernel : decode mX11_draw.2.1 120 = .ok (.if_icmp .eq 60, 3)) (by decide) (fun c => (?_ : XW _ _ _ _ _ _ _ 180 _ _)) (fun c => (?_ : XW _ _ _ _ _ _ _ 123 _ _))
    · replace vc := vc.1 c
      refine xi_iinc (v := x4 + 1) (ls' := [some (.ref 56), none, some (.int x2), some (.int x3), some (.int (x4 + 1)), some (.int (1 + r7)), some (.int (1 + r8))]) (by decide +kernel : decode mX11_draw.2.1 180 = .ok (.iinc 4 1, 3)) rfl rfl (by decide) rfl (?_ : XW _ _ _ _ _ _ _ 183 _ _)
      refine xi_goto (by decide +kernel : decode mX11_draw.2.1 183 = .ok (.goto (-93), 3)) (by decide) (?_ : XW _ _ _ _ _ _ _ 90 _ _)
      refine xw_drop 5 (ls' := [some (.ref 56), none, some (.int x2), some (.int x3), some (.int (x4 + 1)), none, some (.int (1 + r8))]) rfl ?_
      refine xw_drop 6 (ls' := [some (.ref 56), none, some (.int x2), some (.int x3), some (.int (x4 + 1)), none, none]) rfl ?_
      exact vc
    · replace vc := vc.2 c
      refine xi_aload_n (by decide +kernel : decode mX11_draw.2.1 123 = .ok (.aload_n 0, 1)) rfl rfl (?_ : XW _ _ _ _ _ _ _ 124 _ _)
      refine xi_iload (by decide +kernel : decode mX11_draw.2.1 124 = .ok (.iload 5, 2)) rfl (?_ : XW _ _ _ _ _ _ _ 126 _ _)
      obtain ⟨Q1, sp, vc⟩ := vc
      refine xi_callV (b := 0) (bs := 0) (As := [.int (1 + r7)]) (st := []) (by decide +kernel : decode mX11_draw.2.1 126 = .ok (.invokevirtual 279, 3)) kX11_279 rfl rfl (by omega) rfl sp (by decide) (by decide) (Nat.le_of_ble_eq_true rfl) (by omega) (fun v9 h9 hq9 => ?_)
      obtain ⟨r9, e9, vc⟩ := vc v9 h9 hq9
      subst e9
      show XW _ _ _ _ _ _ _ 129 _ [.int r9]
      refine xi_if_eq (by decide +kernel : decode mX11_draw.2.1 129 = .ok (.ifCond .eq 6, 3)) (by decide) (fun c => (?_ : XW _ _ _ _ _ _ _ 135 _ _)) (fun c => (?_ : XW _ _ _ _ _ _ _ 132 _ _))
      · replace vc := vc.1 c
        refine xi_aload_n (by decide +kernel : decode mX11_draw.2.1 135 = .ok (.aload_n 0, 1)) rfl rfl (?_ : XW _ _ _ _ _ _ _ 136 _ _)
        obtain ⟨s1, vc⟩ := vc
        refine xi_getR (y := 61) (by decide +kernel : decode mX11_draw.2.1 136 = .ok (.getfield 39, 3)) fX11_39 rfl (by omega) rfl s1 (?_ : XW _ _ _ _ _ _ _ 139 _ _)
        refine xi_bipush (v := 24) (by decide +kernel : decode mX11_draw.2.1 139 = .ok (.bipush 24, 2)) (by decide) (?_ : XW _ _ _ _ _ _ _ 141 _ _)
        refine xi_aload_n (by decide +kernel : decode mX11_draw.2.1 141 = .ok (.aload_n 0, 1)) rfl rfl (?_ : XW _ _ _ _ _ _ _ 142 _ _)
        obtain ⟨s1, vc⟩ := vc
        refine xi_getR (y := 59) (by decide +kernel : decode mX11_draw.2.1 142 = .ok (.getfield 32, 3)) fX11_32 rfl (by omega) rfl s1 (?_ : XW _ _ _ _ _ _ _ 145 _ _)
        refine xi_bipush (v := 9) (by decide +kernel : decode mX11_draw.2.1 145 = .ok (.bipush 9, 2)) (by decide) (?_ : XW _ _ _ _ _ _ _ 147 _ _)
        refine xi_iald (by decide +kernel : decode mX11_draw.2.1 147 = .ok (.iaload, 1)) rfl (by omega) (by unfold vp_in; decide) (?_ : XW _ _ _ _ _ _ _ 148 _ [.int (xI h9 59 9), .int 24, .ref 61])
        refine xi_iadd (by decide +kernel : decode mX11_draw.2.1 148 = .ok (.iadd, 1)) (?_ : XW _ _ _ _ _ _ _ 149 _ _)
        refine xi_iload (by decide +kernel : decode mX11_draw.2.1 149 = .ok (.iload 5, 2)) rfl (?_ : XW _ _ _ _ _ _ _ 151 _ _)
        obtain ⟨s1, vc⟩ := vc
        refine xi_iast (by decide +kernel : decode mX11_draw.2.1 151 = .ok (.iastore, 1)) rfl (by omega) s1 (?_ : XW _ _ _ _ _ _ (xSI 61 (va_up (xI h9 61) (24 + (xI h9 59 9)).toNatClampNeg (1 + r7)) h9) 152 _ _)
        refine xi_aload_n (by decide +kernel : decode mX11_draw.2.1 152 = .ok (.aload_n 0, 1)) rfl rfl (?_ : XW _ _ _ _ _ _ _ 153 _ _)
        obtain ⟨s1, vc⟩ := vc
        refine xi_getR (y := 62) (by decide +kernel : decode mX11_draw.2.1 153 = .ok (.getfield 42, 3)) fX11_42 rfl (by omega) rfl s1 (?_ : XW _ _ _ _ _ _ _ 156 _ _)
        refine xi_bipush (v := 24) (by decide +kernel : decode mX11_draw.2.1 156 = .ok (.bipush 24, 2)) (by decide) (?_ : XW _ _ _ _ _ _ _ 158 _ _)
        refine xi_aload_n (by decide +kernel : decode mX11_draw.2.1 158 = .ok (.aload_n 0, 1)) rfl rfl (?_ : XW _ _ _ _ _ _ _ 159 _ _)
        obtain ⟨s1, vc⟩ := vc
        refine xi_getR (y := 59) (by decide +kernel : decode mX11_draw.2.1 159 = .ok (.getfield 32, 3)) fX11_32 rfl (by omega) rfl s1 (?_ : XW _ _ _ _ _ _ _ 162 _ _)
        refine xi_bipush (v := 9) (by decide +kernel : decode mX11_draw.2.1 162 = .ok (.bipush 9, 2)) (by decide) (?_ : XW _ _ _ _ _ _ _ 164 _ _)
        refine xi_iald (by decide +kernel : decode mX11_draw.2.1 164 = .ok (.iaload, 1)) rfl (by omega) (by unfold vp_in; decide) (?_ : XW _ _ _ _ _ _ _ 165 _ [.int (xI h9 59 9), .int 24, .ref 62])
        refine xi_iadd (by decide +kernel : decode mX11_draw.2.1 165 = .ok (.iadd, 1)) (?_ : XW _ _ _ _ _ _ _ 166 _ _)
        refine xi_iload (by decide +kernel : decode mX11_draw.2.1 166 = .ok (.iload 6, 2)) rfl (?_ : XW _ _ _ _ _ _ _ 168 _ _)
        obtain ⟨s1, vc⟩ := vc
        refine xi_iast (by decide +kernel : decode mX11_draw.2.1 168 = .ok (.iastore, 1)) rfl (by omega) s1 (?_ : XW _ _ _ _ _ _ (xSI 62 (va_up (xI h9 62) (24 + (xI h9 59 9)).toNatClampNeg (1 + r8)) (xSI 61 (va_up (xI h9 61) (24 + (xI h9 59 9)).toNatClampNeg (1 + r7)) h9)) 169 _ _)
        refine xi_aload_n (by decide +kernel : decode mX11_draw.2.1 169 = .ok (.aload_n 0, 1)) rfl rfl (?_ : XW _ _ _ _ _ _ _ 170 _ _)
        obtain ⟨s1, vc⟩ := vc
        refine xi_getR (y := 59) (by decide +kernel : decode mX11_draw.2.1 170 = .ok (.getfield 32, 3)) fX11_32 rfl (by omega) rfl s1 (?_ : XW _ _ _ _ _ _ _ 173 _ _)
        refine xi_bipush (v := 9) (by decide +kernel : decode mX11_draw.2.1 173 = .ok (.bipush 9, 2)) (by decide) (?_ : XW _ _ _ _ _ _ _ 175 _ _)
        refine xi_dup2 (by decide +kernel : decode mX11_draw.2.1 175 = .ok (.dup2, 1)) rfl rfl (?_ : XW _ _ _ _ _ _ _ 176 _ _)
        refine xi_iald (by decide +kernel : decode mX11_draw.2.1 176 = .ok (.iaload, 1)) rfl (by omega) (by unfold vp_in; decide) (?_ : XW _ _ _ _ _ _ _ 177 _ [.int (xI h9 59 9), .int 9, .ref 59])
        refine xi_iconst (v := 1) (by decide +kernel : decode mX11_draw.2.1 177 = .ok (.iconst 1, 1)) (by decide) (?_ : XW _ _ _ _ _ _ _ 178 _ _)
        refine xi_iadd (by decide +kernel : decode mX11_draw.2.1 178 = .ok (.iadd, 1)) (?_ : XW _ _ _ _ _ _ _ 179 _ _)
        refine xi_iast (by decide +kernel : decode mX11_draw.2.1 179 = .ok (.iastore, 1)) rfl (by omega) (by unfold vp_in; decide) (?_ : XW _ _ _ _ _ _ (xSI 59 (va_up (xI h9 59) 9 ((xI h9 59 9) + 1)) (xSI 62 (va_up (xI h9 62) (24 + (xI h9 59 9)).toNatClampNeg (1 + r8)) (xSI 61 (va_up (xI h9 61) (24 + (xI h9 59 9)).toNatClampNeg (1 + r7)) h9))) 180 _ _)
        refine xi_iinc (v := x4 + 1) (ls' := [some (.ref 56), none, some (.int x2), some (.int x3), some (.int (x4 + 1)), some (.int (1 + r7)), some (.int (1 + r8))]) (by decide +kernel : decode mX11_draw.2.1 180 = .ok (.iinc 4 1, 3)) rfl rfl (by decide) rfl (?_ : XW _ _ _ _ _ _ _ 183 _ _)
        refine xi_goto (by decide +kernel : decode mX11_draw.2.1 183 = .ok (.goto (-93), 3)) (by decide) (?_ : XW _ _ _ _ _ _ _ 90 _ _)
        refine xw_drop 5 (ls' := [some (.ref 56), none, some (.int x2), some (.int x3), some (.int (x4 + 1)), none, some (.int (1 + r8))]) rfl ?_
        refine xw_drop 6 (ls' := [some (.ref 56), none, some (.int x2), some (.int x3), some (.int (x4 + 1)), none, none]) rfl ?_
        exact vc
      · replace vc := vc.2 c
        refine xi_goto (by decide +kernel : decode mX11_draw.2.1 132 = .ok (.goto 48, 3)) (by decide) (?_ : XW _ _ _ _ _ _ _ 180 _ _)
        refine xi_iinc (v := x4 + 1) (ls' := [some (.ref 56), none, some (.int x2), some (.int x3), some (.int (x4 + 1)), some (.int (1 + r7)), some (.int (1 + r8))]) (by decide +kernel : decode mX11_draw.2.1 180 = .ok (.iinc 4 1, 3)) rfl rfl (by decide) rfl (?_ : XW _ _ _ _ _ _ _ 183 _ _)
        refine xi_goto (by decide +kernel : decode mX11_draw.2.1 183 = .ok (.goto (-93), 3)) (by decide) (?_ : XW _ _ _ _ _ _ _ 90 _ _)
        refine xw_drop 5 (ls' := [some (.ref 56), none, some (.int x2), some (.int x3), some (.int (x4 + 1)), none, some (.int (1 + r8))]) rfl ?_
        refine xw_drop 6 (ls' := [some (.ref 56), none, some (.int x2), some (.int x3), some (.int (x4 + 1)), none, none]) rfl ?_
        exact vc

