/-! MADE ANEW: the walks of the constructors' calls, with fewer cells -/
set_option maxRecDepth 20000 in
theorem v_X0_clearn_0 {h : XH} {Q : Option Value → XH → Prop} {X : String → XH → Prop} (n f : Nat) (hf : xFor f (xP h)) (hn : f + 4 ≤ n) 
    (vc : ∃ Q1, XSpec mX0_add 1 0 0 n n [.ref f, .int (-1)] (xSI f (va_up (va_up (va_up (xI h f) 0 0) 1 0) 3 0) (xSI f (va_up (va_up (xI h f) 0 0) 1 0) (xSI f (va_up (xI h f) 0 0) h))) Q1 xno ∧ ∀ v h1, Q1 v h1 → v = none ∧ (Q none h1)) :
    XW (xrm 2 0 0) mX0_clear (xE n Q X 0 0) n 0 0 h 0 [some (.ref f)] [] := by
  rcases hf.1 with rfl | rfl
  · refine xi_aload_n (by decide +kernel : decode mX0_clear.2.1 0 = .ok (.aload_n 0, 1)) rfl rfl (?_ : XW _ _ _ _ _ _ _ 1 _ _)
    refine xi_iconst (v := 0) (by decide +kernel : decode mX0_clear.2.1 1 = .ok (.iconst 0, 1)) (by decide) (?_ : XW _ _ _ _ _ _ _ 2 _ _)
    refine xi_putI (by decide +kernel : decode mX0_clear.2.1 2 = .ok (.putfield 22, 3)) fX0_22 rfl (by omega) rfl rfl rfl (?_ : XW _ _ _ _ _ _ (xSI 3 (va_up (xI h 3) 0 0) h) 5 _ _)
    refine xi_aload_n (by decide +kernel : decode mX0_clear.2.1 5 = .ok (.aload_n 0, 1)) rfl rfl (?_ : XW _ _ _ _ _ _ _ 6 _ _)
    refine xi_iconst (v := 0) (by decide +kernel : decode mX0_clear.2.1 6 = .ok (.iconst 0, 1)) (by decide) (?_ : XW _ _ _ _ _ _ _ 7 _ _)
    refine xi_putI (by decide +kernel : decode mX0_clear.2.1 7 = .ok (.putfield 26, 3)) fX0_26 rfl (by omega) rfl rfl rfl (?_ : XW _ _ _ _ _ _ (xSI 3 (va_up (va_up (xI h 3) 0 0) 1 0) (xSI 3 (va_up (xI h 3) 0 0) h)) 10 _ _)
    refine xi_aload_n (by decide +kernel : decode mX0_clear.2.1 10 = .ok (.aload_n 0, 1)) rfl rfl (?_ : XW _ _ _ _ _ _ _ 11 _ _)
    refine xi_iconst (v := 0) (by decide +kernel : decode mX0_clear.2.1 11 = .ok (.iconst 0, 1)) (by decide) (?_ : XW _ _ _ _ _ _ _ 12 _ _)
    refine xi_putI (by decide +kernel : decode mX0_clear.2.1 12 = .ok (.putfield 30, 3)) fX0_30 rfl (by omega) rfl rfl rfl (?_ : XW _ _ _ _ _ _ (xSI 3 (va_up (va_up (va_up (xI h 3) 0 0) 1 0) 3 0) (xSI 3 (va_up (va_up (xI h 3) 0 0) 1 0) (xSI 3 (va_up (xI h 3) 0 0) h))) 15 _ _)
    refine xi_aload_n (by decide +kernel : decode mX0_clear.2.1 15 = .ok (.aload_n 0, 1)) rfl rfl (?_ : XW _ _ _ _ _ _ _ 16 _ _)
    refine xi_iconst (v := (-1)) (by decide +kernel : decode mX0_clear.2.1 16 = .ok (.iconst (-1), 1)) (by decide) (?_ : XW _ _ _ _ _ _ _ 17 _ _)
    obtain ⟨Q1, sp, vc⟩ := vc
    refine xi_callV (b := 0) (bs := 0) (As := [.int (-1)]) (st := []) (by decide +kernel : decode mX0_clear.2.1 17 = .ok (.invokevirtual 33, 3)) kX0_33 rfl rfl (by omega) rfl sp (by decide) (by decide) (Nat.le_of_ble_eq_true rfl) (by omega) (fun v9 h1 hq9 => ?_)
    obtain ⟨e9, vc⟩ := vc v9 h1 hq9
    subst e9
    show XW _ _ _ _ _ _ _ 20 _ []
    exact xi_vret (by decide +kernel : decode mX0_clear.2.1 20 = .ok (.return_, 1)) rfl vc
  · refine xi_aload_n (by decide +kernel : decode mX0_clear.2.1 0 = .ok (.aload_n 0, 1)) rfl rfl (?_ : XW _ _ _ _ _ _ _ 1 _ _)
    refine xi_iconst (v := 0) (by decide +kernel : decode mX0_clear.2.1 1 = .ok (.iconst 0, 1)) (by decide) (?_ : XW _ _ _ _ _ _ _ 2 _ _)
    refine xi_putI (by decide +kernel : decode mX0_clear.2.1 2 = .ok (.putfield 22, 3)) fX0_22 rfl (by omega) rfl rfl rfl (?_ : XW _ _ _ _ _ _ (xSI 13 (va_up (xI h 13) 0 0) h) 5 _ _)
    refine xi_aload_n (by decide +kernel : decode mX0_clear.2.1 5 = .ok (.aload_n 0, 1)) rfl rfl (?_ : XW _ _ _ _ _ _ _ 6 _ _)
    refine xi_iconst (v := 0) (by decide +kernel : decode mX0_clear.2.1 6 = .ok (.iconst 0, 1)) (by decide) (?_ : XW _ _ _ _ _ _ _ 7 _ _)
    refine xi_putI (by decide +kernel : decode mX0_clear.2.1 7 = .ok (.putfield 26, 3)) fX0_26 rfl (by omega) rfl rfl rfl (?_ : XW _ _ _ _ _ _ (xSI 13 (va_up (va_up (xI h 13) 0 0) 1 0) (xSI 13 (va_up (xI h 13) 0 0) h)) 10 _ _)
    refine xi_aload_n (by decide +kernel : decode mX0_clear.2.1 10 = .ok (.aload_n 0, 1)) rfl rfl (?_ : XW _ _ _ _ _ _ _ 11 _ _)
    refine xi_iconst (v := 0) (by decide +kernel : decode mX0_clear.2.1 11 = .ok (.iconst 0, 1)) (by decide) (?_ : XW _ _ _ _ _ _ _ 12 _ _)
    refine xi_putI (by decide +kernel : decode mX0_clear.2.1 12 = .ok (.putfield 30, 3)) fX0_30 rfl (by omega) rfl rfl rfl (?_ : XW _ _ _ _ _ _ (xSI 13 (va_up (va_up (va_up (xI h 13) 0 0) 1 0) 3 0) (xSI 13 (va_up (va_up (xI h 13) 0 0) 1 0) (xSI 13 (va_up (xI h 13) 0 0) h))) 15 _ _)
    refine xi_aload_n (by decide +kernel : decode mX0_clear.2.1 15 = .ok (.aload_n 0, 1)) rfl rfl (?_ : XW _ _ _ _ _ _ _ 16 _ _)
    refine xi_iconst (v := (-1)) (by decide +kernel : decode mX0_clear.2.1 16 = .ok (.iconst (-1), 1)) (by decide) (?_ : XW _ _ _ _ _ _ _ 17 _ _)
    obtain ⟨Q1, sp, vc⟩ := vc
    refine xi_callV (b := 0) (bs := 0) (As := [.int (-1)]) (st := []) (by decide +kernel : decode mX0_clear.2.1 17 = .ok (.invokevirtual 33, 3)) kX0_33 rfl rfl (by omega) rfl sp (by decide) (by decide) (Nat.le_of_ble_eq_true rfl) (by omega) (fun v9 h1 hq9 => ?_)
    obtain ⟨e9, vc⟩ := vc v9 h1 hq9
    subst e9
    show XW _ _ _ _ _ _ _ 20 _ []
    exact xi_vret (by decide +kernel : decode mX0_clear.2.1 20 = .ok (.return_, 1)) rfl vc

set_option maxRecDepth 20000 in
theorem v_X5_clearButDien_0 {h : XH} {Q : Option Value → XH → Prop} {X : String → XH → Prop} (n r : Nat) (hr : xRul r (xP h)) (hnr : r + 9 ≤ n) 
    (vc : XW (xrm 3 0 0) mX5_clearButDie (xE n Q X 0 0) n 0 0 (xSI r (va_up (va_up (va_up (va_up (va_up (va_up (xI h r) 0 36) 3 0) 4 0) 5 0) 6 2) 7 0) (xSI r (va_up (va_up (va_up (va_up (va_up (xI h r) 0 36) 3 0) 4 0) 5 0) 6 2) (xSI r (va_up (va_up (va_up (va_up (xI h r) 0 36) 3 0) 4 0) 5 0) (xSI r (va_up (va_up (va_up (xI h r) 0 36) 3 0) 4 0) (xSI r (va_up (va_up (xI h r) 0 36) 3 0) (xSI r (va_up (xI h r) 0 36) h)))))) 33 [some (.ref r), some (.int 0)] []) :
    XW (xrm 3 0 0) mX5_clearButDie (xE n Q X 0 0) n 0 0 h 0 [some (.ref r), none] [] := by
  rcases hr.1 with rfl | rfl
  · refine xi_aload_n (by decide +kernel : decode mX5_clearButDie.2.1 0 = .ok (.aload_n 0, 1)) rfl rfl (?_ : XW _ _ _ _ _ _ _ 1 _ _)
    refine xi_bipush (v := 36) (by decide +kernel : decode mX5_clearButDie.2.1 1 = .ok (.bipush 36, 2)) (by decide) (?_ : XW _ _ _ _ _ _ _ 3 _ _)
    refine xi_putI (by decide +kernel : decode mX5_clearButDie.2.1 3 = .ok (.putfield 45, 3)) fX5_45 (xRul_s0 hr) (by omega) rfl rfl rfl (?_ : XW _ _ _ _ _ _ (xSI 2 (va_up (xI h 2) 0 36) h) 6 _ _)
    refine xi_aload_n (by decide +kernel : decode mX5_clearButDie.2.1 6 = .ok (.aload_n 0, 1)) rfl rfl (?_ : XW _ _ _ _ _ _ _ 7 _ _)
    refine xi_iconst (v := 0) (by decide +kernel : decode mX5_clearButDie.2.1 7 = .ok (.iconst 0, 1)) (by decide) (?_ : XW _ _ _ _ _ _ _ 8 _ _)
    refine xi_putI (by decide +kernel : decode mX5_clearButDie.2.1 8 = .ok (.putfield 49, 3)) fX5_49 (xRul_s0 hr) (by omega) rfl rfl rfl (?_ : XW _ _ _ _ _ _ (xSI 2 (va_up (va_up (xI h 2) 0 36) 3 0) (xSI 2 (va_up (xI h 2) 0 36) h)) 11 _ _)
    refine xi_aload_n (by decide +kernel : decode mX5_clearButDie.2.1 11 = .ok (.aload_n 0, 1)) rfl rfl (?_ : XW _ _ _ _ _ _ _ 12 _ _)
    refine xi_iconst (v := 0) (by decide +kernel : decode mX5_clearButDie.2.1 12 = .ok (.iconst 0, 1)) (by decide) (?_ : XW _ _ _ _ _ _ _ 13 _ _)
    refine xi_putI (by decide +kernel : decode mX5_clearButDie.2.1 13 = .ok (.putfield 52, 3)) fX5_52 (xRul_s0 hr) (by omega) rfl rfl rfl (?_ : XW _ _ _ _ _ _ (xSI 2 (va_up (va_up (va_up (xI h 2) 0 36) 3 0) 4 0) (xSI 2 (va_up (va_up (xI h 2) 0 36) 3 0) (xSI 2 (va_up (xI h 2) 0 36) h))) 16 _ _)
    refine xi_aload_n (by decide +kernel : decode mX5_clearButDie.2.1 16 = .ok (.aload_n 0, 1)) rfl rfl (?_ : XW _ _ _ _ _ _ _ 17 _ _)
    refine xi_iconst (v := 0) (by decide +kernel : decode mX5_clearButDie.2.1 17 = .ok (.iconst 0, 1)) (by decide) (?_ : XW _ _ _ _ _ _ _ 18 _ _)
    refine xi_putI (by decide +kernel : decode mX5_clearButDie.2.1 18 = .ok (.putfield 55, 3)) fX5_55 (xRul_s0 hr) (by omega) rfl rfl rfl (?_ : XW _ _ _ _ _ _ (xSI 2 (va_up (va_up (va_up (va_up (xI h 2) 0 36) 3 0) 4 0) 5 0) (xSI 2 (va_up (va_up (va_up (xI h 2) 0 36) 3 0) 4 0) (xSI 2 (va_up (va_up (xI h 2) 0 36) 3 0) (xSI 2 (va_up (xI h 2) 0 36) h)))) 21 _ _)
    refine xi_aload_n (by decide +kernel : decode mX5_clearButDie.2.1 21 = .ok (.aload_n 0, 1)) rfl rfl (?_ : XW _ _ _ _ _ _ _ 22 _ _)
    refine xi_iconst (v := 2) (by decide +kernel : decode mX5_clearButDie.2.1 22 = .ok (.iconst 2, 1)) (by decide) (?_ : XW _ _ _ _ _ _ _ 23 _ _)
    refine xi_putI (by decide +kernel : decode mX5_clearButDie.2.1 23 = .ok (.putfield 59, 3)) fX5_59 (xRul_s0 hr) (by omega) rfl rfl rfl (?_ : XW _ _ _ _ _ _ (xSI 2 (va_up (va_up (va_up (va_up (va_up (xI h 2) 0 36) 3 0) 4 0) 5 0) 6 2) (xSI 2 (va_up (va_up (va_up (va_up (xI h 2) 0 36) 3 0) 4 0) 5 0) (xSI 2 (va_up (va_up (va_up (xI h 2) 0 36) 3 0) 4 0) (xSI 2 (va_up (va_up (xI h 2) 0 36) 3 0) (xSI 2 (va_up (xI h 2) 0 36) h))))) 26 _ _)
    refine xi_aload_n (by decide +kernel : decode mX5_clearButDie.2.1 26 = .ok (.aload_n 0, 1)) rfl rfl (?_ : XW _ _ _ _ _ _ _ 27 _ _)
    refine xi_iconst (v := 0) (by decide +kernel : decode mX5_clearButDie.2.1 27 = .ok (.iconst 0, 1)) (by decide) (?_ : XW _ _ _ _ _ _ _ 28 _ _)
    refine xi_putI (by decide +kernel : decode mX5_clearButDie.2.1 28 = .ok (.putfield 62, 3)) fX5_62 (xRul_s0 hr) (by omega) rfl rfl rfl (?_ : XW _ _ _ _ _ _ (xSI 2 (va_up (va_up (va_up (va_up (va_up (va_up (xI h 2) 0 36) 3 0) 4 0) 5 0) 6 2) 7 0) (xSI 2 (va_up (va_up (va_up (va_up (va_up (xI h 2) 0 36) 3 0) 4 0) 5 0) 6 2) (xSI 2 (va_up (va_up (va_up (va_up (xI h 2) 0 36) 3 0) 4 0) 5 0) (xSI 2 (va_up (va_up (va_up (xI h 2) 0 36) 3 0) 4 0) (xSI 2 (va_up (va_up (xI h 2) 0 36) 3 0) (xSI 2 (va_up (xI h 2) 0 36) h)))))) 31 _ _)
    refine xi_iconst (v := 0) (by decide +kernel : decode mX5_clearButDie.2.1 31 = .ok (.iconst 0, 1)) (by decide) (?_ : XW _ _ _ _ _ _ _ 32 _ _)
    refine xi_istore_n (ls' := [some (.ref 2), some (.int 0)]) (by decide +kernel : decode mX5_clearButDie.2.1 32 = .ok (.istore_n 1, 1)) rfl (by decide) rfl (?_ : XW _ _ _ _ _ _ _ 33 _ _)
    exact vc
  · refine xi_aload_n (by decide +kernel : decode mX5_clearButDie.2.1 0 = .ok (.aload_n 0, 1)) rfl rfl (?_ : XW _ _ _ _ _ _ _ 1 _ _)
    refine xi_bipush (v := 36) (by decide +kernel : decode mX5_clearButDie.2.1 1 = .ok (.bipush 36, 2)) (by decide) (?_ : XW _ _ _ _ _ _ _ 3 _ _)
    refine xi_putI (by decide +kernel : decode mX5_clearButDie.2.1 3 = .ok (.putfield 45, 3)) fX5_45 (xRul_s0 hr) (by omega) rfl rfl rfl (?_ : XW _ _ _ _ _ _ (xSI 12 (va_up (xI h 12) 0 36) h) 6 _ _)
    refine xi_aload_n (by decide +kernel : decode mX5_clearButDie.2.1 6 = .ok (.aload_n 0, 1)) rfl rfl (?_ : XW _ _ _ _ _ _ _ 7 _ _)
    refine xi_iconst (v := 0) (by decide +kernel : decode mX5_clearButDie.2.1 7 = .ok (.iconst 0, 1)) (by decide) (?_ : XW _ _ _ _ _ _ _ 8 _ _)
    refine xi_putI (by decide +kernel : decode mX5_clearButDie.2.1 8 = .ok (.putfield 49, 3)) fX5_49 (xRul_s0 hr) (by omega) rfl rfl rfl (?_ : XW _ _ _ _ _ _ (xSI 12 (va_up (va_up (xI h 12) 0 36) 3 0) (xSI 12 (va_up (xI h 12) 0 36) h)) 11 _ _)
    refine xi_aload_n (by decide +kernel : decode mX5_clearButDie.2.1 11 = .ok (.aload_n 0, 1)) rfl rfl (?_ : XW _ _ _ _ _ _ _ 12 _ _)
    refine xi_iconst (v := 0) (by decide +kernel : decode mX5_clearButDie.2.1 12 = .ok (.iconst 0, 1)) (by decide) (?_ : XW _ _ _ _ _ _ _ 13 _ _)
    refine xi_putI (by decide +kernel : decode mX5_clearButDie.2.1 13 = .ok (.putfield 52, 3)) fX5_52 (xRul_s0 hr) (by omega) rfl rfl rfl (?_ : XW _ _ _ _ _ _ (xSI 12 (va_up (va_up (va_up (xI h 12) 0 36) 3 0) 4 0) (xSI 12 (va_up (va_up (xI h 12) 0 36) 3 0) (xSI 12 (va_up (xI h 12) 0 36) h))) 16 _ _)
    refine xi_aload_n (by decide +kernel : decode mX5_clearButDie.2.1 16 = .ok (.aload_n 0, 1)) rfl rfl (?_ : XW _ _ _ _ _ _ _ 17 _ _)
    refine xi_iconst (v := 0) (by decide +kernel : decode mX5_clearButDie.2.1 17 = .ok (.iconst 0, 1)) (by decide) (?_ : XW _ _ _ _ _ _ _ 18 _ _)
    refine xi_putI (by decide +kernel : decode mX5_clearButDie.2.1 18 = .ok (.putfield 55, 3)) fX5_55 (xRul_s0 hr) (by omega) rfl rfl rfl (?_ : XW _ _ _ _ _ _ (xSI 12 (va_up (va_up (va_up (va_up (xI h 12) 0 36) 3 0) 4 0) 5 0) (xSI 12 (va_up (va_up (va_up (xI h 12) 0 36) 3 0) 4 0) (xSI 12 (va_up (va_up (xI h 12) 0 36) 3 0) (xSI 12 (va_up (xI h 12) 0 36) h)))) 21 _ _)
    refine xi_aload_n (by decide +kernel : decode mX5_clearButDie.2.1 21 = .ok (.aload_n 0, 1)) rfl rfl (?_ : XW _ _ _ _ _ _ _ 22 _ _)
    refine xi_iconst (v := 2) (by decide +kernel : decode mX5_clearButDie.2.1 22 = .ok (.iconst 2, 1)) (by decide) (?_ : XW _ _ _ _ _ _ _ 23 _ _)
    refine xi_putI (by decide +kernel : decode mX5_clearButDie.2.1 23 = .ok (.putfield 59, 3)) fX5_59 (xRul_s0 hr) (by omega) rfl rfl rfl (?_ : XW _ _ _ _ _ _ (xSI 12 (va_up (va_up (va_up (va_up (va_up (xI h 12) 0 36) 3 0) 4 0) 5 0) 6 2) (xSI 12 (va_up (va_up (va_up (va_up (xI h 12) 0 36) 3 0) 4 0) 5 0) (xSI 12 (va_up (va_up (va_up (xI h 12) 0 36) 3 0) 4 0) (xSI 12 (va_up (va_up (xI h 12) 0 36) 3 0) (xSI 12 (va_up (xI h 12) 0 36) h))))) 26 _ _)
    refine xi_aload_n (by decide +kernel : decode mX5_clearButDie.2.1 26 = .ok (.aload_n 0, 1)) rfl rfl (?_ : XW _ _ _ _ _ _ _ 27 _ _)
    refine xi_iconst (v := 0) (by decide +kernel : decode mX5_clearButDie.2.1 27 = .ok (.iconst 0, 1)) (by decide) (?_ : XW _ _ _ _ _ _ _ 28 _ _)
    refine xi_putI (by decide +kernel : decode mX5_clearButDie.2.1 28 = .ok (.putfield 62, 3)) fX5_62 (xRul_s0 hr) (by omega) rfl rfl rfl (?_ : XW _ _ _ _ _ _ (xSI 12 (va_up (va_up (va_up (va_up (va_up (va_up (xI h 12) 0 36) 3 0) 4 0) 5 0) 6 2) 7 0) (xSI 12 (va_up (va_up (va_up (va_up (va_up (xI h 12) 0 36) 3 0) 4 0) 5 0) 6 2) (xSI 12 (va_up (va_up (va_up (va_up (xI h 12) 0 36) 3 0) 4 0) 5 0) (xSI 12 (va_up (va_up (va_up (xI h 12) 0 36) 3 0) 4 0) (xSI 12 (va_up (va_up (xI h 12) 0 36) 3 0) (xSI 12 (va_up (xI h 12) 0 36) h)))))) 31 _ _)
    refine xi_iconst (v := 0) (by decide +kernel : decode mX5_clearButDie.2.1 31 = .ok (.iconst 0, 1)) (by decide) (?_ : XW _ _ _ _ _ _ _ 32 _ _)
    refine xi_istore_n (ls' := [some (.ref 12), some (.int 0)]) (by decide +kernel : decode mX5_clearButDie.2.1 32 = .ok (.istore_n 1, 1)) rfl (by decide) rfl (?_ : XW _ _ _ _ _ _ _ 33 _ _)
    exact vc

set_option maxRecDepth 20000 in
theorem v_X5_clearButDien_33 {h : XH} {Q : Option Value → XH → Prop} {X : String → XH → Prop} (n r : Nat) (hr : xRul r (xP h)) (hnr : r + 9 ≤ n)  (x1 : Int32)
    (vc : (101 ≤ x1 → ∃ Q1, XSpec mX0_clear 2 0 0 n n [.ref (r + 1)] h Q1 xno ∧ ∀ v h1, Q1 v h1 → v = none ∧ (Q none h1)) ∧ (¬ 101 ≤ x1 → (vp_in x1 101) ∧ (XW (xrm 3 0 0) mX5_clearButDie (xE n Q X 0 0) n 0 0 (xSI (r + 8) (va_up (xI h (r + 8)) x1.toNatClampNeg (vp_nar .boolean 0)) h) 33 [some (.ref r), some (.int (x1 + 1))] []))) :
    XW (xrm 3 0 0) mX5_clearButDie (xE n Q X 0 0) n 0 0 h 33 [some (.ref r), some (.int x1)] [] := by
  rcases hr.1 with rfl | rfl
  · refine xi_iload_n (by decide +kernel : decode mX5_clearButDie.2.1 33 = .ok (.iload_n 1, 1)) rfl rfl (?_ : XW _ _ _ _ _ _ _ 34 _ _)
    refine xi_aload_n (by decide +kernel : decode mX5_clearButDie.2.1 34 = .ok (.aload_n 0, 1)) rfl rfl (?_ : XW _ _ _ _ _ _ _ 35 _ _)
    refine xi_getR (y := 10) (by decide +kernel : decode mX5_clearButDie.2.1 35 = .ok (.getfield 28, 3)) fX5_28 (xRul_s0 hr) (by omega) rfl hr.2.2.2.2.2.1 (?_ : XW _ _ _ _ _ _ _ 38 _ _)
    refine xi_alen (v := 101) (by decide +kernel : decode mX5_clearButDie.2.1 38 = .ok (.arraylength, 1)) (xRul_s8 hr) (by omega) (Or.inl rfl) rfl (?_ : XW _ _ _ _ _ _ _ 39 _ _)
    refine xi_icmp_ge (by decide +kernel : decode mX5_clearButDie.2.1 39 = .ok (.if_icmp .ge 16, 3)) (by decide) (fun c => (?_ : XW _ _ _ _ _ _ _ 55 _ _)) (fun c => (?_ : XW _ _ _ _ _ _ _ 42 _ _))
    · replace vc := vc.1 c
      refine xi_aload_n (by decide +kernel : decode mX5_clearButDie.2.1 55 = .ok (.aload_n 0, 1)) rfl rfl (?_ : XW _ _ _ _ _ _ _ 56 _ _)
      refine xi_getR (y := 3) (by decide +kernel : decode mX5_clearButDie.2.1 56 = .ok (.getfield 12, 3)) fX5_12 (xRul_s0 hr) (by omega) rfl hr.2.1 (?_ : XW _ _ _ _ _ _ _ 59 _ _)
      obtain ⟨Q1, sp, vc⟩ := vc
      refine xi_callV (b := 0) (bs := 0) (As := []) (st := []) (by decide +kernel : decode mX5_clearButDie.2.1 59 = .ok (.invokevirtual 65, 3)) kX5_65 rfl (xRul_s1 hr) (by omega) rfl sp (by decide) (by decide) (Nat.le_of_ble_eq_true rfl) (by omega) (fun v9 h1 hq9 => ?_)
      obtain ⟨e9, vc⟩ := vc v9 h1 hq9
      subst e9
      show XW _ _ _ _ _ _ _ 62 _ []
      exact xi_vret (by decide +kernel : decode mX5_clearButDie.2.1 62 = .ok (.return_, 1)) rfl vc
    · replace vc := vc.2 c
      refine xi_aload_n (by decide +kernel : decode mX5_clearButDie.2.1 42 = .ok (.aload_n 0, 1)) rfl rfl (?_ : XW _ _ _ _ _ _ _ 43 _ _)
      refine xi_getR (y := 10) (by decide +kernel : decode mX5_clearButDie.2.1 43 = .ok (.getfield 28, 3)) fX5_28 (xRul_s0 hr) (by omega) rfl hr.2.2.2.2.2.1 (?_ : XW _ _ _ _ _ _ _ 46 _ _)
      refine xi_iload_n (by decide +kernel : decode mX5_clearButDie.2.1 46 = .ok (.iload_n 1, 1)) rfl rfl (?_ : XW _ _ _ _ _ _ _ 47 _ _)
      refine xi_iconst (v := 0) (by decide +kernel : decode mX5_clearButDie.2.1 47 = .ok (.iconst 0, 1)) (by decide) (?_ : XW _ _ _ _ _ _ _ 48 _ _)
      obtain ⟨s1, vc⟩ := vc
      refine xi_zast (by decide +kernel : decode mX5_clearButDie.2.1 48 = .ok (.bastore, 1)) (xRul_s8 hr) (by omega) s1 (?_ : XW _ _ _ _ _ _ (xSI (10) (va_up (xI h (10)) x1.toNatClampNeg (vp_nar .boolean 0)) h) 49 _ _)
      refine xi_iinc (v := x1 + 1) (ls' := [some (.ref 2), some (.int (x1 + 1))]) (by decide +kernel : decode mX5_clearButDie.2.1 49 = .ok (.iinc 1 1, 3)) rfl rfl (by decide) rfl (?_ : XW _ _ _ _ _ _ _ 52 _ _)
      refine xi_goto (by decide +kernel : decode mX5_clearButDie.2.1 52 = .ok (.goto (-19), 3)) (by decide) (?_ : XW _ _ _ _ _ _ _ 33 _ _)
      exact vc
  · refine xi_iload_n (by decide +kernel : decode mX5_clearButDie.2.1 33 = .ok (.iload_n 1, 1)) rfl rfl (?_ : XW _ _ _ _ _ _ _ 34 _ _)
    refine xi_aload_n (by decide +kernel : decode mX5_clearButDie.2.1 34 = .ok (.aload_n 0, 1)) rfl rfl (?_ : XW _ _ _ _ _ _ _ 35 _ _)
    refine xi_getR (y := 20) (by decide +kernel : decode mX5_clearButDie.2.1 35 = .ok (.getfield 28, 3)) fX5_28 (xRul_s0 hr) (by omega) rfl hr.2.2.2.2.2.1 (?_ : XW _ _ _ _ _ _ _ 38 _ _)
    refine xi_alen (v := 101) (by decide +kernel : decode mX5_clearButDie.2.1 38 = .ok (.arraylength, 1)) (xRul_s8 hr) (by omega) (Or.inl rfl) rfl (?_ : XW _ _ _ _ _ _ _ 39 _ _)
    refine xi_icmp_ge (by decide +kernel : decode mX5_clearButDie.2.1 39 = .ok (.if_icmp .ge 16, 3)) (by decide) (fun c => (?_ : XW _ _ _ _ _ _ _ 55 _ _)) (fun c => (?_ : XW _ _ _ _ _ _ _ 42 _ _))
    · replace vc := vc.1 c
      refine xi_aload_n (by decide +kernel : decode mX5_clearButDie.2.1 55 = .ok (.aload_n 0, 1)) rfl rfl (?_ : XW _ _ _ _ _ _ _ 56 _ _)
      refine xi_getR (y := 13) (by decide +kernel : decode mX5_clearButDie.2.1 56 = .ok (.getfield 12, 3)) fX5_12 (xRul_s0 hr) (by omega) rfl hr.2.1 (?_ : XW _ _ _ _ _ _ _ 59 _ _)
      obtain ⟨Q1, sp, vc⟩ := vc
      refine xi_callV (b := 0) (bs := 0) (As := []) (st := []) (by decide +kernel : decode mX5_clearButDie.2.1 59 = .ok (.invokevirtual 65, 3)) kX5_65 rfl (xRul_s1 hr) (by omega) rfl sp (by decide) (by decide) (Nat.le_of_ble_eq_true rfl) (by omega) (fun v9 h1 hq9 => ?_)
      obtain ⟨e9, vc⟩ := vc v9 h1 hq9
      subst e9
      show XW _ _ _ _ _ _ _ 62 _ []
      exact xi_vret (by decide +kernel : decode mX5_clearButDie.2.1 62 = .ok (.return_, 1)) rfl vc
    · replace vc := vc.2 c
      refine xi_aload_n (by decide +kernel : decode mX5_clearButDie.2.1 42 = .ok (.aload_n 0, 1)) rfl rfl (?_ : XW _ _ _ _ _ _ _ 43 _ _)
      refine xi_getR (y := 20) (by decide +kernel : decode mX5_clearButDie.2.1 43 = .ok (.getfield 28, 3)) fX5_28 (xRul_s0 hr) (by omega) rfl hr.2.2.2.2.2.1 (?_ : XW _ _ _ _ _ _ _ 46 _ _)
      refine xi_iload_n (by decide +kernel : decode mX5_clearButDie.2.1 46 = .ok (.iload_n 1, 1)) rfl rfl (?_ : XW _ _ _ _ _ _ _ 47 _ _)
      refine xi_iconst (v := 0) (by decide +kernel : decode mX5_clearButDie.2.1 47 = .ok (.iconst 0, 1)) (by decide) (?_ : XW _ _ _ _ _ _ _ 48 _ _)
      obtain ⟨s1, vc⟩ := vc
      refine xi_zast (by decide +kernel : decode mX5_clearButDie.2.1 48 = .ok (.bastore, 1)) (xRul_s8 hr) (by omega) s1 (?_ : XW _ _ _ _ _ _ (xSI (20) (va_up (xI h (20)) x1.toNatClampNeg (vp_nar .boolean 0)) h) 49 _ _)
      refine xi_iinc (v := x1 + 1) (ls' := [some (.ref 12), some (.int (x1 + 1))]) (by decide +kernel : decode mX5_clearButDie.2.1 49 = .ok (.iinc 1 1, 3)) rfl rfl (by decide) rfl (?_ : XW _ _ _ _ _ _ _ 52 _ _)
      refine xi_goto (by decide +kernel : decode mX5_clearButDie.2.1 52 = .ok (.goto (-19), 3)) (by decide) (?_ : XW _ _ _ _ _ _ _ 33 _ _)
      exact vc

set_option maxRecDepth 20000 in
theorem v_X5_clearn_0 {h : XH} {Q : Option Value → XH → Prop} {X : String → XH → Prop} (n r : Nat) (hr : xRul r (xP h)) (hnr : r + 9 ≤ n) 
    (vc : ∃ Q1, XSpec mX5_clearButDie 3 0 0 n n [.ref r] h Q1 xno ∧ ∀ v h1, Q1 v h1 → v = none ∧ (XW (xrm 4 0 0) mX5_clear (xE n Q X 0 0) n 0 0 h1 6 [some (.ref r), some (.int 1)] [])) :
    XW (xrm 4 0 0) mX5_clear (xE n Q X 0 0) n 0 0 h 0 [some (.ref r), none] [] := by
  rcases hr.1 with rfl | rfl
  · refine xi_aload_n (by decide +kernel : decode mX5_clear.2.1 0 = .ok (.aload_n 0, 1)) rfl rfl (?_ : XW _ _ _ _ _ _ _ 1 _ _)
    obtain ⟨Q1, sp, vc⟩ := vc
    refine xi_callV (b := 0) (bs := 0) (As := []) (st := []) (by decide +kernel : decode mX5_clear.2.1 1 = .ok (.invokevirtual 35, 3)) kX5_35 rfl (xRul_s0 hr) (by omega) rfl sp (by decide) (by decide) (Nat.le_of_ble_eq_true rfl) (by omega) (fun v9 h1 hq9 => ?_)
    obtain ⟨e9, vc⟩ := vc v9 h1 hq9
    subst e9
    show XW _ _ _ _ _ _ _ 4 _ []
    refine xi_iconst (v := 1) (by decide +kernel : decode mX5_clear.2.1 4 = .ok (.iconst 1, 1)) (by decide) (?_ : XW _ _ _ _ _ _ _ 5 _ _)
    refine xi_istore_n (ls' := [some (.ref 2), some (.int 1)]) (by decide +kernel : decode mX5_clear.2.1 5 = .ok (.istore_n 1, 1)) rfl (by decide) rfl (?_ : XW _ _ _ _ _ _ _ 6 _ _)
    exact vc
  · refine xi_aload_n (by decide +kernel : decode mX5_clear.2.1 0 = .ok (.aload_n 0, 1)) rfl rfl (?_ : XW _ _ _ _ _ _ _ 1 _ _)
    obtain ⟨Q1, sp, vc⟩ := vc
    refine xi_callV (b := 0) (bs := 0) (As := []) (st := []) (by decide +kernel : decode mX5_clear.2.1 1 = .ok (.invokevirtual 35, 3)) kX5_35 rfl (xRul_s0 hr) (by omega) rfl sp (by decide) (by decide) (Nat.le_of_ble_eq_true rfl) (by omega) (fun v9 h1 hq9 => ?_)
    obtain ⟨e9, vc⟩ := vc v9 h1 hq9
    subst e9
    show XW _ _ _ _ _ _ _ 4 _ []
    refine xi_iconst (v := 1) (by decide +kernel : decode mX5_clear.2.1 4 = .ok (.iconst 1, 1)) (by decide) (?_ : XW _ _ _ _ _ _ _ 5 _ _)
    refine xi_istore_n (ls' := [some (.ref 12), some (.int 1)]) (by decide +kernel : decode mX5_clear.2.1 5 = .ok (.istore_n 1, 1)) rfl (by decide) rfl (?_ : XW _ _ _ _ _ _ _ 6 _ _)
    exact vc

set_option maxRecDepth 20000 in
theorem v_X5_clearn_6 {h : XH} {Q : Option Value → XH → Prop} {X : String → XH → Prop} (n r : Nat) (hr : xRul r (xP h)) (hnr : r + 9 ≤ n)  (x1 : Int32)
    (vc : (6 < x1 → ∃ Q1, XSpec mX5_sumOdds 2 0 0 n n [.ref r] h Q1 xno ∧ ∀ v h2, Q1 v h2 → v = none ∧ (Q none h2)) ∧ (¬ 6 < x1 → ∃ Q1, XSpec mX5_putOdds 1 0 0 n n [.ref r, .int x1, .int 1] h Q1 xno ∧ ∀ v h3, Q1 v h3 → v = none ∧ (XW (xrm 4 0 0) mX5_clear (xE n Q X 0 0) n 0 0 h3 6 [some (.ref r), some (.int (x1 + 1))] []))) :
    XW (xrm 4 0 0) mX5_clear (xE n Q X 0 0) n 0 0 h 6 [some (.ref r), some (.int x1)] [] := by
  rcases hr.1 with rfl | rfl
  · refine xi_iload_n (by decide +kernel : decode mX5_clear.2.1 6 = .ok (.iload_n 1, 1)) rfl rfl (?_ : XW _ _ _ _ _ _ _ 7 _ _)
    refine xi_bipush (v := 6) (by decide +kernel : decode mX5_clear.2.1 7 = .ok (.bipush 6, 2)) (by decide) (?_ : XW _ _ _ _ _ _ _ 9 _ _)
    refine xi_icmp_gt (by decide +kernel : decode mX5_clear.2.1 9 = .ok (.if_icmp .gt 15, 3)) (by decide) (fun c => (?_ : XW _ _ _ _ _ _ _ 24 _ _)) (fun c => (?_ : XW _ _ _ _ _ _ _ 12 _ _))
    · replace vc := vc.1 c
      refine xi_aload_n (by decide +kernel : decode mX5_clear.2.1 24 = .ok (.aload_n 0, 1)) rfl rfl (?_ : XW _ _ _ _ _ _ _ 25 _ _)
      obtain ⟨Q1, sp, vc⟩ := vc
      refine xi_callV (b := 0) (bs := 0) (As := []) (st := []) (by decide +kernel : decode mX5_clear.2.1 25 = .ok (.invokevirtual 42, 3)) kX5_42 rfl (xRul_s0 hr) (by omega) rfl sp (by decide) (by decide) (Nat.le_of_ble_eq_true rfl) (by omega) (fun v9 h2 hq9 => ?_)
      obtain ⟨e9, vc⟩ := vc v9 h2 hq9
      subst e9
      show XW _ _ _ _ _ _ _ 28 _ []
      exact xi_vret (by decide +kernel : decode mX5_clear.2.1 28 = .ok (.return_, 1)) rfl vc
    · replace vc := vc.2 c
      refine xi_aload_n (by decide +kernel : decode mX5_clear.2.1 12 = .ok (.aload_n 0, 1)) rfl rfl (?_ : XW _ _ _ _ _ _ _ 13 _ _)
      refine xi_iload_n (by decide +kernel : decode mX5_clear.2.1 13 = .ok (.iload_n 1, 1)) rfl rfl (?_ : XW _ _ _ _ _ _ _ 14 _ _)
      refine xi_iconst (v := 1) (by decide +kernel : decode mX5_clear.2.1 14 = .ok (.iconst 1, 1)) (by decide) (?_ : XW _ _ _ _ _ _ _ 15 _ _)
      obtain ⟨Q1, sp, vc⟩ := vc
      refine xi_callV (b := 0) (bs := 0) (As := [.int x1, .int 1]) (st := []) (by decide +kernel : decode mX5_clear.2.1 15 = .ok (.invokevirtual 38, 3)) kX5_38 rfl (xRul_s0 hr) (by omega) rfl sp (by decide) (by decide) (Nat.le_of_ble_eq_true rfl) (by omega) (fun v9 h3 hq9 => ?_)
      obtain ⟨e9, vc⟩ := vc v9 h3 hq9
      subst e9
      show XW _ _ _ _ _ _ _ 18 _ []
      refine xi_iinc (v := x1 + 1) (ls' := [some (.ref 2), some (.int (x1 + 1))]) (by decide +kernel : decode mX5_clear.2.1 18 = .ok (.iinc 1 1, 3)) rfl rfl (by decide) rfl (?_ : XW _ _ _ _ _ _ _ 21 _ _)
      refine xi_goto (by decide +kernel : decode mX5_clear.2.1 21 = .ok (.goto (-15), 3)) (by decide) (?_ : XW _ _ _ _ _ _ _ 6 _ _)
      exact vc
  · refine xi_iload_n (by decide +kernel : decode mX5_clear.2.1 6 = .ok (.iload_n 1, 1)) rfl rfl (?_ : XW _ _ _ _ _ _ _ 7 _ _)
    refine xi_bipush (v := 6) (by decide +kernel : decode mX5_clear.2.1 7 = .ok (.bipush 6, 2)) (by decide) (?_ : XW _ _ _ _ _ _ _ 9 _ _)
    refine xi_icmp_gt (by decide +kernel : decode mX5_clear.2.1 9 = .ok (.if_icmp .gt 15, 3)) (by decide) (fun c => (?_ : XW _ _ _ _ _ _ _ 24 _ _)) (fun c => (?_ : XW _ _ _ _ _ _ _ 12 _ _))
    · replace vc := vc.1 c
      refine xi_aload_n (by decide +kernel : decode mX5_clear.2.1 24 = .ok (.aload_n 0, 1)) rfl rfl (?_ : XW _ _ _ _ _ _ _ 25 _ _)
      obtain ⟨Q1, sp, vc⟩ := vc
      refine xi_callV (b := 0) (bs := 0) (As := []) (st := []) (by decide +kernel : decode mX5_clear.2.1 25 = .ok (.invokevirtual 42, 3)) kX5_42 rfl (xRul_s0 hr) (by omega) rfl sp (by decide) (by decide) (Nat.le_of_ble_eq_true rfl) (by omega) (fun v9 h2 hq9 => ?_)
      obtain ⟨e9, vc⟩ := vc v9 h2 hq9
      subst e9
      show XW _ _ _ _ _ _ _ 28 _ []
      exact xi_vret (by decide +kernel : decode mX5_clear.2.1 28 = .ok (.return_, 1)) rfl vc
    · replace vc := vc.2 c
      refine xi_aload_n (by decide +kernel : decode mX5_clear.2.1 12 = .ok (.aload_n 0, 1)) rfl rfl (?_ : XW _ _ _ _ _ _ _ 13 _ _)
      refine xi_iload_n (by decide +kernel : decode mX5_clear.2.1 13 = .ok (.iload_n 1, 1)) rfl rfl (?_ : XW _ _ _ _ _ _ _ 14 _ _)
      refine xi_iconst (v := 1) (by decide +kernel : decode mX5_clear.2.1 14 = .ok (.iconst 1, 1)) (by decide) (?_ : XW _ _ _ _ _ _ _ 15 _ _)
      obtain ⟨Q1, sp, vc⟩ := vc
      refine xi_callV (b := 0) (bs := 0) (As := [.int x1, .int 1]) (st := []) (by decide +kernel : decode mX5_clear.2.1 15 = .ok (.invokevirtual 38, 3)) kX5_38 rfl (xRul_s0 hr) (by omega) rfl sp (by decide) (by decide) (Nat.le_of_ble_eq_true rfl) (by omega) (fun v9 h3 hq9 => ?_)
      obtain ⟨e9, vc⟩ := vc v9 h3 hq9
      subst e9
      show XW _ _ _ _ _ _ _ 18 _ []
      refine xi_iinc (v := x1 + 1) (ls' := [some (.ref 12), some (.int (x1 + 1))]) (by decide +kernel : decode mX5_clear.2.1 18 = .ok (.iinc 1 1, 3)) rfl rfl (by decide) rfl (?_ : XW _ _ _ _ _ _ _ 21 _ _)
      refine xi_goto (by decide +kernel : decode mX5_clear.2.1 21 = .ok (.goto (-15), 3)) (by decide) (?_ : XW _ _ _ _ _ _ _ 6 _ _)
      exact vc

set_option maxRecDepth 20000 in
theorem v_X5_sumOddsn_0 {h : XH} {Q : Option Value → XH → Prop} {X : String → XH → Prop} (n r : Nat) (hr : xRul r (xP h)) (hnr : r + 9 ≤ n) 
    (vc : XW (xrm 2 0 0) mX5_sumOdds (xE n Q X 0 0) n 0 0 (xSI r (va_up (va_up (xI h r) 1 0) 2 0) (xSI r (va_up (xI h r) 1 0) h)) 13 [some (.ref r), some (.int 6)] []) :
    XW (xrm 2 0 0) mX5_sumOdds (xE n Q X 0 0) n 0 0 h 0 [some (.ref r), none] [] := by
  rcases hr.1 with rfl | rfl
  · refine xi_aload_n (by decide +kernel : decode mX5_sumOdds.2.1 0 = .ok (.aload_n 0, 1)) rfl rfl (?_ : XW _ _ _ _ _ _ _ 1 _ _)
    refine xi_iconst (v := 0) (by decide +kernel : decode mX5_sumOdds.2.1 1 = .ok (.iconst 0, 1)) (by decide) (?_ : XW _ _ _ _ _ _ _ 2 _ _)
    refine xi_putI (by decide +kernel : decode mX5_sumOdds.2.1 2 = .ok (.putfield 66, 3)) fX5_66 (xRul_s0 hr) (by omega) rfl rfl rfl (?_ : XW _ _ _ _ _ _ (xSI 2 (va_up (xI h 2) 1 0) h) 5 _ _)
    refine xi_aload_n (by decide +kernel : decode mX5_sumOdds.2.1 5 = .ok (.aload_n 0, 1)) rfl rfl (?_ : XW _ _ _ _ _ _ _ 6 _ _)
    refine xi_iconst (v := 0) (by decide +kernel : decode mX5_sumOdds.2.1 6 = .ok (.iconst 0, 1)) (by decide) (?_ : XW _ _ _ _ _ _ _ 7 _ _)
    refine xi_putI (by decide +kernel : decode mX5_sumOdds.2.1 7 = .ok (.putfield 69, 3)) fX5_69 (xRul_s0 hr) (by omega) rfl rfl rfl (?_ : XW _ _ _ _ _ _ (xSI 2 (va_up (va_up (xI h 2) 1 0) 2 0) (xSI 2 (va_up (xI h 2) 1 0) h)) 10 _ _)
    refine xi_bipush (v := 6) (by decide +kernel : decode mX5_sumOdds.2.1 10 = .ok (.bipush 6, 2)) (by decide) (?_ : XW _ _ _ _ _ _ _ 12 _ _)
    refine xi_istore_n (ls' := [some (.ref 2), some (.int 6)]) (by decide +kernel : decode mX5_sumOdds.2.1 12 = .ok (.istore_n 1, 1)) rfl (by decide) rfl (?_ : XW _ _ _ _ _ _ _ 13 _ _)
    exact vc
  · refine xi_aload_n (by decide +kernel : decode mX5_sumOdds.2.1 0 = .ok (.aload_n 0, 1)) rfl rfl (?_ : XW _ _ _ _ _ _ _ 1 _ _)
    refine xi_iconst (v := 0) (by decide +kernel : decode mX5_sumOdds.2.1 1 = .ok (.iconst 0, 1)) (by decide) (?_ : XW _ _ _ _ _ _ _ 2 _ _)
    refine xi_putI (by decide +kernel : decode mX5_sumOdds.2.1 2 = .ok (.putfield 66, 3)) fX5_66 (xRul_s0 hr) (by omega) rfl rfl rfl (?_ : XW _ _ _ _ _ _ (xSI 12 (va_up (xI h 12) 1 0) h) 5 _ _)
    refine xi_aload_n (by decide +kernel : decode mX5_sumOdds.2.1 5 = .ok (.aload_n 0, 1)) rfl rfl (?_ : XW _ _ _ _ _ _ _ 6 _ _)
    refine xi_iconst (v := 0) (by decide +kernel : decode mX5_sumOdds.2.1 6 = .ok (.iconst 0, 1)) (by decide) (?_ : XW _ _ _ _ _ _ _ 7 _ _)
    refine xi_putI (by decide +kernel : decode mX5_sumOdds.2.1 7 = .ok (.putfield 69, 3)) fX5_69 (xRul_s0 hr) (by omega) rfl rfl rfl (?_ : XW _ _ _ _ _ _ (xSI 12 (va_up (va_up (xI h 12) 1 0) 2 0) (xSI 12 (va_up (xI h 12) 1 0) h)) 10 _ _)
    refine xi_bipush (v := 6) (by decide +kernel : decode mX5_sumOdds.2.1 10 = .ok (.bipush 6, 2)) (by decide) (?_ : XW _ _ _ _ _ _ _ 12 _ _)
    refine xi_istore_n (ls' := [some (.ref 12), some (.int 6)]) (by decide +kernel : decode mX5_sumOdds.2.1 12 = .ok (.istore_n 1, 1)) rfl (by decide) rfl (?_ : XW _ _ _ _ _ _ _ 13 _ _)
    exact vc

set_option maxRecDepth 20000 in
theorem v_X5_sumOddsn_13 {h : XH} {Q : Option Value → XH → Prop} {X : String → XH → Prop} (n r : Nat) (hr : xRul r (xP h)) (hnr : r + 9 ≤ n)  (x1 : Int32)
    (vc : (x1 < 1 → Q none h) ∧ (¬ x1 < 1 → ∃ Q1, XSpec mX5_oddsOf 1 0 0 n n [.ref r, .int x1] h Q1 xno ∧ ∀ v h1, Q1 v h1 → ∃ r1 : Int32, v = some (.int r1) ∧ (∃ Q1, XSpec mX5_oddsOf 1 0 0 n n [.ref r, .int x1] (xSI r (va_up (xI h1 r) 1 ((xI h r 1) + r1)) h1) Q1 xno ∧ ∀ v h2, Q1 v h2 → ∃ r2 : Int32, v = some (.int r2) ∧ ((r2 ≤ 0 → XW (xrm 2 0 0) mX5_sumOdds (xE n Q X 0 0) n 0 0 h2 13 [some (.ref r), some (.int (x1 + (-1)))] []) ∧ (¬ r2 ≤ 0 → XW (xrm 2 0 0) mX5_sumOdds (xE n Q X 0 0) n 0 0 (xSI r (va_up (xI h2 r) 2 x1) h2) 13 [some (.ref r), some (.int (x1 + (-1)))] []))))) :
    XW (xrm 2 0 0) mX5_sumOdds (xE n Q X 0 0) n 0 0 h 13 [some (.ref r), some (.int x1)] [] := by
  rcases hr.1 with rfl | rfl
  · refine xi_iload_n (by decide +kernel : decode mX5_sumOdds.2.1 13 = .ok (.iload_n 1, 1)) rfl rfl (?_ : XW _ _ _ _ _ _ _ 14 _ _)
    refine xi_iconst (v := 1) (by decide +kernel : decode mX5_sumOdds.2.1 14 = .ok (.iconst 1, 1)) (by decide) (?_ : XW _ _ _ _ _ _ _ 15 _ _)
    refine xi_icmp_lt (by decide +kernel : decode mX5_sumOdds.2.1 15 = .ok (.if_icmp .lt 36, 3)) (by decide) (fun c => (?_ : XW _ _ _ _ _ _ _ 51 _ _)) (fun c => (?_ : XW _ _ _ _ _ _ _ 18 _ _))
    · replace vc := vc.1 c
      exact xi_vret (by decide +kernel : decode mX5_sumOdds.2.1 51 = .ok (.return_, 1)) rfl vc
    · replace vc := vc.2 c
      refine xi_aload_n (by decide +kernel : decode mX5_sumOdds.2.1 18 = .ok (.aload_n 0, 1)) rfl rfl (?_ : XW _ _ _ _ _ _ _ 19 _ _)
      refine xi_dup (by decide +kernel : decode mX5_sumOdds.2.1 19 = .ok (.dup, 1)) rfl (?_ : XW _ _ _ _ _ _ _ 20 _ _)
      refine xi_getI (by decide +kernel : decode mX5_sumOdds.2.1 20 = .ok (.getfield 66, 3)) fX5_66 (xRul_s0 hr) (by omega) rfl (?_ : XW _ _ _ _ _ _ _ 23 _ _)
      refine xi_aload_n (by decide +kernel : decode mX5_sumOdds.2.1 23 = .ok (.aload_n 0, 1)) rfl rfl (?_ : XW _ _ _ _ _ _ _ 24 _ _)
      refine xi_iload_n (by decide +kernel : decode mX5_sumOdds.2.1 24 = .ok (.iload_n 1, 1)) rfl rfl (?_ : XW _ _ _ _ _ _ _ 25 _ _)
      obtain ⟨Q1, sp, vc⟩ := vc
      refine xi_callV (b := 0) (bs := 0) (As := [.int x1]) (st := [.int (xI h 2 1), .ref 2]) (by decide +kernel : decode mX5_sumOdds.2.1 25 = .ok (.invokevirtual 72, 3)) kX5_72 rfl (xRul_s0 hr) (by omega) rfl sp (by decide) (by decide) (Nat.le_of_ble_eq_true rfl) (by omega) (fun v9 h1 hq9 => ?_)
      obtain ⟨r1, e9, vc⟩ := vc v9 h1 hq9
      subst e9
      show XW _ _ _ _ _ _ _ 28 _ [.int r1, .int (xI h 2 1), .ref 2]
      refine xi_iadd (by decide +kernel : decode mX5_sumOdds.2.1 28 = .ok (.iadd, 1)) (?_ : XW _ _ _ _ _ _ _ 29 _ _)
      refine xi_putI (by decide +kernel : decode mX5_sumOdds.2.1 29 = .ok (.putfield 66, 3)) fX5_66 (xRul_s0 hr) (by omega) rfl rfl rfl (?_ : XW _ _ _ _ _ _ (xSI 2 (va_up (xI h1 2) 1 ((xI h 2 1) + r1)) h1) 32 _ _)
      refine xi_aload_n (by decide +kernel : decode mX5_sumOdds.2.1 32 = .ok (.aload_n 0, 1)) rfl rfl (?_ : XW _ _ _ _ _ _ _ 33 _ _)
      refine xi_iload_n (by decide +kernel : decode mX5_sumOdds.2.1 33 = .ok (.iload_n 1, 1)) rfl rfl (?_ : XW _ _ _ _ _ _ _ 34 _ _)
      obtain ⟨Q1, sp, vc⟩ := vc
      refine xi_callV (b := 0) (bs := 0) (As := [.int x1]) (st := []) (by decide +kernel : decode mX5_sumOdds.2.1 34 = .ok (.invokevirtual 72, 3)) kX5_72 rfl (xRul_s0 hr) (by omega) rfl sp (by decide) (by decide) (Nat.le_of_ble_eq_true rfl) (by omega) (fun v9 h2 hq9 => ?_)
      obtain ⟨r2, e9, vc⟩ := vc v9 h2 hq9
      subst e9
      show XW _ _ _ _ _ _ _ 37 _ [.int r2]
      refine xi_if_le (by decide +kernel : decode mX5_sumOdds.2.1 37 = .ok (.ifCond .le 8, 3)) (by decide) (fun c => (?_ : XW _ _ _ _ _ _ _ 45 _ _)) (fun c => (?_ : XW _ _ _ _ _ _ _ 40 _ _))
      · replace vc := vc.1 c
        refine xi_iinc (v := x1 + (-1)) (ls' := [some (.ref 2), some (.int (x1 + (-1)))]) (by decide +kernel : decode mX5_sumOdds.2.1 45 = .ok (.iinc 1 (-1), 3)) rfl rfl (by decide) rfl (?_ : XW _ _ _ _ _ _ _ 48 _ _)
        refine xi_goto (by decide +kernel : decode mX5_sumOdds.2.1 48 = .ok (.goto (-35), 3)) (by decide) (?_ : XW _ _ _ _ _ _ _ 13 _ _)
        exact vc
      · replace vc := vc.2 c
        refine xi_aload_n (by decide +kernel : decode mX5_sumOdds.2.1 40 = .ok (.aload_n 0, 1)) rfl rfl (?_ : XW _ _ _ _ _ _ _ 41 _ _)
        refine xi_iload_n (by decide +kernel : decode mX5_sumOdds.2.1 41 = .ok (.iload_n 1, 1)) rfl rfl (?_ : XW _ _ _ _ _ _ _ 42 _ _)
        refine xi_putI (by decide +kernel : decode mX5_sumOdds.2.1 42 = .ok (.putfield 69, 3)) fX5_69 (xRul_s0 hr) (by omega) rfl rfl rfl (?_ : XW _ _ _ _ _ _ (xSI 2 (va_up (xI h2 2) 2 x1) h2) 45 _ _)
        refine xi_iinc (v := x1 + (-1)) (ls' := [some (.ref 2), some (.int (x1 + (-1)))]) (by decide +kernel : decode mX5_sumOdds.2.1 45 = .ok (.iinc 1 (-1), 3)) rfl rfl (by decide) rfl (?_ : XW _ _ _ _ _ _ _ 48 _ _)
        refine xi_goto (by decide +kernel : decode mX5_sumOdds.2.1 48 = .ok (.goto (-35), 3)) (by decide) (?_ : XW _ _ _ _ _ _ _ 13 _ _)
        exact vc
  · refine xi_iload_n (by decide +kernel : decode mX5_sumOdds.2.1 13 = .ok (.iload_n 1, 1)) rfl rfl (?_ : XW _ _ _ _ _ _ _ 14 _ _)
    refine xi_iconst (v := 1) (by decide +kernel : decode mX5_sumOdds.2.1 14 = .ok (.iconst 1, 1)) (by decide) (?_ : XW _ _ _ _ _ _ _ 15 _ _)
    refine xi_icmp_lt (by decide +kernel : decode mX5_sumOdds.2.1 15 = .ok (.if_icmp .lt 36, 3)) (by decide) (fun c => (?_ : XW _ _ _ _ _ _ _ 51 _ _)) (fun c => (?_ : XW _ _ _ _ _ _ _ 18 _ _))
    · replace vc := vc.1 c
      exact xi_vret (by decide +kernel : decode mX5_sumOdds.2.1 51 = .ok (.return_, 1)) rfl vc
    · replace vc := vc.2 c
      refine xi_aload_n (by decide +kernel : decode mX5_sumOdds.2.1 18 = .ok (.aload_n 0, 1)) rfl rfl (?_ : XW _ _ _ _ _ _ _ 19 _ _)
      refine xi_dup (by decide +kernel : decode mX5_sumOdds.2.1 19 = .ok (.dup, 1)) rfl (?_ : XW _ _ _ _ _ _ _ 20 _ _)
      refine xi_getI (by decide +kernel : decode mX5_sumOdds.2.1 20 = .ok (.getfield 66, 3)) fX5_66 (xRul_s0 hr) (by omega) rfl (?_ : XW _ _ _ _ _ _ _ 23 _ _)
      refine xi_aload_n (by decide +kernel : decode mX5_sumOdds.2.1 23 = .ok (.aload_n 0, 1)) rfl rfl (?_ : XW _ _ _ _ _ _ _ 24 _ _)
      refine xi_iload_n (by decide +kernel : decode mX5_sumOdds.2.1 24 = .ok (.iload_n 1, 1)) rfl rfl (?_ : XW _ _ _ _ _ _ _ 25 _ _)
      obtain ⟨Q1, sp, vc⟩ := vc
      refine xi_callV (b := 0) (bs := 0) (As := [.int x1]) (st := [.int (xI h 12 1), .ref 12]) (by decide +kernel : decode mX5_sumOdds.2.1 25 = .ok (.invokevirtual 72, 3)) kX5_72 rfl (xRul_s0 hr) (by omega) rfl sp (by decide) (by decide) (Nat.le_of_ble_eq_true rfl) (by omega) (fun v9 h1 hq9 => ?_)
      obtain ⟨r1, e9, vc⟩ := vc v9 h1 hq9
      subst e9
      show XW _ _ _ _ _ _ _ 28 _ [.int r1, .int (xI h 12 1), .ref 12]
      refine xi_iadd (by decide +kernel : decode mX5_sumOdds.2.1 28 = .ok (.iadd, 1)) (?_ : XW _ _ _ _ _ _ _ 29 _ _)
      refine xi_putI (by decide +kernel : decode mX5_sumOdds.2.1 29 = .ok (.putfield 66, 3)) fX5_66 (xRul_s0 hr) (by omega) rfl rfl rfl (?_ : XW _ _ _ _ _ _ (xSI 12 (va_up (xI h1 12) 1 ((xI h 12 1) + r1)) h1) 32 _ _)
      refine xi_aload_n (by decide +kernel : decode mX5_sumOdds.2.1 32 = .ok (.aload_n 0, 1)) rfl rfl (?_ : XW _ _ _ _ _ _ _ 33 _ _)
      refine xi_iload_n (by decide +kernel : decode mX5_sumOdds.2.1 33 = .ok (.iload_n 1, 1)) rfl rfl (?_ : XW _ _ _ _ _ _ _ 34 _ _)
      obtain ⟨Q1, sp, vc⟩ := vc
      refine xi_callV (b := 0) (bs := 0) (As := [.int x1]) (st := []) (by decide +kernel : decode mX5_sumOdds.2.1 34 = .ok (.invokevirtual 72, 3)) kX5_72 rfl (xRul_s0 hr) (by omega) rfl sp (by decide) (by decide) (Nat.le_of_ble_eq_true rfl) (by omega) (fun v9 h2 hq9 => ?_)
      obtain ⟨r2, e9, vc⟩ := vc v9 h2 hq9
      subst e9
      show XW _ _ _ _ _ _ _ 37 _ [.int r2]
      refine xi_if_le (by decide +kernel : decode mX5_sumOdds.2.1 37 = .ok (.ifCond .le 8, 3)) (by decide) (fun c => (?_ : XW _ _ _ _ _ _ _ 45 _ _)) (fun c => (?_ : XW _ _ _ _ _ _ _ 40 _ _))
      · replace vc := vc.1 c
        refine xi_iinc (v := x1 + (-1)) (ls' := [some (.ref 12), some (.int (x1 + (-1)))]) (by decide +kernel : decode mX5_sumOdds.2.1 45 = .ok (.iinc 1 (-1), 3)) rfl rfl (by decide) rfl (?_ : XW _ _ _ _ _ _ _ 48 _ _)
        refine xi_goto (by decide +kernel : decode mX5_sumOdds.2.1 48 = .ok (.goto (-35), 3)) (by decide) (?_ : XW _ _ _ _ _ _ _ 13 _ _)
        exact vc
      · replace vc := vc.2 c
        refine xi_aload_n (by decide +kernel : decode mX5_sumOdds.2.1 40 = .ok (.aload_n 0, 1)) rfl rfl (?_ : XW _ _ _ _ _ _ _ 41 _ _)
        refine xi_iload_n (by decide +kernel : decode mX5_sumOdds.2.1 41 = .ok (.iload_n 1, 1)) rfl rfl (?_ : XW _ _ _ _ _ _ _ 42 _ _)
        refine xi_putI (by decide +kernel : decode mX5_sumOdds.2.1 42 = .ok (.putfield 69, 3)) fX5_69 (xRul_s0 hr) (by omega) rfl rfl rfl (?_ : XW _ _ _ _ _ _ (xSI 12 (va_up (xI h2 12) 2 x1) h2) 45 _ _)
        refine xi_iinc (v := x1 + (-1)) (ls' := [some (.ref 12), some (.int (x1 + (-1)))]) (by decide +kernel : decode mX5_sumOdds.2.1 45 = .ok (.iinc 1 (-1), 3)) rfl rfl (by decide) rfl (?_ : XW _ _ _ _ _ _ _ 48 _ _)
        refine xi_goto (by decide +kernel : decode mX5_sumOdds.2.1 48 = .ok (.goto (-35), 3)) (by decide) (?_ : XW _ _ _ _ _ _ _ 13 _ _)
        exact vc

set_option maxRecDepth 20000 in
theorem v_X7_beginn_0 {h : XH} {Q : Option Value → XH → Prop} {X : String → XH → Prop} (n : Nat) (hn56 : 56 ≤ n) (r : Nat) (hbp : BP r h)  (m : Int32)
    (vc : Q none (xSI 29 (va_up (va_up (va_up (va_up (xI h 29) 3 (if 0 < (if 4 < m then 4 else m) then (if 4 < m then 4 else m) else 0)) 0 0) 1 0) 2 0) (xSI 29 (va_up (va_up (va_up (xI h 29) 3 (if 0 < (if 4 < m then 4 else m) then (if 4 < m then 4 else m) else 0)) 0 0) 1 0) (xSI 29 (va_up (va_up (xI h 29) 3 (if 0 < (if 4 < m then 4 else m) then (if 4 < m then 4 else m) else 0)) 0 0) (xSI 30 (fl 4 0 (xI h 30)) (xSI 29 (va_up (xI h 29) 3 (if 0 < (if 4 < m then 4 else m) then (if 4 < m then 4 else m) else 0)) h)))))) :
    XW (xrm 2 0 0) mX7_begin (xE n Q X 0 0) n 0 0 h 0 [some (.ref 29), some (.int m)] [] := by
  obtain ⟨hb, hr, hnr, ha21, ha25, hu29, hu34, hw, hnt, hwr⟩ := hbp; have hr2 := hr.1
  refine xi_aload_n (by decide +kernel : decode mX7_begin.2.1 0 = .ok (.aload_n 0, 1)) rfl rfl (?_ : XW _ _ _ _ _ _ _ 1 _ _)
  refine xi_iconst (v := 0) (by decide +kernel : decode mX7_begin.2.1 1 = .ok (.iconst 0, 1)) (by decide) (?_ : XW _ _ _ _ _ _ _ 2 _ _)
  refine xi_iload_n (by decide +kernel : decode mX7_begin.2.1 2 = .ok (.iload_n 1, 1)) rfl rfl (?_ : XW _ _ _ _ _ _ _ 3 _ _)
  refine xi_iconst (v := 4) (by decide +kernel : decode mX7_begin.2.1 3 = .ok (.iconst 4, 1)) (by decide) (?_ : XW _ _ _ _ _ _ _ 4 _ _)
  refine xi_mmin (by decide +kernel : decode mX7_begin.2.1 4 = .ok (.invokestatic 24, 3)) kX7_24.2.1 (by decide) (Nat.le_of_ble_eq_true rfl) (?_ : XW _ _ _ _ _ _ _ 7 _ _)
  refine xi_mmax (by decide +kernel : decode mX7_begin.2.1 7 = .ok (.invokestatic 30, 3)) kX7_30.2.1 (by decide) (Nat.le_of_ble_eq_true rfl) (?_ : XW _ _ _ _ _ _ _ 10 _ _)
  refine xi_putI (by decide +kernel : decode mX7_begin.2.1 10 = .ok (.putfield 33, 3)) fX7_33 rfl (by omega) rfl rfl rfl (?_ : XW _ _ _ _ _ _ (xSI 29 (va_up (xI h 29) 3 (if 0 < (if 4 < m then 4 else m) then (if 4 < m then 4 else m) else 0)) h) 13 _ _)
  refine xi_aload_n (by decide +kernel : decode mX7_begin.2.1 13 = .ok (.aload_n 0, 1)) rfl rfl (?_ : XW _ _ _ _ _ _ _ 14 _ _)
  refine xi_getR (y := 30) (by decide +kernel : decode mX7_begin.2.1 14 = .ok (.getfield 9, 3)) fX7_9 rfl (by omega) rfl hu29.2.1 (?_ : XW _ _ _ _ _ _ _ 17 _ _)
  refine xi_iconst (v := 0) (by decide +kernel : decode mX7_begin.2.1 17 = .ok (.iconst 0, 1)) (by decide) (?_ : XW _ _ _ _ _ _ _ 18 _ _)
  refine xi_callS (b := 0) (bs := 0) (As := [.ref 30, .int 0]) (st := []) (by decide +kernel : decode mX7_begin.2.1 18 = .ok (.invokestatic 37, 3)) kX7_37 rfl rfl (s_fillI n (xSI 29 (va_up (xI h 29) 3 (if 0 < (if 4 < m then 4 else m) then (if 4 < m then 4 else m) else 0)) h) 30 4 rfl (by omega) (by decide) 0) (by decide) (by decide) (Nat.le_of_ble_eq_true rfl) (by omega) (fun v9 h9 hq9 => ?_)
  rw [hq9.1, hq9.2]
  show XW _ _ _ _ _ _ _ 21 _ []
  refine xi_aload_n (by decide +kernel : decode mX7_begin.2.1 21 = .ok (.aload_n 0, 1)) rfl rfl (?_ : XW _ _ _ _ _ _ _ 22 _ _)
  refine xi_iconst (v := 0) (by decide +kernel : decode mX7_begin.2.1 22 = .ok (.iconst 0, 1)) (by decide) (?_ : XW _ _ _ _ _ _ _ 23 _ _)
  refine xi_putI (by decide +kernel : decode mX7_begin.2.1 23 = .ok (.putfield 43, 3)) fX7_43 rfl (by omega) rfl rfl rfl (?_ : XW _ _ _ _ _ _ (xSI 29 (va_up (va_up (xI h 29) 3 (if 0 < (if 4 < m then 4 else m) then (if 4 < m then 4 else m) else 0)) 0 0) (xSI 30 (fl 4 0 (xI h 30)) (xSI 29 (va_up (xI h 29) 3 (if 0 < (if 4 < m then 4 else m) then (if 4 < m then 4 else m) else 0)) h))) 26 _ _)
  refine xi_aload_n (by decide +kernel : decode mX7_begin.2.1 26 = .ok (.aload_n 0, 1)) rfl rfl (?_ : XW _ _ _ _ _ _ _ 27 _ _)
  refine xi_iconst (v := 0) (by decide +kernel : decode mX7_begin.2.1 27 = .ok (.iconst 0, 1)) (by decide) (?_ : XW _ _ _ _ _ _ _ 28 _ _)
  refine xi_putI (by decide +kernel : decode mX7_begin.2.1 28 = .ok (.putfield 46, 3)) fX7_46 rfl (by omega) rfl rfl rfl (?_ : XW _ _ _ _ _ _ (xSI 29 (va_up (va_up (va_up (xI h 29) 3 (if 0 < (if 4 < m then 4 else m) then (if 4 < m then 4 else m) else 0)) 0 0) 1 0) (xSI 29 (va_up (va_up (xI h 29) 3 (if 0 < (if 4 < m then 4 else m) then (if 4 < m then 4 else m) else 0)) 0 0) (xSI 30 (fl 4 0 (xI h 30)) (xSI 29 (va_up (xI h 29) 3 (if 0 < (if 4 < m then 4 else m) then (if 4 < m then 4 else m) else 0)) h)))) 31 _ _)
  refine xi_aload_n (by decide +kernel : decode mX7_begin.2.1 31 = .ok (.aload_n 0, 1)) rfl rfl (?_ : XW _ _ _ _ _ _ _ 32 _ _)
  refine xi_iconst (v := 0) (by decide +kernel : decode mX7_begin.2.1 32 = .ok (.iconst 0, 1)) (by decide) (?_ : XW _ _ _ _ _ _ _ 33 _ _)
  refine xi_putI (by decide +kernel : decode mX7_begin.2.1 33 = .ok (.putfield 49, 3)) fX7_49 rfl (by omega) rfl rfl rfl (?_ : XW _ _ _ _ _ _ (xSI 29 (va_up (va_up (va_up (va_up (xI h 29) 3 (if 0 < (if 4 < m then 4 else m) then (if 4 < m then 4 else m) else 0)) 0 0) 1 0) 2 0) (xSI 29 (va_up (va_up (va_up (xI h 29) 3 (if 0 < (if 4 < m then 4 else m) then (if 4 < m then 4 else m) else 0)) 0 0) 1 0) (xSI 29 (va_up (va_up (xI h 29) 3 (if 0 < (if 4 < m then 4 else m) then (if 4 < m then 4 else m) else 0)) 0 0) (xSI 30 (fl 4 0 (xI h 30)) (xSI 29 (va_up (xI h 29) 3 (if 0 < (if 4 < m then 4 else m) then (if 4 < m then 4 else m) else 0)) h))))) 36 _ _)
  exact xi_vret (by decide +kernel : decode mX7_begin.2.1 36 = .ok (.return_, 1)) rfl vc

set_option maxRecDepth 20000 in
theorem v_X10_startAnewn_0 {h : XH} {Q : Option Value → XH → Prop} {X : String → XH → Prop} (n : Nat) (hn56 : 56 ≤ n) (r : Nat) (hbp : BP r h) 
    (vc : ∃ Q1, XSpec mX3_takeFeet 2 0 0 n n [.ref 21, .ref r] h Q1 xno ∧ ∀ v h1, Q1 v h1 → v = none ∧ ((xP h1 0 5 = some 21) ∧ ((xP h1 0 3 = some r) ∧ (∃ Q1, XSpec mX3_measure 5 0 0 n n [.ref 21, .ref r] h1 Q1 xno ∧ ∀ v h2, Q1 v h2 → v = none ∧ ((xP h2 0 5 = some 21) ∧ ((xP h2 0 3 = some r) ∧ ((xP h2 0 3 = some r) ∧ (∃ Q1, XSpec mX3_lay 3 0 0 n n [.ref 21, .ref r, .int (xI h2 r 3)] h2 Q1 xno ∧ ∀ v h3, Q1 v h3 → v = none ∧ ((xP h3 0 7 = some 29) ∧ ((xP h3 0 3 = some r) ∧ (∃ Q1, XSpec mX7_begin 2 0 0 n n [.ref 29, .int (xI h3 r 6)] h3 Q1 xno ∧ ∀ v h4, Q1 v h4 → v = none ∧ ((xP h4 0 10 = some 39) ∧ (Q none (xSI 0 (va_up (xI h4 0) 9 0) (xSI 39 (va_up (xI h4 39) 0 (-1)) h4))))))))))))))) :
    XW (xrm 6 0 0) mX10_startAnew (xE n Q X 0 0) n 0 0 h 0 [some (.ref 0)] [] := by
  obtain ⟨hb, hr, hnr, ha21, ha25, hu29, hu34, hw, hnt, hwr⟩ := hbp; have hr2 := hr.1
  refine xi_aload_n (by decide +kernel : decode mX10_startAnew.2.1 0 = .ok (.aload_n 0, 1)) rfl rfl (?_ : XW _ _ _ _ _ _ _ 1 _ _)
  refine xi_getR (y := 21) (by decide +kernel : decode mX10_startAnew.2.1 1 = .ok (.getfield 39, 3)) fX10_39 rfl (by omega) rfl hb.2.2.2.1 (?_ : XW _ _ _ _ _ _ _ 4 _ _)
  refine xi_aload_n (by decide +kernel : decode mX10_startAnew.2.1 4 = .ok (.aload_n 0, 1)) rfl rfl (?_ : XW _ _ _ _ _ _ _ 5 _ _)
  refine xi_getR (y := r) (by decide +kernel : decode mX10_startAnew.2.1 5 = .ok (.getfield 23, 3)) fX10_23 rfl (by omega) rfl hb.2.1 (?_ : XW _ _ _ _ _ _ _ 8 _ _)
  obtain ⟨Q1, sp, vc⟩ := vc
  refine xi_callV (b := 0) (bs := 0) (As := [.ref r]) (st := []) (by decide +kernel : decode mX10_startAnew.2.1 8 = .ok (.invokevirtual 122, 3)) kX10_122 rfl rfl (by omega) rfl sp (by decide) (by decide) (Nat.le_of_ble_eq_true rfl) (by omega) (fun v9 h1 hq9 => ?_)
  obtain ⟨e9, vc⟩ := vc v9 h1 hq9
  subst e9
  show XW _ _ _ _ _ _ _ 11 _ []
  refine xi_aload_n (by decide +kernel : decode mX10_startAnew.2.1 11 = .ok (.aload_n 0, 1)) rfl rfl (?_ : XW _ _ _ _ _ _ _ 12 _ _)
  obtain ⟨s1, vc⟩ := vc
  refine xi_getR (y := 21) (by decide +kernel : decode mX10_startAnew.2.1 12 = .ok (.getfield 39, 3)) fX10_39 rfl (by omega) rfl s1 (?_ : XW _ _ _ _ _ _ _ 15 _ _)
  refine xi_aload_n (by decide +kernel : decode mX10_startAnew.2.1 15 = .ok (.aload_n 0, 1)) rfl rfl (?_ : XW _ _ _ _ _ _ _ 16 _ _)
  obtain ⟨s1, vc⟩ := vc
  refine xi_getR (y := r) (by decide +kernel : decode mX10_startAnew.2.1 16 = .ok (.getfield 23, 3)) fX10_23 rfl (by omega) rfl s1 (?_ : XW _ _ _ _ _ _ _ 19 _ _)
  obtain ⟨Q1, sp, vc⟩ := vc
  refine xi_callV (b := 0) (bs := 0) (As := [.ref r]) (st := []) (by decide +kernel : decode mX10_startAnew.2.1 19 = .ok (.invokevirtual 126, 3)) kX10_126 rfl rfl (by omega) rfl sp (by decide) (by decide) (Nat.le_of_ble_eq_true rfl) (by omega) (fun v9 h2 hq9 => ?_)
  obtain ⟨e9, vc⟩ := vc v9 h2 hq9
  subst e9
  show XW _ _ _ _ _ _ _ 22 _ []
  refine xi_aload_n (by decide +kernel : decode mX10_startAnew.2.1 22 = .ok (.aload_n 0, 1)) rfl rfl (?_ : XW _ _ _ _ _ _ _ 23 _ _)
  obtain ⟨s1, vc⟩ := vc
  refine xi_getR (y := 21) (by decide +kernel : decode mX10_startAnew.2.1 23 = .ok (.getfield 39, 3)) fX10_39 rfl (by omega) rfl s1 (?_ : XW _ _ _ _ _ _ _ 26 _ _)
  refine xi_aload_n (by decide +kernel : decode mX10_startAnew.2.1 26 = .ok (.aload_n 0, 1)) rfl rfl (?_ : XW _ _ _ _ _ _ _ 27 _ _)
  obtain ⟨s1, vc⟩ := vc
  refine xi_getR (y := r) (by decide +kernel : decode mX10_startAnew.2.1 27 = .ok (.getfield 23, 3)) fX10_23 rfl (by omega) rfl s1 (?_ : XW _ _ _ _ _ _ _ 30 _ _)
  refine xi_aload_n (by decide +kernel : decode mX10_startAnew.2.1 30 = .ok (.aload_n 0, 1)) rfl rfl (?_ : XW _ _ _ _ _ _ _ 31 _ _)
  obtain ⟨s1, vc⟩ := vc
  refine xi_getR (y := r) (by decide +kernel : decode mX10_startAnew.2.1 31 = .ok (.getfield 23, 3)) fX10_23 rfl (by omega) rfl s1 (?_ : XW _ _ _ _ _ _ _ 34 _ _)
  refine xi_getI (by decide +kernel : decode mX10_startAnew.2.1 34 = .ok (.getfield 129, 3)) fX10_129 (xRul_s0 hr) (by omega) rfl (?_ : XW _ _ _ _ _ _ _ 37 _ _)
  obtain ⟨Q1, sp, vc⟩ := vc
  refine xi_callV (b := 0) (bs := 0) (As := [.ref r, .int (xI h2 r 3)]) (st := []) (by decide +kernel : decode mX10_startAnew.2.1 37 = .ok (.invokevirtual 132, 3)) kX10_132 rfl rfl (by omega) rfl sp (by decide) (by decide) (Nat.le_of_ble_eq_true rfl) (by omega) (fun v9 h3 hq9 => ?_)
  obtain ⟨e9, vc⟩ := vc v9 h3 hq9
  subst e9
  show XW _ _ _ _ _ _ _ 40 _ []
  refine xi_aload_n (by decide +kernel : decode mX10_startAnew.2.1 40 = .ok (.aload_n 0, 1)) rfl rfl (?_ : XW _ _ _ _ _ _ _ 41 _ _)
  obtain ⟨s1, vc⟩ := vc
  refine xi_getR (y := 29) (by decide +kernel : decode mX10_startAnew.2.1 41 = .ok (.getfield 49, 3)) fX10_49 rfl (by omega) rfl s1 (?_ : XW _ _ _ _ _ _ _ 44 _ _)
  refine xi_aload_n (by decide +kernel : decode mX10_startAnew.2.1 44 = .ok (.aload_n 0, 1)) rfl rfl (?_ : XW _ _ _ _ _ _ _ 45 _ _)
  obtain ⟨s1, vc⟩ := vc
  refine xi_getR (y := r) (by decide +kernel : decode mX10_startAnew.2.1 45 = .ok (.getfield 23, 3)) fX10_23 rfl (by omega) rfl s1 (?_ : XW _ _ _ _ _ _ _ 48 _ _)
  refine xi_getI (by decide +kernel : decode mX10_startAnew.2.1 48 = .ok (.getfield 136, 3)) fX10_136 (xRul_s0 hr) (by omega) rfl (?_ : XW _ _ _ _ _ _ _ 51 _ _)
  obtain ⟨Q1, sp, vc⟩ := vc
  refine xi_callV (b := 0) (bs := 0) (As := [.int (xI h3 r 6)]) (st := []) (by decide +kernel : decode mX10_startAnew.2.1 51 = .ok (.invokevirtual 139, 3)) kX10_139 rfl rfl (by omega) rfl sp (by decide) (by decide) (Nat.le_of_ble_eq_true rfl) (by omega) (fun v9 h4 hq9 => ?_)
  obtain ⟨e9, vc⟩ := vc v9 h4 hq9
  subst e9
  show XW _ _ _ _ _ _ _ 54 _ []
  refine xi_aload_n (by decide +kernel : decode mX10_startAnew.2.1 54 = .ok (.aload_n 0, 1)) rfl rfl (?_ : XW _ _ _ _ _ _ _ 55 _ _)
  obtain ⟨s1, vc⟩ := vc
  refine xi_getR (y := 39) (by decide +kernel : decode mX10_startAnew.2.1 55 = .ok (.getfield 63, 3)) fX10_63 rfl (by omega) rfl s1 (?_ : XW _ _ _ _ _ _ _ 58 _ _)
  refine xi_iconst (v := (-1)) (by decide +kernel : decode mX10_startAnew.2.1 58 = .ok (.iconst (-1), 1)) (by decide) (?_ : XW _ _ _ _ _ _ _ 59 _ _)
  refine xi_putI (by decide +kernel : decode mX10_startAnew.2.1 59 = .ok (.putfield 142, 3)) fX10_142 rfl (by omega) rfl rfl rfl (?_ : XW _ _ _ _ _ _ (xSI 39 (va_up (xI h4 39) 0 (-1)) h4) 62 _ _)
  refine xi_aload_n (by decide +kernel : decode mX10_startAnew.2.1 62 = .ok (.aload_n 0, 1)) rfl rfl (?_ : XW _ _ _ _ _ _ _ 63 _ _)
  refine xi_iconst (v := 0) (by decide +kernel : decode mX10_startAnew.2.1 63 = .ok (.iconst 0, 1)) (by decide) (?_ : XW _ _ _ _ _ _ _ 64 _ _)
  refine xi_putI (by decide +kernel : decode mX10_startAnew.2.1 64 = .ok (.putfield 56, 3)) fX10_56 rfl (by omega) rfl rfl rfl (?_ : XW _ _ _ _ _ _ (xSI 0 (va_up (xI h4 0) 9 0) (xSI 39 (va_up (xI h4 39) 0 (-1)) h4)) 67 _ _)
  exact xi_vret (by decide +kernel : decode mX10_startAnew.2.1 67 = .ok (.return_, 1)) rfl vc

