/-! THE BOARD: where one goes -/
set_option maxRecDepth 20000 in
theorem v_X3_takeFeet_0 {h : XH} {Q : Option Value → XH → Prop} {X : String → XH → Prop} (n a : Nat) (ha : xPth a (xP h)) (hn : a + 4 ≤ n) (r : Nat) (hr : xRul r (xP h)) (hnr : r + 9 ≤ n) 
    (vc : XW (xrm 2 0 0) mX3_takeFeet (xE n Q X 0 0) n 0 0 (xSI (a + 1) (fl 101 0 (xI h (a + 1))) h) 10 [some (.ref a), some (.ref r), some (.int 0)] []) :
    XW (xrm 2 0 0) mX3_takeFeet (xE n Q X 0 0) n 0 0 h 0 [some (.ref a), some (.ref r), none] [] := by
  refine xi_aload_n (by decide +kernel : decode mX3_takeFeet.2.1 0 = .ok (.aload_n 0, 1)) rfl rfl (?_ : XW _ _ _ _ _ _ _ 1 _ _)
  refine xi_getR (y := a + 1) (by decide +kernel : decode mX3_takeFeet.2.1 1 = .ok (.getfield 9, 3)) fX3_9 (xPth_s0 ha) (by omega) rfl ha.2.1 (?_ : XW _ _ _ _ _ _ _ 4 _ _)
  refine xi_iconst (v := 0) (by decide +kernel : decode mX3_takeFeet.2.1 4 = .ok (.iconst 0, 1)) (by decide) (?_ : XW _ _ _ _ _ _ _ 5 _ _)
  refine xi_callS (b := 0) (bs := 0) (As := [.ref (a + 1), .int 0]) (st := []) (by decide +kernel : decode mX3_takeFeet.2.1 5 = .ok (.invokestatic 21, 3)) kX3_21 rfl rfl (s_fillI n h (a + 1) 101 (xPth_s1 ha) (by omega) (by decide) 0) (by decide) (by decide) (Nat.le_of_ble_eq_true rfl) (by omega) (fun v9 h9 hq9 => ?_)
  rw [hq9.1, hq9.2]
  show XW _ _ _ _ _ _ _ 8 _ []
  refine xi_iconst (v := 0) (by decide +kernel : decode mX3_takeFeet.2.1 8 = .ok (.iconst 0, 1)) (by decide) (?_ : XW _ _ _ _ _ _ _ 9 _ _)
  refine xi_istore_n (ls' := [some (.ref a), some (.ref r), some (.int 0)]) (by decide +kernel : decode mX3_takeFeet.2.1 9 = .ok (.istore_n 2, 1)) rfl (by decide) rfl (?_ : XW _ _ _ _ _ _ _ 10 _ _)
  exact vc

set_option maxRecDepth 20000 in
theorem v_X3_takeFeet_10 {h : XH} {Q : Option Value → XH → Prop} {X : String → XH → Prop} (n a : Nat) (ha : xPth a (xP h)) (hn : a + 4 ≤ n) (r : Nat) (hr : xRul r (xP h)) (hnr : r + 9 ≤ n)  (x2 : Int32)
    (vc : ((xI h r 7) ≤ x2 → Q none h) ∧ (¬ (xI h r 7) ≤ x2 → XW (xrm 2 0 0) mX3_takeFeet (xE n Q X 0 0) n 0 0 (xSI (a + 1) (wr (xI h (a + 1)) 101 (rd (xI h (r + 6)) 24 0 x2) (rd (xI h (r + 7)) 24 0 x2)) h) 10 [some (.ref a), some (.ref r), some (.int (x2 + 1))] [])) :
    XW (xrm 2 0 0) mX3_takeFeet (xE n Q X 0 0) n 0 0 h 10 [some (.ref a), some (.ref r), some (.int x2)] [] := by
  refine xi_iload_n (by decide +kernel : decode mX3_takeFeet.2.1 10 = .ok (.iload_n 2, 1)) rfl rfl (?_ : XW _ _ _ _ _ _ _ 11 _ _)
  refine xi_aload_n (by decide +kernel : decode mX3_takeFeet.2.1 11 = .ok (.aload_n 1, 1)) rfl rfl (?_ : XW _ _ _ _ _ _ _ 12 _ _)
  refine xi_getI (by decide +kernel : decode mX3_takeFeet.2.1 12 = .ok (.getfield 27, 3)) fX3_27 (xRul_s0 hr) (by omega) rfl (?_ : XW _ _ _ _ _ _ _ 15 _ _)
  refine xi_icmp_ge (by decide +kernel : decode mX3_takeFeet.2.1 15 = .ok (.if_icmp .ge 23, 3)) (by decide) (fun c => (?_ : XW _ _ _ _ _ _ _ 38 _ _)) (fun c => (?_ : XW _ _ _ _ _ _ _ 18 _ _))
  · replace vc := vc.1 c
    exact xi_vret (by decide +kernel : decode mX3_takeFeet.2.1 38 = .ok (.return_, 1)) rfl vc
  · replace vc := vc.2 c
    refine xi_aload_n (by decide +kernel : decode mX3_takeFeet.2.1 18 = .ok (.aload_n 0, 1)) rfl rfl (?_ : XW _ _ _ _ _ _ _ 19 _ _)
    refine xi_aload_n (by decide +kernel : decode mX3_takeFeet.2.1 19 = .ok (.aload_n 1, 1)) rfl rfl (?_ : XW _ _ _ _ _ _ _ 20 _ _)
    refine xi_iload_n (by decide +kernel : decode mX3_takeFeet.2.1 20 = .ok (.iload_n 2, 1)) rfl rfl (?_ : XW _ _ _ _ _ _ _ 21 _ _)
    refine xi_callV (b := 0) (bs := 0) (As := [.int x2]) (st := [.ref a]) (by decide +kernel : decode mX3_takeFeet.2.1 21 = .ok (.invokevirtual 33, 3)) kX3_33 rfl (xRul_s0 hr) (by omega) rfl (s_X5_footOf n h r hr (by omega) x2) (by decide) (by decide) (Nat.le_of_ble_eq_true rfl) (by omega) (fun v9 h9 hq9 => ?_)
    rw [hq9.1, hq9.2]
    show XW _ _ _ _ _ _ _ 24 _ [.int (rd (xI h (r + 6)) 24 0 x2), .ref a]
    refine xi_aload_n (by decide +kernel : decode mX3_takeFeet.2.1 24 = .ok (.aload_n 1, 1)) rfl rfl (?_ : XW _ _ _ _ _ _ _ 25 _ _)
    refine xi_iload_n (by decide +kernel : decode mX3_takeFeet.2.1 25 = .ok (.iload_n 2, 1)) rfl rfl (?_ : XW _ _ _ _ _ _ _ 26 _ _)
    refine xi_callV (b := 0) (bs := 0) (As := [.int x2]) (st := [.int (rd (xI h (r + 6)) 24 0 x2), .ref a]) (by decide +kernel : decode mX3_takeFeet.2.1 26 = .ok (.invokevirtual 37, 3)) kX3_37 rfl (xRul_s0 hr) (by omega) rfl (s_X5_headOf n h r hr (by omega) x2) (by decide) (by decide) (Nat.le_of_ble_eq_true rfl) (by omega) (fun v9 h9 hq9 => ?_)
    rw [hq9.1, hq9.2]
    show XW _ _ _ _ _ _ _ 29 _ [.int (rd (xI h (r + 7)) 24 0 x2), .int (rd (xI h (r + 6)) 24 0 x2), .ref a]
    refine xi_callV (b := 0) (bs := 0) (As := [.int (rd (xI h (r + 6)) 24 0 x2), .int (rd (xI h (r + 7)) 24 0 x2)]) (st := []) (by decide +kernel : decode mX3_takeFeet.2.1 29 = .ok (.invokevirtual 40, 3)) kX3_40 rfl (xPth_s0 ha) (by omega) rfl (s_X3_putFoot n h a ha (by omega) (rd (xI h (r + 6)) 24 0 x2) (rd (xI h (r + 7)) 24 0 x2)) (by decide) (by decide) (Nat.le_of_ble_eq_true rfl) (by omega) (fun v9 h9 hq9 => ?_)
    rw [hq9.1, hq9.2]
    show XW _ _ _ _ _ _ _ 32 _ []
    refine xi_iinc (v := x2 + 1) (ls' := [some (.ref a), some (.ref r), some (.int (x2 + 1))]) (by decide +kernel : decode mX3_takeFeet.2.1 32 = .ok (.iinc 2 1, 3)) rfl rfl (by decide) rfl (?_ : XW _ _ _ _ _ _ _ 35 _ _)
    refine xi_goto (by decide +kernel : decode mX3_takeFeet.2.1 35 = .ok (.goto (-25), 3)) (by decide) (?_ : XW _ _ _ _ _ _ _ 10 _ _)
    exact vc

set_option maxRecDepth 20000 in
theorem v_X3_measure_0 {h : XH} {Q : Option Value → XH → Prop} {X : String → XH → Prop} (n a : Nat) (ha : xPth a (xP h)) (hn : a + 4 ≤ n) (r : Nat) (hr : xRul r (xP h)) (hnr : r + 9 ≤ n) 
    (vc : XW (xrm 5 0 0) mX3_measure (xE n Q X 0 0) n 0 0 h 12 [some (.ref a), some (.ref r), some (.int 0), some (.int (if 100 < (xI h r 0) then 100 else (xI h r 0))), none] []) :
    XW (xrm 5 0 0) mX3_measure (xE n Q X 0 0) n 0 0 h 0 [some (.ref a), some (.ref r), none, none, none] [] := by
  refine xi_iconst (v := 0) (by decide +kernel : decode mX3_measure.2.1 0 = .ok (.iconst 0, 1)) (by decide) (?_ : XW _ _ _ _ _ _ _ 1 _ _)
  refine xi_istore_n (ls' := [some (.ref a), some (.ref r), some (.int 0), none, none]) (by decide +kernel : decode mX3_measure.2.1 1 = .ok (.istore_n 2, 1)) rfl (by decide) rfl (?_ : XW _ _ _ _ _ _ _ 2 _ _)
  refine xi_aload_n (by decide +kernel : decode mX3_measure.2.1 2 = .ok (.aload_n 1, 1)) rfl rfl (?_ : XW _ _ _ _ _ _ _ 3 _ _)
  refine xi_getI (by decide +kernel : decode mX3_measure.2.1 3 = .ok (.getfield 44, 3)) fX3_44 (xRul_s0 hr) (by omega) rfl (?_ : XW _ _ _ _ _ _ _ 6 _ _)
  refine xi_bipush (v := 100) (by decide +kernel : decode mX3_measure.2.1 6 = .ok (.bipush 100, 2)) (by decide) (?_ : XW _ _ _ _ _ _ _ 8 _ _)
  refine xi_mmin (by decide +kernel : decode mX3_measure.2.1 8 = .ok (.invokestatic 47, 3)) kX3_47.2.1 (by decide) (Nat.le_of_ble_eq_true rfl) (?_ : XW _ _ _ _ _ _ _ 11 _ _)
  refine xi_istore_n (ls' := [some (.ref a), some (.ref r), some (.int 0), some (.int (if 100 < (xI h r 0) then 100 else (xI h r 0))), none]) (by decide +kernel : decode mX3_measure.2.1 11 = .ok (.istore_n 3, 1)) rfl (by decide) rfl (?_ : XW _ _ _ _ _ _ _ 12 _ _)
  exact vc

set_option maxRecDepth 20000 in
theorem v_X3_measure_12 {h : XH} {Q : Option Value → XH → Prop} {X : String → XH → Prop} (n a : Nat) (ha : xPth a (xP h)) (hn : a + 4 ≤ n) (r : Nat) (hr : xRul r (xP h)) (hnr : r + 9 ≤ n)  (x2 : Int32) (x3 : Int32)
    (vc : (x3 < 0 → Q none h) ∧ (¬ x3 < 0 → XW (xrm 5 0 0) mX3_measure (xE n Q X 0 0) n 0 0 h 19 [some (.ref a), some (.ref r), some (.int x2), some (.int x3), some (.int 0)] [])) :
    XW (xrm 5 0 0) mX3_measure (xE n Q X 0 0) n 0 0 h 12 [some (.ref a), some (.ref r), some (.int x2), some (.int x3), none] [] := by
  refine xi_iload_n (by decide +kernel : decode mX3_measure.2.1 12 = .ok (.iload_n 3, 1)) rfl rfl (?_ : XW _ _ _ _ _ _ _ 13 _ _)
  refine xi_if_lt (by decide +kernel : decode mX3_measure.2.1 13 = .ok (.ifCond .lt 64, 3)) (by decide) (fun c => (?_ : XW _ _ _ _ _ _ _ 77 _ _)) (fun c => (?_ : XW _ _ _ _ _ _ _ 16 _ _))
  · replace vc := vc.1 c
    exact xi_vret (by decide +kernel : decode mX3_measure.2.1 77 = .ok (.return_, 1)) rfl vc
  · replace vc := vc.2 c
    refine xi_iconst (v := 0) (by decide +kernel : decode mX3_measure.2.1 16 = .ok (.iconst 0, 1)) (by decide) (?_ : XW _ _ _ _ _ _ _ 17 _ _)
    refine xi_istore (ls' := [some (.ref a), some (.ref r), some (.int x2), some (.int x3), some (.int 0)]) (by decide +kernel : decode mX3_measure.2.1 17 = .ok (.istore 4, 2)) (by decide) rfl (?_ : XW _ _ _ _ _ _ _ 19 _ _)
    exact vc

set_option maxRecDepth 20000 in
theorem v_X3_measure_19 {h : XH} {Q : Option Value → XH → Prop} {X : String → XH → Prop} (n a : Nat) (ha : xPth a (xP h)) (hn : a + 4 ≤ n) (r : Nat) (hr : xRul r (xP h)) (hnr : r + 9 ≤ n)  (x2 : Int32) (x3 : Int32) (x4 : Int32)
    (vc : (7 ≤ x4 → (vp_in x3 101) ∧ (((xI h (a + 1) x3.toNatClampNeg) = 0 → XW (xrm 5 0 0) mX3_measure (xE n Q X 0 0) n 0 0 h 12 [some (.ref a), some (.ref r), some (.int x2), some (.int (x3 + (-1))), none] []) ∧ (¬ (xI h (a + 1) x3.toNatClampNeg) = 0 → XW (xrm 5 0 0) mX3_measure (xE n Q X 0 0) n 0 0 h 12 [some (.ref a), some (.ref r), some (.int (x2 + 1)), some (.int (x3 + (-1))), none] []))) ∧ (¬ 7 ≤ x4 → ∃ Q1, XSpec mX0_howFar 4 0 0 n n [.ref (r + 1), .int x4, .int x3, .int (xI h r 0), .int x2] h Q1 xno ∧ ∀ v h1, Q1 v h1 → ∃ r1 : Int32, v = some (.int r1) ∧ ((vp_in ((x3 * 7) + x4) 707) ∧ (XW (xrm 5 0 0) mX3_measure (xE n Q X 0 0) n 0 0 (xSI (a + 2) (va_up (xI h1 (a + 2)) ((x3 * 7) + x4).toNatClampNeg r1) h1) 19 [some (.ref a), some (.ref r), some (.int x2), some (.int x3), some (.int (x4 + 1))] [])))) :
    XW (xrm 5 0 0) mX3_measure (xE n Q X 0 0) n 0 0 h 19 [some (.ref a), some (.ref r), some (.int x2), some (.int x3), some (.int x4)] [] := by
  refine xi_iload (by decide +kernel : decode mX3_measure.2.1 19 = .ok (.iload 4, 2)) rfl (?_ : XW _ _ _ _ _ _ _ 21 _ _)
  refine xi_bipush (v := 7) (by decide +kernel : decode mX3_measure.2.1 21 = .ok (.bipush 7, 2)) (by decide) (?_ : XW _ _ _ _ _ _ _ 23 _ _)
  refine xi_icmp_ge (by decide +kernel : decode mX3_measure.2.1 23 = .ok (.if_icmp .ge 36, 3)) (by decide) (fun c => (?_ : XW _ _ _ _ _ _ _ 59 _ _)) (fun c => (?_ : XW _ _ _ _ _ _ _ 26 _ _))
  · replace vc := vc.1 c
    refine xi_aload_n (by decide +kernel : decode mX3_measure.2.1 59 = .ok (.aload_n 0, 1)) rfl rfl (?_ : XW _ _ _ _ _ _ _ 60 _ _)
    refine xi_getR (y := a + 1) (by decide +kernel : decode mX3_measure.2.1 60 = .ok (.getfield 9, 3)) fX3_9 (xPth_s0 ha) (by omega) rfl ha.2.1 (?_ : XW _ _ _ _ _ _ _ 63 _ _)
    refine xi_iload_n (by decide +kernel : decode mX3_measure.2.1 63 = .ok (.iload_n 3, 1)) rfl rfl (?_ : XW _ _ _ _ _ _ _ 64 _ _)
    obtain ⟨s1, vc⟩ := vc
    refine xi_iald (by decide +kernel : decode mX3_measure.2.1 64 = .ok (.iaload, 1)) (xPth_s1 ha) (by omega) s1 (?_ : XW _ _ _ _ _ _ _ 65 _ _)
    refine xi_if_eq (by decide +kernel : decode mX3_measure.2.1 65 = .ok (.ifCond .eq 6, 3)) (by decide) (fun c => (?_ : XW _ _ _ _ _ _ _ 71 _ _)) (fun c => (?_ : XW _ _ _ _ _ _ _ 68 _ _))
    · replace vc := vc.1 c
      refine xi_iinc (v := x3 + (-1)) (ls' := [some (.ref a), some (.ref r), some (.int x2), some (.int (x3 + (-1))), some (.int x4)]) (by decide +kernel : decode mX3_measure.2.1 71 = .ok (.iinc 3 (-1), 3)) rfl rfl (by decide) rfl (?_ : XW _ _ _ _ _ _ _ 74 _ _)
      refine xi_goto (by decide +kernel : decode mX3_measure.2.1 74 = .ok (.goto (-62), 3)) (by decide) (?_ : XW _ _ _ _ _ _ _ 12 _ _)
      refine xw_drop 4 (ls' := [some (.ref a), some (.ref r), some (.int x2), some (.int (x3 + (-1))), none]) rfl ?_
      exact vc
    · replace vc := vc.2 c
      refine xi_iinc (v := x2 + 1) (ls' := [some (.ref a), some (.ref r), some (.int (x2 + 1)), some (.int x3), some (.int x4)]) (by decide +kernel : decode mX3_measure.2.1 68 = .ok (.iinc 2 1, 3)) rfl rfl (by decide) rfl (?_ : XW _ _ _ _ _ _ _ 71 _ _)
      refine xi_iinc (v := x3 + (-1)) (ls' := [some (.ref a), some (.ref r), some (.int (x2 + 1)), some (.int (x3 + (-1))), some (.int x4)]) (by decide +kernel : decode mX3_measure.2.1 71 = .ok (.iinc 3 (-1), 3)) rfl rfl (by decide) rfl (?_ : XW _ _ _ _ _ _ _ 74 _ _)
      refine xi_goto (by decide +kernel : decode mX3_measure.2.1 74 = .ok (.goto (-62), 3)) (by decide) (?_ : XW _ _ _ _ _ _ _ 12 _ _)
      refine xw_drop 4 (ls' := [some (.ref a), some (.ref r), some (.int (x2 + 1)), some (.int (x3 + (-1))), none]) rfl ?_
      exact vc
  · replace vc := vc.2 c
    refine xi_aload_n (by decide +kernel : decode mX3_measure.2.1 26 = .ok (.aload_n 0, 1)) rfl rfl (?_ : XW _ _ _ _ _ _ _ 27 _ _)
    refine xi_getR (y := a + 2) (by decide +kernel : decode mX3_measure.2.1 27 = .ok (.getfield 15, 3)) fX3_15 (xPth_s0 ha) (by omega) rfl ha.2.2.1 (?_ : XW _ _ _ _ _ _ _ 30 _ _)
    refine xi_iload_n (by decide +kernel : decode mX3_measure.2.1 30 = .ok (.iload_n 3, 1)) rfl rfl (?_ : XW _ _ _ _ _ _ _ 31 _ _)
    refine xi_bipush (v := 7) (by decide +kernel : decode mX3_measure.2.1 31 = .ok (.bipush 7, 2)) (by decide) (?_ : XW _ _ _ _ _ _ _ 33 _ _)
    refine xi_imul (by decide +kernel : decode mX3_measure.2.1 33 = .ok (.imul, 1)) (?_ : XW _ _ _ _ _ _ _ 34 _ _)
    refine xi_iload (by decide +kernel : decode mX3_measure.2.1 34 = .ok (.iload 4, 2)) rfl (?_ : XW _ _ _ _ _ _ _ 36 _ _)
    refine xi_iadd (by decide +kernel : decode mX3_measure.2.1 36 = .ok (.iadd, 1)) (?_ : XW _ _ _ _ _ _ _ 37 _ _)
    refine xi_aload_n (by decide +kernel : decode mX3_measure.2.1 37 = .ok (.aload_n 1, 1)) rfl rfl (?_ : XW _ _ _ _ _ _ _ 38 _ _)
    refine xi_getR (y := r + 1) (by decide +kernel : decode mX3_measure.2.1 38 = .ok (.getfield 53, 3)) fX3_53 (xRul_s0 hr) (by omega) rfl hr.2.1 (?_ : XW _ _ _ _ _ _ _ 41 _ _)
    refine xi_iload (by decide +kernel : decode mX3_measure.2.1 41 = .ok (.iload 4, 2)) rfl (?_ : XW _ _ _ _ _ _ _ 43 _ _)
    refine xi_iload_n (by decide +kernel : decode mX3_measure.2.1 43 = .ok (.iload_n 3, 1)) rfl rfl (?_ : XW _ _ _ _ _ _ _ 44 _ _)
    refine xi_aload_n (by decide +kernel : decode mX3_measure.2.1 44 = .ok (.aload_n 1, 1)) rfl rfl (?_ : XW _ _ _ _ _ _ _ 45 _ _)
    refine xi_getI (by decide +kernel : decode mX3_measure.2.1 45 = .ok (.getfield 44, 3)) fX3_44 (xRul_s0 hr) (by omega) rfl (?_ : XW _ _ _ _ _ _ _ 48 _ _)
    refine xi_iload_n (by decide +kernel : decode mX3_measure.2.1 48 = .ok (.iload_n 2, 1)) rfl rfl (?_ : XW _ _ _ _ _ _ _ 49 _ _)
    obtain ⟨Q1, sp, vc⟩ := vc
    refine xi_callV (b := 0) (bs := 0) (As := [.int x4, .int x3, .int (xI h r 0), .int x2]) (st := [.int ((x3 * 7) + x4), .ref (a + 2)]) (by decide +kernel : decode mX3_measure.2.1 49 = .ok (.invokevirtual 57, 3)) kX3_57 rfl (xRul_s1 hr) (by omega) rfl sp (by decide) (by decide) (Nat.le_of_ble_eq_true rfl) (by omega) (fun v9 h1 hq9 => ?_)
    obtain ⟨r1, e9, vc⟩ := vc v9 h1 hq9
    subst e9
    show XW _ _ _ _ _ _ _ 52 _ [.int r1, .int ((x3 * 7) + x4), .ref (a + 2)]
    obtain ⟨s1, vc⟩ := vc
    refine xi_iast (by decide +kernel : decode mX3_measure.2.1 52 = .ok (.iastore, 1)) (xPth_s2 ha) (by omega) s1 (?_ : XW _ _ _ _ _ _ (xSI (a + 2) (va_up (xI h1 (a + 2)) ((x3 * 7) + x4).toNatClampNeg r1) h1) 53 _ _)
    refine xi_iinc (v := x4 + 1) (ls' := [some (.ref a), some (.ref r), some (.int x2), some (.int x3), some (.int (x4 + 1))]) (by decide +kernel : decode mX3_measure.2.1 53 = .ok (.iinc 4 1, 3)) rfl rfl (by decide) rfl (?_ : XW _ _ _ _ _ _ _ 56 _ _)
    refine xi_goto (by decide +kernel : decode mX3_measure.2.1 56 = .ok (.goto (-37), 3)) (by decide) (?_ : XW _ _ _ _ _ _ _ 19 _ _)
    exact vc

set_option maxRecDepth 20000 in
theorem v_X3_landing_0 {h : XH} {Q : Option Value → XH → Prop} {X : String → XH → Prop} (n a : Nat) (ha : xPth a (xP h)) (hn : a + 4 ≤ n)  (sq : Int32) (on : Int32) (lst : Int32) (ed : Int32)
    (vc : ((if 0 < (sq + on) then (sq + on) else 0) ≤ lst → (101 ≤ (if 0 < (sq + on) then (sq + on) else 0) → Q (some (.int (if 0 < (sq + on) then (sq + on) else 0))) h) ∧ (¬ 101 ≤ (if 0 < (sq + on) then (sq + on) else 0) → (vp_in (if 0 < (sq + on) then (sq + on) else 0) 101) ∧ ((¬ (xI h (a + 1) (if 0 < (sq + on) then (sq + on) else 0).toNatClampNeg) = 0 → (vp_in (if 0 < (sq + on) then (sq + on) else 0) 101) ∧ (Q (some (.int (xI h (a + 1) (if 0 < (sq + on) then (sq + on) else 0).toNatClampNeg))) h)) ∧ ((xI h (a + 1) (if 0 < (sq + on) then (sq + on) else 0).toNatClampNeg) = 0 → Q (some (.int (if 0 < (sq + on) then (sq + on) else 0))) h)))) ∧ (¬ (if 0 < (sq + on) then (sq + on) else 0) ≤ lst → (¬ ed = 0 → (¬ ed = 1 → (101 ≤ lst → Q (some (.int lst)) h) ∧ (¬ 101 ≤ lst → (vp_in lst 101) ∧ ((¬ (xI h (a + 1) lst.toNatClampNeg) = 0 → (vp_in lst 101) ∧ (Q (some (.int (xI h (a + 1) lst.toNatClampNeg))) h)) ∧ ((xI h (a + 1) lst.toNatClampNeg) = 0 → Q (some (.int lst)) h)))) ∧ (ed = 1 → (101 ≤ (if 0 < ((2 * lst) - (if 0 < (sq + on) then (sq + on) else 0)) then ((2 * lst) - (if 0 < (sq + on) then (sq + on) else 0)) else 0) → Q (some (.int (if 0 < ((2 * lst) - (if 0 < (sq + on) then (sq + on) else 0)) then ((2 * lst) - (if 0 < (sq + on) then (sq + on) else 0)) else 0))) h) ∧ (¬ 101 ≤ (if 0 < ((2 * lst) - (if 0 < (sq + on) then (sq + on) else 0)) then ((2 * lst) - (if 0 < (sq + on) then (sq + on) else 0)) else 0) → (vp_in (if 0 < ((2 * lst) - (if 0 < (sq + on) then (sq + on) else 0)) then ((2 * lst) - (if 0 < (sq + on) then (sq + on) else 0)) else 0) 101) ∧ ((¬ (xI h (a + 1) (if 0 < ((2 * lst) - (if 0 < (sq + on) then (sq + on) else 0)) then ((2 * lst) - (if 0 < (sq + on) then (sq + on) else 0)) else 0).toNatClampNeg) = 0 → (vp_in (if 0 < ((2 * lst) - (if 0 < (sq + on) then (sq + on) else 0)) then ((2 * lst) - (if 0 < (sq + on) then (sq + on) else 0)) else 0) 101) ∧ (Q (some (.int (xI h (a + 1) (if 0 < ((2 * lst) - (if 0 < (sq + on) then (sq + on) else 0)) then ((2 * lst) - (if 0 < (sq + on) then (sq + on) else 0)) else 0).toNatClampNeg))) h)) ∧ ((xI h (a + 1) (if 0 < ((2 * lst) - (if 0 < (sq + on) then (sq + on) else 0)) then ((2 * lst) - (if 0 < (sq + on) then (sq + on) else 0)) else 0).toNatClampNeg) = 0 → Q (some (.int (if 0 < ((2 * lst) - (if 0 < (sq + on) then (sq + on) else 0)) then ((2 * lst) - (if 0 < (sq + on) then (sq + on) else 0)) else 0))) h))))) ∧ (ed = 0 → Q (some (.int sq)) h))) :
    XW (xrm 2 0 0) mX3_landing (xE n Q X 0 0) n 0 0 h 0 [some (.ref a), some (.int sq), some (.int on), some (.int lst), some (.int ed), none] [] := by
  refine xi_iconst (v := 0) (by decide +kernel : decode mX3_landing.2.1 0 = .ok (.iconst 0, 1)) (by decide) (?_ : XW _ _ _ _ _ _ _ 1 _ _)
  refine xi_iload_n (by decide +kernel : decode mX3_landing.2.1 1 = .ok (.iload_n 1, 1)) rfl rfl (?_ : XW _ _ _ _ _ _ _ 2 _ _)
  refine xi_iload_n (by decide +kernel : decode mX3_landing.2.1 2 = .ok (.iload_n 2, 1)) rfl rfl (?_ : XW _ _ _ _ _ _ _ 3 _ _)
  refine xi_iadd (by decide +kernel : decode mX3_landing.2.1 3 = .ok (.iadd, 1)) (?_ : XW _ _ _ _ _ _ _ 4 _ _)
  refine xi_mmax (by decide +kernel : decode mX3_landing.2.1 4 = .ok (.invokestatic 66, 3)) kX3_66.2.1 (by decide) (Nat.le_of_ble_eq_true rfl) (?_ : XW _ _ _ _ _ _ _ 7 _ _)
  refine xi_istore (ls' := [some (.ref a), some (.int sq), some (.int on), some (.int lst), some (.int ed), some (.int (if 0 < (sq + on) then (sq + on) else 0))]) (by decide +kernel : decode mX3_landing.2.1 7 = .ok (.istore 5, 2)) (by decide) rfl (?_ : XW _ _ _ _ _ _ _ 9 _ _)
  refine xi_iload (by decide +kernel : decode mX3_landing.2.1 9 = .ok (.iload 5, 2)) rfl (?_ : XW _ _ _ _ _ _ _ 11 _ _)
  refine xi_iload_n (by decide +kernel : decode mX3_landing.2.1 11 = .ok (.iload_n 3, 1)) rfl rfl (?_ : XW _ _ _ _ _ _ _ 12 _ _)
  refine xi_icmp_le (by decide +kernel : decode mX3_landing.2.1 12 = .ok (.if_icmp .le 32, 3)) (by decide) (fun c => (?_ : XW _ _ _ _ _ _ _ 44 _ _)) (fun c => (?_ : XW _ _ _ _ _ _ _ 15 _ _))
  · replace vc := vc.1 c
    refine xi_iload (by decide +kernel : decode mX3_landing.2.1 44 = .ok (.iload 5, 2)) rfl (?_ : XW _ _ _ _ _ _ _ 46 _ _)
    refine xi_aload_n (by decide +kernel : decode mX3_landing.2.1 46 = .ok (.aload_n 0, 1)) rfl rfl (?_ : XW _ _ _ _ _ _ _ 47 _ _)
    refine xi_getR (y := a + 1) (by decide +kernel : decode mX3_landing.2.1 47 = .ok (.getfield 9, 3)) fX3_9 (xPth_s0 ha) (by omega) rfl ha.2.1 (?_ : XW _ _ _ _ _ _ _ 50 _ _)
    refine xi_alen (v := 101) (by decide +kernel : decode mX3_landing.2.1 50 = .ok (.arraylength, 1)) (xPth_s1 ha) (by omega) (Or.inl rfl) rfl (?_ : XW _ _ _ _ _ _ _ 51 _ _)
    refine xi_icmp_ge (by decide +kernel : decode mX3_landing.2.1 51 = .ok (.if_icmp .ge 13, 3)) (by decide) (fun c => (?_ : XW _ _ _ _ _ _ _ 64 _ _)) (fun c => (?_ : XW _ _ _ _ _ _ _ 54 _ _))
    · replace vc := vc.1 c
      refine xi_iload (by decide +kernel : decode mX3_landing.2.1 64 = .ok (.iload 5, 2)) rfl (?_ : XW _ _ _ _ _ _ _ 66 _ _)
      exact xi_iret (by decide +kernel : decode mX3_landing.2.1 66 = .ok (.ireturn, 1)) rfl rfl vc
    · replace vc := vc.2 c
      refine xi_aload_n (by decide +kernel : decode mX3_landing.2.1 54 = .ok (.aload_n 0, 1)) rfl rfl (?_ : XW _ _ _ _ _ _ _ 55 _ _)
      refine xi_getR (y := a + 1) (by decide +kernel : decode mX3_landing.2.1 55 = .ok (.getfield 9, 3)) fX3_9 (xPth_s0 ha) (by omega) rfl ha.2.1 (?_ : XW _ _ _ _ _ _ _ 58 _ _)
      refine xi_iload (by decide +kernel : decode mX3_landing.2.1 58 = .ok (.iload 5, 2)) rfl (?_ : XW _ _ _ _ _ _ _ 60 _ _)
      obtain ⟨s1, vc⟩ := vc
      refine xi_iald (by decide +kernel : decode mX3_landing.2.1 60 = .ok (.iaload, 1)) (xPth_s1 ha) (by omega) s1 (?_ : XW _ _ _ _ _ _ _ 61 _ _)
      refine xi_if_ne (by decide +kernel : decode mX3_landing.2.1 61 = .ok (.ifCond .ne 6, 3)) (by decide) (fun c => (?_ : XW _ _ _ _ _ _ _ 67 _ _)) (fun c => (?_ : XW _ _ _ _ _ _ _ 64 _ _))
      · replace vc := vc.1 c
        refine xi_aload_n (by decide +kernel : decode mX3_landing.2.1 67 = .ok (.aload_n 0, 1)) rfl rfl (?_ : XW _ _ _ _ _ _ _ 68 _ _)
        refine xi_getR (y := a + 1) (by decide +kernel : decode mX3_landing.2.1 68 = .ok (.getfield 9, 3)) fX3_9 (xPth_s0 ha) (by omega) rfl ha.2.1 (?_ : XW _ _ _ _ _ _ _ 71 _ _)
        refine xi_iload (by decide +kernel : decode mX3_landing.2.1 71 = .ok (.iload 5, 2)) rfl (?_ : XW _ _ _ _ _ _ _ 73 _ _)
        obtain ⟨s1, vc⟩ := vc
        refine xi_iald (by decide +kernel : decode mX3_landing.2.1 73 = .ok (.iaload, 1)) (xPth_s1 ha) (by omega) s1 (?_ : XW _ _ _ _ _ _ _ 74 _ _)
        exact xi_iret (by decide +kernel : decode mX3_landing.2.1 74 = .ok (.ireturn, 1)) rfl rfl vc
      · replace vc := vc.2 c
        refine xi_iload (by decide +kernel : decode mX3_landing.2.1 64 = .ok (.iload 5, 2)) rfl (?_ : XW _ _ _ _ _ _ _ 66 _ _)
        exact xi_iret (by decide +kernel : decode mX3_landing.2.1 66 = .ok (.ireturn, 1)) rfl rfl vc
  · replace vc := vc.2 c
    refine xi_iload (by decide +kernel : decode mX3_landing.2.1 15 = .ok (.iload 4, 2)) rfl (?_ : XW _ _ _ _ _ _ _ 17 _ _)
    refine xi_if_ne (by decide +kernel : decode mX3_landing.2.1 17 = .ok (.ifCond .ne 5, 3)) (by decide) (fun c => (?_ : XW _ _ _ _ _ _ _ 22 _ _)) (fun c => (?_ : XW _ _ _ _ _ _ _ 20 _ _))
    · replace vc := vc.1 c
      refine xi_iload (by decide +kernel : decode mX3_landing.2.1 22 = .ok (.iload 4, 2)) rfl (?_ : XW _ _ _ _ _ _ _ 24 _ _)
      refine xi_iconst (v := 1) (by decide +kernel : decode mX3_landing.2.1 24 = .ok (.iconst 1, 1)) (by decide) (?_ : XW _ _ _ _ _ _ _ 25 _ _)
      refine xi_icmp_ne (by decide +kernel : decode mX3_landing.2.1 25 = .ok (.if_icmp .ne 16, 3)) (by decide) (fun c => (?_ : XW _ _ _ _ _ _ _ 41 _ _)) (fun c => (?_ : XW _ _ _ _ _ _ _ 28 _ _))
      · replace vc := vc.1 c
        refine xi_iload_n (by decide +kernel : decode mX3_landing.2.1 41 = .ok (.iload_n 3, 1)) rfl rfl (?_ : XW _ _ _ _ _ _ _ 42 _ _)
        refine xi_istore (ls' := [some (.ref a), some (.int sq), some (.int on), some (.int lst), some (.int ed), some (.int lst)]) (by decide +kernel : decode mX3_landing.2.1 42 = .ok (.istore 5, 2)) (by decide) rfl (?_ : XW _ _ _ _ _ _ _ 44 _ _)
        refine xi_iload (by decide +kernel : decode mX3_landing.2.1 44 = .ok (.iload 5, 2)) rfl (?_ : XW _ _ _ _ _ _ _ 46 _ _)
        refine xi_aload_n (by decide +kernel : decode mX3_landing.2.1 46 = .ok (.aload_n 0, 1)) rfl rfl (?_ : XW _ _ _ _ _ _ _ 47 _ _)
        refine xi_getR (y := a + 1) (by decide +kernel : decode mX3_landing.2.1 47 = .ok (.getfield 9, 3)) fX3_9 (xPth_s0 ha) (by omega) rfl ha.2.1 (?_ : XW _ _ _ _ _ _ _ 50 _ _)
        refine xi_alen (v := 101) (by decide +kernel : decode mX3_landing.2.1 50 = .ok (.arraylength, 1)) (xPth_s1 ha) (by omega) (Or.inl rfl) rfl (?_ : XW _ _ _ _ _ _ _ 51 _ _)
        refine xi_icmp_ge (by decide +kernel : decode mX3_landing.2.1 51 = .ok (.if_icmp .ge 13, 3)) (by decide) (fun c => (?_ : XW _ _ _ _ _ _ _ 64 _ _)) (fun c => (?_ : XW _ _ _ _ _ _ _ 54 _ _))
        · replace vc := vc.1 c
          refine xi_iload (by decide +kernel : decode mX3_landing.2.1 64 = .ok (.iload 5, 2)) rfl (?_ : XW _ _ _ _ _ _ _ 66 _ _)
          exact xi_iret (by decide +kernel : decode mX3_landing.2.1 66 = .ok (.ireturn, 1)) rfl rfl vc
        · replace vc := vc.2 c
          refine xi_aload_n (by decide +kernel : decode mX3_landing.2.1 54 = .ok (.aload_n 0, 1)) rfl rfl (?_ : XW _ _ _ _ _ _ _ 55 _ _)
          refine xi_getR (y := a + 1) (by decide +kernel : decode mX3_landing.2.1 55 = .ok (.getfield 9, 3)) fX3_9 (xPth_s0 ha) (by omega) rfl ha.2.1 (?_ : XW _ _ _ _ _ _ _ 58 _ _)
          refine xi_iload (by decide +kernel : decode mX3_landing.2.1 58 = .ok (.iload 5, 2)) rfl (?_ : XW _ _ _ _ _ _ _ 60 _ _)
          obtain ⟨s1, vc⟩ := vc
          refine xi_iald (by decide +kernel : decode mX3_landing.2.1 60 = .ok (.iaload, 1)) (xPth_s1 ha) (by omega) s1 (?_ : XW _ _ _ _ _ _ _ 61 _ _)
          refine xi_if_ne (by decide +kernel : decode mX3_landing.2.1 61 = .ok (.ifCond .ne 6, 3)) (by decide) (fun c => (?_ : XW _ _ _ _ _ _ _ 67 _ _)) (fun c => (?_ : XW _ _ _ _ _ _ _ 64 _ _))
          · replace vc := vc.1 c
            refine xi_aload_n (by decide +kernel : decode mX3_landing.2.1 67 = .ok (.aload_n 0, 1)) rfl rfl (?_ : XW _ _ _ _ _ _ _ 68 _ _)
            refine xi_getR (y := a + 1) (by decide +kernel : decode mX3_landing.2.1 68 = .ok (.getfield 9, 3)) fX3_9 (xPth_s0 ha) (by omega) rfl ha.2.1 (?_ : XW _ _ _ _ _ _ _ 71 _ _)
            refine xi_iload (by decide +kernel : decode mX3_landing.2.1 71 = .ok (.iload 5, 2)) rfl (?_ : XW _ _ _ _ _ _ _ 73 _ _)
            obtain ⟨s1, vc⟩ := vc
            refine xi_iald (by decide +kernel : decode mX3_landing.2.1 73 = .ok (.iaload, 1)) (xPth_s1 ha) (by omega) s1 (?_ : XW _ _ _ _ _ _ _ 74 _ _)
            exact xi_iret (by decide +kernel : decode mX3_landing.2.1 74 = .ok (.ireturn, 1)) rfl rfl vc
          · replace vc := vc.2 c
            refine xi_iload (by decide +kernel : decode mX3_landing.2.1 64 = .ok (.iload 5, 2)) rfl (?_ : XW _ _ _ _ _ _ _ 66 _ _)
            exact xi_iret (by decide +kernel : decode mX3_landing.2.1 66 = .ok (.ireturn, 1)) rfl rfl vc
      · replace vc := vc.2 c
        refine xi_iconst (v := 0) (by decide +kernel : decode mX3_landing.2.1 28 = .ok (.iconst 0, 1)) (by decide) (?_ : XW _ _ _ _ _ _ _ 29 _ _)
        refine xi_iconst (v := 2) (by decide +kernel : decode mX3_landing.2.1 29 = .ok (.iconst 2, 1)) (by decide) (?_ : XW _ _ _ _ _ _ _ 30 _ _)
        refine xi_iload_n (by decide +kernel : decode mX3_landing.2.1 30 = .ok (.iload_n 3, 1)) rfl rfl (?_ : XW _ _ _ _ _ _ _ 31 _ _)
        refine xi_imul (by decide +kernel : decode mX3_landing.2.1 31 = .ok (.imul, 1)) (?_ : XW _ _ _ _ _ _ _ 32 _ _)
        refine xi_iload (by decide +kernel : decode mX3_landing.2.1 32 = .ok (.iload 5, 2)) rfl (?_ : XW _ _ _ _ _ _ _ 34 _ _)
        refine xi_isub (by decide +kernel : decode mX3_landing.2.1 34 = .ok (.isub, 1)) (?_ : XW _ _ _ _ _ _ _ 35 _ _)
        refine xi_mmax (by decide +kernel : decode mX3_landing.2.1 35 = .ok (.invokestatic 66, 3)) kX3_66.2.1 (by decide) (Nat.le_of_ble_eq_true rfl) (?_ : XW _ _ _ _ _ _ _ 38 _ _)
        refine xi_goto (by decide +kernel : decode mX3_landing.2.1 38 = .ok (.goto 4, 3)) (by decide) (?_ : XW _ _ _ _ _ _ _ 42 _ _)
        refine xi_istore (ls' := [some (.ref a), some (.int sq), some (.int on), some (.int lst), some (.int ed), some (.int (if 0 < ((2 * lst) - (if 0 < (sq + on) then (sq + on) else 0)) then ((2 * lst) - (if 0 < (sq + on) then (sq + on) else 0)) else 0))]) (by decide +kernel : decode mX3_landing.2.1 42 = .ok (.istore 5, 2)) (by decide) rfl (?_ : XW _ _ _ _ _ _ _ 44 _ _)
        refine xi_iload (by decide +kernel : decode mX3_landing.2.1 44 = .ok (.iload 5, 2)) rfl (?_ : XW _ _ _ _ _ _ _ 46 _ _)
        refine xi_aload_n (by decide +kernel : decode mX3_landing.2.1 46 = .ok (.aload_n 0, 1)) rfl rfl (?_ : XW _ _ _ _ _ _ _ 47 _ _)
        refine xi_getR (y := a + 1) (by decide +kernel : decode mX3_landing.2.1 47 = .ok (.getfield 9, 3)) fX3_9 (xPth_s0 ha) (by omega) rfl ha.2.1 (?_ : XW _ _ _ _ _ _ _ 50 _ _)
        refine xi_alen (v := 101) (by decide +kernel : decode mX3_landing.2.1 50 = .ok (.arraylength, 1)) (xPth_s1 ha) (by omega) (Or.inl rfl) rfl (?_ : XW _ _ _ _ _ _ _ 51 _ _)
        refine xi_icmp_ge (by decide +kernel : decode mX3_landing.2.1 51 = .ok (.if_icmp .ge 13, 3)) (by decide) (fun c => (?_ : XW _ _ _ _ _ _ _ 64 _ _)) (fun c => (?_ : XW _ _ _ _ _ _ _ 54 _ _))
        · replace vc := vc.1 c
          refine xi_iload (by decide +kernel : decode mX3_landing.2.1 64 = .ok (.iload 5, 2)) rfl (?_ : XW _ _ _ _ _ _ _ 66 _ _)
          exact xi_iret (by decide +kernel : decode mX3_landing.2.1 66 = .ok (.ireturn, 1)) rfl rfl vc
        · replace vc := vc.2 c
          refine xi_aload_n (by decide +kernel : decode mX3_landing.2.1 54 = .ok (.aload_n 0, 1)) rfl rfl (?_ : XW _ _ _ _ _ _ _ 55 _ _)
          refine xi_getR (y := a + 1) (by decide +kernel : decode mX3_landing.2.1 55 = .ok (.getfield 9, 3)) fX3_9 (xPth_s0 ha) (by omega) rfl ha.2.1 (?_ : XW _ _ _ _ _ _ _ 58 _ _)
          refine xi_iload (by decide +kernel : decode mX3_landing.2.1 58 = .ok (.iload 5, 2)) rfl (?_ : XW _ _ _ _ _ _ _ 60 _ _)
          obtain ⟨s1, vc⟩ := vc
          refine xi_iald (by decide +kernel : decode mX3_landing.2.1 60 = .ok (.iaload, 1)) (xPth_s1 ha) (by omega) s1 (?_ : XW _ _ _ _ _ _ _ 61 _ _)
          refine xi_if_ne (by decide +kernel : decode mX3_landing.2.1 61 = .ok (.ifCond .ne 6, 3)) (by decide) (fun c => (?_ : XW _ _ _ _ _ _ _ 67 _ _)) (fun c => (?_ : XW _ _ _ _ _ _ _ 64 _ _))
          · replace vc := vc.1 c
            refine xi_aload_n (by decide +kernel : decode mX3_landing.2.1 67 = .ok (.aload_n 0, 1)) rfl rfl (?_ : XW _ _ _ _ _ _ _ 68 _ _)
            refine xi_getR (y := a + 1) (by decide +kernel : decode mX3_landing.2.1 68 = .ok (.getfield 9, 3)) fX3_9 (xPth_s0 ha) (by omega) rfl ha.2.1 (?_ : XW _ _ _ _ _ _ _ 71 _ _)
            refine xi_iload (by decide +kernel : decode mX3_landing.2.1 71 = .ok (.iload 5, 2)) rfl (?_ : XW _ _ _ _ _ _ _ 73 _ _)
            obtain ⟨s1, vc⟩ := vc
            refine xi_iald (by decide +kernel : decode mX3_landing.2.1 73 = .ok (.iaload, 1)) (xPth_s1 ha) (by omega) s1 (?_ : XW _ _ _ _ _ _ _ 74 _ _)
            exact xi_iret (by decide +kernel : decode mX3_landing.2.1 74 = .ok (.ireturn, 1)) rfl rfl vc
          · replace vc := vc.2 c
            refine xi_iload (by decide +kernel : decode mX3_landing.2.1 64 = .ok (.iload 5, 2)) rfl (?_ : XW _ _ _ _ _ _ _ 66 _ _)
            exact xi_iret (by decide +kernel : decode mX3_landing.2.1 66 = .ok (.ireturn, 1)) rfl rfl vc
    · replace vc := vc.2 c
      refine xi_iload_n (by decide +kernel : decode mX3_landing.2.1 20 = .ok (.iload_n 1, 1)) rfl rfl (?_ : XW _ _ _ _ _ _ _ 21 _ _)
      exact xi_iret (by decide +kernel : decode mX3_landing.2.1 21 = .ok (.ireturn, 1)) rfl rfl vc

set_option maxRecDepth 20000 in
theorem v_X3_lay_0 {h : XH} {Q : Option Value → XH → Prop} {X : String → XH → Prop} (n a : Nat) (ha : xPth a (xP h)) (hn : a + 4 ≤ n) (r : Nat) (hr : xRul r (xP h)) (hnr : r + 9 ≤ n)  (ed : Int32)
    (vc : XW (xrm 3 0 0) mX3_lay (xE n Q X 0 0) n 0 0 h 13 [some (.ref a), none, some (.int ed), some (.int (if 100 < (xI h r 0) then 100 else (xI h r 0))), some (.int 0), none, none] []) :
    XW (xrm 3 0 0) mX3_lay (xE n Q X 0 0) n 0 0 h 0 [some (.ref a), some (.ref r), some (.int ed), none, none, none, none] [] := by
  refine xi_aload_n (by decide +kernel : decode mX3_lay.2.1 0 = .ok (.aload_n 1, 1)) rfl rfl (?_ : XW _ _ _ _ _ _ _ 1 _ _)
  refine xi_getI (by decide +kernel : decode mX3_lay.2.1 1 = .ok (.getfield 44, 3)) fX3_44 (xRul_s0 hr) (by omega) rfl (?_ : XW _ _ _ _ _ _ _ 4 _ _)
  refine xi_bipush (v := 100) (by decide +kernel : decode mX3_lay.2.1 4 = .ok (.bipush 100, 2)) (by decide) (?_ : XW _ _ _ _ _ _ _ 6 _ _)
  refine xi_mmin (by decide +kernel : decode mX3_lay.2.1 6 = .ok (.invokestatic 47, 3)) kX3_47.2.1 (by decide) (Nat.le_of_ble_eq_true rfl) (?_ : XW _ _ _ _ _ _ _ 9 _ _)
  refine xi_istore_n (ls' := [some (.ref a), some (.ref r), some (.int ed), some (.int (if 100 < (xI h r 0) then 100 else (xI h r 0))), none, none, none]) (by decide +kernel : decode mX3_lay.2.1 9 = .ok (.istore_n 3, 1)) rfl (by decide) rfl (?_ : XW _ _ _ _ _ _ _ 10 _ _)
  refine xi_iconst (v := 0) (by decide +kernel : decode mX3_lay.2.1 10 = .ok (.iconst 0, 1)) (by decide) (?_ : XW _ _ _ _ _ _ _ 11 _ _)
  refine xi_istore (ls' := [some (.ref a), some (.ref r), some (.int ed), some (.int (if 100 < (xI h r 0) then 100 else (xI h r 0))), some (.int 0), none, none]) (by decide +kernel : decode mX3_lay.2.1 11 = .ok (.istore 4, 2)) (by decide) rfl (?_ : XW _ _ _ _ _ _ _ 13 _ _)
  refine xw_drop 1 (ls' := [some (.ref a), none, some (.int ed), some (.int (if 100 < (xI h r 0) then 100 else (xI h r 0))), some (.int 0), none, none]) rfl ?_
  exact vc

set_option maxRecDepth 20000 in
theorem v_X3_lay_13 {h : XH} {Q : Option Value → XH → Prop} {X : String → XH → Prop} (n a : Nat) (ha : xPth a (xP h)) (hn : a + 4 ≤ n) (r : Nat) (hr : xRul r (xP h)) (hnr : r + 9 ≤ n)  (x2 : Int32) (x3 : Int32) (x4 : Int32)
    (vc : (x3 < x4 → Q none h) ∧ (¬ x3 < x4 → XW (xrm 3 0 0) mX3_lay (xE n Q X 0 0) n 0 0 h 22 [some (.ref a), none, some (.int x2), some (.int x3), some (.int x4), some (.int 0), none] [])) :
    XW (xrm 3 0 0) mX3_lay (xE n Q X 0 0) n 0 0 h 13 [some (.ref a), none, some (.int x2), some (.int x3), some (.int x4), none, none] [] := by
  refine xi_iload (by decide +kernel : decode mX3_lay.2.1 13 = .ok (.iload 4, 2)) rfl (?_ : XW _ _ _ _ _ _ _ 15 _ _)
  refine xi_iload_n (by decide +kernel : decode mX3_lay.2.1 15 = .ok (.iload_n 3, 1)) rfl rfl (?_ : XW _ _ _ _ _ _ _ 16 _ _)
  refine xi_icmp_gt (by decide +kernel : decode mX3_lay.2.1 16 = .ok (.if_icmp .gt 67, 3)) (by decide) (fun c => (?_ : XW _ _ _ _ _ _ _ 83 _ _)) (fun c => (?_ : XW _ _ _ _ _ _ _ 19 _ _))
  · replace vc := vc.1 c
    exact xi_vret (by decide +kernel : decode mX3_lay.2.1 83 = .ok (.return_, 1)) rfl vc
  · replace vc := vc.2 c
    refine xi_iconst (v := 0) (by decide +kernel : decode mX3_lay.2.1 19 = .ok (.iconst 0, 1)) (by decide) (?_ : XW _ _ _ _ _ _ _ 20 _ _)
    refine xi_istore (ls' := [some (.ref a), none, some (.int x2), some (.int x3), some (.int x4), some (.int 0), none]) (by decide +kernel : decode mX3_lay.2.1 20 = .ok (.istore 5, 2)) (by decide) rfl (?_ : XW _ _ _ _ _ _ _ 22 _ _)
    exact vc

set_option maxRecDepth 20000 in
theorem v_X3_lay_22 {h : XH} {Q : Option Value → XH → Prop} {X : String → XH → Prop} (n a : Nat) (ha : xPth a (xP h)) (hn : a + 4 ≤ n) (r : Nat) (hr : xRul r (xP h)) (hnr : r + 9 ≤ n)  (x2 : Int32) (x3 : Int32) (x4 : Int32) (x5 : Int32)
    (vc : (7 ≤ x5 → XW (xrm 3 0 0) mX3_lay (xE n Q X 0 0) n 0 0 h 13 [some (.ref a), none, some (.int x2), some (.int x3), some (.int (x4 + 1)), none, none] []) ∧ (¬ 7 ≤ x5 → (¬ x4 = x3 → (vp_in ((x4 * 7) + x5) 707) ∧ (∃ Q1, XSpec mX3_landing 2 0 0 n n [.ref a, .int x4, .int (xI h (a + 2) ((x4 * 7) + x5).toNatClampNeg), .int x3, .int x2] h Q1 xno ∧ ∀ v h1, Q1 v h1 → ∃ r1 : Int32, v = some (.int r1) ∧ ((vp_in ((x4 * 7) + x5) 707) ∧ (XW (xrm 3 0 0) mX3_lay (xE n Q X 0 0) n 0 0 (xSI (a + 3) (va_up (xI h1 (a + 3)) ((x4 * 7) + x5).toNatClampNeg r1) h1) 22 [some (.ref a), none, some (.int x2), some (.int x3), some (.int x4), some (.int (x5 + 1)), none] [])))) ∧ (x4 = x3 → (vp_in ((x4 * 7) + x5) 707) ∧ (XW (xrm 3 0 0) mX3_lay (xE n Q X 0 0) n 0 0 (xSI (a + 3) (va_up (xI h (a + 3)) ((x4 * 7) + x5).toNatClampNeg x3) h) 22 [some (.ref a), none, some (.int x2), some (.int x3), some (.int x4), some (.int (x5 + 1)), none] [])))) :
    XW (xrm 3 0 0) mX3_lay (xE n Q X 0 0) n 0 0 h 22 [some (.ref a), none, some (.int x2), some (.int x3), some (.int x4), some (.int x5), none] [] := by
  refine xi_iload (by decide +kernel : decode mX3_lay.2.1 22 = .ok (.iload 5, 2)) rfl (?_ : XW _ _ _ _ _ _ _ 24 _ _)
  refine xi_bipush (v := 7) (by decide +kernel : decode mX3_lay.2.1 24 = .ok (.bipush 7, 2)) (by decide) (?_ : XW _ _ _ _ _ _ _ 26 _ _)
  refine xi_icmp_ge (by decide +kernel : decode mX3_lay.2.1 26 = .ok (.if_icmp .ge 51, 3)) (by decide) (fun c => (?_ : XW _ _ _ _ _ _ _ 77 _ _)) (fun c => (?_ : XW _ _ _ _ _ _ _ 29 _ _))
  · replace vc := vc.1 c
    refine xi_iinc (v := x4 + 1) (ls' := [some (.ref a), none, some (.int x2), some (.int x3), some (.int (x4 + 1)), some (.int x5), none]) (by decide +kernel : decode mX3_lay.2.1 77 = .ok (.iinc 4 1, 3)) rfl rfl (by decide) rfl (?_ : XW _ _ _ _ _ _ _ 80 _ _)
    refine xi_goto (by decide +kernel : decode mX3_lay.2.1 80 = .ok (.goto (-67), 3)) (by decide) (?_ : XW _ _ _ _ _ _ _ 13 _ _)
    refine xw_drop 5 (ls' := [some (.ref a), none, some (.int x2), some (.int x3), some (.int (x4 + 1)), none, none]) rfl ?_
    exact vc
  · replace vc := vc.2 c
    refine xi_iload (by decide +kernel : decode mX3_lay.2.1 29 = .ok (.iload 4, 2)) rfl (?_ : XW _ _ _ _ _ _ _ 31 _ _)
    refine xi_bipush (v := 7) (by decide +kernel : decode mX3_lay.2.1 31 = .ok (.bipush 7, 2)) (by decide) (?_ : XW _ _ _ _ _ _ _ 33 _ _)
    refine xi_imul (by decide +kernel : decode mX3_lay.2.1 33 = .ok (.imul, 1)) (?_ : XW _ _ _ _ _ _ _ 34 _ _)
    refine xi_iload (by decide +kernel : decode mX3_lay.2.1 34 = .ok (.iload 5, 2)) rfl (?_ : XW _ _ _ _ _ _ _ 36 _ _)
    refine xi_iadd (by decide +kernel : decode mX3_lay.2.1 36 = .ok (.iadd, 1)) (?_ : XW _ _ _ _ _ _ _ 37 _ _)
    refine xi_istore (ls' := [some (.ref a), none, some (.int x2), some (.int x3), some (.int x4), some (.int x5), some (.int ((x4 * 7) + x5))]) (by decide +kernel : decode mX3_lay.2.1 37 = .ok (.istore 6, 2)) (by decide) rfl (?_ : XW _ _ _ _ _ _ _ 39 _ _)
    refine xi_aload_n (by decide +kernel : decode mX3_lay.2.1 39 = .ok (.aload_n 0, 1)) rfl rfl (?_ : XW _ _ _ _ _ _ _ 40 _ _)
    refine xi_getR (y := a + 3) (by decide +kernel : decode mX3_lay.2.1 40 = .ok (.getfield 18, 3)) fX3_18 (xPth_s0 ha) (by omega) rfl ha.2.2.2 (?_ : XW _ _ _ _ _ _ _ 43 _ _)
    refine xi_iload (by decide +kernel : decode mX3_lay.2.1 43 = .ok (.iload 6, 2)) rfl (?_ : XW _ _ _ _ _ _ _ 45 _ _)
    refine xi_iload (by decide +kernel : decode mX3_lay.2.1 45 = .ok (.iload 4, 2)) rfl (?_ : XW _ _ _ _ _ _ _ 47 _ _)
    refine xi_iload_n (by decide +kernel : decode mX3_lay.2.1 47 = .ok (.iload_n 3, 1)) rfl rfl (?_ : XW _ _ _ _ _ _ _ 48 _ _)
    refine xi_icmp_ne (by decide +kernel : decode mX3_lay.2.1 48 = .ok (.if_icmp .ne 7, 3)) (by decide) (fun c => (?_ : XW _ _ _ _ _ _ _ 55 _ _)) (fun c => (?_ : XW _ _ _ _ _ _ _ 51 _ _))
    · replace vc := vc.1 c
      refine xi_aload_n (by decide +kernel : decode mX3_lay.2.1 55 = .ok (.aload_n 0, 1)) rfl rfl (?_ : XW _ _ _ _ _ _ _ 56 _ _)
      refine xi_iload (by decide +kernel : decode mX3_lay.2.1 56 = .ok (.iload 4, 2)) rfl (?_ : XW _ _ _ _ _ _ _ 58 _ _)
      refine xi_aload_n (by decide +kernel : decode mX3_lay.2.1 58 = .ok (.aload_n 0, 1)) rfl rfl (?_ : XW _ _ _ _ _ _ _ 59 _ _)
      refine xi_getR (y := a + 2) (by decide +kernel : decode mX3_lay.2.1 59 = .ok (.getfield 15, 3)) fX3_15 (xPth_s0 ha) (by omega) rfl ha.2.2.1 (?_ : XW _ _ _ _ _ _ _ 62 _ _)
      refine xi_iload (by decide +kernel : decode mX3_lay.2.1 62 = .ok (.iload 6, 2)) rfl (?_ : XW _ _ _ _ _ _ _ 64 _ _)
      obtain ⟨s1, vc⟩ := vc
      refine xi_iald (by decide +kernel : decode mX3_lay.2.1 64 = .ok (.iaload, 1)) (xPth_s2 ha) (by omega) s1 (?_ : XW _ _ _ _ _ _ _ 65 _ _)
      refine xi_iload_n (by decide +kernel : decode mX3_lay.2.1 65 = .ok (.iload_n 3, 1)) rfl rfl (?_ : XW _ _ _ _ _ _ _ 66 _ _)
      refine xi_iload_n (by decide +kernel : decode mX3_lay.2.1 66 = .ok (.iload_n 2, 1)) rfl rfl (?_ : XW _ _ _ _ _ _ _ 67 _ _)
      obtain ⟨Q1, sp, vc⟩ := vc
      refine xi_callV (b := 0) (bs := 0) (As := [.int x4, .int (xI h (a + 2) ((x4 * 7) + x5).toNatClampNeg), .int x3, .int x2]) (st := [.int ((x4 * 7) + x5), .ref (a + 3)]) (by decide +kernel : decode mX3_lay.2.1 67 = .ok (.invokevirtual 63, 3)) kX3_63 rfl (xPth_s0 ha) (by omega) rfl sp (by decide) (by decide) (Nat.le_of_ble_eq_true rfl) (by omega) (fun v9 h1 hq9 => ?_)
      obtain ⟨r1, e9, vc⟩ := vc v9 h1 hq9
      subst e9
      show XW _ _ _ _ _ _ _ 70 _ [.int r1, .int ((x4 * 7) + x5), .ref (a + 3)]
      obtain ⟨s1, vc⟩ := vc
      refine xi_iast (by decide +kernel : decode mX3_lay.2.1 70 = .ok (.iastore, 1)) (xPth_s3 ha) (by omega) s1 (?_ : XW _ _ _ _ _ _ (xSI (a + 3) (va_up (xI h1 (a + 3)) ((x4 * 7) + x5).toNatClampNeg r1) h1) 71 _ _)
      refine xi_iinc (v := x5 + 1) (ls' := [some (.ref a), none, some (.int x2), some (.int x3), some (.int x4), some (.int (x5 + 1)), some (.int ((x4 * 7) + x5))]) (by decide +kernel : decode mX3_lay.2.1 71 = .ok (.iinc 5 1, 3)) rfl rfl (by decide) rfl (?_ : XW _ _ _ _ _ _ _ 74 _ _)
      refine xi_goto (by decide +kernel : decode mX3_lay.2.1 74 = .ok (.goto (-52), 3)) (by decide) (?_ : XW _ _ _ _ _ _ _ 22 _ _)
      refine xw_drop 6 (ls' := [some (.ref a), none, some (.int x2), some (.int x3), some (.int x4), some (.int (x5 + 1)), none]) rfl ?_
      exact vc
    · replace vc := vc.2 c
      refine xi_iload_n (by decide +kernel : decode mX3_lay.2.1 51 = .ok (.iload_n 3, 1)) rfl rfl (?_ : XW _ _ _ _ _ _ _ 52 _ _)
      refine xi_goto (by decide +kernel : decode mX3_lay.2.1 52 = .ok (.goto 18, 3)) (by decide) (?_ : XW _ _ _ _ _ _ _ 70 _ _)
      obtain ⟨s1, vc⟩ := vc
      refine xi_iast (by decide +kernel : decode mX3_lay.2.1 70 = .ok (.iastore, 1)) (xPth_s3 ha) (by omega) s1 (?_ : XW _ _ _ _ _ _ (xSI (a + 3) (va_up (xI h (a + 3)) ((x4 * 7) + x5).toNatClampNeg x3) h) 71 _ _)
      refine xi_iinc (v := x5 + 1) (ls' := [some (.ref a), none, some (.int x2), some (.int x3), some (.int x4), some (.int (x5 + 1)), some (.int ((x4 * 7) + x5))]) (by decide +kernel : decode mX3_lay.2.1 71 = .ok (.iinc 5 1, 3)) rfl rfl (by decide) rfl (?_ : XW _ _ _ _ _ _ _ 74 _ _)
      refine xi_goto (by decide +kernel : decode mX3_lay.2.1 74 = .ok (.goto (-52), 3)) (by decide) (?_ : XW _ _ _ _ _ _ _ 22 _ _)
      refine xw_drop 6 (ls' := [some (.ref a), none, some (.int x2), some (.int x3), some (.int x4), some (.int (x5 + 1)), none]) rfl ?_
      exact vc

/-- only the cells of S have changed -/
def xfs (S : Nat → Prop) (h h' : XH) : Prop := ∀ c, ¬ S c → xI h' c = xI h c ∧ xL h' c = xL h c ∧ xP h' c = xP h c
theorem xfs.rfl {S : Nat → Prop} {h : XH} : xfs S h h := fun _ _ => ⟨Eq.refl _, Eq.refl _, Eq.refl _⟩
theorem xfs.trans {S : Nat → Prop} {h h1 h2 : XH} (a : xfs S h h1) (b : xfs S h1 h2) : xfs S h h2 := fun c hc => by
  obtain ⟨a1, a2, a3⟩ := a c hc
  obtain ⟨b1, b2, b3⟩ := b c hc
  exact ⟨b1.trans a1, b2.trans a2, b3.trans a3⟩
theorem xfs.mono {S S' : Nat → Prop} {h h1 : XH} (a : xfs S h h1) (hs : ∀ c, S c → S' c) : xfs S' h h1 := fun c hc => a c (fun z => hc (hs c z))
theorem xfs.SI {S : Nat → Prop} {a : Nat} {f : Nat → Int32} {h : XH} (hs : S a) : xfs S h (xSI a f h) := fun c hc => ⟨va_up_of _ _ (fun z => hc (z ▸ hs)), Eq.refl _, Eq.refl _⟩
theorem xfs.SL {S : Nat → Prop} {a : Nat} {f : Nat → Int64} {h : XH} (hs : S a) : xfs S h (xSL a f h) := fun c hc => ⟨Eq.refl _, va_up_of _ _ (fun z => hc (z ▸ hs)), Eq.refl _⟩
theorem xfr.fs {S : Nat → Prop} {lo hi : Nat} {h h1 : XH} (a : xfr lo hi h h1) (hs : ∀ c, lo ≤ c → c < hi → S c) : xfs S h h1 := fun c hc => a c (by
  rcases Nat.lt_or_ge c lo with c1 | c1
  · exact Or.inl c1
  · rcases Nat.lt_or_ge c hi with c2 | c2
    · exact absurd (hs c c1 c2) hc
    · exact Or.inr c2)
theorem xRul.fs {S : Nat → Prop} {r : Nat} {h h' : XH} (hf : xfs S h h') (h0 : ¬ S r) (h1 : ¬ S (r + 1)) (hr : xRul r (xP h)) : xRul r (xP h') := by
  obtain ⟨h1', h2, h3, h4, h5, h6, h7, h8, h9, h10⟩ := hr
  have e1 := (hf r h0).2.2
  have e2 := (hf (r + 1) h1).2.2
  exact ⟨h1', by rw [e1]; exact h2, by rw [e1]; exact h3, by rw [e1]; exact h4, by rw [e1]; exact h5, by rw [e1]; exact h6, h7, by rw [e2]; exact h8, by rw [e2]; exact h9, by rw [e2]; exact h10⟩
theorem xPth.fs {S : Nat → Prop} {a : Nat} {h h' : XH} (hf : xfs S h h') (h0 : ¬ S a) (ha : xPth a (xP h)) : xPth a (xP h') := by
  obtain ⟨h1, h2, h3, h4⟩ := ha
  have e1 := (hf a h0).2.2
  exact ⟨h1, by rw [e1]; exact h2, by rw [e1]; exact h3, by rw [e1]; exact h4⟩
/-- the exits as a table: where the foot of an exit leads -/
def jmps (ft hd : Nat → Nat) : Nat → Nat → Nat
  | 0 => fun _ => 0
  | k + 1 => va_up (jmps ft hd k) (ft k) (hd k)
def jab (J : Nat → Nat) (last s : Nat) : Nat := sN (fun j => if J j = 0 then 0 else 1) (s + 1) (last - s)
def farAt (C : Nat → Int32) (len last : Nat) (J : Nat → Nat) (s g : Nat) : Int32 := farC C len (nI g) (nI s) (nI last) (nI (jab J last s))
def hdOf (J : Nat → Nat) (t : Nat) : Nat := if J t = 0 then t else J t
def land (J : Nat → Nat) (last E s : Nat) (z : Int) : Nat := if ((s : Int) + z).toNat ≤ last then hdOf J ((s : Int) + z).toNat else if E = 0 then s else if E = 1 then hdOf J (2 * last - ((s : Int) + z).toNat) else hdOf J last
def goTo (J : Nat → Nat) (last E : Nat) (far : Nat → Nat → Int32) (s g : Nat) : Nat := if s = last then last else land J last E s (far s g).toInt
theorem max0 {z : Int} (h1 : -2147483648 ≤ z) (h2 : z < 2147483648) : (if 0 < iz z then iz z else 0) = nI z.toNat := by
  have e0 : (0 : Int32) = iz 0 := rfl
  by_cases c : 0 < z
  · rw [if_pos (by rw [e0, iz_lt (by omega) (by omega) h1 h2]; exact c), iz_nI, Int.toNat_of_nonneg (by omega)]
  · rw [if_neg (by rw [e0, iz_lt (by omega) (by omega) h1 h2]; exact c), show z.toNat = 0 by omega]
    rfl
theorem s_X3_landing (n a : Nat) (h : XH) (ha : xPth a (xP h)) (hn : a + 4 ≤ n) (J : Nat → Nat) (last E s : Nat) (z : Int) (hl : last ≤ 100) (hE : E ≤ 2) (hs : s ≤ last) (hz : -200 ≤ z ∧ z ≤ 200) (hJ : ∀ j, j ≤ last → xI h (a + 1) j = nI (J j) ∧ J j ≤ last) : XSpec mX3_landing 2 0 0 n n [.ref a, .int (nI s), .int (iz z), .int (nI last), .int (nI E)] h (xq (some (.int (nI (land J last E s z)))) h) xno := by
  refine XSpec.of rfl (by decide) (Nat.le_of_ble_eq_true rfl) rfl (v_X3_landing_0 n a ha hn (nI s) (iz z) (nI last) (nI E) ?_)
  have e1 : (if 0 < nI s + iz z then nI s + iz z else 0) = nI ((s : Int) + z).toNat := by
    rw [iz_nI, iz_add]; exact max0 (by omega) (by omega)
  rw [e1]
  generalize et : ((s : Int) + z).toNat = t
  have ht : t ≤ 300 := by omega
  have e2 : (if 0 < 2 * nI last - nI t then 2 * nI last - nI t else 0) = nI (2 * last - t) := by
    have : (2 : Int32) * nI last = iz (2 * last) := by
      rw [show (2 : Int32) = nI 2 from rfl, pk_mul, iz_nI]; congr 1
    rw [this, iz_nI t, iz_sub, max0 (by omega) (by omega)]
    congr 1; omega
  rw [e2]
  have key : ∀ q, q ≤ last → ∀ w, w = hdOf J q → (¬ 101 ≤ nI q) ∧ vp_in (nI q) 101 ∧ (¬ xI h (a + 1) (nI q).toNatClampNeg = 0 → xq (some (.int (nI w))) h (some (.int (xI h (a + 1) (nI q).toNatClampNeg))) h) ∧ (xI h (a + 1) (nI q).toNatClampNeg = 0 → xq (some (.int (nI w))) h (some (.int (nI q))) h) := by
    intro q hq w hw
    obtain ⟨g1, g2⟩ := hJ q hq
    rw [nI_clamp (by omega), g1, hw]
    unfold hdOf
    refine ⟨nI_ge (a := q) (b := 101) (by omega) (by omega), vp_in_nI (by omega) (by omega), fun c => ⟨?_, rfl⟩, fun c => ⟨?_, rfl⟩⟩
    · rw [if_neg (fun z => c (by rw [z]; rfl))]
    · rw [if_pos ((nI_eq (a := J q) (b := 0) (by omega) (by omega)).1 c)]
  unfold land
  rw [et]
  refine ⟨fun c => ?_, fun c => ?_⟩
  · have ct : t ≤ last := (nI_leI (by omega) (by omega)).1 c
    obtain ⟨k1, k2, k3, k4⟩ := key t ct _ rfl
    rw [if_pos ct]
    exact ⟨fun z => absurd z k1, fun _ => ⟨k2, fun z => ⟨k2, k3 z⟩, k4⟩⟩
  · have ct : ¬ t ≤ last := fun z => c ((nI_leI (by omega) (by omega)).2 z)
    rw [if_neg ct]
    refine ⟨fun c0 => ?_, fun c0 => ?_⟩
    · have d0 : ¬ E = 0 := fun z => c0 (by rw [z]; rfl)
      rw [if_neg d0]
      refine ⟨fun c1 => ?_, fun c1 => ?_⟩
      · have d1 : ¬ E = 1 := fun z => c1 (by rw [z]; rfl)
        rw [if_neg d1]
        obtain ⟨k1, k2, k3, k4⟩ := key last (Nat.le_refl _) _ rfl
        exact ⟨fun z => absurd z k1, fun _ => ⟨k2, fun z => ⟨k2, k3 z⟩, k4⟩⟩
      · have d1 : E = 1 := (nI_eq (a := E) (b := 1) (by omega) (by omega)).1 c1
        rw [if_pos d1]
        obtain ⟨k1, k2, k3, k4⟩ := key (2 * last - t) (by omega) _ rfl
        exact ⟨fun z => absurd z k1, fun _ => ⟨k2, fun z => ⟨k2, k3 z⟩, k4⟩⟩
    · have d0 : E = 0 := (nI_eq (a := E) (b := 0) (by omega) (by omega)).1 c0
      rw [if_pos d0]
      exact ⟨rfl, rfl⟩
