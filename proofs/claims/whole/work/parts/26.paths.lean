/-! THE BOARD: where one goes -/
set_option maxRecDepth 20000 in
theorem v_X3_takeFeet_0 {h : XH} {Q : Option Value → XH → Prop} {X : String → XH → Prop} (n a : Nat) (ha : xPth a (xP h)) (hn : a + 4 ≤ n) (r : Nat) (hr : xRul r (xP h)) (hnr : r + 9 ≤ n) 
    (vc : XW (xrm 2 0 0) mX3_takeFeet (xE n Q X 0 0) n 0 0 (xSI (a + 1) (fl 101 0 (xI h (a + 1))) h) 10 [some (.ref a), some (.ref r), some (.int 0)] []) :
    XW (xrm 2 0 0) mX3_takeFeet (xE n Q X 0 0) n 0 0 h 0 [some (.ref a), some (.ref r), none] [] := by
  refine xi_aload_n (by decide +kernel : decode mX3_takeFeet.2.1 0 = .ok (.aload_n 0, 1)) rfl rfl (?_ : XW _ _ _ _ _ _ _ 1 _ _)
  refine xi_getR (y := a + 1) (by decide +kernel : decode mX3_takeFeet.2.1 1 = .ok (.getfield 9, 3)) fX3_9 (xPth_s0 ha) (by omega) rfl ha.2.1 (?_ : XW _ _ _ _ _ _ _ 4 _ _)
  refine xi_iconst (v := 0) (by decide +kernel : decode mX3_takeFeet.2.1 4 = .ok (.iconst 0, 1)) (by decide) (?_ : XW _ _ _ _ _ _ _ 5 _ _)
  refine xi_callS (b := 0) (bs := 0) (As := [.ref (a + 1), .int 0]) (st := []) (by decide +kernel : decode mX3_takeFeet.2.1 5 = .ok (.invokestatic 21, 3)) kX3_21 rfl rfl (s_fillI n h (a + 1) 101 (xPth_s1 ha) (by omega) (by decide) 0) (by decide) (by decide) (Nat.le_of_ble_eq_true rfl) (by omega) (fun v9 h9 hq9 => ?_)
  rw [hq9.1, hq9.2]
  show XW _ _ _ _ _ _ _ 8 _ []
  refine xi_iconst (v := 0) (by decide +kernel : decode mX3_takeFeet.2.1 8 = .ok (.iconst 0, 1)) (by decide) (?_ : XW _ _ _ _ _ _ _ 9 _ _)
  refine xi_istore_n (ls' := [some (.ref a), some (.ref r), some (.int 0)]) (by decide +kernel : decode mX3_takeFeet.2.1 9 = .ok (.istore_n 2, 1)) rfl (by decide) rfl (?_ : XW _ _ _ _ _ _ _ 10 _ _)
  exact vc

set_option maxRecDepth 20000 in
theorem v_X3_takeFeet_10 {h : XH} {Q : Option Value → XH → Prop} {X : String → XH → Prop} (n a : Nat) (ha : xPth a (xP h)) (hn : a + 4 ≤ n) (r : Nat) (hr : xRul r (xP h)) (hnr : r + 9 ≤ n)  (x2 : Int32)
    (vc : ((xI h r 7) ≤ x2 → Q none h) ∧ (¬ (xI h r 7) ≤ x2 → XW (xrm 2 0 0) mX3_takeFeet (xE n Q X 0 0) n 0 0 (xSI (a + 1) (wr (xI h (a + 1)) 101 (rd (xI h (r + 6)) 24 0 x2) (rd (xI h (r + 7)) 24 0 x2)) h) 10 [some (.ref a), some (.ref r), some (.int (x2 + 1))] [])) :
    XW (xrm 2 0 0) mX3_takeFeet (xE n Q X 0 0) n 0 0 h 10 [some (.ref a), some (.ref r), some (.int x2)] [] := by
  refine xi_iload_n (by decide +kernel : decode mX3_takeFeet.2.1 10 = .ok (.iload_n 2, 1)) rfl rfl (?_ : XW _ _ _ _ _ _ _ 11 _ _)
  refine xi_aload_n (by decide +kernel : decode mX3_takeFeet.2.1 11 = .ok (.aload_n 1, 1)) rfl rfl (?_ : XW _ _ _ _ _ _ _ 12 _ _)
  refine xi_getI (by decide +kernel : decode mX3_takeFeet.2.1 12 = .ok (.getfield 27, 3)) fX3_27 (xRul_s0 hr) (by omega) rfl (?_ : XW _ _ _ _ _ _ _ 15 _ _)
  refine xi_icmp_ge (by decide +kernel : decode mX3_takeFeet.2.1 15 = .ok (.if_icmp .ge 23, 3)) (by decide) (fun c => (?_ : XW _ _ _ _ _ _ _ 38 _ _)) (fun c => (?_ : XW _ _ _ _ _ _ _ 18 _ _))
  · replace vc := vc.1 c
    exact xi_vret (by decide +kernel : decode mX3_takeFeet.2.1 38 = .ok (.return_, 1)) rfl vc
  · replace vc := vc.2 c
    refine xi_aload_n (by decide +kernel : decode mX3_takeFeet.2.1 18 = .ok (.aload_n 0, 1)) rfl rfl (?_ : XW _ _ _ _ _ _ _ 19 _ _)
    refine xi_aload_n (by decide +kernel : decode mX3_takeFeet.2.1 19 = .ok (.aload_n 1, 1)) rfl rfl (?_ : XW _ _ _ _ _ _ _ 20 _ _)
    refine xi_iload_n (by decide +kernel : decode mX3_takeFeet.2.1 20 = .ok (.iload_n 2, 1)) rfl rfl (?_ : XW _ _ _ _ _ _ _ 21 _ _)
    refine xi_callV (b := 0) (bs := 0) (As := [.int x2]) (st := [.ref a]) (by decide +kernel : decode mX3_takeFeet.2.1 21 = .ok (.invokevirtual 33, 3)) kX3_33 rfl (xRul_s0 hr) (by omega) rfl (s_X5_footOf n h r hr (by omega) x2) (by decide) (by decide) (Nat.le_of_ble_eq_true rfl) (by omega) (fun v9 h9 hq9 => ?_)
    rw [hq9.1, hq9.2]
    show XW _ _ _ _ _ _ _ 24 _ [.int (rd (xI h (r + 6)) 24 0 x2), .ref a]
    refine xi_aload_n (by decide +kernel : decode mX3_takeFeet.2.1 24 = .ok (.aload_n 1, 1)) rfl rfl (?_ : XW _ _ _ _ _ _ _ 25 _ _)
    refine xi_iload_n (by decide +kernel : decode mX3_takeFeet.2.1 25 = .ok (.iload_n 2, 1)) rfl rfl (?_ : XW _ _ _ _ _ _ _ 26 _ _)
    refine xi_callV (b := 0) (bs := 0) (As := [.int x2]) (st := [.int (rd (xI h (r + 6)) 24 0 x2), .ref a]) (by decide +kernel : decode mX3_takeFeet.2.1 26 = .ok (.invokevirtual 37, 3)) kX3_37 rfl (xRul_s0 hr) (by omega) rfl (s_X5_headOf n h r hr (by omega) x2) (by decide) (by decide) (Nat.le_of_ble_eq_true rfl) (by omega) (fun v9 h9 hq9 => ?_)
    rw [hq9.1, hq9.2]
    show XW _ _ _ _ _ _ _ 29 _ [.int (rd (xI h (r + 7)) 24 0 x2), .int (rd (xI h (r + 6)) 24 0 x2), .ref a]
    refine xi_callV (b := 0) (bs := 0) (As := [.int (rd (xI h (r + 6)) 24 0 x2), .int (rd (xI h (r + 7)) 24 0 x2)]) (st := []) (by decide +kernel : decode mX3_takeFeet.2.1 29 = .ok (.invokevirtual 40, 3)) kX3_40 rfl (xPth_s0 ha) (by omega) rfl (s_X3_putFoot n h a ha (by omega) (rd (xI h (r + 6)) 24 0 x2) (rd (xI h (r + 7)) 24 0 x2)) (by decide) (by decide) (Nat.le_of_ble_eq_true rfl) (by omega) (fun v9 h9 hq9 => ?_)
    rw [hq9.1, hq9.2]
    show XW _ _ _ _ _ _ _ 32 _ []
    refine xi_iinc (v := x2 + 1) (ls' := [some (.ref a), some (.ref r), some (.int (x2 + 1))]) (by decide +kernel : decode mX3_takeFeet.2.1 32 = .ok (.iinc 2 1, 3)) rfl rfl (by decide) rfl (?_ : XW _ _ _ _ _ _ _ 35 _ _)
    refine xi_goto (by decide +kernel : decode mX3_takeFeet.2.1 35 = .ok (.goto (-25), 3)) (by decide) (?_ : XW _ _ _ _ _ _ _ 10 _ _)
    exact vc

set_option maxRecDepth 20000 in
theorem v_X3_measure_0 {h : XH} {Q : Option Value → XH → Prop} {X : String → XH → Prop} (n a : Nat) (ha : xPth a (xP h)) (hn : a + 4 ≤ n) (r : Nat) (hr : xRul r (xP h)) (hnr : r + 9 ≤ n) 
    (vc : XW (xrm 5 0 0) mX3_measure (xE n Q X 0 0) n 0 0 h 12 [some (.ref a), some (.ref r), some (.int 0), some (.int (if 100 < (xI h r 0) then 100 else (xI h r 0))), none] []) :
    XW (xrm 5 0 0) mX3_measure (xE n Q X 0 0) n 0 0 h 0 [some (.ref a), some (.ref r), none, none, none] [] := by
  refine xi_iconst (v := 0) (by decide +kernel : decode mX3_measure.2.1 0 = .ok (.iconst 0, 1)) (by decide) (?_ : XW _ _ _ _ _ _ _ 1 _ _)
  refine xi_istore_n (ls' := [some (.ref a), some (.ref r), some (.int 0), none, none]) (by decide +kernel : decode mX3_measure.2.1 1 = .ok (.istore_n 2, 1)) rfl (by decide) rfl (?_ : XW _ _ _ _ _ _ _ 2 _ _)
  refine xi_aload_n (by decide +kernel : decode mX3_measure.2.1 2 = .ok (.aload_n 1, 1)) rfl rfl (?_ : XW _ _ _ _ _ _ _ 3 _ _)
  refine xi_getI (by decide +kernel : decode mX3_measure.2.1 3 = .ok (.getfield 44, 3)) fX3_44 (xRul_s0 hr) (by omega) rfl (?_ : XW _ _ _ _ _ _ _ 6 _ _)
  refine xi_bipush (v := 100) (by decide +kernel : decode mX3_measure.2.1 6 = .ok (.bipush 100, 2)) (by decide) (?_ : XW _ _ _ _ _ _ _ 8 _ _)
  refine xi_mmin (by decide +kernel : decode mX3_measure.2.1 8 = .ok (.invokestatic 47, 3)) kX3_47.2.1 (by decide) (Nat.le_of_ble_eq_true rfl) (?_ : XW _ _ _ _ _ _ _ 11 _ _)
  refine xi_istore_n (ls' := [some (.ref a), some (.ref r), some (.int 0), some (.int (if 100 < (xI h r 0) then 100 else (xI h r 0))), none]) (by decide +kernel : decode mX3_measure.2.1 11 = .ok (.istore_n 3, 1)) rfl (by decide) rfl (?_ : XW _ _ _ _ _ _ _ 12 _ _)
  exact vc

set_option maxRecDepth 20000 in
theorem v_X3_measure_12 {h : XH} {Q : Option Value → XH → Prop} {X : String → XH → Prop} (n a : Nat) (ha : xPth a (xP h)) (hn : a + 4 ≤ n) (r : Nat) (hr : xRul r (xP h)) (hnr : r + 9 ≤ n)  (x2 : Int32) (x3 : Int32)
    (vc : (x3 < 0 → Q none h) ∧ (¬ x3 < 0 → XW (xrm 5 0 0) mX3_measure (xE n Q X 0 0) n 0 0 h 19 [some (.ref a), some (.ref r), some (.int x2), some (.int x3), some (.int 0)] [])) :
    XW (xrm 5 0 0) mX3_measure (xE n Q X 0 0) n 0 0 h 12 [some (.ref a), some (.ref r), some (.int x2), some (.int x3), none] [] := by
  refine xi_iload_n (by decide +kernel : decode mX3_measure.2.1 12 = .ok (.iload_n 3, 1)) rfl rfl (?_ : XW _ _ _ _ _ _ _ 13 _ _)
  refine xi_if_lt (by decide +kernel : decode mX3_measure.2.1 13 = .ok (.ifCond .lt 64, 3)) (by decide) (fun c => (?_ : XW _ _ _ _ _ _ _ 77 _ _)) (fun c => (?_ : XW _ _ _ _ _ _ _ 16 _ _))
  · replace vc := vc.1 c
    exact xi_vret (by decide +kernel : decode mX3_measure.2.1 77 = .ok (.return_, 1)) rfl vc
  · replace vc := vc.2 c
    refine xi_iconst (v := 0) (by decide +kernel : decode mX3_measure.2.1 16 = .ok (.iconst 0, 1)) (by decide) (?_ : XW _ _ _ _ _ _ _ 17 _ _)
    refine xi_istore (ls' := [some (.ref a), some (.ref r), some (.int x2), some (.int x3), some (.int 0)]) (by decide +kernel : decode mX3_measure.2.1 17 = .ok (.istore 4, 2)) (by decide) rfl (?_ : XW _ _ _ _ _ _ _ 19 _ _)
    exact vc

set_option maxRecDepth 20000 in
theorem v_X3_measure_19 {h : XH} {Q : Option Value → XH → Prop} {X : String → XH → Prop} (n a : Nat) (ha : xPth a (xP h)) (hn : a + 4 ≤ n) (r : Nat) (hr : xRul r (xP h)) (hnr : r + 9 ≤ n)  (x2 : Int32) (x3 : Int32) (x4 : Int32)
    (vc : (7 ≤ x4 → (vp_in x3 101) ∧ (((xI h (a + 1) x3.toNatClampNeg) = 0 → XW (xrm 5 0 0) mX3_measure (xE n Q X 0 0) n 0 0 h 12 [some (.ref a), some (.ref r), some (.int x2), some (.int (x3 + (-1))), none] []) ∧ (¬ (xI h (a + 1) x3.toNatClampNeg) = 0 → XW (xrm 5 0 0) mX3_measure (xE n Q X 0 0) n 0 0 h 12 [some (.ref a), some (.ref r), some (.int (x2 + 1)), some (.int (x3 + (-1))), none] []))) ∧ (¬ 7 ≤ x4 → ∃ Q1, XSpec mX0_howFar 4 0 0 n n [.ref (r + 1), .int x4, .int x3, .int (xI h r 0), .int x2] h Q1 xno ∧ ∀ v h1, Q1 v h1 → ∃ r1 : Int32, v = some (.int r1) ∧ ((vp_in ((x3 * 7) + x4) 707) ∧ (XW (xrm 5 0 0) mX3_measure (xE n Q X 0 0) n 0 0 (xSI (a + 2) (va_up (xI h1 (a + 2)) ((x3 * 7) + x4).toNatClampNeg r1) h1) 19 [some (.ref a), some (.ref r), some (.int x2), some (.int x3), some (.int (x4 + 1))] [])))) :
    XW (xrm 5 0 0) mX3_measure (xE n Q X 0 0) n 0 0 h 19 [some (.ref a), some (.ref r), some (.int x2), some (.int x3), some (.int x4)] [] := by
  refine xi_iload (by decide +kernel : decode mX3_measure.2.1 19 = .ok (.iload 4, 2)) rfl (?_ : XW _ _ _ _ _ _ _ 21 _ _)
  refine xi_bipush (v := 7) (by decide +kernel : decode mX3_measure.2.1 21 = .ok (.bipush 7, 2)) (by decide) (?_ : XW _ _ _ _ _ _ _ 23 _ _)
  refine xi_icmp_ge (by decide +kernel : decode mX3_measure.2.1 23 = .ok (.if_icmp .ge 36, 3)) (by decide) (fun c => (?_ : XW _ _ _ _ _ _ _ 59 _ _)) (fun c => (?_ : XW _ _ _ _ _ _ _ 26 _ _))
  · replace vc := vc.1 c
    refine xi_aload_n (by decide +kernel : decode mX3_measure.2.1 59 = .ok (.aload_n 0, 1)) rfl rfl (?_ : XW _ _ _ _ _ _ _ 60 _ _)
    refine xi_getR (y := a + 1) (by decide +kernel : decode mX3_measure.2.1 60 = .ok (.getfield 9, 3)) fX3_9 (xPth_s0 ha) (by omega) rfl ha.2.1 (?_ : XW _ _ _ _ _ _ _ 63 _ _)
    refine xi_iload_n (by decide +kernel : decode mX3_measure.2.1 63 = .ok (.iload_n 3, 1)) rfl rfl (?_ : XW _ _ _ _ _ _ _ 64 _ _)
    obtain ⟨s1, vc⟩ := vc
    refine xi_iald (by decide +kernel : decode mX3_measure.2.1 64 = .ok (.iaload, 1)) (xPth_s1 ha) (by omega) s1 (?_ : XW _ _ _ _ _ _ _ 65 _ _)
    refine xi_if_eq (by decide +kernel : decode mX3_measure.2.1 65 = .ok (.ifCond .eq 6, 3)) (by decide) (fun c => (?_ : XW _ _ _ _ _ _ _ 71 _ _)) (fun c => (?_ : XW _ _ _ _ _ _ _ 68 _ _))
    · replace vc := vc.1 c
      refine xi_iinc (v := x3 + (-1)) (ls' := [some (.ref a), some (.ref r), some (.int x2), some (.int (x3 + (-1))), some (.int x4)]) (by decide +kernel : decode mX3_measure.2.1 71 = .ok (.iinc 3 (-1), 3)) rfl rfl (by decide) rfl (?_ : XW _ _ _ _ _ _ _ 74 _ _)
      refine xi_goto (by decide +kernel : decode mX3_measure.2.1 74 = .ok (.goto (-62), 3)) (by decide) (?_ : XW _ _ _ _ _ _ _ 12 _ _)
      refine xw_drop 4 (ls' := [some (.ref a), some (.ref r), some (.int x2), some (.int (x3 + (-1))), none]) rfl ?_
      exact vc
    · replace vc := vc.2 c
      refine xi_iinc (v := x2 + 1) (ls' := [some (.ref a), some (.ref r), some (.int (x2 + 1)), some (.int x3), some (.int x4)]) (by decide +kernel : decode mX3_measure.2.1 68 = .ok (.iinc 2 1, 3)) rfl rfl (by decide) rfl (?_ : XW _ _ _ _ _ _ _ 71 _ _)
      refine xi_iinc (v := x3 + (-1)) (ls' := [some (.ref a), some (.ref r), some (.int (x2 + 1)), some (.int (x3 + (-1))), some (.int x4)]) (by decide +kernel : decode mX3_measure.2.1 71 = .ok (.iinc 3 (-1), 3)) rfl rfl (by decide) rfl (?_ : XW _ _ _ _ _ _ _ 74 _ _)
      refine xi_goto (by decide +kernel : decode mX3_measure.2.1 74 = .ok (.goto (-62), 3)) (by decide) (?_ : XW _ _ _ _ _ _ _ 12 _ _)
      refine xw_drop 4 (ls' := [some (.ref a), some (.ref r), some (.int (x2 + 1)), some (.int (x3 + (-1))), none]) rfl ?_
      exact vc
  · replace vc := vc.2 c
    refine xi_aload_n (by decide +kernel : decode mX3_measure.2.1 26 = .ok (.aload_n 0, 1)) rfl rfl (?_ : XW _ _ _ _ _ _ _ 27 _ _)
    refine xi_getR (y := a + 2) (by decide +kernel : decode mX3_measure.2.1 27 = .ok (.getfield 15, 3)) fX3_15 (xPth_s0 ha) (by omega) rfl ha.2.2.1 (?_ : XW _ _ _ _ _ _ _ 30 _ _)
    refine xi_iload_n (by decide +kernel : decode mX3_measure.2.1 30 = .ok (.iload_n 3, 1)) rfl rfl (?_ : XW _ _ _ _ _ _ _ 31 _ _)
    refine xi_bipush (v := 7) (by decide +kernel : decode mX3_measure.2.1 31 = .ok (.bipush 7, 2)) (by decide) (?_ : XW _ _ _ _ _ _ _ 33 _ _)
    refine xi_imul (by decide +kernel : decode mX3_measure.2.1 33 = .ok (.imul, 1)) (?_ : XW _ _ _ _ _ _ _ 34 _ _)
    refine xi_iload (by decide +kernel : decode mX3_measure.2.1 34 = .ok (.iload 4, 2)) rfl (?_ : XW _ _ _ _ _ _ _ 36 _ _)
    refine xi_iadd (by decide +kernel : decode mX3_measure.2.1 36 = .ok (.iadd, 1)) (?_ : XW _ _ _ _ _ _ _ 37 _ _)
    refine xi_aload_n (by decide +kernel : decode mX3_measure.2.1 37 = .ok (.aload_n 1, 1)) rfl rfl (?_ : XW _ _ _ _ _ _ _ 38 _ _)
    refine xi_getR (y := r + 1) (by decide +kernel : decode mX3_measure.2.1 38 = .ok (.getfield 53, 3)) fX3_53 (xRul_s0 hr) (by omega) rfl hr.2.1 (?_ : XW _ _ _ _ _ _ _ 41 _ _)
    refine xi_iload (by decide +kernel : decode mX3_measure.2.1 41 = .ok (.iload 4, 2)) rfl (?_ : XW _ _ _ _ _ _ _ 43 _ _)
    refine xi_iload_n (by decide +kernel : decode mX3_measure.2.1 43 = .ok (.iload_n 3, 1)) rfl rfl (?_ : XW _ _ _ _ _ _ _ 44 _ _)
    refine xi_aload_n (by decide +kernel : decode mX3_measure.2.1 44 = .ok (.aload_n 1, 1)) rfl rfl (?_ : XW _ _ _ _ _ _ _ 45 _ _)
    refine xi_getI (by decide +kernel : decode mX3_measure.2.1 45 = .ok (.getfield 44, 3)) fX3_44 (xRul_s0 hr) (by omega) rfl (?_ : XW _ _ _ _ _ _ _ 48 _ _)
    refine xi_iload_n (by decide +kernel : decode mX3_measure.2.1 48 = .ok (.iload_n 2, 1)) rfl rfl (?_ : XW _ _ _ _ _ _ _ 49 _ _)
    obtain ⟨Q1, sp, vc⟩ := vc
    refine xi_callV (b := 0) (bs := 0) (As := [.int x4, .int x3, .int (xI h r 0), .int x2]) (st := [.int ((x3 * 7) + x4), .ref (a + 2)]) (by decide +kernel : decode mX3_measure.2.1 49 = .ok (.invokevirtual 57, 3)) kX3_57 rfl (xRul_s1 hr) (by omega) rfl sp (by decide) (by decide) (Nat.le_of_ble_eq_true rfl) (by omega) (fun v9 h1 hq9 => ?_)
    obtain ⟨r1, e9, vc⟩ := vc v9 h1 hq9
    subst e9
    show XW _ _ _ _ _ _ _ 52 _ [.int r1, .int ((x3 * 7) + x4), .ref (a + 2)]
    obtain ⟨s1, vc⟩ := vc
    refine xi_iast (by decide +kernel : decode mX3_measure.2.1 52 = .ok (.iastore, 1)) (xPth_s2 ha) (by omega) s1 (?_ : XW _ _ _ _ _ _ (xSI (a + 2) (va_up (xI h1 (a + 2)) ((x3 * 7) + x4).toNatClampNeg r1) h1) 53 _ _)
    refine xi_iinc (v := x4 + 1) (ls' := [some (.ref a), some (.ref r), some (.int x2), some (.int x3), some (.int (x4 + 1))]) (by decide +kernel : decode mX3_measure.2.1 53 = .ok (.iinc 4 1, 3)) rfl rfl (by decide) rfl (?_ : XW _ _ _ _ _ _ _ 56 _ _)
    refine xi_goto (by decide +kernel : decode mX3_measure.2.1 56 = .ok (.goto (-37), 3)) (by decide) (?_ : XW _ _ _ _ _ _ _ 19 _ _)
    exact vc

set_option maxRecDepth 20000 in
theorem v_X3_landing_0 {h : XH} {Q : Option Value → XH → Prop} {X : String → XH → Prop} (n a : Nat) (ha : xPth a (xP h)) (hn : a + 4 ≤ n)  (sq : Int32) (on : Int32) (lst : Int32) (ed : Int32)
    (vc : ((if 0 < (sq + on) then (sq + on) else 0) ≤ lst → (101 ≤ (if 0 < (sq + on) then (sq + on) else 0) → Q (some (.int (if 0 < (sq + on) then (sq + on) else 0))) h) ∧ (¬ 101 ≤ (if 0 < (sq + on) then (sq + on) else 0) → (vp_in (if 0 < (sq + on) then (sq + on) else 0) 101) ∧ ((¬ (xI h (a + 1) (if 0 < (sq + on) then (sq + on) else 0).toNatClampNeg) = 0 → (vp_in (if 0 < (sq + on) then (sq + on) else 0) 101) ∧ (Q (some (.int (xI h (a + 1) (if 0 < (sq + on) then (sq + on) else 0).toNatClampNeg))) h)) ∧ ((xI h (a + 1) (if 0 < (sq + on) then (sq + on) else 0).toNatClampNeg) = 0 → Q (some (.int (if 0 < (sq + on) then (sq + on) else 0))) h)))) ∧ (¬ (if 0 < (sq + on) then (sq + on) else 0) ≤ lst → (¬ ed = 0 → (¬ ed = 1 → (101 ≤ lst → Q (some (.int lst)) h) ∧ (¬ 101 ≤ lst → (vp_in lst 101) ∧ ((¬ (xI h (a + 1) lst.toNatClampNeg) = 0 → (vp_in lst 101) ∧ (Q (some (.int (xI h (a + 1) lst.toNatClampNeg))) h)) ∧ ((xI h (a + 1) lst.toNatClampNeg) = 0 → Q (some (.int lst)) h)))) ∧ (ed = 1 → (101 ≤ (if 0 < ((2 * lst) - (if 0 < (sq + on) then (sq + on) else 0)) then ((2 * lst) - (if 0 < (sq + on) then (sq + on) else 0)) else 0) → Q (some (.int (if 0 < ((2 * lst) - (if 0 < (sq + on) then (sq + on) else 0)) then ((2 * lst) - (if 0 < (sq + on) then (sq + on) else 0)) else 0))) h) ∧ (¬ 101 ≤ (if 0 < ((2 * lst) - (if 0 < (sq + on) then (sq + on) else 0)) then ((2 * lst) - (if 0 < (sq + on) then (sq + on) else 0)) else 0) → (vp_in (if 0 < ((2 * lst) - (if 0 < (sq + on) then (sq + on) else 0)) then ((2 * lst) - (if 0 < (sq + on) then (sq + on) else 0)) else 0) 101) ∧ ((¬ (xI h (a + 1) (if 0 < ((2 * lst) - (if 0 < (sq + on) then (sq + on) else 0)) then ((2 * lst) - (if 0 < (sq + on) then (sq + on) else 0)) else 0).toNatClampNeg) = 0 → (vp_in (if 0 < ((2 * lst) - (if 0 < (sq + on) then (sq + on) else 0)) then ((2 * lst) - (if 0 < (sq + on) then (sq + on) else 0)) else 0) 101) ∧ (Q (some (.int (xI h (a + 1) (if 0 < ((2 * lst) - (if 0 < (sq + on) then (sq + on) else 0)) then ((2 * lst) - (if 0 < (sq + on) then (sq + on) else 0)) else 0).toNatClampNeg))) h)) ∧ ((xI h (a + 1) (if 0 < ((2 * lst) - (if 0 < (sq + on) then (sq + on) else 0)) then ((2 * lst) - (if 0 < (sq + on) then (sq + on) else 0)) else 0).toNatClampNeg) = 0 → Q (some (.int (if 0 < ((2 * lst) - (if 0 < (sq + on) then (sq + on) else 0)) then ((2 * lst) - (if 0 < (sq + on) then (sq + on) else 0)) else 0))) h))))) ∧ (ed = 0 → Q (some (.int sq)) h))) :
    XW (xrm 2 0 0) mX3_landing (xE n Q X 0 0) n 0 0 h 0 [some (.ref a), some (.int sq), some (.int on), some (.int lst), some (.int ed), none] [] := by
  refine xi_iconst (v := 0) (by decide +kernel : decode mX3_landing.2.1 0 = .ok (.iconst 0, 1)) (by decide) (?_ : XW _ _ _ _ _ _ _ 1 _ _)
  refine xi_iload_n (by decide +kernel : decode mX3_landing.2.1 1 = .ok (.iload_n 1, 1)) rfl rfl (?_ : XW _ _ _ _ _ _ _ 2 _ _)
  refine xi_iload_n (by decide +kernel : decode mX3_landing.2.1 2 = .ok (.iload_n 2, 1)) rfl rfl (?_ : XW _ _ _ _ _ _ _ 3 _ _)
  refine xi_iadd (by decide +kernel : decode mX3_landing.2.1 3 = .ok (.iadd, 1)) (?_ : XW _ _ _ _ _ _ _ 4 _ _)
  refine xi_mmax (by decide +kernel : decode mX3_landing.2.1 4 = .ok (.invokestatic 66, 3)) kX3_66.2.1 (by decide) (Nat.le_of_ble_eq_true rfl) (?_ : XW _ _ _ _ _ _ _ 7 _ _)
  refine xi_istore (ls' := [some (.ref a), some (.int sq), some (.int on), some (.int lst), some (.int ed), some (.int (if 0 < (sq + on) then (sq + on) else 0))]) (by decide +kernel : decode mX3_landing.2.1 7 = .ok (.istore 5, 2)) (by decide) rfl (?_ : XW _ _ _ _ _ _ _ 9 _ _)
  refine xi_iload (by decide +kernel : decode mX3_landing.2.1 9 = .ok (.iload 5, 2)) rfl (?_ : XW _ _ _ _ _ _ _ 11 _ _)
  refine xi_iload_n (by decide +kernel : decode mX3_landing.2.1 11 = .ok (.iload_n 3, 1)) rfl rfl (?_ : XW _ _ _ _ _ _ _ 12 _ _)
  refine xi_icmp_le (by decide +kernel : decode mX3_landing.2.1 12 = .ok (.if_icmp .le 32, 3)) (by decide) (fun c => (?_ : XW _ _ _ _ _ _ _ 44 _ _)) (fun c => (?_ : XW _ _ _ _ _ _ _ 15 _ _))
  · replace vc := vc.1 c
    refine xi_iload (by decide +kernel : decode mX3_landing.2.1 44 = .ok (.iload 5, 2)) rfl (?_ : XW _ _ _ _ _ _ _ 46 _ _)
    refine xi_aload_n (by decide +kernel : decode mX3_landing.2.1 46 = .ok (.aload_n 0, 1)) rfl rfl (?_ : XW _ _ _ _ _ _ _ 47 _ _)
    refine xi_getR (y := a + 1) (by decide +kernel : decode mX3_landing.2.1 47 = .ok (.getfield 9, 3)) fX3_9 (xPth_s0 ha) (by omega) rfl ha.2.1 (?_ : XW _ _ _ _ _ _ _ 50 _ _)
    refine xi_alen (v := 101) (by decide +kernel : decode mX3_landing.2.1 50 = .ok (.arraylength, 1)) (xPth_s1 ha) (by omega) (Or.inl rfl) rfl (?_ : XW _ _ _ _ _ _ _ 51 _ _)
    refine xi_icmp_ge (by decide +kernel : decode mX3_landing.2.1 51 = .ok (.if_icmp .ge 13, 3)) (by decide) (fun c => (?_ : XW _ _ _ _ _ _ _ 64 _ _)) (fun c => (?_ : XW _ _ _ _ _ _ _ 54 _ _))
    · replace vc := vc.1 c
      refine xi_iload (by decide +kernel : decode mX3_landing.2.1 64 = .ok (.iload 5, 2)) rfl (?_ : XW _ _ _ _ _ _ _ 66 _ _)
      exact xi_iret (by decide +kernel : decode mX3_landing.2.1 66 = .ok (.ireturn, 1)) rfl rfl vc
    · replace vc := vc.2 c
      refine xi_aload_n (by decide +kernel : decode mX3_landing.2.1 54 = .ok (.aload_n 0, 1)) rfl rfl (?_ : XW _ _ _ _ _ _ _ 55 _ _)
      refine xi_getR (y := a + 1) (by decide +kernel : decode mX3_landing.2.1 55 = .ok (.getfield 9, 3)) fX3_9 (xPth_s0 ha) (by omega) rfl ha.2.1 (?_ : XW _ _ _ _ _ _ _ 58 _ _)
      refine xi_iload (by decide +kernel : decode mX3_landing.2.1 58 = .ok (.iload 5, 2)) rfl (?_ : XW _ _ _ _ _ _ _ 60 _ _)
      obtain ⟨s1, vc⟩ := vc
      refine xi_iald (by decide +kernel : decode mX3_landing.2.1 60 = .ok (.iaload, 1)) (xPth_s1 ha) (by omega) s1 (?_ : XW _ _ _ _ _ _ _ 61 _ _)
      refine xi_if_ne (by decide +kernel : decode mX3_landing.2.1 61 = .ok (.ifCond .ne 6, 3)) (by decide) (fun c => (?_ : XW _ _ _ _ _ _ _ 67 _ _)) (fun c => (?_ : XW _ _ _ _ _ _ _ 64 _ _))
      · replace vc := vc.1 c
        refine xi_aload_n (by decide +kernel : decode mX3_landing.2.1 67 = .ok (.aload_n 0, 1)) rfl rfl (?_ : XW _ _ _ _ _ _ _ 68 _ _)
        refine xi_getR (y := a + 1) (by decide +kernel : decode mX3_landing.2.1 68 = .ok (.getfield 9, 3)) fX3_9 (xPth_s0 ha) (by omega) rfl ha.2.1 (?_ : XW _ _ _ _ _ _ _ 71 _ _)
        refine xi_iload (by decide +kernel : decode mX3_landing.2.1 71 = .ok (.iload 5, 2)) rfl (?_ : XW _ _ _ _ _ _ _ 73 _ _)
        obtain ⟨s1, vc⟩ := vc
        refine xi_iald (by decide +kernel : decode mX3_landing.2.1 73 = .ok (.iaload, 1)) (xPth_s1 ha) (by omega) s1 (?_ : XW _ _ _ _ _ _ _ 74 _ _)
        exact xi_iret (by decide +kernel : decode mX3_landing.2.1 74 = .ok (.ireturn, 1)) rfl rfl vc
      · replace vc := vc.2 c
        refine xi_iload (by decide +kernel : decode mX3_landing.2.1 64 = .ok (.iload 5, 2)) rfl (?_ : XW _ _ _ _ _ _ _ 66 _ _)
        exact xi_iret (by decide +kernel : decode mX3_landing.2.1 66 = .ok (.ireturn, 1)) rfl rfl vc
  · replace vc := vc.2 c
    refine xi_iload (by decide +kernel : decode mX3_landing.2.1 15 = .ok (.iload 4, 2)) rfl (?_ : XW _ _ _ _ _ _ _ 17 _ _)
    refine xi_if_ne (by decide +kernel : decode mX3_landing.2.1 17 = .ok (.ifCond .ne 5, 3)) (by decide) (fun c => (?_ : XW _ _ _ _ _ _ _ 22 _ _)) (fun c => (?_ : XW _ _ _ _ _ _ _ 20 _ _))
    · replace vc := vc.1 c
      refine xi_iload (by decide +kernel : decode mX3_landing.2.1 22 = .ok (.iload 4, 2)) rfl (?_ : XW _ _ _ _ _ _ _ 24 _ _)
      refine xi_iconst (v := 1) (by decide +kernel : decode mX3_landing.2.1 24 = .ok (.iconst 1, 1)) (by decide) (?_ : XW _ _ _ _ _ _ _ 25 _ _)
      refine xi_icmp_ne (by decide +kernel : decode mX3_landing.2.1 25 = .ok (.if_icmp .ne 16, 3)) (by decide) (fun c => (?_ : XW _ _ _ _ _ _ _ 41 _ _)) (fun c => (?_ : XW _ _ _ _ _ _ _ 28 _ _))
      · replace vc := vc.1 c
        refine xi_iload_n (by decide +kernel : decode mX3_landing.2.1 41 = .ok (.iload_n 3, 1)) rfl rfl (?_ : XW _ _ _ _ _ _ _ 42 _ _)
        refine xi_istore (ls' := [some (.ref a), some (.int sq), some (.int on), some (.int lst), some (.int ed), some (.int lst)]) (by decide +kernel : decode mX3_landing.2.1 42 = .ok (.istore 5, 2)) (by decide) rfl (?_ : XW _ _ _ _ _ _ _ 44 _ _)
        refine xi_iload (by decide +kernel : decode mX3_landing.2.1 44 = .ok (.iload 5, 2)) rfl (?_ : XW _ _ _ _ _ _ _ 46 _ _)
        refine xi_aload_n (by decide +kernel : decode mX3_landing.2.1 46 = .ok (.aload_n 0, 1)) rfl rfl (?_ : XW _ _ _ _ _ _ _ 47 _ _)
        refine xi_getR (y := a + 1) (by decide +kernel : decode mX3_landing.2.1 47 = .ok (.getfield 9, 3)) fX3_9 (xPth_s0 ha) (by omega) rfl ha.2.1 (?_ : XW _ _ _ _ _ _ _ 50 _ _)
        refine xi_alen (v := 101) (by decide +kernel : decode mX3_landing.2.1 50 = .ok (.arraylength, 1)) (xPth_s1 ha) (by omega) (Or.inl rfl) rfl (?_ : XW _ _ _ _ _ _ _ 51 _ _)
        refine xi_icmp_ge (by decide +kernel : decode mX3_landing.2.1 51 = .ok (.if_icmp .ge 13, 3)) (by decide) (fun c => (?_ : XW _ _ _ _ _ _ _ 64 _ _)) (fun c => (?_ : XW _ _ _ _ _ _ _ 54 _ _))
        · replace vc := vc.1 c
          refine xi_iload (by decide +kernel : decode mX3_landing.2.1 64 = .ok (.iload 5, 2)) rfl (?_ : XW _ _ _ _ _ _ _ 66 _ _)
          exact xi_iret (by decide +kernel : decode mX3_landing.2.1 66 = .ok (.ireturn, 1)) rfl rfl vc
        · replace vc := vc.2 c
          refine xi_aload_n (by decide +kernel : decode mX3_landing.2.1 54 = .ok (.aload_n 0, 1)) rfl rfl (?_ : XW _ _ _ _ _ _ _ 55 _ _)
          refine xi_getR (y := a + 1) (by decide +kernel : decode mX3_landing.2.1 55 = .ok (.getfield 9, 3)) fX3_9 (xPth_s0 ha) (by omega) rfl ha.2.1 (?_ : XW _ _ _ _ _ _ _ 58 _ _)
          refine xi_iload (by decide +kernel : decode mX3_landing.2.1 58 = .ok (.iload 5, 2)) rfl (?_ : XW _ _ _ _ _ _ _ 60 _ _)
          obtain ⟨s1, vc⟩ := vc
          refine xi_iald (by decide +kernel : decode mX3_landing.2.1 60 = .ok (.iaload, 1)) (xPth_s1 ha) (by omega) s1 (?_ : XW _ _ _ _ _ _ _ 61 _ _)
          refine xi_if_ne (by decide +kernel : decode mX3_landing.2.1 61 = .ok (.ifCond .ne 6, 3)) (by decide) (fun c => (?_ : XW _ _ _ _ _ _ _ 67 _ _)) (fun c => (?_ : XW _ _ _ _ _ _ _ 64 _ _))
          · replace vc := vc.1 c
            refine xi_aload_n (by decide +kernel : decode mX3_landing.2.1 67 = .ok (.aload_n 0, 1)) rfl rfl (?_ : XW _ _ _ _ _ _ _ 68 _ _)
            refine xi_getR (y := a + 1) (by decide +kernel : decode mX3_landing.2.1 68 = .ok (.getfield 9, 3)) fX3_9 (xPth_s0 ha) (by omega) rfl ha.2.1 (?_ : XW _ _ _ _ _ _ _ 71 _ _)
            refine xi_iload (by decide +kernel : decode mX3_landing.2.1 71 = .ok (.iload 5, 2)) rfl (?_ : XW _ _ _ _ _ _ _ 73 _ _)
            obtain ⟨s1, vc⟩ := vc
            refine xi_iald (by decide +kernel : decode mX3_landing.2.1 73 = .ok (.iaload, 1)) (xPth_s1 ha) (by omega) s1 (?_ : XW _ _ _ _ _ _ _ 74 _ _)
            exact xi_iret (by decide +kernel : decode mX3_landing.2.1 74 = .ok (.ireturn, 1)) rfl rfl vc
          · replace vc := vc.2 c
            refine xi_iload (by decide +kernel : decode mX3_landing.2.1 64 = .ok (.iload 5, 2)) rfl (?_ : XW _ _ _ _ _ _ _ 66 _ _)
            exact xi_iret (by decide +kernel : decode mX3_landing.2.1 66 = .ok (.ireturn, 1)) rfl rfl vc
      · replace vc := vc.2 c
        refine xi_iconst (v := 0) (by decide +kernel : decode mX3_landing.2.1 28 = .ok (.iconst 0, 1)) (by decide) (?_ : XW _ _ _ _ _ _ _ 29 _ _)
        refine xi_iconst (v := 2) (by decide +kernel : decode mX3_landing.2.1 29 = .ok (.iconst 2, 1)) (by decide) (?_ : XW _ _ _ _ _ _ _ 30 _ _)
        refine xi_iload_n (by decide +kernel : decode mX3_landing.2.1 30 = .ok (.iload_n 3, 1)) rfl rfl (?_ : XW _ _ _ _ _ _ _ 31 _ _)
        refine xi_imul (by decide +kernel : decode mX3_landing.2.1 31 = .ok (.imul, 1)) (?_ : XW _ _ _ _ _ _ _ 32 _ _)
        refine xi_iload (by decide +kernel : decode mX3_landing.2.1 32 = .ok (.iload 5, 2)) rfl (?_ : XW _ _ _ _ _ _ _ 34 _ _)
        refine xi_isub (by decide +kernel : decode mX3_landing.2.1 34 = .ok (.isub, 1)) (?_ : XW _ _ _ _ _ _ _ 35 _ _)
        refine xi_mmax (by decide +kernel : decode mX3_landing.2.1 35 = .ok (.invokestatic 66, 3)) kX3_66.2.1 (by decide) (Nat.le_of_ble_eq_true rfl) (?_ : XW _ _ _ _ _ _ _ 38 _ _)
        refine xi_goto (by decide +kernel : decode mX3_landing.2.1 38 = .ok (.goto 4, 3)) (by decide) (?_ : XW _ _ _ _ _ _ _ 42 _ _)
        refine xi_istore (ls' := [some (.ref a), some (.int sq), some (.int on), some (.int lst), some (.int ed), some (.int (if 0 < ((2 * lst) - (if 0 < (sq + on) then (sq + on) else 0)) then ((2 * lst) - (if 0 < (sq + on) then (sq + on) else 0)) else 0))]) (by decide +kernel : decode mX3_landing.2.1 42 = .ok (.istore 5, 2)) (by decide) rfl (?_ : XW _ _ _ _ _ _ _ 44 _ _)
        refine xi_iload (by decide +kernel : decode mX3_landing.2.1 44 = .ok (.iload 5, 2)) rfl (?_ : XW _ _ _ _ _ _ _ 46 _ _)
        refine xi_aload_n (by decide +kernel : decode mX3_landing.2.1 46 = .ok (.aload_n 0, 1)) rfl rfl (?_ : XW _ _ _ _ _ _ _ 47 _ _)
        refine xi_getR (y := a + 1) (by decide +kernel : decode mX3_landing.2.1 47 = .ok (.getfield 9, 3)) fX3_9 (xPth_s0 ha) (by omega) rfl ha.2.1 (?_ : XW _ _ _ _ _ _ _ 50 _ _)
        refine xi_alen (v := 101) (by decide +kernel : decode mX3_landing.2.1 50 = .ok (.arraylength, 1)) (xPth_s1 ha) (by omega) (Or.inl rfl) rfl (?_ : XW _ _ _ _ _ _ _ 51 _ _)
        refine xi_icmp_ge (by decide +kernel : decode mX3_landing.2.1 51 = .ok (.if_icmp .ge 13, 3)) (by decide) (fun c => (?_ : XW _ _ _ _ _ _ _ 64 _ _)) (fun c => (?_ : XW _ _ _ _ _ _ _ 54 _ _))
        · replace vc := vc.1 c
          refine xi_iload (by decide +kernel : decode mX3_landing.2.1 64 = .ok (.iload 5, 2)) rfl (?_ : XW _ _ _ _ _ _ _ 66 _ _)
          exact xi_iret (by decide +kernel : decode mX3_landing.2.1 66 = .ok (.ireturn, 1)) rfl rfl vc
        · replace vc := vc.2 c
          refine xi_aload_n (by decide +kernel : decode mX3_landing.2.1 54 = .ok (.aload_n 0, 1)) rfl rfl (?_ : XW _ _ _ _ _ _ _ 55 _ _)
          refine xi_getR (y := a + 1) (by decide +kernel : decode mX3_landing.2.1 55 = .ok (.getfield 9, 3)) fX3_9 (xPth_s0 ha) (by omega) rfl ha.2.1 (?_ : XW _ _ _ _ _ _ _ 58 _ _)
          refine xi_iload (by decide +kernel : decode mX3_landing.2.1 58 = .ok (.iload 5, 2)) rfl (?_ : XW _ _ _ _ _ _ _ 60 _ _)
          obtain ⟨s1, vc⟩ := vc
          refine xi_iald (by decide +kernel : decode mX3_landing.2.1 60 = .ok (.iaload, 1)) (xPth_s1 ha) (by omega) s1 (?_ : XW _ _ _ _ _ _ _ 61 _ _)
          refine xi_if_ne (by decide +kernel : decode mX3_landing.2.1 61 = .ok (.ifCond .ne 6, 3)) (by decide) (fun c => (?_ : XW _ _ _ _ _ _ _ 67 _ _)) (fun c => (?_ : XW _ _ _ _ _ _ _ 64 _ _))
          · replace vc := vc.1 c
            refine xi_aload_n (by decide +kernel : decode mX3_landing.2.1 67 = .ok (.aload_n 0, 1)) rfl rfl (?_ : XW _ _ _ _ _ _ _ 68 _ _)
            refine xi_getR (y := a + 1) (by decide +kernel : decode mX3_landing.2.1 68 = .ok (.getfield 9, 3)) fX3_9 (xPth_s0 ha) (by omega) rfl ha.2.1 (?_ : XW _ _ _ _ _ _ _ 71 _ _)
            refine xi_iload (by decide +kernel : decode mX3_landing.2.1 71 = .ok (.iload 5, 2)) rfl (?_ : XW _ _ _ _ _ _ _ 73 _ _)
            obtain ⟨s1, vc⟩ := vc
            refine xi_iald (by decide +kernel : decode mX3_landing.2.1 73 = .ok (.iaload, 1)) (xPth_s1 ha) (by omega) s1 (?_ : XW _ _ _ _ _ _ _ 74 _ _)
            exact xi_iret (by decide +kernel : decode mX3_landing.2.1 74 = .ok (.ireturn, 1)) rfl rfl vc
          · replace vc := vc.2 c
            refine xi_iload (by decide +kernel : decode mX3_landing.2.1 64 = .ok (.iload 5, 2)) rfl (?_ : XW _ _ _ _ _ _ _ 66 _ _)
            exact xi_iret (by decide +kernel : decode mX3_landing.2.1 66 = .ok (.ireturn, 1)) rfl rfl vc
    · replace vc := vc.2 c
      refine xi_iload_n (by decide +kernel : decode mX3_landing.2.1 20 = .ok (.iload_n 1, 1)) rfl rfl (?_ : XW _ _ _ _ _ _ _ 21 _ _)
      exact xi_iret (by decide +kernel : decode mX3_landing.2.1 21 = .ok (.ireturn, 1)) rfl rfl vc

set_option maxRecDepth 20000 in
theorem v_X3_lay_0 {h : XH} {Q : Option Value → XH → Prop} {X : String → XH → Prop} (n a : Nat) (ha : xPth a (xP h)) (hn : a + 4 ≤ n) (r : Nat) (hr : xRul r (xP h)) (hnr : r + 9 ≤ n)  (ed : Int32)
    (vc : XW (xrm 3 0 0) mX3_lay (xE n Q X 0 0) n 0 0 h 13 [some (.ref a), none, some (.int ed), some (.int (if 100 < (xI h r 0) then 100 else (xI h r 0))), some (.int 0), none, none] []) :
    XW (xrm 3 0 0) mX3_lay (xE n Q X 0 0) n 0 0 h 0 [some (.ref a), some (.ref r), some (.int ed), none, none, none, none] [] := by
  refine xi_aload_n (by decide +kernel : decode mX3_lay.2.1 0 = .ok (.aload_n 1, 1)) rfl rfl (?_ : XW _ _ _ _ _ _ _ 1 _ _)
  refine xi_getI (by decide +kernel : decode mX3_lay.2.1 1 = .ok (.getfield 44, 3)) fX3_44 (xRul_s0 hr) (by omega) rfl (?_ : XW _ _ _ _ _ _ _ 4 _ _)
  refine xi_bipush (v := 100) (by decide +kernel : decode mX3_lay.2.1 4 = .ok (.bipush 100, 2)) (by decide) (?_ : XW _ _ _ _ _ _ _ 6 _ _)
  refine xi_mmin (by decide +kernel : decode mX3_lay.2.1 6 = .ok (.invokestatic 47, 3)) kX3_47.2.1 (by decide) (Nat.le_of_ble_eq_true rfl) (?_ : XW _ _ _ _ _ _ _ 9 _ _)
  refine xi_istore_n (ls' := [some (.ref a), some (.ref r), some (.int ed), some (.int (if 100 < (xI h r 0) then 100 else (xI h r 0))), none, none, none]) (by decide +kernel : decode mX3_lay.2.1 9 = .ok (.istore_n 3, 1)) rfl (by decide) rfl (?_ : XW _ _ _ _ _ _ _ 10 _ _)
  refine xi_iconst (v := 0) (by decide +kernel : decode mX3_lay.2.1 10 = .ok (.iconst 0, 1)) (by decide) (?_ : XW _ _ _ _ _ _ _ 11 _ _)
  refine xi_istore (ls' := [some (.ref a), some (.ref r), some (.int ed), some (.int (if 100 < (xI h r 0) then 100 else (xI h r 0))), some (.int 0), none, none]) (by decide +kernel : decode mX3_lay.2.1 11 = .ok (.istore 4, 2)) (by decide) rfl (?_ : XW _ _ _ _ _ _ _ 13 _ _)
  refine xw_drop 1 (ls' := [some (.ref a), none, some (.int ed), some (.int (if 100 < (xI h r 0) then 100 else (xI h r 0))), some (.int 0), none, none]) rfl ?_
  exact vc

set_option maxRecDepth 20000 in
theorem v_X3_lay_13 {h : XH} {Q : Option Value → XH → Prop} {X : String → XH → Prop} (n a : Nat) (ha : xPth a (xP h)) (hn : a + 4 ≤ n) (r : Nat) (hr : xRul r (xP h)) (hnr : r + 9 ≤ n)  (x2 : Int32) (x3 : Int32) (x4 : Int32)
    (vc : (x3 < x4 → Q none h) ∧ (¬ x3 < x4 → XW (xrm 3 0 0) mX3_lay (xE n Q X 0 0) n 0 0 h 22 [some (.ref a), none, some (.int x2), some (.int x3), some (.int x4), some (.int 0), none] [])) :
    XW (xrm 3 0 0) mX3_lay (xE n Q X 0 0) n 0 0 h 13 [some (.ref a), none, some (.int x2), some (.int x3), some (.int x4), none, none] [] := by
  refine xi_iload (by decide +kernel : decode mX3_lay.2.1 13 = .ok (.iload 4, 2)) rfl (?_ : XW _ _ _ _ _ _ _ 15 _ _)
  refine xi_iload_n (by decide +kernel : decode mX3_lay.2.1 15 = .ok (.iload_n 3, 1)) rfl rfl (?_ : XW _ _ _ _ _ _ _ 16 _ _)
  refine xi_icmp_gt (by decide +kernel : decode mX3_lay.2.1 16 = .ok (.if_icmp .gt 67, 3)) (by decide) (fun c => (?_ : XW _ _ _ _ _ _ _ 83 _ _)) (fun c => (?_ : XW _ _ _ _ _ _ _ 19 _ _))
  · replace vc := vc.1 c
    exact xi_vret (by decide +kernel : decode mX3_lay.2.1 83 = .ok (.return_, 1)) rfl vc
  · replace vc := vc.2 c
    refine xi_iconst (v := 0) (by decide +kernel : decode mX3_lay.2.1 19 = .ok (.iconst 0, 1)) (by decide) (?_ : XW _ _ _ _ _ _ _ 20 _ _)
    refine xi_istore (ls' := [some (.ref a), none, some (.int x2), some (.int x3), some (.int x4), some (.int 0), none]) (by decide +kernel : decode mX3_lay.2.1 20 = .ok (.istore 5, 2)) (by decide) rfl (?_ : XW _ _ _ _ _ _ _ 22 _ _)
    exact vc

set_option maxRecDepth 20000 in
theorem v_X3_lay_22 {h : XH} {Q : Option Value → XH → Prop} {X : String → XH → Prop} (n a : Nat) (ha : xPth a (xP h)) (hn : a + 4 ≤ n) (r : Nat) (hr : xRul r (xP h)) (hnr : r + 9 ≤ n)  (x2 : Int32) (x3 : Int32) (x4 : Int32) (x5 : Int32)
    (vc : (7 ≤ x5 → XW (xrm 3 0 0) mX3_lay (xE n Q X 0 0) n 0 0 h 13 [some (.ref a), none, some (.int x2), some (.int x3), some (.int (x4 + 1)), none, none] []) ∧ (¬ 7 ≤ x5 → (¬ x4 = x3 → (vp_in ((x4 * 7) + x5) 707) ∧ (∃ Q1, XSpec mX3_landing 2 0 0 n n [.ref a, .int x4, .int (xI h (a + 2) ((x4 * 7) + x5).toNatClampNeg), .int x3, .int x2] h Q1 xno ∧ ∀ v h1, Q1 v h1 → ∃ r1 : Int32, v = some (.int r1) ∧ ((vp_in ((x4 * 7) + x5) 707) ∧ (XW (xrm 3 0 0) mX3_lay (xE n Q X 0 0) n 0 0 (xSI (a + 3) (va_up (xI h1 (a + 3)) ((x4 * 7) + x5).toNatClampNeg r1) h1) 22 [some (.ref a), none, some (.int x2), some (.int x3), some (.int x4), some (.int (x5 + 1)), none] [])))) ∧ (x4 = x3 → (vp_in ((x4 * 7) + x5) 707) ∧ (XW (xrm 3 0 0) mX3_lay (xE n Q X 0 0) n 0 0 (xSI (a + 3) (va_up (xI h (a + 3)) ((x4 * 7) + x5).toNatClampNeg x3) h) 22 [some (.ref a), none, some (.int x2), some (.int x3), some (.int x4), some (.int (x5 + 1)), none] [])))) :
    XW (xrm 3 0 0) mX3_lay (xE n Q X 0 0) n 0 0 h 22 [some (.ref a), none, some (.int x2), some (.int x3), some (.int x4), some (.int x5), none] [] := by
  refine xi_iload (by decide +kernel : decode mX3_lay.2.1 22 = .ok (.iload 5, 2)) rfl (?_ : XW _ _ _ _ _ _ _ 24 _ _)
  refine xi_bipush (v := 7) (by decide +kernel : decode mX3_lay.2.1 24 = .ok (.bipush 7, 2)) (by decide) (?_ : XW _ _ _ _ _ _ _ 26 _ _)
  refine xi_icmp_ge (by decide +kernel : decode mX3_lay.2.1 26 = .ok (.if_icmp .ge 51, 3)) (by decide) (fun c => (?_ : XW _ _ _ _ _ _ _ 77 _ _)) (fun c => (?_ : XW _ _ _ _ _ _ _ 29 _ _))
  · replace vc := vc.1 c
    refine xi_iinc (v := x4 + 1) (ls' := [some (.ref a), none, some (.int x2), some (.int x3), some (.int (x4 + 1)), some (.int x5), none]) (by decide +kernel : decode mX3_lay.2.1 77 = .ok (.iinc 4 1, 3)) rfl rfl (by decide) rfl (?_ : XW _ _ _ _ _ _ _ 80 _ _)
    refine xi_goto (by decide +kernel : decode mX3_lay.2.1 80 = .ok (.goto (-67), 3)) (by decide) (?_ : XW _ _ _ _ _ _ _ 13 _ _)
    refine xw_drop 5 (ls' := [some (.ref a), none, some (.int x2), some (.int x3), some (.int (x4 + 1)), none, none]) rfl ?_
    exact vc
  · replace vc := vc.2 c
    refine xi_iload (by decide +kernel : decode mX3_lay.2.1 29 = .ok (.iload 4, 2)) rfl (?_ : XW _ _ _ _ _ _ _ 31 _ _)
    refine xi_bipush (v := 7) (by decide +kernel : decode mX3_lay.2.1 31 = .ok (.bipush 7, 2)) (by decide) (?_ : XW _ _ _ _ _ _ _ 33 _ _)
    refine xi_imul (by decide +kernel : decode mX3_lay.2.1 33 = .ok (.imul, 1)) (?_ : XW _ _ _ _ _ _ _ 34 _ _)
    refine xi_iload (by decide +kernel : decode mX3_lay.2.1 34 = .ok (.iload 5, 2)) rfl (?_ : XW _ _ _ _ _ _ _ 36 _ _)
    refine xi_iadd (by decide +kernel : decode mX3_lay.2.1 36 = .ok (.iadd, 1)) (?_ : XW _ _ _ _ _ _ _ 37 _ _)
    refine xi_istore (ls' := [some (.ref a), none, some (.int x2), some (.int x3), some (.int x4), some (.int x5), some (.int ((x4 * 7) + x5))]) (by decide +kernel : decode mX3_lay.2.1 37 = .ok (.istore 6, 2)) (by decide) rfl (?_ : XW _ _ _ _ _ _ _ 39 _ _)
    refine xi_aload_n (by decide +kernel : decode mX3_lay.2.1 39 = .ok (.aload_n 0, 1)) rfl rfl (?_ : XW _ _ _ _ _ _ _ 40 _ _)
    refine xi_getR (y := a + 3) (by decide +kernel : decode mX3_lay.2.1 40 = .ok (.getfield 18, 3)) fX3_18 (xPth_s0 ha) (by omega) rfl ha.2.2.2 (?_ : XW _ _ _ _ _ _ _ 43 _ _)
    refine xi_iload (by decide +kernel : decode mX3_lay.2.1 43 = .ok (.iload 6, 2)) rfl (?_ : XW _ _ _ _ _ _ _ 45 _ _)
    refine xi_iload (by decide +kernel : decode mX3_lay.2.1 45 = .ok (.iload 4, 2)) rfl (?_ : XW _ _ _ _ _ _ _ 47 _ _)
    refine xi_iload_n (by decide +kernel : decode mX3_lay.2.1 47 = .ok (.iload_n 3, 1)) rfl rfl (?_ : XW _ _ _ _ _ _ _ 48 _ _)
    refine xi_icmp_ne (by decide +kernel : decode mX3_lay.2.1 48 = .ok (.if_icmp .ne 7, 3)) (by decide) (fun c => (?_ : XW _ _ _ _ _ _ _ 55 _ _)) (fun c => (?_ : XW _ _ _ _ _ _ _ 51 _ _))
    · replace vc := vc.1 c
      refine xi_aload_n (by decide +kernel : decode mX3_lay.2.1 55 = .ok (.aload_n 0, 1)) rfl rfl (?_ : XW _ _ _ _ _ _ _ 56 _ _)
      refine xi_iload (by decide +kernel : decode mX3_lay.2.1 56 = .ok (.iload 4, 2)) rfl (?_ : XW _ _ _ _ _ _ _ 58 _ _)
      refine xi_aload_n (by decide +kernel : decode mX3_lay.2.1 58 = .ok (.aload_n 0, 1)) rfl rfl (?_ : XW _ _ _ _ _ _ _ 59 _ _)
      refine xi_getR (y := a + 2) (by decide +kernel : decode mX3_lay.2.1 59 = .ok (.getfield 15, 3)) fX3_15 (xPth_s0 ha) (by omega) rfl ha.2.2.1 (?_ : XW _ _ _ _ _ _ _ 62 _ _)
      refine xi_iload (by decide +kernel : decode mX3_lay.2.1 62 = .ok (.iload 6, 2)) rfl (?_ : XW _ _ _ _ _ _ _ 64 _ _)
      obtain ⟨s1, vc⟩ := vc
      refine xi_iald (by decide +kernel : decode mX3_lay.2.1 64 = .ok (.iaload, 1)) (xPth_s2 ha) (by omega) s1 (?_ : XW _ _ _ _ _ _ _ 65 _ _)
      refine xi_iload_n (by decide +kernel : decode mX3_lay.2.1 65 = .ok (.iload_n 3, 1)) rfl rfl (?_ : XW _ _ _ _ _ _ _ 66 _ _)
      refine xi_iload_n (by decide +kernel : decode mX3_lay.2.1 66 = .ok (.iload_n 2, 1)) rfl rfl (?_ : XW _ _ _ _ _ _ _ 67 _ _)
      obtain ⟨Q1, sp, vc⟩ := vc
      refine xi_callV (b := 0) (bs := 0) (As := [.int x4, .int (xI h (a + 2) ((x4 * 7) + x5).toNatClampNeg), .int x3, .int x2]) (st := [.int ((x4 * 7) + x5), .ref (a + 3)]) (by decide +kernel : decode mX3_lay.2.1 67 = .ok (.invokevirtual 63, 3)) kX3_63 rfl (xPth_s0 ha) (by omega) rfl sp (by decide) (by decide) (Nat.le_of_ble_eq_true rfl) (by omega) (fun v9 h1 hq9 => ?_)
      obtain ⟨r1, e9, vc⟩ := vc v9 h1 hq9
      subst e9
      show XW _ _ _ _ _ _ _ 70 _ [.int r1, .int ((x4 * 7) + x5), .ref (a + 3)]
      obtain ⟨s1, vc⟩ := vc
      refine xi_iast (by decide +kernel : decode mX3_lay.2.1 70 = .ok (.iastore, 1)) (xPth_s3 ha) (by omega) s1 (?_ : XW _ _ _ _ _ _ (xSI (a + 3) (va_up (xI h1 (a + 3)) ((x4 * 7) + x5).toNatClampNeg r1) h1) 71 _ _)
      refine xi_iinc (v := x5 + 1) (ls' := [some (.ref a), none, some (.int x2), some (.int x3), some (.int x4), some (.int (x5 + 1)), some (.int ((x4 * 7) + x5))]) (by decide +kernel : decode mX3_lay.2.1 71 = .ok (.iinc 5 1, 3)) rfl rfl (by decide) rfl (?_ : XW _ _ _ _ _ _ _ 74 _ _)
      refine xi_goto (by decide +kernel : decode mX3_lay.2.1 74 = .ok (.goto (-52), 3)) (by decide) (?_ : XW _ _ _ _ _ _ _ 22 _ _)
      refine xw_drop 6 (ls' := [some (.ref a), none, some (.int x2), some (.int x3), some (.int x4), some (.int (x5 + 1)), none]) rfl ?_
      exact vc
    · replace vc := vc.2 c
      refine xi_iload_n (by decide +kernel : decode mX3_lay.2.1 51 = .ok (.iload_n 3, 1)) rfl rfl (?_ : XW _ _ _ _ _ _ _ 52 _ _)
      refine xi_goto (by decide +kernel : decode mX3_lay.2.1 52 = .ok (.goto 18, 3)) (by decide) (?_ : XW _ _ _ _ _ _ _ 70 _ _)
      obtain ⟨s1, vc⟩ := vc
      refine xi_iast (by decide +kernel : decode mX3_lay.2.1 70 = .ok (.iastore, 1)) (xPth_s3 ha) (by omega) s1 (?_ : XW _ _ _ _ _ _ (xSI (a + 3) (va_up (xI h (a + 3)) ((x4 * 7) + x5).toNatClampNeg x3) h) 71 _ _)
      refine xi_iinc (v := x5 + 1) (ls' := [some (.ref a), none, some (.int x2), some (.int x3), some (.int x4), some (.int (x5 + 1)), some (.int ((x4 * 7) + x5))]) (by decide +kernel : decode mX3_lay.2.1 71 = .ok (.iinc 5 1, 3)) rfl rfl (by decide) rfl (?_ : XW _ _ _ _ _ _ _ 74 _ _)
      refine xi_goto (by decide +kernel : decode mX3_lay.2.1 74 = .ok (.goto (-52), 3)) (by decide) (?_ : XW _ _ _ _ _ _ _ 22 _ _)
      refine xw_drop 6 (ls' := [some (.ref a), none, some (.int x2), some (.int x3), some (.int x4), some (.int (x5 + 1)), none]) rfl ?_
      exact vc

/-- only the cells of S have changed -/
def xfs (S : Nat → Prop) (h h' : XH) : Prop := ∀ c, ¬ S c → xI h' c = xI h c ∧ xL h' c = xL h c ∧ xP h' c = xP h c
theorem xfs.rfl {S : Nat → Prop} {h : XH} : xfs S h h := fun _ _ => ⟨Eq.refl _, Eq.refl _, Eq.refl _⟩
theorem xfs.trans {S : Nat → Prop} {h h1 h2 : XH} (a : xfs S h h1) (b : xfs S h1 h2) : xfs S h h2 := fun c hc => by
  obtain ⟨a1, a2, a3⟩ := a c hc
  obtain ⟨b1, b2, b3⟩ := b c hc
  exact ⟨b1.trans a1, b2.trans a2, b3.trans a3⟩
theorem xfs.mono {S S' : Nat → Prop} {h h1 : XH} (a : xfs S h h1) (hs : ∀ c, S c → S' c) : xfs S' h h1 := fun c hc => a c (fun z => hc (hs c z))
theorem xfs.SI {S : Nat → Prop} {a : Nat} {f : Nat → Int32} {h : XH} (hs : S a) : xfs S h (xSI a f h) := fun c hc => ⟨va_up_of _ _ (fun z => hc (z ▸ hs)), Eq.refl _, Eq.refl _⟩
theorem xfs.SL {S : Nat → Prop} {a : Nat} {f : Nat → Int64} {h : XH} (hs : S a) : xfs S h (xSL a f h) := fun c hc => ⟨Eq.refl _, va_up_of _ _ (fun z => hc (z ▸ hs)), Eq.refl _⟩
theorem xfr.fs {S : Nat → Prop} {lo hi : Nat} {h h1 : XH} (a : xfr lo hi h h1) (hs : ∀ c, lo ≤ c → c < hi → S c) : xfs S h h1 := fun c hc => a c (by
  rcases Nat.lt_or_ge c lo with c1 | c1
  · exact Or.inl c1
  · rcases Nat.lt_or_ge c hi with c2 | c2
    · exact absurd (hs c c1 c2) hc
    · exact Or.inr c2)
theorem xRul.fs {S : Nat → Prop} {r : Nat} {h h' : XH} (hf : xfs S h h') (h0 : ¬ S r) (h1 : ¬ S (r + 1)) (hr : xRul r (xP h)) : xRul r (xP h') := by
  obtain ⟨h1', h2, h3, h4, h5, h6, h7, h8, h9, h10⟩ := hr
  have e1 := (hf r h0).2.2
  have e2 := (hf (r + 1) h1).2.2
  exact ⟨h1', by rw [e1]; exact h2, by rw [e1]; exact h3, by rw [e1]; exact h4, by rw [e1]; exact h5, by rw [e1]; exact h6, h7, by rw [e2]; exact h8, by rw [e2]; exact h9, by rw [e2]; exact h10⟩
theorem xPth.fs {S : Nat → Prop} {a : Nat} {h h' : XH} (hf : xfs S h h') (h0 : ¬ S a) (ha : xPth a (xP h)) : xPth a (xP h') := by
  obtain ⟨h1, h2, h3, h4⟩ := ha
  have e1 := (hf a h0).2.2
  exact ⟨h1, by rw [e1]; exact h2, by rw [e1]; exact h3, by rw [e1]; exact h4⟩
/-- the exits as a table: where the foot of an exit leads -/
def jmps (ft hd : Nat → Nat) : Nat → Nat → Nat
  | 0 => fun _ => 0
  | k + 1 => va_up (jmps ft hd k) (ft k) (hd k)
def jab (J : Nat → Nat) (last s : Nat) : Nat := sN (fun j => if J j = 0 then 0 else 1) (s + 1) (last - s)
def farAt (C : Nat → Int32) (len last : Nat) (J : Nat → Nat) (s g : Nat) : Int32 := farC C len (nI g) (nI s) (nI last) (nI (jab J last s))
def hdOf (J : Nat → Nat) (t : Nat) : Nat := if J t = 0 then t else J t
def land (J : Nat → Nat) (last E s : Nat) (z : Int) : Nat := if ((s : Int) + z).toNat ≤ last then hdOf J ((s : Int) + z).toNat else if E = 0 then s else if E = 1 then hdOf J (2 * last - ((s : Int) + z).toNat) else hdOf J last
def goTo (J : Nat → Nat) (last E : Nat) (far : Nat → Nat → Int32) (s g : Nat) : Nat := if s = last then last else land J last E s (far s g).toInt
theorem max0 {z : Int} (h1 : -2147483648 ≤ z) (h2 : z < 2147483648) : (if 0 < iz z then iz z else 0) = nI z.toNat := by
  have e0 : (0 : Int32) = iz 0 := rfl
  by_cases c : 0 < z
  · rw [if_pos (by rw [e0, iz_lt (by omega) (by omega) h1 h2]; exact c), iz_nI, Int.toNat_of_nonneg (by omega)]
  · rw [if_neg (by rw [e0, iz_lt (by omega) (by omega) h1 h2]; exact c), show z.toNat = 0 by omega]
    rfl
theorem s_X3_landing (n a : Nat) (h : XH) (ha : xPth a (xP h)) (hn : a + 4 ≤ n) (J : Nat → Nat) (last E s : Nat) (z : Int) (hl : last ≤ 100) (hE : E ≤ 2) (hs : s ≤ last) (hz : -200 ≤ z ∧ z ≤ 200) (hJ : ∀ j, j ≤ last → xI h (a + 1) j = nI (J j) ∧ J j ≤ last) : XSpec mX3_landing 2 0 0 n n [.ref a, .int (nI s), .int (iz z), .int (nI last), .int (nI E)] h (xq (some (.int (nI (land J last E s z)))) h) xno := by
  refine XSpec.of rfl (by decide) (Nat.le_of_ble_eq_true rfl) rfl (v_X3_landing_0 n a ha hn (nI s) (iz z) (nI last) (nI E) ?_)
  have e1 : (if 0 < nI s + iz z then nI s + iz z else 0) = nI ((s : Int) + z).toNat := by
    rw [iz_nI, iz_add]; exact max0 (by omega) (by omega)
  rw [e1]
  generalize et : ((s : Int) + z).toNat = t
  have ht : t ≤ 300 := by omega
  have e2 : (if 0 < 2 * nI last - nI t then 2 * nI last - nI t else 0) = nI (2 * last - t) := by
    have : (2 : Int32) * nI last = iz (2 * last) := by
      rw [show (2 : Int32) = nI 2 from rfl, pk_mul, iz_nI]; congr 1
    rw [this, iz_nI t, iz_sub, max0 (by omega) (by omega)]
    congr 1; omega
  rw [e2]
  have key : ∀ q, q ≤ last → ∀ w, w = hdOf J q → (¬ 101 ≤ nI q) ∧ vp_in (nI q) 101 ∧ (¬ xI h (a + 1) (nI q).toNatClampNeg = 0 → xq (some (.int (nI w))) h (some (.int (xI h (a + 1) (nI q).toNatClampNeg))) h) ∧ (xI h (a + 1) (nI q).toNatClampNeg = 0 → xq (some (.int (nI w))) h (some (.int (nI q))) h) := by
    intro q hq w hw
    obtain ⟨g1, g2⟩ := hJ q hq
    rw [nI_clamp (by omega), g1, hw]
    unfold hdOf
    refine ⟨nI_ge (a := q) (b := 101) (by omega) (by omega), vp_in_nI (by omega) (by omega), fun c => ⟨?_, rfl⟩, fun c => ⟨?_, rfl⟩⟩
    · rw [if_neg (fun z => c (by rw [z]; rfl))]
    · rw [if_pos ((nI_eq (a := J q) (b := 0) (by omega) (by omega)).1 c)]
  unfold land
  rw [et]
  refine ⟨fun c => ?_, fun c => ?_⟩
  · have ct : t ≤ last := (nI_leI (by omega) (by omega)).1 c
    obtain ⟨k1, k2, k3, k4⟩ := key t ct _ rfl
    rw [if_pos ct]
    exact ⟨fun z => absurd z k1, fun _ => ⟨k2, fun z => ⟨k2, k3 z⟩, k4⟩⟩
  · have ct : ¬ t ≤ last := fun z => c ((nI_leI (by omega) (by omega)).2 z)
    rw [if_neg ct]
    refine ⟨fun c0 => ?_, fun c0 => ?_⟩
    · have d0 : ¬ E = 0 := fun z => c0 (by rw [z]; rfl)
      rw [if_neg d0]
      refine ⟨fun c1 => ?_, fun c1 => ?_⟩
      · have d1 : ¬ E = 1 := fun z => c1 (by rw [z]; rfl)
        rw [if_neg d1]
        obtain ⟨k1, k2, k3, k4⟩ := key last (Nat.le_refl _) _ rfl
        exact ⟨fun z => absurd z k1, fun _ => ⟨k2, fun z => ⟨k2, k3 z⟩, k4⟩⟩
      · have d1 : E = 1 := (nI_eq (a := E) (b := 1) (by omega) (by omega)).1 c1
        rw [if_pos d1]
        obtain ⟨k1, k2, k3, k4⟩ := key (2 * last - t) (by omega) _ rfl
        exact ⟨fun z => absurd z k1, fun _ => ⟨k2, fun z => ⟨k2, k3 z⟩, k4⟩⟩
    · have d0 : E = 0 := (nI_eq (a := E) (b := 0) (by omega) (by omega)).1 c0
      rw [if_pos d0]
      exact ⟨rfl, rfl⟩
theorem l_takeFeet (n a : Nat) (hn : a + 4 ≤ n) (r : Nat) (hnr : r + 9 ≤ n) (ft hd : Nat → Nat) (kx : Nat) (hk : kx ≤ 24) (hft : ∀ i, i < kx → ft i ≤ 100) {Q : Option Value → XH → Prop} {X : String → XH → Prop} : ∀ (k x : Nat) (h : XH), x + k = kx → xPth a (xP h) → xRul r (xP h) → ¬ (r = a + 1) → ¬ (r + 6 = a + 1) → ¬ (r + 7 = a + 1) → xI h r 7 = nI kx → (∀ i, i < kx → xI h (r + 6) i = nI (ft i) ∧ xI h (r + 7) i = nI (hd i)) → (∀ j, j < 101 → xI h (a + 1) j = nI (jmps ft hd x j)) →
    (∀ F : Nat → Int32, (∀ j, j < 101 → F j = nI (jmps ft hd kx j)) → Q none (xSI (a + 1) F h)) →
    XW (xrm 2 0 0) mX3_takeFeet (xE n Q X 0 0) n 0 0 h 10 [some (.ref a), some (.ref r), some (.int (nI x))] [] := by
  intro k
  induction k with
  | zero =>
    intro x h hx ha hr e1 e2 e3 hkx hfh hJ hQ
    have : x = kx := by omega
    subst this
    refine v_X3_takeFeet_10 n a ha hn r hr hnr (nI x) ⟨fun _ => ?_, fun c => absurd (by rw [hkx]; exact nI_le (Nat.le_refl _) (by omega)) c⟩
    have := hQ _ hJ
    rwa [xSI_self] at this
  | succ k ih =>
    intro x h hx ha hr e1 e2 e3 hkx hfh hJ hQ
    refine v_X3_takeFeet_10 n a ha hn r hr hnr (nI x) ⟨fun c => absurd c (by rw [hkx]; exact nI_ge (by omega) (by omega)), fun _ => ?_⟩
    obtain ⟨g1, g2⟩ := hfh x (by omega)
    have f0 := hft x (by omega)
    have r1 : rd (xI h (r + 6)) 24 0 (nI x) = nI (ft x) := by
      rw [iz_nI x, rd_in (by omega) (by show (x : Int) < 24; omega)]; exact g1
    have r2 : rd (xI h (r + 7)) 24 0 (nI x) = nI (hd x) := by
      rw [iz_nI x, rd_in (by omega) (by show (x : Int) < 24; omega)]; exact g2
    have r3 : wr (xI h (a + 1)) 101 (nI (ft x)) (nI (hd x)) = va_up (xI h (a + 1)) (ft x) (nI (hd x)) := by
      rw [iz_nI (ft x), wr_in (by omega) (by show (ft x : Int) < 101; omega)]; rfl
    rw [r1, r2, r3, nI_1]
    refine ih (x + 1) _ (by omega) ha hr e1 e2 e3 (by rw [xI_ne e1]; exact hkx) (fun i hi => by rw [xI_ne e2, xI_ne e3]; exact hfh i hi) (fun j hj => ?_) (fun F hF => ?_)
    · rw [xI_at, jmps]
      unfold va_up
      split
      · rfl
      · exact hJ j hj
    · rw [xSI_SI]
      exact hQ F hF
theorem s_X3_takeFeet (n a : Nat) (h : XH) (ha : xPth a (xP h)) (hn : a + 4 ≤ n) (r : Nat) (hr : xRul r (xP h)) (hnr : r + 9 ≤ n) (ft hd : Nat → Nat) (kx : Nat) (hk : kx ≤ 24) (hft : ∀ i, i < kx → ft i ≤ 100) (hkx : xI h r 7 = nI kx) (hfh : ∀ i, i < kx → xI h (r + 6) i = nI (ft i) ∧ xI h (r + 7) i = nI (hd i)) : XSpec mX3_takeFeet 2 0 0 n n [.ref a, .ref r] h (fun v h' => v = none ∧ (∀ j, j < 101 → xI h' (a + 1) j = nI (jmps ft hd kx j)) ∧ xfr (a + 1) (a + 2) h h') xno := by
  have c1 := hr.1
  have c2 := ha.1
  have e1 : ¬ r = a + 1 := by omega
  have e2 : ¬ r + 6 = a + 1 := by omega
  have e3 : ¬ r + 7 = a + 1 := by omega
  refine XSpec.of rfl (by decide) (Nat.le_of_ble_eq_true rfl) rfl (v_X3_takeFeet_0 n a ha hn r hr hnr ?_)
  refine l_takeFeet n a hn r hnr ft hd kx hk hft kx 0 _ (by omega) ha hr e1 e2 e3 (by rw [xI_ne e1]; exact hkx) (fun i hi => by rw [xI_ne e2, xI_ne e3]; exact hfh i hi) (fun j hj => ?_) (fun F hF => ⟨rfl, ?_, ?_⟩)
  · rw [xI_at]
    show fl 101 0 _ j = 0
    unfold fl
    rw [if_pos (by omega)]
  · rw [xI_at]; exact hF
  · rw [xSI_SI]; exact xfr.SI (by omega) (by omega)
/-- the far table, one square's row -/
theorem l_measIn (n a r : Nat) (hn : a + 4 ≤ n) (hnr : r + 9 ≤ n) (hda : a = 21 ∨ a = 25) (hdr : r = 2 ∨ r = 12) (last len : Nat) (C : Nat → Int32) (hl : last ≤ 100) (hc : CodeOK C len) (ab : Int32) (s : Nat) (hs : s ≤ last) {Q : Option Value → XH → Prop} {X : String → XH → Prop} : ∀ (k x : Nat) (h : XH), x + k = 7 → xPth a (xP h) → xRul r (xP h) → xI h r 0 = nI last → xI h (r + 1) 3 = nI len → xI h (r + 3) = C →
    (∀ h', xfs (fun c => c = a + 2 ∨ c = r + 4) h h' → (∀ j, xI h' (a + 2) j = if s * 7 + x ≤ j ∧ j < s * 7 + 7 then farC C len (nI (j - s * 7)) (nI s) (nI last) ab else xI h (a + 2) j) → XW (xrm 5 0 0) mX3_measure (xE n Q X 0 0) n 0 0 h' 19 [some (.ref a), some (.ref r), some (.int ab), some (.int (nI s)), some (.int (nI 7))] []) →
    XW (xrm 5 0 0) mX3_measure (xE n Q X 0 0) n 0 0 h 19 [some (.ref a), some (.ref r), some (.int ab), some (.int (nI s)), some (.int (nI x))] [] := by
  intro k
  induction k with
  | zero =>
    intro x h hx ha hr h1 h2 h3 hQ
    have : x = 7 := by omega
    subst this
    exact hQ h xfs.rfl (fun j => by rw [if_neg (by omega)])
  | succ k ih =>
    intro x h hx ha hr h1 h2 h3 hQ
    refine v_X3_measure_19 n a ha hn r hr hnr ab (nI s) (nI x) ⟨fun c => absurd c (nI_ge (a := x) (b := 7) (by omega) (by omega)), fun _ => ⟨_, s_X0_howFar n (r + 1) h hr.2.2.2.2.2.2 (by omega) (nI x) (nI s) (xI h r 0) ab len h2 (by rw [h3]; exact hc), ?_⟩⟩
    rintro v h1' ⟨rfl, hfr⟩
    have e1 : nI s * 7 + nI x = nI (s * 7 + x) := by
      rw [show (7 : Int32) = nI 7 from rfl, pk_mul, nI_add]
    refine ⟨_, rfl, ?_⟩
    rw [e1, nI_1, nI_clamp (by omega), h1, h3]
    refine ⟨vp_in_nI (by omega) (by omega), ?_⟩
    have hfs : xfs (fun c => c = a + 2 ∨ c = r + 4) h h1' := hfr.fs (fun c c1 c2 => Or.inr (by omega))
    have q0 : ¬ (r = a + 2 ∨ r = r + 4) := by omega
    have q1 : ¬ (r + 1 = a + 2 ∨ r + 1 = r + 4) := by omega
    have q2 : ¬ (r + 3 = a + 2 ∨ r + 3 = r + 4) := by omega
    have q3 : ¬ (a = a + 2 ∨ a = r + 4) := by omega
    have q4 : xI h1' (a + 2) = xI h (a + 2) := (hfr (a + 2) (by omega)).1
    have hfs2 : xfs (fun c => c = a + 2 ∨ c = r + 4) h (xSI (a + 2) (va_up (xI h1' (a + 2)) (s * 7 + x) (farC C len (nI x) (nI s) (nI last) ab)) h1') := hfs.trans (xfs.SI (Or.inl rfl))
    refine ih (x + 1) _ (by omega) (ha.fs hfs2 q3) (hr.fs hfs2 q0 q1) (by rw [(hfs2 r q0).1]; exact h1) (by rw [(hfs2 (r + 1) q1).1]; exact h2) (by rw [(hfs2 (r + 3) q2).1]; exact h3) (fun h' g1 g2 => hQ h' (hfs2.trans g1) (fun j => ?_))
    rw [g2 j, xI_at, q4]
    unfold va_up
    by_cases c : j = s * 7 + x
    · rw [if_neg (by omega), if_pos c, if_pos (by omega), c, Nat.add_sub_cancel_left]
    · by_cases c2 : s * 7 + (x + 1) ≤ j ∧ j < s * 7 + 7
      · rw [if_pos c2, if_pos (by omega)]
      · rw [if_neg c2, if_neg c, if_neg (by omega)]
theorem jab_step {J : Nat → Nat} {last s : Nat} (hs : s + 1 ≤ last) : jab J last s = (if J (s + 1) = 0 then 0 else 1) + jab J last (s + 1) := by
  unfold jab
  rw [show last - s = (last - (s + 1)) + 1 by omega, sN]
theorem jab_le (J : Nat → Nat) (last s : Nat) : jab J last s ≤ last - s := by
  have := sN_le (f := fun j => if J j = 0 then 0 else 1) (f' := fun _ => 1) (last - s) (s + 1) (fun g _ _ => by split <;> omega)
  have e : ∀ k x, sN (fun _ => 1) x k = k := by
    intro k
    induction k with
    | zero => intro x; rfl
    | succ k ih => intro x; rw [sN, ih]; omega
  rw [e] at this
  exact this
theorem l_measure (n a r : Nat) (hn : a + 4 ≤ n) (hnr : r + 9 ≤ n) (hda : a = 21 ∨ a = 25) (hdr : r = 2 ∨ r = 12) (last len : Nat) (C : Nat → Int32) (J : Nat → Nat) (hl : last ≤ 100) (hc : CodeOK C len) (hJ : ∀ j, j ≤ last → J j ≤ last) (hJl : J last = 0) {Q : Option Value → XH → Prop} {X : String → XH → Prop} : ∀ (k : Nat) (h : XH), k ≤ last + 1 → xPth a (xP h) → xRul r (xP h) → xI h r 0 = nI last → xI h (r + 1) 3 = nI len → xI h (r + 3) = C → (∀ j, j ≤ last → xI h (a + 1) j = nI (J j)) →
    (∀ h', xfs (fun c => c = a + 2 ∨ c = r + 4) h h' → (∀ s, s < k → ∀ g, g < 7 → xI h' (a + 2) (s * 7 + g) = farAt C len last J s g) → (∀ j, k * 7 ≤ j → xI h' (a + 2) j = xI h (a + 2) j) → Q none h') →
    XW (xrm 5 0 0) mX3_measure (xE n Q X 0 0) n 0 0 h 12 [some (.ref a), some (.ref r), some (.int (nI (jab J last (k - 1)))), some (.int (iz ((k : Int) - 1))), none] [] := by
  intro k
  induction k with
  | zero =>
    intro h hk ha hr h1 h2 h3 h4 hQ
    refine v_X3_measure_12 n a ha hn r hr hnr _ (iz ((0 : Nat) - 1)) ⟨fun _ => hQ h xfs.rfl (fun s hs => absurd hs (Nat.not_lt_zero _)) (fun _ _ => rfl), fun c => absurd (by decide) c⟩
  | succ k ih =>
    intro h hk ha hr h1 h2 h3 h4 hQ
    have e0 : iz (((k + 1 : Nat) : Int) - 1) = nI k := by rw [iz_nI]; congr 1; omega
    rw [e0, Nat.add_sub_cancel]
    refine v_X3_measure_12 n a ha hn r hr hnr _ (nI k) ⟨fun c => absurd c (nI_pos (by omega)), fun _ => ?_⟩
    refine l_measIn n a r hn hnr hda hdr last len C hl hc (nI (jab J last k)) k (by omega) 7 0 h (by omega) ha hr h1 h2 h3 (fun h' g1 g2 => ?_)
    have q0 : ¬ (r = a + 2 ∨ r = r + 4) := by omega
    have q1 : ¬ (r + 1 = a + 2 ∨ r + 1 = r + 4) := by omega
    have q2 : ¬ (r + 3 = a + 2 ∨ r + 3 = r + 4) := by omega
    have q3 : ¬ (a = a + 2 ∨ a = r + 4) := by omega
    have q4 : ¬ (a + 1 = a + 2 ∨ a + 1 = r + 4) := by omega
    have ha' := ha.fs g1 q3
    have hr' := hr.fs g1 q0 q1
    have h4' : ∀ j, j ≤ last → xI h' (a + 1) j = nI (J j) := fun j hj => by rw [(g1 (a + 1) q4).1]; exact h4 j hj
    have hb := jab_le J last k
    have em : iz ((k : Int) - 1) = nI k + (-1) := by
      rw [iz_nI, show (-1 : Int32) = iz (-1) from rfl, iz_add]; congr 1
    have fin : ∀ w : Int32, w = nI (jab J last (k - 1)) ∨ k = 0 → XW (xrm 5 0 0) mX3_measure (xE n Q X 0 0) n 0 0 h' 12 [some (.ref a), some (.ref r), some (.int w), some (.int (nI k + (-1))), none] [] := by
      intro w hw
      have i := fun (w' : w = nI (jab J last (k - 1))) => ih h' (by omega) ha' hr' (by rw [(g1 r q0).1]; exact h1) (by rw [(g1 (r + 1) q1).1]; exact h2) (by rw [(g1 (r + 3) q2).1]; exact h3) h4' (fun h'' k1 k2 k3 => hQ h'' (g1.trans k1) (fun s hs g hg => by
        by_cases c : s < k
        · exact k2 s c g hg
        · have : s = k := by omega
          subst this
          rw [k3 _ (by omega), g2 _, if_pos (by omega), Nat.add_sub_cancel_left]; rfl) (fun j hj => by rw [k3 j (by omega), g2 j, if_neg (by omega)]))
      rcases hw with hw | hw
      · rw [hw, ← em]; exact i hw
      · subst hw
        refine v_X3_measure_12 n a ha' hn r hr' hnr w _ ⟨fun _ => hQ h' g1 (fun s hs g hg => ?_) (fun j hj => by rw [g2 j, if_neg (by omega)]), fun c => absurd (by decide) c⟩
        have : s = 0 := by omega
        subst this
        rw [g2 _, if_pos (by omega), Nat.add_sub_cancel_left]; rfl
    have hJk := h4' k (by omega)
    have hJb := hJ k (by omega)
    refine v_X3_measure_19 n a ha' hn r hr' hnr _ (nI k) (nI 7) ⟨fun _ => ⟨vp_in_nI (by omega) (by omega), ?_⟩, fun c => absurd (by decide) c⟩
    rw [nI_clamp (by omega), hJk]
    refine ⟨fun c => fin _ ?_, fun c => fin _ ?_⟩
    · have c' := (nI_eq (a := J k) (b := 0) (by omega) (by omega)).1 c
      rcases Nat.eq_zero_or_pos k with z | z
      · exact Or.inr z
      · refine Or.inl ?_
        have := jab_step (J := J) (last := last) (s := k - 1) (by omega)
        rw [Nat.sub_add_cancel z, if_pos c'] at this
        rw [this, Nat.zero_add]
    · have c' : ¬ J k = 0 := fun z => c (by rw [z]; rfl)
      rcases Nat.eq_zero_or_pos k with z | z
      · exact Or.inr z
      · refine Or.inl ?_
        have := jab_step (J := J) (last := last) (s := k - 1) (by omega)
        rw [Nat.sub_add_cancel z, if_neg c'] at this
        rw [this, nI_1, Nat.add_comm]
theorem s_X3_measure (n a r : Nat) (h : XH) (ha : xPth a (xP h)) (hn : a + 4 ≤ n) (hr : xRul r (xP h)) (hnr : r + 9 ≤ n) (last len : Nat) (J : Nat → Nat) (hl : last ≤ 100) (hc : CodeOK (xI h (r + 3)) len) (hJ : ∀ j, j ≤ last → J j ≤ last) (hJl : J last = 0) (h1 : xI h r 0 = nI last) (h2 : xI h (r + 1) 3 = nI len) (h4 : ∀ j, j ≤ last → xI h (a + 1) j = nI (J j)) :
    XSpec mX3_measure 5 0 0 n n [.ref a, .ref r] h (fun v h' => v = none ∧ (∀ s, s ≤ last → ∀ g, g < 7 → xI h' (a + 2) (s * 7 + g) = farAt (xI h (r + 3)) len last J s g) ∧ xfs (fun c => c = a + 2 ∨ c = r + 4) h h') xno := by
  have c1 := hr.1
  have c2 := ha.1
  refine XSpec.of rfl (by decide) (Nat.le_of_ble_eq_true rfl) rfl (v_X3_measure_0 n a ha hn r hr hnr ?_)
  have e : (if 100 < xI h r 0 then 100 else xI h r 0) = iz (((last + 1 : Nat) : Int) - 1) := by
    rw [h1, if_neg (show ¬ (100 : Int32) < nI last from nI_nlt (a := 100) (b := last) hl (by omega)), iz_nI]; congr 1; omega
  have e2 : (0 : Int32) = nI (jab J last (last + 1 - 1)) := by
    rw [Nat.add_sub_cancel]; unfold jab; rw [Nat.sub_self]; rfl
  rw [e]
  have := l_measure n a r hn hnr c2 c1 last len _ J hl hc hJ hJl (Q := fun v h' => v = none ∧ (∀ s, s ≤ last → ∀ g, g < 7 → xI h' (a + 2) (s * 7 + g) = farAt (xI h (r + 3)) len last J s g) ∧ xfs (fun c => c = a + 2 ∨ c = r + 4) h h') (X := xno) (last + 1) h (Nat.le_refl _) ha hr h1 h2 rfl h4 (fun h' g1 g2 _ => ⟨rfl, fun s hs g hg => g2 s (by omega) g hg, g1⟩)
  rw [← e2] at this
  exact this
theorem land_le {J : Nat → Nat} {last E s : Nat} {z : Int} (hs : s ≤ last) (hJ : ∀ j, j ≤ last → J j ≤ last) : land J last E s z ≤ last := by
  have hh : ∀ t, t ≤ last → hdOf J t ≤ last := fun t ht => by
    unfold hdOf
    split
    · exact ht
    · exact hJ t ht
  unfold land
  split
  · rename_i c; exact hh _ c
  · split
    · exact hs
    · split
      · exact hh _ (by omega)
      · exact hh _ (Nat.le_refl _)
theorem goTo_le {J : Nat → Nat} {last E s g : Nat} {far : Nat → Nat → Int32} (hs : s ≤ last) (hJ : ∀ j, j ≤ last → J j ≤ last) : goTo J last E far s g ≤ last := by
  unfold goTo
  split
  · exact Nat.le_refl _
  · exact land_le hs hJ
theorem clamp200_b (v : Int32) : -200 ≤ (clamp200 v).toInt ∧ (clamp200 v).toInt ≤ 200 := by
  unfold clamp200
  have e1 : (200 : Int32).toInt = 200 := by decide
  have e2 : (-200 : Int32).toInt = -200 := by decide
  by_cases c : v < 200
  · rw [if_pos c]
    rw [Int32.lt_iff_toInt_lt, e1] at c
    by_cases d : -200 < v
    · rw [if_pos d]
      rw [Int32.lt_iff_toInt_lt, e2] at d
      omega
    · rw [if_neg d, e2]; omega
  · rw [if_neg c, if_pos (show (-200 : Int32) < 200 by decide), e1]; omega
theorem farAt_b (C : Nat → Int32) (len last : Nat) (J : Nat → Nat) (s g : Nat) : -200 ≤ (farAt C len last J s g).toInt ∧ (farAt C len last J s g).toInt ≤ 200 := clamp200_b _
theorem l_layIn (n a r : Nat) (hn : a + 4 ≤ n) (hnr : r + 9 ≤ n) (last E : Nat) (J : Nat → Nat) (far : Nat → Nat → Int32) (hl : last ≤ 100) (hE : E ≤ 2) (hb : ∀ s g, -200 ≤ (far s g).toInt ∧ (far s g).toInt ≤ 200) (hJ : ∀ j, j ≤ last → J j ≤ last) (s : Nat) (hs : s ≤ last) {Q : Option Value → XH → Prop} {X : String → XH → Prop} : ∀ (k x : Nat) (h : XH), x + k = 7 → xPth a (xP h) → xRul r (xP h) → (∀ j, j ≤ last → xI h (a + 1) j = nI (J j)) → (∀ g, g < 7 → xI h (a + 2) (s * 7 + g) = far s g) →
    (∀ F : Nat → Int32, (∀ j, F j = if s * 7 + x ≤ j ∧ j < s * 7 + 7 then nI (goTo J last E far s (j - s * 7)) else xI h (a + 3) j) → XW (xrm 3 0 0) mX3_lay (xE n Q X 0 0) n 0 0 (xSI (a + 3) F h) 22 [some (.ref a), none, some (.int (nI E)), some (.int (nI last)), some (.int (nI s)), some (.int (nI 7)), none] []) →
    XW (xrm 3 0 0) mX3_lay (xE n Q X 0 0) n 0 0 h 22 [some (.ref a), none, some (.int (nI E)), some (.int (nI last)), some (.int (nI s)), some (.int (nI x)), none] [] := by
  intro k
  induction k with
  | zero =>
    intro x h hx ha hr h1 h2 hQ
    have : x = 7 := by omega
    subst this
    have := hQ (xI h (a + 3)) (fun j => by rw [if_neg (by omega)])
    rwa [xSI_self] at this
  | succ k ih =>
    intro x h hx ha hr h1 h2 hQ
    have e1 : nI s * 7 + nI x = nI (s * 7 + x) := by
      rw [show (7 : Int32) = nI 7 from rfl, pk_mul, nI_add]
    have fin : ∀ w : Int32, w = nI (goTo J last E far s x) → XW (xrm 3 0 0) mX3_lay (xE n Q X 0 0) n 0 0 (xSI (a + 3) (va_up (xI h (a + 3)) (s * 7 + x) w) h) 22 [some (.ref a), none, some (.int (nI E)), some (.int (nI last)), some (.int (nI s)), some (.int (nI (x + 1))), none] [] := by
      intro w hw
      refine ih (x + 1) _ (by omega) ha hr (fun j hj => by rw [xI_ne (by omega)]; exact h1 j hj) (fun g hg => by rw [xI_ne (by omega)]; exact h2 g hg) (fun F hF => ?_)
      rw [xSI_SI]
      refine hQ F (fun j => ?_)
      rw [hF j, xI_at]
      unfold va_up
      by_cases c : j = s * 7 + x
      · rw [if_neg (by omega), if_pos c, if_pos (by omega), c, Nat.add_sub_cancel_left, hw]
      · by_cases c2 : s * 7 + (x + 1) ≤ j ∧ j < s * 7 + 7
        · rw [if_pos c2, if_pos (by omega)]
        · rw [if_neg c2, if_neg c, if_neg (by omega)]
    refine v_X3_lay_22 n a ha hn r hr hnr (nI E) (nI last) (nI s) (nI x) ⟨fun c => absurd c (nI_ge (a := x) (b := 7) (by omega) (by omega)), fun _ => ?_⟩
    rw [e1, nI_1, nI_clamp (by omega), h2 x (by omega)]
    have hv : vp_in (nI (s * 7 + x)) 707 := vp_in_nI (by omega) (by omega)
    refine ⟨fun c => ⟨hv, ?_⟩, fun c => ⟨hv, ?_⟩⟩
    · have c' : ¬ s = last := fun z => c (by rw [z])
      rw [iz_of (far s x)]
      refine ⟨_, s_X3_landing n a h ha hn J last E s _ hl hE hs (hb s x) (fun j hj => ⟨h1 j hj, hJ j hj⟩), ?_⟩
      rintro v h1' ⟨rfl, rfl⟩
      refine ⟨_, rfl, hv, fin _ ?_⟩
      rw [goTo, if_neg c']
    · have c' : s = last := (nI_eq (by omega) (by omega)).1 c
      refine fin _ ?_
      rw [goTo, if_pos c']
theorem l_lay (n a r : Nat) (hn : a + 4 ≤ n) (hnr : r + 9 ≤ n) (last E : Nat) (J : Nat → Nat) (far : Nat → Nat → Int32) (hl : last ≤ 100) (hE : E ≤ 2) (hb : ∀ s g, -200 ≤ (far s g).toInt ∧ (far s g).toInt ≤ 200) (hJ : ∀ j, j ≤ last → J j ≤ last) {Q : Option Value → XH → Prop} {X : String → XH → Prop} : ∀ (k x : Nat) (h : XH), x + k = last + 1 → xPth a (xP h) → xRul r (xP h) → (∀ j, j ≤ last → xI h (a + 1) j = nI (J j)) → (∀ s, s ≤ last → ∀ g, g < 7 → xI h (a + 2) (s * 7 + g) = far s g) →
    (∀ F : Nat → Int32, (∀ s, x ≤ s → s ≤ last → ∀ g, g < 7 → F (s * 7 + g) = nI (goTo J last E far s g)) → (∀ j, j < x * 7 → F j = xI h (a + 3) j) → Q none (xSI (a + 3) F h)) →
    XW (xrm 3 0 0) mX3_lay (xE n Q X 0 0) n 0 0 h 13 [some (.ref a), none, some (.int (nI E)), some (.int (nI last)), some (.int (nI x)), none, none] [] := by
  intro k
  induction k with
  | zero =>
    intro x h hx ha hr h1 h2 hQ
    have : x = last + 1 := by omega
    subst this
    refine v_X3_lay_13 n a ha hn r hr hnr (nI E) (nI last) (nI (last + 1)) ⟨fun _ => ?_, fun c => absurd (nI_lt (by omega) (by omega)) c⟩
    have := hQ (xI h (a + 3)) (fun s h1 h2 => by omega) (fun _ _ => rfl)
    rwa [xSI_self] at this
  | succ k ih =>
    intro x h hx ha hr h1 h2 hQ
    refine v_X3_lay_13 n a ha hn r hr hnr (nI E) (nI last) (nI x) ⟨fun c => absurd c (nI_nlt (by omega) (by omega)), fun _ => ?_⟩
    refine l_layIn n a r hn hnr last E J far hl hE hb hJ x (by omega) 7 0 h (by omega) ha hr h1 (h2 x (by omega)) (fun F hF => ?_)
    refine v_X3_lay_22 (h := xSI (a + 3) F h) n a ha hn r hr hnr (nI E) (nI last) (nI x) (nI 7) ⟨fun _ => ?_, fun c => absurd (by decide) c⟩
    rw [nI_1]
    refine ih (x + 1) (xSI (a + 3) F h) (by omega) ha hr (fun j hj => by rw [xI_ne (by omega)]; exact h1 j hj) (fun s hs g hg => by rw [xI_ne (by omega)]; exact h2 s hs g hg) (fun F' g1 g2 => ?_)
    rw [xSI_SI]
    refine hQ F' (fun s s1 s2 g hg => ?_) (fun j hj => ?_)
    · by_cases c : s = x
      · subst c
        rw [g2 _ (by omega), xI_at, hF _, if_pos (by omega), Nat.add_sub_cancel_left]
      · exact g1 s (by omega) s2 g hg
    · rw [g2 j (by omega), xI_at, hF j, if_neg (by omega)]
theorem s_X3_lay (n a r : Nat) (h : XH) (ha : xPth a (xP h)) (hn : a + 4 ≤ n) (hr : xRul r (xP h)) (hnr : r + 9 ≤ n) (last E : Nat) (J : Nat → Nat) (far : Nat → Nat → Int32) (hl : last ≤ 100) (hE : E ≤ 2) (hb : ∀ s g, -200 ≤ (far s g).toInt ∧ (far s g).toInt ≤ 200) (hJ : ∀ j, j ≤ last → J j ≤ last) (h0 : xI h r 0 = nI last) (h1 : ∀ j, j ≤ last → xI h (a + 1) j = nI (J j)) (h2 : ∀ s, s ≤ last → ∀ g, g < 7 → xI h (a + 2) (s * 7 + g) = far s g) :
    XSpec mX3_lay 3 0 0 n n [.ref a, .ref r, .int (nI E)] h (fun v h' => v = none ∧ (∀ s, s ≤ last → ∀ g, g < 7 → xI h' (a + 3) (s * 7 + g) = nI (goTo J last E far s g)) ∧ xfr (a + 3) (a + 4) h h') xno := by
  refine XSpec.of rfl (by decide) (Nat.le_of_ble_eq_true rfl) rfl (v_X3_lay_0 n a ha hn r hr hnr (nI E) ?_)
  have e : (if 100 < xI h r 0 then 100 else xI h r 0) = nI last := by
    rw [h0, if_neg (show ¬ (100 : Int32) < nI last from nI_nlt (a := 100) (b := last) hl (by omega))]
  rw [e]
  exact l_lay n a r hn hnr last E J far hl hE hb hJ (last + 1) 0 h (by omega) ha hr h1 h2 (fun F g1 _ => ⟨rfl, fun s hs g hg => by rw [xI_at]; exact g1 s (Nat.zero_le _) hs g hg, xfr.SI (by omega) (by omega)⟩)
