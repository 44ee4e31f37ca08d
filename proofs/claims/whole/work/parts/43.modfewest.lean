/-! THE REFERENCE: fewest, never, lost, round (walks) -/
set_option maxRecDepth 20000 in
theorem v_X11_isSquare_0 {h : XH} {Q : Option Value → XH → Prop} {X : String → XH → Prop} (hM : xMod (xP h))  (sq : Int32)
    (vc : ∃ Q1, XSpec mX11_isIn 1 0 0 100 100 [.long (Int32.toInt64 sq), .long 0, .long (Int32.toInt64 (xI h 59 0))] h Q1 xno ∧ ∀ v h1, Q1 v h1 → ∃ r1 : Int32, v = some (.int r1) ∧ ((narrow .boolean (.int r1) = .int r1) ∧ (Q (some (.int r1)) h1))) :
    XW (xrm 2 0 0) mX11_isSquare (xE 100 Q X 0 0) 100 0 0 h 0 [some (.ref 56), some (.int sq)] [] := by
  refine xi_iload_n (by decide +kernel : decode mX11_isSquare.2.1 0 = .ok (.iload_n 1, 1)) rfl rfl (?_ : XW _ _ _ _ _ _ _ 1 _ _)
  refine xi_i2l (by decide +kernel : decode mX11_isSquare.2.1 1 = .ok (.i2l, 1)) (?_ : XW _ _ _ _ _ _ _ 2 _ _)
  refine xi_lconst (v := 0) (by decide +kernel : decode mX11_isSquare.2.1 2 = .ok (.lconst 0, 1)) (by decide) (?_ : XW _ _ _ _ _ _ _ 3 _ _)
  refine xi_aload_n (by decide +kernel : decode mX11_isSquare.2.1 3 = .ok (.aload_n 0, 1)) rfl rfl (?_ : XW _ _ _ _ _ _ _ 4 _ _)
  refine xi_getR (y := 59) (by decide +kernel : decode mX11_isSquare.2.1 4 = .ok (.getfield 32, 3)) fX11_32 rfl (by omega) rfl (mp_told hM) (?_ : XW _ _ _ _ _ _ _ 7 _ _)
  refine xi_iconst (v := 0) (by decide +kernel : decode mX11_isSquare.2.1 7 = .ok (.iconst 0, 1)) (by decide) (?_ : XW _ _ _ _ _ _ _ 8 _ _)
  refine xi_iald (by decide +kernel : decode mX11_isSquare.2.1 8 = .ok (.iaload, 1)) rfl (by omega) (by unfold vp_in; decide) (?_ : XW _ _ _ _ _ _ _ 9 _ [.int (xI h 59 0), .long 0, .long (Int32.toInt64 sq)])
  refine xi_i2l (by decide +kernel : decode mX11_isSquare.2.1 9 = .ok (.i2l, 1)) (?_ : XW _ _ _ _ _ _ _ 10 _ _)
  obtain ⟨Q1, sp, vc⟩ := vc
  refine xi_callS (b := 0) (bs := 0) (As := [.long (Int32.toInt64 sq), .long 0, .long (Int32.toInt64 (xI h 59 0))]) (st := []) (by decide +kernel : decode mX11_isSquare.2.1 10 = .ok (.invokestatic 164, 3)) kX11_164 rfl rfl sp (by decide) (by decide) (Nat.le_of_ble_eq_true rfl) (by omega) (fun v9 h1 hq9 => ?_)
  obtain ⟨r1, e9, vc⟩ := vc v9 h1 hq9
  subst e9
  show XW _ _ _ _ _ _ _ 13 _ [.int r1]
  obtain ⟨s1, vc⟩ := vc
  exact xi_iret (by decide +kernel : decode mX11_isSquare.2.1 13 = .ok (.ireturn, 1)) rfl s1 vc

set_option maxRecDepth 20000 in
theorem v_X11_fewest_0 {h : XH} {Q : Option Value → XH → Prop} {X : String → XH → Prop} (hM : xMod (xP h))  (sq : Int32)
    (vc : ∃ Q1, XSpec mX11_isSquare 2 0 0 100 100 [.ref 56, .int sq] (xSI 56 (va_up (xI h 56) 2 0) h) Q1 xno ∧ ∀ v h1, Q1 v h1 → ∃ r1 : Int32, v = some (.int r1) ∧ ((¬ r1 = 0 → ∃ Q1, XSpec mX11_tellBoard 5 0 0 100 100 [.ref 56] h1 Q1 xno ∧ ∀ v h2, Q1 v h2 → v = none ∧ ((xP h2 56 3 = some 59) ∧ (∃ Q1, XSpec mX11_tellAway 2 0 0 100 100 [.ref 56, .int (xI h2 59 0)] h2 Q1 xno ∧ ∀ v h3, Q1 v h3 → v = none ∧ ((xP h3 56 37 = some 80) ∧ ((vp_in sq 101) ∧ ((¬ (xI h3 80 sq.toNatClampNeg) = (-1) → XW (xrm 6 0 0) mX11_fewest (xE 100 Q X 0 0) 100 0 0 h3 49 [some (.ref 56), some (.int sq), some (.int sq), some (.int 0), none] []) ∧ ((xI h3 80 sq.toNatClampNeg) = (-1) → Q (some (.int (-1))) h3))))))) ∧ (r1 = 0 → ∃ Q1, XSpec mX11_fail 1 0 0 100 100 [.ref 56, .int 1] h1 Q1 xno ∧ ∀ v h4, Q1 v h4 → ∃ r4 : Int32, v = some (.int r4) ∧ (Q (some (.int r4)) h4)))) :
    XW (xrm 6 0 0) mX11_fewest (xE 100 Q X 0 0) 100 0 0 h 0 [some (.ref 56), some (.int sq), none, none, none] [] := by
  refine xi_aload_n (by decide +kernel : decode mX11_fewest.2.1 0 = .ok (.aload_n 0, 1)) rfl rfl (?_ : XW _ _ _ _ _ _ _ 1 _ _)
  refine xi_iconst (v := 0) (by decide +kernel : decode mX11_fewest.2.1 1 = .ok (.iconst 0, 1)) (by decide) (?_ : XW _ _ _ _ _ _ _ 2 _ _)
  refine xi_putI (by decide +kernel : decode mX11_fewest.2.1 2 = .ok (.putfield 161, 3)) fX11_161 rfl (by omega) rfl rfl rfl (?_ : XW _ _ _ _ _ _ (xSI 56 (va_up (xI h 56) 2 0) h) 5 _ _)
  refine xi_aload_n (by decide +kernel : decode mX11_fewest.2.1 5 = .ok (.aload_n 0, 1)) rfl rfl (?_ : XW _ _ _ _ _ _ _ 6 _ _)
  refine xi_iload_n (by decide +kernel : decode mX11_fewest.2.1 6 = .ok (.iload_n 1, 1)) rfl rfl (?_ : XW _ _ _ _ _ _ _ 7 _ _)
  obtain ⟨Q1, sp, vc⟩ := vc
  refine xi_callV (b := 0) (bs := 0) (As := [.int sq]) (st := []) (by decide +kernel : decode mX11_fewest.2.1 7 = .ok (.invokevirtual 367, 3)) kX11_367 rfl rfl (by omega) rfl sp (by decide) (by decide) (Nat.le_of_ble_eq_true rfl) (by omega) (fun v9 h1 hq9 => ?_)
  obtain ⟨r1, e9, vc⟩ := vc v9 h1 hq9
  subst e9
  show XW _ _ _ _ _ _ _ 10 _ [.int r1]
  refine xi_if_ne (by decide +kernel : decode mX11_fewest.2.1 10 = .ok (.ifCond .ne 9, 3)) (by decide) (fun c => (?_ : XW _ _ _ _ _ _ _ 19 _ _)) (fun c => (?_ : XW _ _ _ _ _ _ _ 13 _ _))
  · replace vc := vc.1 c
    refine xi_aload_n (by decide +kernel : decode mX11_fewest.2.1 19 = .ok (.aload_n 0, 1)) rfl rfl (?_ : XW _ _ _ _ _ _ _ 20 _ _)
    obtain ⟨Q1, sp, vc⟩ := vc
    refine xi_callV (b := 0) (bs := 0) (As := []) (st := []) (by decide +kernel : decode mX11_fewest.2.1 20 = .ok (.invokevirtual 373, 3)) kX11_373 rfl rfl (by omega) rfl sp (by decide) (by decide) (Nat.le_of_ble_eq_true rfl) (by omega) (fun v9 h2 hq9 => ?_)
    obtain ⟨e9, vc⟩ := vc v9 h2 hq9
    subst e9
    show XW _ _ _ _ _ _ _ 23 _ []
    refine xi_aload_n (by decide +kernel : decode mX11_fewest.2.1 23 = .ok (.aload_n 0, 1)) rfl rfl (?_ : XW _ _ _ _ _ _ _ 24 _ _)
    refine xi_aload_n (by decide +kernel : decode mX11_fewest.2.1 24 = .ok (.aload_n 0, 1)) rfl rfl (?_ : XW _ _ _ _ _ _ _ 25 _ _)
    obtain ⟨s1, vc⟩ := vc
    refine xi_getR (y := 59) (by decide +kernel : decode mX11_fewest.2.1 25 = .ok (.getfield 32, 3)) fX11_32 rfl (by omega) rfl s1 (?_ : XW _ _ _ _ _ _ _ 28 _ _)
    refine xi_iconst (v := 0) (by decide +kernel : decode mX11_fewest.2.1 28 = .ok (.iconst 0, 1)) (by decide) (?_ : XW _ _ _ _ _ _ _ 29 _ _)
    refine xi_iald (by decide +kernel : decode mX11_fewest.2.1 29 = .ok (.iaload, 1)) rfl (by omega) (by unfold vp_in; decide) (?_ : XW _ _ _ _ _ _ _ 30 _ [.int (xI h2 59 0), .ref 56])
    obtain ⟨Q1, sp, vc⟩ := vc
    refine xi_callV (b := 0) (bs := 0) (As := [.int (xI h2 59 0)]) (st := []) (by decide +kernel : decode mX11_fewest.2.1 30 = .ok (.invokevirtual 398, 3)) kX11_398 rfl rfl (by omega) rfl sp (by decide) (by decide) (Nat.le_of_ble_eq_true rfl) (by omega) (fun v9 h3 hq9 => ?_)
    obtain ⟨e9, vc⟩ := vc v9 h3 hq9
    subst e9
    show XW _ _ _ _ _ _ _ 33 _ []
    refine xi_aload_n (by decide +kernel : decode mX11_fewest.2.1 33 = .ok (.aload_n 0, 1)) rfl rfl (?_ : XW _ _ _ _ _ _ _ 34 _ _)
    obtain ⟨s1, vc⟩ := vc
    refine xi_getR (y := 80) (by decide +kernel : decode mX11_fewest.2.1 34 = .ok (.getfield 100, 3)) fX11_100 rfl (by omega) rfl s1 (?_ : XW _ _ _ _ _ _ _ 37 _ _)
    refine xi_iload_n (by decide +kernel : decode mX11_fewest.2.1 37 = .ok (.iload_n 1, 1)) rfl rfl (?_ : XW _ _ _ _ _ _ _ 38 _ _)
    obtain ⟨s1, vc⟩ := vc
    refine xi_iald (by decide +kernel : decode mX11_fewest.2.1 38 = .ok (.iaload, 1)) rfl (by omega) s1 (?_ : XW _ _ _ _ _ _ _ 39 _ _)
    refine xi_iconst (v := (-1)) (by decide +kernel : decode mX11_fewest.2.1 39 = .ok (.iconst (-1), 1)) (by decide) (?_ : XW _ _ _ _ _ _ _ 40 _ _)
    refine xi_icmp_ne (by decide +kernel : decode mX11_fewest.2.1 40 = .ok (.if_icmp .ne 5, 3)) (by decide) (fun c => (?_ : XW _ _ _ _ _ _ _ 45 _ _)) (fun c => (?_ : XW _ _ _ _ _ _ _ 43 _ _))
    · replace vc := vc.1 c
      refine xi_iload_n (by decide +kernel : decode mX11_fewest.2.1 45 = .ok (.iload_n 1, 1)) rfl rfl (?_ : XW _ _ _ _ _ _ _ 46 _ _)
      refine xi_istore_n (ls' := [some (.ref 56), some (.int sq), some (.int sq), none, none]) (by decide +kernel : decode mX11_fewest.2.1 46 = .ok (.istore_n 2, 1)) rfl (by decide) rfl (?_ : XW _ _ _ _ _ _ _ 47 _ _)
      refine xi_iconst (v := 0) (by decide +kernel : decode mX11_fewest.2.1 47 = .ok (.iconst 0, 1)) (by decide) (?_ : XW _ _ _ _ _ _ _ 48 _ _)
      refine xi_istore_n (ls' := [some (.ref 56), some (.int sq), some (.int sq), some (.int 0), none]) (by decide +kernel : decode mX11_fewest.2.1 48 = .ok (.istore_n 3, 1)) rfl (by decide) rfl (?_ : XW _ _ _ _ _ _ _ 49 _ _)
      exact vc
    · replace vc := vc.2 c
      refine xi_iconst (v := (-1)) (by decide +kernel : decode mX11_fewest.2.1 43 = .ok (.iconst (-1), 1)) (by decide) (?_ : XW _ _ _ _ _ _ _ 44 _ _)
      exact xi_iret (by decide +kernel : decode mX11_fewest.2.1 44 = .ok (.ireturn, 1)) rfl rfl vc
  · replace vc := vc.2 c
    refine xi_aload_n (by decide +kernel : decode mX11_fewest.2.1 13 = .ok (.aload_n 0, 1)) rfl rfl (?_ : XW _ _ _ _ _ _ _ 14 _ _)
    refine xi_iconst (v := 1) (by decide +kernel : decode mX11_fewest.2.1 14 = .ok (.iconst 1, 1)) (by decide) (?_ : XW _ _ _ _ _ _ _ 15 _ _)
    obtain ⟨Q1, sp, vc⟩ := vc
    refine xi_callV (b := 0) (bs := 0) (As := [.int 1]) (st := []) (by decide +kernel : decode mX11_fewest.2.1 15 = .ok (.invokevirtual 311, 3)) kX11_311 rfl rfl (by omega) rfl sp (by decide) (by decide) (Nat.le_of_ble_eq_true rfl) (by omega) (fun v9 h4 hq9 => ?_)
    obtain ⟨r4, e9, vc⟩ := vc v9 h4 hq9
    subst e9
    show XW _ _ _ _ _ _ _ 18 _ [.int r4]
    exact xi_iret (by decide +kernel : decode mX11_fewest.2.1 18 = .ok (.ireturn, 1)) rfl rfl vc

set_option maxRecDepth 20000 in
theorem v_X11_fewest_49 {h : XH} {Q : Option Value → XH → Prop} {X : String → XH → Prop} (hM : xMod (xP h))  (x1 : Int32) (x2 : Int32) (x3 : Int32)
    (vc : (vp_in x1 101) ∧ (((xI h 80 x1.toNatClampNeg) ≤ x3 → (vp_in x1 101) ∧ (Q (some (.int (va_up (xI h 56) 38 (xI h 80 x1.toNatClampNeg) 38))) (xSI 56 (va_up (xI h 56) 38 (xI h 80 x1.toNatClampNeg)) h))) ∧ (¬ (xI h 80 x1.toNatClampNeg) ≤ x3 → XW (xrm 6 0 0) mX11_fewest (xE 100 Q X 0 0) 100 0 0 h 62 [some (.ref 56), some (.int x1), some (.int x2), some (.int x3), some (.int 1)] []))) :
    XW (xrm 6 0 0) mX11_fewest (xE 100 Q X 0 0) 100 0 0 h 49 [some (.ref 56), some (.int x1), some (.int x2), some (.int x3), none] [] := by
  refine xi_iload_n (by decide +kernel : decode mX11_fewest.2.1 49 = .ok (.iload_n 3, 1)) rfl rfl (?_ : XW _ _ _ _ _ _ _ 50 _ _)
  refine xi_aload_n (by decide +kernel : decode mX11_fewest.2.1 50 = .ok (.aload_n 0, 1)) rfl rfl (?_ : XW _ _ _ _ _ _ _ 51 _ _)
  refine xi_getR (y := 80) (by decide +kernel : decode mX11_fewest.2.1 51 = .ok (.getfield 100, 3)) fX11_100 rfl (by omega) rfl (mp_away hM) (?_ : XW _ _ _ _ _ _ _ 54 _ _)
  refine xi_iload_n (by decide +kernel : decode mX11_fewest.2.1 54 = .ok (.iload_n 1, 1)) rfl rfl (?_ : XW _ _ _ _ _ _ _ 55 _ _)
  obtain ⟨s1, vc⟩ := vc
  refine xi_iald (by decide +kernel : decode mX11_fewest.2.1 55 = .ok (.iaload, 1)) rfl (by omega) s1 (?_ : XW _ _ _ _ _ _ _ 56 _ _)
  refine xi_icmp_ge (by decide +kernel : decode mX11_fewest.2.1 56 = .ok (.if_icmp .ge 79, 3)) (by decide) (fun c => (?_ : XW _ _ _ _ _ _ _ 135 _ _)) (fun c => (?_ : XW _ _ _ _ _ _ _ 59 _ _))
  · replace vc := vc.1 c
    refine xi_aload_n (by decide +kernel : decode mX11_fewest.2.1 135 = .ok (.aload_n 0, 1)) rfl rfl (?_ : XW _ _ _ _ _ _ _ 136 _ _)
    refine xi_aload_n (by decide +kernel : decode mX11_fewest.2.1 136 = .ok (.aload_n 0, 1)) rfl rfl (?_ : XW _ _ _ _ _ _ _ 137 _ _)
    refine xi_getR (y := 80) (by decide +kernel : decode mX11_fewest.2.1 137 = .ok (.getfield 100, 3)) fX11_100 rfl (by omega) rfl (mp_away hM) (?_ : XW _ _ _ _ _ _ _ 140 _ _)
    refine xi_iload_n (by decide +kernel : decode mX11_fewest.2.1 140 = .ok (.iload_n 1, 1)) rfl rfl (?_ : XW _ _ _ _ _ _ _ 141 _ _)
    obtain ⟨s1, vc⟩ := vc
    refine xi_iald (by decide +kernel : decode mX11_fewest.2.1 141 = .ok (.iaload, 1)) rfl (by omega) s1 (?_ : XW _ _ _ _ _ _ _ 142 _ _)
    refine xi_putI (by decide +kernel : decode mX11_fewest.2.1 142 = .ok (.putfield 103, 3)) fX11_103 rfl (by omega) rfl rfl rfl (?_ : XW _ _ _ _ _ _ (xSI 56 (va_up (xI h 56) 38 (xI h 80 x1.toNatClampNeg)) h) 145 _ _)
    refine xi_aload_n (by decide +kernel : decode mX11_fewest.2.1 145 = .ok (.aload_n 0, 1)) rfl rfl (?_ : XW _ _ _ _ _ _ _ 146 _ _)
    refine xi_getI (by decide +kernel : decode mX11_fewest.2.1 146 = .ok (.getfield 103, 3)) fX11_103 rfl (by omega) rfl (?_ : XW _ _ _ _ _ _ _ 149 _ [.int (va_up (xI h 56) 38 (xI h 80 x1.toNatClampNeg) 38)])
    exact xi_iret (by decide +kernel : decode mX11_fewest.2.1 149 = .ok (.ireturn, 1)) rfl rfl vc
  · replace vc := vc.2 c
    refine xi_iconst (v := 1) (by decide +kernel : decode mX11_fewest.2.1 59 = .ok (.iconst 1, 1)) (by decide) (?_ : XW _ _ _ _ _ _ _ 60 _ _)
    refine xi_istore (ls' := [some (.ref 56), some (.int x1), some (.int x2), some (.int x3), some (.int 1)]) (by decide +kernel : decode mX11_fewest.2.1 60 = .ok (.istore 4, 2)) (by decide) rfl (?_ : XW _ _ _ _ _ _ _ 62 _ _)
    exact vc

set_option maxRecDepth 20000 in
theorem v_X11_fewest_62 {h : XH} {Q : Option Value → XH → Prop} {X : String → XH → Prop} (hM : xMod (xP h))  (x1 : Int32) (x2 : Int32) (x3 : Int32) (x4 : Int32)
    (vc : (vp_in (x4 - 1) 12) ∧ (((xI h 60 (x4 - 1).toNatClampNeg) = 0 → XW (xrm 6 0 0) mX11_fewest (xE 100 Q X 0 0) 100 0 0 h 62 [some (.ref 56), some (.int x1), some (.int x2), some (.int x3), some (.int (x4 + 1))] []) ∧ (¬ (xI h 60 (x4 - 1).toNatClampNeg) = 0 → (vp_in ((101 * x4) + x2) 707) ∧ ((vp_in (xI h 67 ((101 * x4) + x2).toNatClampNeg) 101) ∧ ((vp_in x2 101) ∧ (((xI h 80 (xI h 67 ((101 * x4) + x2).toNatClampNeg).toNatClampNeg) = ((xI h 80 x2.toNatClampNeg) - 1) → (vp_in x3 101) ∧ ((vp_in ((101 * x4) + x2) 707) ∧ (XW (xrm 6 0 0) mX11_fewest (xE 100 Q X 0 0) 100 0 0 (xSI 79 (va_up (xI h 79) x3.toNatClampNeg x4) h) 49 [some (.ref 56), some (.int x1), some (.int (xI h 67 ((101 * x4) + x2).toNatClampNeg)), some (.int (x3 + 1)), none] []))) ∧ (¬ (xI h 80 (xI h 67 ((101 * x4) + x2).toNatClampNeg).toNatClampNeg) = ((xI h 80 x2.toNatClampNeg) - 1) → XW (xrm 6 0 0) mX11_fewest (xE 100 Q X 0 0) 100 0 0 h 62 [some (.ref 56), some (.int x1), some (.int x2), some (.int x3), some (.int (x4 + 1))] []))))))) :
    XW (xrm 6 0 0) mX11_fewest (xE 100 Q X 0 0) 100 0 0 h 62 [some (.ref 56), some (.int x1), some (.int x2), some (.int x3), some (.int x4)] [] := by
  refine xi_aload_n (by decide +kernel : decode mX11_fewest.2.1 62 = .ok (.aload_n 0, 1)) rfl rfl (?_ : XW _ _ _ _ _ _ _ 63 _ _)
  refine xi_getR (y := 60) (by decide +kernel : decode mX11_fewest.2.1 63 = .ok (.getfield 36, 3)) fX11_36 rfl (by omega) rfl (mp_die hM) (?_ : XW _ _ _ _ _ _ _ 66 _ _)
  refine xi_iload (by decide +kernel : decode mX11_fewest.2.1 66 = .ok (.iload 4, 2)) rfl (?_ : XW _ _ _ _ _ _ _ 68 _ _)
  refine xi_iconst (v := 1) (by decide +kernel : decode mX11_fewest.2.1 68 = .ok (.iconst 1, 1)) (by decide) (?_ : XW _ _ _ _ _ _ _ 69 _ _)
  refine xi_isub (by decide +kernel : decode mX11_fewest.2.1 69 = .ok (.isub, 1)) (?_ : XW _ _ _ _ _ _ _ 70 _ _)
  obtain ⟨s1, vc⟩ := vc
  refine xi_iald (by decide +kernel : decode mX11_fewest.2.1 70 = .ok (.iaload, 1)) rfl (by omega) s1 (?_ : XW _ _ _ _ _ _ _ 71 _ _)
  refine xi_if_eq (by decide +kernel : decode mX11_fewest.2.1 71 = .ok (.ifCond .eq 31, 3)) (by decide) (fun c => (?_ : XW _ _ _ _ _ _ _ 102 _ _)) (fun c => (?_ : XW _ _ _ _ _ _ _ 74 _ _))
  · replace vc := vc.1 c
    refine xi_iinc (v := x4 + 1) (ls' := [some (.ref 56), some (.int x1), some (.int x2), some (.int x3), some (.int (x4 + 1))]) (by decide +kernel : decode mX11_fewest.2.1 102 = .ok (.iinc 4 1, 3)) rfl rfl (by decide) rfl (?_ : XW _ _ _ _ _ _ _ 105 _ _)
    refine xi_goto (by decide +kernel : decode mX11_fewest.2.1 105 = .ok (.goto (-43), 3)) (by decide) (?_ : XW _ _ _ _ _ _ _ 62 _ _)
    exact vc
  · replace vc := vc.2 c
    refine xi_aload_n (by decide +kernel : decode mX11_fewest.2.1 74 = .ok (.aload_n 0, 1)) rfl rfl (?_ : XW _ _ _ _ _ _ _ 75 _ _)
    refine xi_getR (y := 80) (by decide +kernel : decode mX11_fewest.2.1 75 = .ok (.getfield 100, 3)) fX11_100 rfl (by omega) rfl (mp_away hM) (?_ : XW _ _ _ _ _ _ _ 78 _ _)
    refine xi_aload_n (by decide +kernel : decode mX11_fewest.2.1 78 = .ok (.aload_n 0, 1)) rfl rfl (?_ : XW _ _ _ _ _ _ _ 79 _ _)
    refine xi_getR (y := 67) (by decide +kernel : decode mX11_fewest.2.1 79 = .ok (.getfield 61, 3)) fX11_61 rfl (by omega) rfl (mp_to hM) (?_ : XW _ _ _ _ _ _ _ 82 _ _)
    refine xi_bipush (v := 101) (by decide +kernel : decode mX11_fewest.2.1 82 = .ok (.bipush 101, 2)) (by decide) (?_ : XW _ _ _ _ _ _ _ 84 _ _)
    refine xi_iload (by decide +kernel : decode mX11_fewest.2.1 84 = .ok (.iload 4, 2)) rfl (?_ : XW _ _ _ _ _ _ _ 86 _ _)
    refine xi_imul (by decide +kernel : decode mX11_fewest.2.1 86 = .ok (.imul, 1)) (?_ : XW _ _ _ _ _ _ _ 87 _ _)
    refine xi_iload_n (by decide +kernel : decode mX11_fewest.2.1 87 = .ok (.iload_n 2, 1)) rfl rfl (?_ : XW _ _ _ _ _ _ _ 88 _ _)
    refine xi_iadd (by decide +kernel : decode mX11_fewest.2.1 88 = .ok (.iadd, 1)) (?_ : XW _ _ _ _ _ _ _ 89 _ _)
    obtain ⟨s1, vc⟩ := vc
    refine xi_iald (by decide +kernel : decode mX11_fewest.2.1 89 = .ok (.iaload, 1)) rfl (by omega) s1 (?_ : XW _ _ _ _ _ _ _ 90 _ _)
    obtain ⟨s1, vc⟩ := vc
    refine xi_iald (by decide +kernel : decode mX11_fewest.2.1 90 = .ok (.iaload, 1)) rfl (by omega) s1 (?_ : XW _ _ _ _ _ _ _ 91 _ _)
    refine xi_aload_n (by decide +kernel : decode mX11_fewest.2.1 91 = .ok (.aload_n 0, 1)) rfl rfl (?_ : XW _ _ _ _ _ _ _ 92 _ _)
    refine xi_getR (y := 80) (by decide +kernel : decode mX11_fewest.2.1 92 = .ok (.getfield 100, 3)) fX11_100 rfl (by omega) rfl (mp_away hM) (?_ : XW _ _ _ _ _ _ _ 95 _ _)
    refine xi_iload_n (by decide +kernel : decode mX11_fewest.2.1 95 = .ok (.iload_n 2, 1)) rfl rfl (?_ : XW _ _ _ _ _ _ _ 96 _ _)
    obtain ⟨s1, vc⟩ := vc
    refine xi_iald (by decide +kernel : decode mX11_fewest.2.1 96 = .ok (.iaload, 1)) rfl (by omega) s1 (?_ : XW _ _ _ _ _ _ _ 97 _ _)
    refine xi_iconst (v := 1) (by decide +kernel : decode mX11_fewest.2.1 97 = .ok (.iconst 1, 1)) (by decide) (?_ : XW _ _ _ _ _ _ _ 98 _ _)
    refine xi_isub (by decide +kernel : decode mX11_fewest.2.1 98 = .ok (.isub, 1)) (?_ : XW _ _ _ _ _ _ _ 99 _ _)
    refine xi_icmp_eq (by decide +kernel : decode mX11_fewest.2.1 99 = .ok (.if_icmp .eq 9, 3)) (by decide) (fun c => (?_ : XW _ _ _ _ _ _ _ 108 _ _)) (fun c => (?_ : XW _ _ _ _ _ _ _ 102 _ _))
    · replace vc := vc.1 c
      refine xi_aload_n (by decide +kernel : decode mX11_fewest.2.1 108 = .ok (.aload_n 0, 1)) rfl rfl (?_ : XW _ _ _ _ _ _ _ 109 _ _)
      refine xi_getR (y := 79) (by decide +kernel : decode mX11_fewest.2.1 109 = .ok (.getfield 97, 3)) fX11_97 rfl (by omega) rfl (mp_row hM) (?_ : XW _ _ _ _ _ _ _ 112 _ _)
      refine xi_iload_n (by decide +kernel : decode mX11_fewest.2.1 112 = .ok (.iload_n 3, 1)) rfl rfl (?_ : XW _ _ _ _ _ _ _ 113 _ _)
      refine xi_iload (by decide +kernel : decode mX11_fewest.2.1 113 = .ok (.iload 4, 2)) rfl (?_ : XW _ _ _ _ _ _ _ 115 _ _)
      obtain ⟨s1, vc⟩ := vc
      refine xi_iast (by decide +kernel : decode mX11_fewest.2.1 115 = .ok (.iastore, 1)) rfl (by omega) s1 (?_ : XW _ _ _ _ _ _ (xSI 79 (va_up (xI h 79) x3.toNatClampNeg x4) h) 116 _ _)
      refine xi_aload_n (by decide +kernel : decode mX11_fewest.2.1 116 = .ok (.aload_n 0, 1)) rfl rfl (?_ : XW _ _ _ _ _ _ _ 117 _ _)
      refine xi_getR (y := 67) (by decide +kernel : decode mX11_fewest.2.1 117 = .ok (.getfield 61, 3)) fX11_61 rfl (by omega) rfl (mp_to hM) (?_ : XW _ _ _ _ _ _ _ 120 _ _)
      refine xi_bipush (v := 101) (by decide +kernel : decode mX11_fewest.2.1 120 = .ok (.bipush 101, 2)) (by decide) (?_ : XW _ _ _ _ _ _ _ 122 _ _)
      refine xi_iload (by decide +kernel : decode mX11_fewest.2.1 122 = .ok (.iload 4, 2)) rfl (?_ : XW _ _ _ _ _ _ _ 124 _ _)
      refine xi_imul (by decide +kernel : decode mX11_fewest.2.1 124 = .ok (.imul, 1)) (?_ : XW _ _ _ _ _ _ _ 125 _ _)
      refine xi_iload_n (by decide +kernel : decode mX11_fewest.2.1 125 = .ok (.iload_n 2, 1)) rfl rfl (?_ : XW _ _ _ _ _ _ _ 126 _ _)
      refine xi_iadd (by decide +kernel : decode mX11_fewest.2.1 126 = .ok (.iadd, 1)) (?_ : XW _ _ _ _ _ _ _ 127 _ _)
      obtain ⟨s1, vc⟩ := vc
      refine xi_iald (by decide +kernel : decode mX11_fewest.2.1 127 = .ok (.iaload, 1)) rfl (by omega) s1 (?_ : XW _ _ _ _ _ _ _ 128 _ [.int (xI h 67 ((101 * x4) + x2).toNatClampNeg)])
      refine xi_istore_n (ls' := [some (.ref 56), some (.int x1), some (.int (xI h 67 ((101 * x4) + x2).toNatClampNeg)), some (.int x3), some (.int x4)]) (by decide +kernel : decode mX11_fewest.2.1 128 = .ok (.istore_n 2, 1)) rfl (by decide) rfl (?_ : XW _ _ _ _ _ _ _ 129 _ _)
      refine xi_iinc (v := x3 + 1) (ls' := [some (.ref 56), some (.int x1), some (.int (xI h 67 ((101 * x4) + x2).toNatClampNeg)), some (.int (x3 + 1)), some (.int x4)]) (by decide +kernel : decode mX11_fewest.2.1 129 = .ok (.iinc 3 1, 3)) rfl rfl (by decide) rfl (?_ : XW _ _ _ _ _ _ _ 132 _ _)
      refine xi_goto (by decide +kernel : decode mX11_fewest.2.1 132 = .ok (.goto (-83), 3)) (by decide) (?_ : XW _ _ _ _ _ _ _ 49 _ _)
      refine xw_drop 4 (ls' := [some (.ref 56), some (.int x1), some (.int (xI h 67 ((101 * x4) + x2).toNatClampNeg)), some (.int (x3 + 1)), none]) rfl ?_
      exact vc
    · replace vc := vc.2 c
      refine xi_iinc (v := x4 + 1) (ls' := [some (.ref 56), some (.int x1), some (.int x2), some (.int x3), some (.int (x4 + 1))]) (by decide +kernel : decode mX11_fewest.2.1 102 = .ok (.iinc 4 1, 3)) rfl rfl (by decide) rfl (?_ : XW _ _ _ _ _ _ _ 105 _ _)
      refine xi_goto (by decide +kernel : decode mX11_fewest.2.1 105 = .ok (.goto (-43), 3)) (by decide) (?_ : XW _ _ _ _ _ _ _ 62 _ _)
      exact vc

set_option maxRecDepth 20000 in
theorem v_X11_never_0 {h : XH} {Q : Option Value → XH → Prop} {X : String → XH → Prop} (hM : xMod (xP h))  (sq : Int32)
    (vc : ∃ Q1, XSpec mX11_isSquare 2 0 0 100 100 [.ref 56, .int sq] (xSI 56 (va_up (xI h 56) 2 0) h) Q1 xno ∧ ∀ v h1, Q1 v h1 → ∃ r1 : Int32, v = some (.int r1) ∧ ((¬ r1 = 0 → ∃ Q1, XSpec mX11_tellBoard 5 0 0 100 100 [.ref 56] h1 Q1 xno ∧ ∀ v h2, Q1 v h2 → v = none ∧ (∃ Q1, XSpec mX11_tellAway 2 0 0 100 100 [.ref 56, .int sq] h2 Q1 xno ∧ ∀ v h3, Q1 v h3 → v = none ∧ ((xP h3 56 37 = some 80) ∧ ((¬ (xI h3 80 0) = (-1) → Q (some (.int 0)) h3) ∧ ((xI h3 80 0) = (-1) → Q (some (.int 1)) h3))))) ∧ (r1 = 0 → Q (some (.int 0)) (xSI 56 (va_up (xI h1 56) 2 1) h1)))) :
    XW (xrm 6 0 0) mX11_never (xE 100 Q X 0 0) 100 0 0 h 0 [some (.ref 56), some (.int sq)] [] := by
  refine xi_aload_n (by decide +kernel : decode mX11_never.2.1 0 = .ok (.aload_n 0, 1)) rfl rfl (?_ : XW _ _ _ _ _ _ _ 1 _ _)
  refine xi_iconst (v := 0) (by decide +kernel : decode mX11_never.2.1 1 = .ok (.iconst 0, 1)) (by decide) (?_ : XW _ _ _ _ _ _ _ 2 _ _)
  refine xi_putI (by decide +kernel : decode mX11_never.2.1 2 = .ok (.putfield 161, 3)) fX11_161 rfl (by omega) rfl rfl rfl (?_ : XW _ _ _ _ _ _ (xSI 56 (va_up (xI h 56) 2 0) h) 5 _ _)
  refine xi_aload_n (by decide +kernel : decode mX11_never.2.1 5 = .ok (.aload_n 0, 1)) rfl rfl (?_ : XW _ _ _ _ _ _ _ 6 _ _)
  refine xi_iload_n (by decide +kernel : decode mX11_never.2.1 6 = .ok (.iload_n 1, 1)) rfl rfl (?_ : XW _ _ _ _ _ _ _ 7 _ _)
  obtain ⟨Q1, sp, vc⟩ := vc
  refine xi_callV (b := 0) (bs := 0) (As := [.int sq]) (st := []) (by decide +kernel : decode mX11_never.2.1 7 = .ok (.invokevirtual 367, 3)) kX11_367 rfl rfl (by omega) rfl sp (by decide) (by decide) (Nat.le_of_ble_eq_true rfl) (by omega) (fun v9 h1 hq9 => ?_)
  obtain ⟨r1, e9, vc⟩ := vc v9 h1 hq9
  subst e9
  show XW _ _ _ _ _ _ _ 10 _ [.int r1]
  refine xi_if_ne (by decide +kernel : decode mX11_never.2.1 10 = .ok (.ifCond .ne 10, 3)) (by decide) (fun c => (?_ : XW _ _ _ _ _ _ _ 20 _ _)) (fun c => (?_ : XW _ _ _ _ _ _ _ 13 _ _))
  · replace vc := vc.1 c
    refine xi_aload_n (by decide +kernel : decode mX11_never.2.1 20 = .ok (.aload_n 0, 1)) rfl rfl (?_ : XW _ _ _ _ _ _ _ 21 _ _)
    obtain ⟨Q1, sp, vc⟩ := vc
    refine xi_callV (b := 0) (bs := 0) (As := []) (st := []) (by decide +kernel : decode mX11_never.2.1 21 = .ok (.invokevirtual 373, 3)) kX11_373 rfl rfl (by omega) rfl sp (by decide) (by decide) (Nat.le_of_ble_eq_true rfl) (by omega) (fun v9 h2 hq9 => ?_)
    obtain ⟨e9, vc⟩ := vc v9 h2 hq9
    subst e9
    show XW _ _ _ _ _ _ _ 24 _ []
    refine xi_aload_n (by decide +kernel : decode mX11_never.2.1 24 = .ok (.aload_n 0, 1)) rfl rfl (?_ : XW _ _ _ _ _ _ _ 25 _ _)
    refine xi_iload_n (by decide +kernel : decode mX11_never.2.1 25 = .ok (.iload_n 1, 1)) rfl rfl (?_ : XW _ _ _ _ _ _ _ 26 _ _)
    obtain ⟨Q1, sp, vc⟩ := vc
    refine xi_callV (b := 0) (bs := 0) (As := [.int sq]) (st := []) (by decide +kernel : decode mX11_never.2.1 26 = .ok (.invokevirtual 398, 3)) kX11_398 rfl rfl (by omega) rfl sp (by decide) (by decide) (Nat.le_of_ble_eq_true rfl) (by omega) (fun v9 h3 hq9 => ?_)
    obtain ⟨e9, vc⟩ := vc v9 h3 hq9
    subst e9
    show XW _ _ _ _ _ _ _ 29 _ []
    refine xi_aload_n (by decide +kernel : decode mX11_never.2.1 29 = .ok (.aload_n 0, 1)) rfl rfl (?_ : XW _ _ _ _ _ _ _ 30 _ _)
    obtain ⟨s1, vc⟩ := vc
    refine xi_getR (y := 80) (by decide +kernel : decode mX11_never.2.1 30 = .ok (.getfield 100, 3)) fX11_100 rfl (by omega) rfl s1 (?_ : XW _ _ _ _ _ _ _ 33 _ _)
    refine xi_iconst (v := 0) (by decide +kernel : decode mX11_never.2.1 33 = .ok (.iconst 0, 1)) (by decide) (?_ : XW _ _ _ _ _ _ _ 34 _ _)
    refine xi_iald (by decide +kernel : decode mX11_never.2.1 34 = .ok (.iaload, 1)) rfl (by omega) (by unfold vp_in; decide) (?_ : XW _ _ _ _ _ _ _ 35 _ [.int (xI h3 80 0)])
    refine xi_iconst (v := (-1)) (by decide +kernel : decode mX11_never.2.1 35 = .ok (.iconst (-1), 1)) (by decide) (?_ : XW _ _ _ _ _ _ _ 36 _ _)
    refine xi_icmp_ne (by decide +kernel : decode mX11_never.2.1 36 = .ok (.if_icmp .ne 7, 3)) (by decide) (fun c => (?_ : XW _ _ _ _ _ _ _ 43 _ _)) (fun c => (?_ : XW _ _ _ _ _ _ _ 39 _ _))
    · replace vc := vc.1 c
      refine xi_iconst (v := 0) (by decide +kernel : decode mX11_never.2.1 43 = .ok (.iconst 0, 1)) (by decide) (?_ : XW _ _ _ _ _ _ _ 44 _ _)
      exact xi_iret (by decide +kernel : decode mX11_never.2.1 44 = .ok (.ireturn, 1)) rfl rfl vc
    · replace vc := vc.2 c
      refine xi_iconst (v := 1) (by decide +kernel : decode mX11_never.2.1 39 = .ok (.iconst 1, 1)) (by decide) (?_ : XW _ _ _ _ _ _ _ 40 _ _)
      refine xi_goto (by decide +kernel : decode mX11_never.2.1 40 = .ok (.goto 4, 3)) (by decide) (?_ : XW _ _ _ _ _ _ _ 44 _ _)
      exact xi_iret (by decide +kernel : decode mX11_never.2.1 44 = .ok (.ireturn, 1)) rfl rfl vc
  · replace vc := vc.2 c
    refine xi_aload_n (by decide +kernel : decode mX11_never.2.1 13 = .ok (.aload_n 0, 1)) rfl rfl (?_ : XW _ _ _ _ _ _ _ 14 _ _)
    refine xi_iconst (v := 1) (by decide +kernel : decode mX11_never.2.1 14 = .ok (.iconst 1, 1)) (by decide) (?_ : XW _ _ _ _ _ _ _ 15 _ _)
    refine xi_putI (by decide +kernel : decode mX11_never.2.1 15 = .ok (.putfield 161, 3)) fX11_161 rfl (by omega) rfl rfl rfl (?_ : XW _ _ _ _ _ _ (xSI 56 (va_up (xI h1 56) 2 1) h1) 18 _ _)
    refine xi_iconst (v := 0) (by decide +kernel : decode mX11_never.2.1 18 = .ok (.iconst 0, 1)) (by decide) (?_ : XW _ _ _ _ _ _ _ 19 _ _)
    exact xi_iret (by decide +kernel : decode mX11_never.2.1 19 = .ok (.ireturn, 1)) rfl rfl vc

set_option maxRecDepth 20000 in
theorem v_X11_lost_0 {h : XH} {Q : Option Value → XH → Prop} {X : String → XH → Prop} (hM : xMod (xP h))  (sq : Int32)
    (vc : ∃ Q1, XSpec mX11_isSquare 2 0 0 100 100 [.ref 56, .int sq] (xSI 56 (va_up (xI h 56) 2 0) h) Q1 xno ∧ ∀ v h1, Q1 v h1 → ∃ r1 : Int32, v = some (.int r1) ∧ ((¬ r1 = 0 → ∃ Q1, XSpec mX11_tellBoard 5 0 0 100 100 [.ref 56] h1 Q1 xno ∧ ∀ v h2, Q1 v h2 → v = none ∧ ((xP h2 56 3 = some 59) ∧ (∃ Q1, XSpec mX11_tellAway 2 0 0 100 100 [.ref 56, .int (xI h2 59 0)] h2 Q1 xno ∧ ∀ v h3, Q1 v h3 → v = none ∧ ((xP h3 56 37 = some 80) ∧ ((vp_in sq 101) ∧ ((¬ (xI h3 80 sq.toNatClampNeg) = (-1) → Q (some (.int 0)) h3) ∧ ((xI h3 80 sq.toNatClampNeg) = (-1) → Q (some (.int 1)) h3))))))) ∧ (r1 = 0 → Q (some (.int 0)) (xSI 56 (va_up (xI h1 56) 2 1) h1)))) :
    XW (xrm 6 0 0) mX11_lost (xE 100 Q X 0 0) 100 0 0 h 0 [some (.ref 56), some (.int sq)] [] := by
  refine xi_aload_n (by decide +kernel : decode mX11_lost.2.1 0 = .ok (.aload_n 0, 1)) rfl rfl (?_ : XW _ _ _ _ _ _ _ 1 _ _)
  refine xi_iconst (v := 0) (by decide +kernel : decode mX11_lost.2.1 1 = .ok (.iconst 0, 1)) (by decide) (?_ : XW _ _ _ _ _ _ _ 2 _ _)
  refine xi_putI (by decide +kernel : decode mX11_lost.2.1 2 = .ok (.putfield 161, 3)) fX11_161 rfl (by omega) rfl rfl rfl (?_ : XW _ _ _ _ _ _ (xSI 56 (va_up (xI h 56) 2 0) h) 5 _ _)
  refine xi_aload_n (by decide +kernel : decode mX11_lost.2.1 5 = .ok (.aload_n 0, 1)) rfl rfl (?_ : XW _ _ _ _ _ _ _ 6 _ _)
  refine xi_iload_n (by decide +kernel : decode mX11_lost.2.1 6 = .ok (.iload_n 1, 1)) rfl rfl (?_ : XW _ _ _ _ _ _ _ 7 _ _)
  obtain ⟨Q1, sp, vc⟩ := vc
  refine xi_callV (b := 0) (bs := 0) (As := [.int sq]) (st := []) (by decide +kernel : decode mX11_lost.2.1 7 = .ok (.invokevirtual 367, 3)) kX11_367 rfl rfl (by omega) rfl sp (by decide) (by decide) (Nat.le_of_ble_eq_true rfl) (by omega) (fun v9 h1 hq9 => ?_)
  obtain ⟨r1, e9, vc⟩ := vc v9 h1 hq9
  subst e9
  show XW _ _ _ _ _ _ _ 10 _ [.int r1]
  refine xi_if_ne (by decide +kernel : decode mX11_lost.2.1 10 = .ok (.ifCond .ne 10, 3)) (by decide) (fun c => (?_ : XW _ _ _ _ _ _ _ 20 _ _)) (fun c => (?_ : XW _ _ _ _ _ _ _ 13 _ _))
  · replace vc := vc.1 c
    refine xi_aload_n (by decide +kernel : decode mX11_lost.2.1 20 = .ok (.aload_n 0, 1)) rfl rfl (?_ : XW _ _ _ _ _ _ _ 21 _ _)
    obtain ⟨Q1, sp, vc⟩ := vc
    refine xi_callV (b := 0) (bs := 0) (As := []) (st := []) (by decide +kernel : decode mX11_lost.2.1 21 = .ok (.invokevirtual 373, 3)) kX11_373 rfl rfl (by omega) rfl sp (by decide) (by decide) (Nat.le_of_ble_eq_true rfl) (by omega) (fun v9 h2 hq9 => ?_)
    obtain ⟨e9, vc⟩ := vc v9 h2 hq9
    subst e9
    show XW _ _ _ _ _ _ _ 24 _ []
    refine xi_aload_n (by decide +kernel : decode mX11_lost.2.1 24 = .ok (.aload_n 0, 1)) rfl rfl (?_ : XW _ _ _ _ _ _ _ 25 _ _)
    refine xi_aload_n (by decide +kernel : decode mX11_lost.2.1 25 = .ok (.aload_n 0, 1)) rfl rfl (?_ : XW _ _ _ _ _ _ _ 26 _ _)
    obtain ⟨s1, vc⟩ := vc
    refine xi_getR (y := 59) (by decide +kernel : decode mX11_lost.2.1 26 = .ok (.getfield 32, 3)) fX11_32 rfl (by omega) rfl s1 (?_ : XW _ _ _ _ _ _ _ 29 _ _)
    refine xi_iconst (v := 0) (by decide +kernel : decode mX11_lost.2.1 29 = .ok (.iconst 0, 1)) (by decide) (?_ : XW _ _ _ _ _ _ _ 30 _ _)
    refine xi_iald (by decide +kernel : decode mX11_lost.2.1 30 = .ok (.iaload, 1)) rfl (by omega) (by unfold vp_in; decide) (?_ : XW _ _ _ _ _ _ _ 31 _ [.int (xI h2 59 0), .ref 56])
    obtain ⟨Q1, sp, vc⟩ := vc
    refine xi_callV (b := 0) (bs := 0) (As := [.int (xI h2 59 0)]) (st := []) (by decide +kernel : decode mX11_lost.2.1 31 = .ok (.invokevirtual 398, 3)) kX11_398 rfl rfl (by omega) rfl sp (by decide) (by decide) (Nat.le_of_ble_eq_true rfl) (by omega) (fun v9 h3 hq9 => ?_)
    obtain ⟨e9, vc⟩ := vc v9 h3 hq9
    subst e9
    show XW _ _ _ _ _ _ _ 34 _ []
    refine xi_aload_n (by decide +kernel : decode mX11_lost.2.1 34 = .ok (.aload_n 0, 1)) rfl rfl (?_ : XW _ _ _ _ _ _ _ 35 _ _)
    obtain ⟨s1, vc⟩ := vc
    refine xi_getR (y := 80) (by decide +kernel : decode mX11_lost.2.1 35 = .ok (.getfield 100, 3)) fX11_100 rfl (by omega) rfl s1 (?_ : XW _ _ _ _ _ _ _ 38 _ _)
    refine xi_iload_n (by decide +kernel : decode mX11_lost.2.1 38 = .ok (.iload_n 1, 1)) rfl rfl (?_ : XW _ _ _ _ _ _ _ 39 _ _)
    obtain ⟨s1, vc⟩ := vc
    refine xi_iald (by decide +kernel : decode mX11_lost.2.1 39 = .ok (.iaload, 1)) rfl (by omega) s1 (?_ : XW _ _ _ _ _ _ _ 40 _ _)
    refine xi_iconst (v := (-1)) (by decide +kernel : decode mX11_lost.2.1 40 = .ok (.iconst (-1), 1)) (by decide) (?_ : XW _ _ _ _ _ _ _ 41 _ _)
    refine xi_icmp_ne (by decide +kernel : decode mX11_lost.2.1 41 = .ok (.if_icmp .ne 7, 3)) (by decide) (fun c => (?_ : XW _ _ _ _ _ _ _ 48 _ _)) (fun c => (?_ : XW _ _ _ _ _ _ _ 44 _ _))
    · replace vc := vc.1 c
      refine xi_iconst (v := 0) (by decide +kernel : decode mX11_lost.2.1 48 = .ok (.iconst 0, 1)) (by decide) (?_ : XW _ _ _ _ _ _ _ 49 _ _)
      exact xi_iret (by decide +kernel : decode mX11_lost.2.1 49 = .ok (.ireturn, 1)) rfl rfl vc
    · replace vc := vc.2 c
      refine xi_iconst (v := 1) (by decide +kernel : decode mX11_lost.2.1 44 = .ok (.iconst 1, 1)) (by decide) (?_ : XW _ _ _ _ _ _ _ 45 _ _)
      refine xi_goto (by decide +kernel : decode mX11_lost.2.1 45 = .ok (.goto 4, 3)) (by decide) (?_ : XW _ _ _ _ _ _ _ 49 _ _)
      exact xi_iret (by decide +kernel : decode mX11_lost.2.1 49 = .ok (.ireturn, 1)) rfl rfl vc
  · replace vc := vc.2 c
    refine xi_aload_n (by decide +kernel : decode mX11_lost.2.1 13 = .ok (.aload_n 0, 1)) rfl rfl (?_ : XW _ _ _ _ _ _ _ 14 _ _)
    refine xi_iconst (v := 1) (by decide +kernel : decode mX11_lost.2.1 14 = .ok (.iconst 1, 1)) (by decide) (?_ : XW _ _ _ _ _ _ _ 15 _ _)
    refine xi_putI (by decide +kernel : decode mX11_lost.2.1 15 = .ok (.putfield 161, 3)) fX11_161 rfl (by omega) rfl rfl rfl (?_ : XW _ _ _ _ _ _ (xSI 56 (va_up (xI h1 56) 2 1) h1) 18 _ _)
    refine xi_iconst (v := 0) (by decide +kernel : decode mX11_lost.2.1 18 = .ok (.iconst 0, 1)) (by decide) (?_ : XW _ _ _ _ _ _ _ 19 _ _)
    exact xi_iret (by decide +kernel : decode mX11_lost.2.1 19 = .ok (.ireturn, 1)) rfl rfl vc

set_option maxRecDepth 20000 in
theorem v_X11_round_0 {h : XH} {Q : Option Value → XH → Prop} {X : String → XH → Prop} (hM : xMod (xP h))  (sq : Int32)
    (vc : ∃ Q1, XSpec mX11_isSquare 2 0 0 100 100 [.ref 56, .int sq] (xSI 56 (va_up (xI h 56) 2 0) h) Q1 xno ∧ ∀ v h1, Q1 v h1 → ∃ r1 : Int32, v = some (.int r1) ∧ ((¬ r1 = 0 → ∃ Q1, XSpec mX11_tellBoard 5 0 0 100 100 [.ref 56] h1 Q1 xno ∧ ∀ v h2, Q1 v h2 → v = none ∧ (∃ Q1, XSpec mX11_tellAway 2 0 0 100 100 [.ref 56, .int sq] h2 Q1 xno ∧ ∀ v h3, Q1 v h3 → v = none ∧ (XW (xrm 6 0 0) mX11_round (xE 100 Q X 0 0) 100 0 0 h3 32 [some (.ref 56), some (.int sq), some (.int (-1)), some (.int 1), none] []))) ∧ (r1 = 0 → ∃ Q1, XSpec mX11_fail 1 0 0 100 100 [.ref 56, .int 1] h1 Q1 xno ∧ ∀ v h4, Q1 v h4 → ∃ r4 : Int32, v = some (.int r4) ∧ (Q (some (.int r4)) h4)))) :
    XW (xrm 6 0 0) mX11_round (xE 100 Q X 0 0) 100 0 0 h 0 [some (.ref 56), some (.int sq), none, none, none] [] := by
  refine xi_aload_n (by decide +kernel : decode mX11_round.2.1 0 = .ok (.aload_n 0, 1)) rfl rfl (?_ : XW _ _ _ _ _ _ _ 1 _ _)
  refine xi_iconst (v := 0) (by decide +kernel : decode mX11_round.2.1 1 = .ok (.iconst 0, 1)) (by decide) (?_ : XW _ _ _ _ _ _ _ 2 _ _)
  refine xi_putI (by decide +kernel : decode mX11_round.2.1 2 = .ok (.putfield 161, 3)) fX11_161 rfl (by omega) rfl rfl rfl (?_ : XW _ _ _ _ _ _ (xSI 56 (va_up (xI h 56) 2 0) h) 5 _ _)
  refine xi_aload_n (by decide +kernel : decode mX11_round.2.1 5 = .ok (.aload_n 0, 1)) rfl rfl (?_ : XW _ _ _ _ _ _ _ 6 _ _)
  refine xi_iload_n (by decide +kernel : decode mX11_round.2.1 6 = .ok (.iload_n 1, 1)) rfl rfl (?_ : XW _ _ _ _ _ _ _ 7 _ _)
  obtain ⟨Q1, sp, vc⟩ := vc
  refine xi_callV (b := 0) (bs := 0) (As := [.int sq]) (st := []) (by decide +kernel : decode mX11_round.2.1 7 = .ok (.invokevirtual 367, 3)) kX11_367 rfl rfl (by omega) rfl sp (by decide) (by decide) (Nat.le_of_ble_eq_true rfl) (by omega) (fun v9 h1 hq9 => ?_)
  obtain ⟨r1, e9, vc⟩ := vc v9 h1 hq9
  subst e9
  show XW _ _ _ _ _ _ _ 10 _ [.int r1]
  refine xi_if_ne (by decide +kernel : decode mX11_round.2.1 10 = .ok (.ifCond .ne 9, 3)) (by decide) (fun c => (?_ : XW _ _ _ _ _ _ _ 19 _ _)) (fun c => (?_ : XW _ _ _ _ _ _ _ 13 _ _))
  · replace vc := vc.1 c
    refine xi_aload_n (by decide +kernel : decode mX11_round.2.1 19 = .ok (.aload_n 0, 1)) rfl rfl (?_ : XW _ _ _ _ _ _ _ 20 _ _)
    obtain ⟨Q1, sp, vc⟩ := vc
    refine xi_callV (b := 0) (bs := 0) (As := []) (st := []) (by decide +kernel : decode mX11_round.2.1 20 = .ok (.invokevirtual 373, 3)) kX11_373 rfl rfl (by omega) rfl sp (by decide) (by decide) (Nat.le_of_ble_eq_true rfl) (by omega) (fun v9 h2 hq9 => ?_)
    obtain ⟨e9, vc⟩ := vc v9 h2 hq9
    subst e9
    show XW _ _ _ _ _ _ _ 23 _ []
    refine xi_aload_n (by decide +kernel : decode mX11_round.2.1 23 = .ok (.aload_n 0, 1)) rfl rfl (?_ : XW _ _ _ _ _ _ _ 24 _ _)
    refine xi_iload_n (by decide +kernel : decode mX11_round.2.1 24 = .ok (.iload_n 1, 1)) rfl rfl (?_ : XW _ _ _ _ _ _ _ 25 _ _)
    obtain ⟨Q1, sp, vc⟩ := vc
    refine xi_callV (b := 0) (bs := 0) (As := [.int sq]) (st := []) (by decide +kernel : decode mX11_round.2.1 25 = .ok (.invokevirtual 398, 3)) kX11_398 rfl rfl (by omega) rfl sp (by decide) (by decide) (Nat.le_of_ble_eq_true rfl) (by omega) (fun v9 h3 hq9 => ?_)
    obtain ⟨e9, vc⟩ := vc v9 h3 hq9
    subst e9
    show XW _ _ _ _ _ _ _ 28 _ []
    refine xi_iconst (v := (-1)) (by decide +kernel : decode mX11_round.2.1 28 = .ok (.iconst (-1), 1)) (by decide) (?_ : XW _ _ _ _ _ _ _ 29 _ _)
    refine xi_istore_n (ls' := [some (.ref 56), some (.int sq), some (.int (-1)), none, none]) (by decide +kernel : decode mX11_round.2.1 29 = .ok (.istore_n 2, 1)) rfl (by decide) rfl (?_ : XW _ _ _ _ _ _ _ 30 _ _)
    refine xi_iconst (v := 1) (by decide +kernel : decode mX11_round.2.1 30 = .ok (.iconst 1, 1)) (by decide) (?_ : XW _ _ _ _ _ _ _ 31 _ _)
    refine xi_istore_n (ls' := [some (.ref 56), some (.int sq), some (.int (-1)), some (.int 1), none]) (by decide +kernel : decode mX11_round.2.1 31 = .ok (.istore_n 3, 1)) rfl (by decide) rfl (?_ : XW _ _ _ _ _ _ _ 32 _ _)
    exact vc
  · replace vc := vc.2 c
    refine xi_aload_n (by decide +kernel : decode mX11_round.2.1 13 = .ok (.aload_n 0, 1)) rfl rfl (?_ : XW _ _ _ _ _ _ _ 14 _ _)
    refine xi_iconst (v := 1) (by decide +kernel : decode mX11_round.2.1 14 = .ok (.iconst 1, 1)) (by decide) (?_ : XW _ _ _ _ _ _ _ 15 _ _)
    obtain ⟨Q1, sp, vc⟩ := vc
    refine xi_callV (b := 0) (bs := 0) (As := [.int 1]) (st := []) (by decide +kernel : decode mX11_round.2.1 15 = .ok (.invokevirtual 311, 3)) kX11_311 rfl rfl (by omega) rfl sp (by decide) (by decide) (Nat.le_of_ble_eq_true rfl) (by omega) (fun v9 h4 hq9 => ?_)
    obtain ⟨r4, e9, vc⟩ := vc v9 h4 hq9
    subst e9
    show XW _ _ _ _ _ _ _ 18 _ [.int r4]
    exact xi_iret (by decide +kernel : decode mX11_round.2.1 18 = .ok (.ireturn, 1)) rfl rfl vc

set_option maxRecDepth 20000 in
theorem v_X11_round_32 {h : XH} {Q : Option Value → XH → Prop} {X : String → XH → Prop} (hM : xMod (xP h))  (x1 : Int32) (x2 : Int32) (x3 : Int32)
    (vc : (6 < x3 → Q (some (.int x2)) h) ∧ (¬ 6 < x3 → (vp_in (x3 - 1) 12) ∧ ((¬ (xI h 60 (x3 - 1).toNatClampNeg) = 0 → (vp_in ((101 * x3) + x1) 707) ∧ ((vp_in (xI h 67 ((101 * x3) + x1).toNatClampNeg) 101) ∧ (((xI h 80 (xI h 67 ((101 * x3) + x1).toNatClampNeg).toNatClampNeg) = (-1) → XW (xrm 6 0 0) mX11_round (xE 100 Q X 0 0) 100 0 0 h 32 [some (.ref 56), some (.int x1), some (.int x2), some (.int (x3 + 1)), none] []) ∧ (¬ (xI h 80 (xI h 67 ((101 * x3) + x1).toNatClampNeg).toNatClampNeg) = (-1) → (x2 = (-1) → XW (xrm 6 0 0) mX11_round (xE 100 Q X 0 0) 100 0 0 h 32 [some (.ref 56), some (.int x1), some (.int ((xI h 80 (xI h 67 ((101 * x3) + x1).toNatClampNeg).toNatClampNeg) + 1)), some (.int (x3 + 1)), none] []) ∧ (¬ x2 = (-1) → (x2 ≤ ((xI h 80 (xI h 67 ((101 * x3) + x1).toNatClampNeg).toNatClampNeg) + 1) → XW (xrm 6 0 0) mX11_round (xE 100 Q X 0 0) 100 0 0 h 32 [some (.ref 56), some (.int x1), some (.int x2), some (.int (x3 + 1)), none] []) ∧ (¬ x2 ≤ ((xI h 80 (xI h 67 ((101 * x3) + x1).toNatClampNeg).toNatClampNeg) + 1) → XW (xrm 6 0 0) mX11_round (xE 100 Q X 0 0) 100 0 0 h 32 [some (.ref 56), some (.int x1), some (.int ((xI h 80 (xI h 67 ((101 * x3) + x1).toNatClampNeg).toNatClampNeg) + 1)), some (.int (x3 + 1)), none] [])))))) ∧ ((xI h 60 (x3 - 1).toNatClampNeg) = 0 → XW (xrm 6 0 0) mX11_round (xE 100 Q X 0 0) 100 0 0 h 32 [some (.ref 56), some (.int x1), some (.int x2), some (.int (x3 + 1)), none] [])))) :
    XW (xrm 6 0 0) mX11_round (xE 100 Q X 0 0) 100 0 0 h 32 [some (.ref 56), some (.int x1), some (.int x2), some (.int x3), none] [] := by
  refine xi_iload_n (by decide +kernel : decode mX11_round.2.1 32 = .ok (.iload_n 3, 1)) rfl rfl (?_ : XW _ _ _ _ _ _ _ 33 _ _)
  refine xi_bipush (v := 6) (by decide +kernel : decode mX11_round.2.1 33 = .ok (.bipush 6, 2)) (by decide) (?_ : XW _ _ _ _ _ _ _ 35 _ _)
  refine xi_icmp_gt (by decide +kernel : decode mX11_round.2.1 35 = .ok (.if_icmp .gt 66, 3)) (by decide) (fun c => (?_ : XW _ _ _ _ _ _ _ 101 _ _)) (fun c => (?_ : XW _ _ _ _ _ _ _ 38 _ _))
  · replace vc := vc.1 c
    refine xi_iload_n (by decide +kernel : decode mX11_round.2.1 101 = .ok (.iload_n 2, 1)) rfl rfl (?_ : XW _ _ _ _ _ _ _ 102 _ _)
    exact xi_iret (by decide +kernel : decode mX11_round.2.1 102 = .ok (.ireturn, 1)) rfl rfl vc
  · replace vc := vc.2 c
    refine xi_aload_n (by decide +kernel : decode mX11_round.2.1 38 = .ok (.aload_n 0, 1)) rfl rfl (?_ : XW _ _ _ _ _ _ _ 39 _ _)
    refine xi_getR (y := 60) (by decide +kernel : decode mX11_round.2.1 39 = .ok (.getfield 36, 3)) fX11_36 rfl (by omega) rfl (mp_die hM) (?_ : XW _ _ _ _ _ _ _ 42 _ _)
    refine xi_iload_n (by decide +kernel : decode mX11_round.2.1 42 = .ok (.iload_n 3, 1)) rfl rfl (?_ : XW _ _ _ _ _ _ _ 43 _ _)
    refine xi_iconst (v := 1) (by decide +kernel : decode mX11_round.2.1 43 = .ok (.iconst 1, 1)) (by decide) (?_ : XW _ _ _ _ _ _ _ 44 _ _)
    refine xi_isub (by decide +kernel : decode mX11_round.2.1 44 = .ok (.isub, 1)) (?_ : XW _ _ _ _ _ _ _ 45 _ _)
    obtain ⟨s1, vc⟩ := vc
    refine xi_iald (by decide +kernel : decode mX11_round.2.1 45 = .ok (.iaload, 1)) rfl (by omega) s1 (?_ : XW _ _ _ _ _ _ _ 46 _ _)
    refine xi_if_ne (by decide +kernel : decode mX11_round.2.1 46 = .ok (.ifCond .ne 7, 3)) (by decide) (fun c => (?_ : XW _ _ _ _ _ _ _ 53 _ _)) (fun c => (?_ : XW _ _ _ _ _ _ _ 49 _ _))
    · replace vc := vc.1 c
      refine xi_aload_n (by decide +kernel : decode mX11_round.2.1 53 = .ok (.aload_n 0, 1)) rfl rfl (?_ : XW _ _ _ _ _ _ _ 54 _ _)
      refine xi_getR (y := 80) (by decide +kernel : decode mX11_round.2.1 54 = .ok (.getfield 100, 3)) fX11_100 rfl (by omega) rfl (mp_away hM) (?_ : XW _ _ _ _ _ _ _ 57 _ _)
      refine xi_aload_n (by decide +kernel : decode mX11_round.2.1 57 = .ok (.aload_n 0, 1)) rfl rfl (?_ : XW _ _ _ _ _ _ _ 58 _ _)
      refine xi_getR (y := 67) (by decide +kernel : decode mX11_round.2.1 58 = .ok (.getfield 61, 3)) fX11_61 rfl (by omega) rfl (mp_to hM) (?_ : XW _ _ _ _ _ _ _ 61 _ _)
      refine xi_bipush (v := 101) (by decide +kernel : decode mX11_round.2.1 61 = .ok (.bipush 101, 2)) (by decide) (?_ : XW _ _ _ _ _ _ _ 63 _ _)
      refine xi_iload_n (by decide +kernel : decode mX11_round.2.1 63 = .ok (.iload_n 3, 1)) rfl rfl (?_ : XW _ _ _ _ _ _ _ 64 _ _)
      refine xi_imul (by decide +kernel : decode mX11_round.2.1 64 = .ok (.imul, 1)) (?_ : XW _ _ _ _ _ _ _ 65 _ _)
      refine xi_iload_n (by decide +kernel : decode mX11_round.2.1 65 = .ok (.iload_n 1, 1)) rfl rfl (?_ : XW _ _ _ _ _ _ _ 66 _ _)
      refine xi_iadd (by decide +kernel : decode mX11_round.2.1 66 = .ok (.iadd, 1)) (?_ : XW _ _ _ _ _ _ _ 67 _ _)
      obtain ⟨s1, vc⟩ := vc
      refine xi_iald (by decide +kernel : decode mX11_round.2.1 67 = .ok (.iaload, 1)) rfl (by omega) s1 (?_ : XW _ _ _ _ _ _ _ 68 _ _)
      obtain ⟨s1, vc⟩ := vc
      refine xi_iald (by decide +kernel : decode mX11_round.2.1 68 = .ok (.iaload, 1)) rfl (by omega) s1 (?_ : XW _ _ _ _ _ _ _ 69 _ _)
      refine xi_istore (ls' := [some (.ref 56), some (.int x1), some (.int x2), some (.int x3), some (.int (xI h 80 (xI h 67 ((101 * x3) + x1).toNatClampNeg).toNatClampNeg))]) (by decide +kernel : decode mX11_round.2.1 69 = .ok (.istore 4, 2)) (by decide) rfl (?_ : XW _ _ _ _ _ _ _ 71 _ _)
      refine xi_iload (by decide +kernel : decode mX11_round.2.1 71 = .ok (.iload 4, 2)) rfl (?_ : XW _ _ _ _ _ _ _ 73 _ _)
      refine xi_iconst (v := (-1)) (by decide +kernel : decode mX11_round.2.1 73 = .ok (.iconst (-1), 1)) (by decide) (?_ : XW _ _ _ _ _ _ _ 74 _ _)
      refine xi_icmp_eq (by decide +kernel : decode mX11_round.2.1 74 = .ok (.if_icmp .eq 21, 3)) (by decide) (fun c => (?_ : XW _ _ _ _ _ _ _ 95 _ _)) (fun c => (?_ : XW _ _ _ _ _ _ _ 77 _ _))
      · replace vc := vc.1 c
        refine xi_iinc (v := x3 + 1) (ls' := [some (.ref 56), some (.int x1), some (.int x2), some (.int (x3 + 1)), some (.int (xI h 80 (xI h 67 ((101 * x3) + x1).toNatClampNeg).toNatClampNeg))]) (by decide +kernel : decode mX11_round.2.1 95 = .ok (.iinc 3 1, 3)) rfl rfl (by decide) rfl (?_ : XW _ _ _ _ _ _ _ 98 _ _)
        refine xi_goto (by decide +kernel : decode mX11_round.2.1 98 = .ok (.goto (-66), 3)) (by decide) (?_ : XW _ _ _ _ _ _ _ 32 _ _)
        refine xw_drop 4 (ls' := [some (.ref 56), some (.int x1), some (.int x2), some (.int (x3 + 1)), none]) rfl ?_
        exact vc
      · replace vc := vc.2 c
        refine xi_iload_n (by decide +kernel : decode mX11_round.2.1 77 = .ok (.iload_n 2, 1)) rfl rfl (?_ : XW _ _ _ _ _ _ _ 78 _ _)
        refine xi_iconst (v := (-1)) (by decide +kernel : decode mX11_round.2.1 78 = .ok (.iconst (-1), 1)) (by decide) (?_ : XW _ _ _ _ _ _ _ 79 _ _)
        refine xi_icmp_eq (by decide +kernel : decode mX11_round.2.1 79 = .ok (.if_icmp .eq 11, 3)) (by decide) (fun c => (?_ : XW _ _ _ _ _ _ _ 90 _ _)) (fun c => (?_ : XW _ _ _ _ _ _ _ 82 _ _))
        · replace vc := vc.1 c
          refine xi_iload (by decide +kernel : decode mX11_round.2.1 90 = .ok (.iload 4, 2)) rfl (?_ : XW _ _ _ _ _ _ _ 92 _ _)
          refine xi_iconst (v := 1) (by decide +kernel : decode mX11_round.2.1 92 = .ok (.iconst 1, 1)) (by decide) (?_ : XW _ _ _ _ _ _ _ 93 _ _)
          refine xi_iadd (by decide +kernel : decode mX11_round.2.1 93 = .ok (.iadd, 1)) (?_ : XW _ _ _ _ _ _ _ 94 _ _)
          refine xi_istore_n (ls' := [some (.ref 56), some (.int x1), some (.int ((xI h 80 (xI h 67 ((101 * x3) + x1).toNatClampNeg).toNatClampNeg) + 1)), some (.int x3), some (.int (xI h 80 (xI h 67 ((101 * x3) + x1).toNatClampNeg).toNatClampNeg))]) (by decide +kernel : decode mX11_round.2.1 94 = .ok (.istore_n 2, 1)) rfl (by decide) rfl (?_ : XW _ _ _ _ _ _ _ 95 _ _)
          refine xi_iinc (v := x3 + 1) (ls' := [some (.ref 56), some (.int x1), some (.int ((xI h 80 (xI h 67 ((101 * x3) + x1).toNatClampNeg).toNatClampNeg) + 1)), some (.int (x3 + 1)), some (.int (xI h 80 (xI h 67 ((101 * x3) + x1).toNatClampNeg).toNatClampNeg))]) (by decide +kernel : decode mX11_round.2.1 95 = .ok (.iinc 3 1, 3)) rfl rfl (by decide) rfl (?_ : XW _ _ _ _ _ _ _ 98 _ _)
          refine xi_goto (by decide +kernel : decode mX11_round.2.1 98 = .ok (.goto (-66), 3)) (by decide) (?_ : XW _ _ _ _ _ _ _ 32 _ _)
          refine xw_drop 4 (ls' := [some (.ref 56), some (.int x1), some (.int ((xI h 80 (xI h 67 ((101 * x3) + x1).toNatClampNeg).toNatClampNeg) + 1)), some (.int (x3 + 1)), none]) rfl ?_
          exact vc
        · replace vc := vc.2 c
          refine xi_iload (by decide +kernel : decode mX11_round.2.1 82 = .ok (.iload 4, 2)) rfl (?_ : XW _ _ _ _ _ _ _ 84 _ _)
          refine xi_iconst (v := 1) (by decide +kernel : decode mX11_round.2.1 84 = .ok (.iconst 1, 1)) (by decide) (?_ : XW _ _ _ _ _ _ _ 85 _ _)
          refine xi_iadd (by decide +kernel : decode mX11_round.2.1 85 = .ok (.iadd, 1)) (?_ : XW _ _ _ _ _ _ _ 86 _ _)
          refine xi_iload_n (by decide +kernel : decode mX11_round.2.1 86 = .ok (.iload_n 2, 1)) rfl rfl (?_ : XW _ _ _ _ _ _ _ 87 _ _)
          refine xi_icmp_ge (by decide +kernel : decode mX11_round.2.1 87 = .ok (.if_icmp .ge 8, 3)) (by decide) (fun c => (?_ : XW _ _ _ _ _ _ _ 95 _ _)) (fun c => (?_ : XW _ _ _ _ _ _ _ 90 _ _))
          · replace vc := vc.1 c
            refine xi_iinc (v := x3 + 1) (ls' := [some (.ref 56), some (.int x1), some (.int x2), some (.int (x3 + 1)), some (.int (xI h 80 (xI h 67 ((101 * x3) + x1).toNatClampNeg).toNatClampNeg))]) (by decide +kernel : decode mX11_round.2.1 95 = .ok (.iinc 3 1, 3)) rfl rfl (by decide) rfl (?_ : XW _ _ _ _ _ _ _ 98 _ _)
            refine xi_goto (by decide +kernel : decode mX11_round.2.1 98 = .ok (.goto (-66), 3)) (by decide) (?_ : XW _ _ _ _ _ _ _ 32 _ _)
            refine xw_drop 4 (ls' := [some (.ref 56), some (.int x1), some (.int x2), some (.int (x3 + 1)), none]) rfl ?_
            exact vc
          · replace vc := vc.2 c
            refine xi_iload (by decide +kernel : decode mX11_round.2.1 90 = .ok (.iload 4, 2)) rfl (?_ : XW _ _ _ _ _ _ _ 92 _ _)
            refine xi_iconst (v := 1) (by decide +kernel : decode mX11_round.2.1 92 = .ok (.iconst 1, 1)) (by decide) (?_ : XW _ _ _ _ _ _ _ 93 _ _)
            refine xi_iadd (by decide +kernel : decode mX11_round.2.1 93 = .ok (.iadd, 1)) (?_ : XW _ _ _ _ _ _ _ 94 _ _)
            refine xi_istore_n (ls' := [some (.ref 56), some (.int x1), some (.int ((xI h 80 (xI h 67 ((101 * x3) + x1).toNatClampNeg).toNatClampNeg) + 1)), some (.int x3), some (.int (xI h 80 (xI h 67 ((101 * x3) + x1).toNatClampNeg).toNatClampNeg))]) (by decide +kernel : decode mX11_round.2.1 94 = .ok (.istore_n 2, 1)) rfl (by decide) rfl (?_ : XW _ _ _ _ _ _ _ 95 _ _)
            refine xi_iinc (v := x3 + 1) (ls' := [some (.ref 56), some (.int x1), some (.int ((xI h 80 (xI h 67 ((101 * x3) + x1).toNatClampNeg).toNatClampNeg) + 1)), some (.int (x3 + 1)), some (.int (xI h 80 (xI h 67 ((101 * x3) + x1).toNatClampNeg).toNatClampNeg))]) (by decide +kernel : decode mX11_round.2.1 95 = .ok (.iinc 3 1, 3)) rfl rfl (by decide) rfl (?_ : XW _ _ _ _ _ _ _ 98 _ _)
            refine xi_goto (by decide +kernel : decode mX11_round.2.1 98 = .ok (.goto (-66), 3)) (by decide) (?_ : XW _ _ _ _ _ _ _ 32 _ _)
            refine xw_drop 4 (ls' := [some (.ref 56), some (.int x1), some (.int ((xI h 80 (xI h 67 ((101 * x3) + x1).toNatClampNeg).toNatClampNeg) + 1)), some (.int (x3 + 1)), none]) rfl ?_
            exact vc
    · replace vc := vc.2 c
      refine xi_iconst (v := (-1)) (by decide +kernel : decode mX11_round.2.1 49 = .ok (.iconst (-1), 1)) (by decide) (?_ : XW _ _ _ _ _ _ _ 50 _ _)
      refine xi_goto (by decide +kernel : decode mX11_round.2.1 50 = .ok (.goto 19, 3)) (by decide) (?_ : XW _ _ _ _ _ _ _ 69 _ _)
      refine xi_istore (ls' := [some (.ref 56), some (.int x1), some (.int x2), some (.int x3), some (.int (-1))]) (by decide +kernel : decode mX11_round.2.1 69 = .ok (.istore 4, 2)) (by decide) rfl (?_ : XW _ _ _ _ _ _ _ 71 _ _)
      refine xi_iload (by decide +kernel : decode mX11_round.2.1 71 = .ok (.iload 4, 2)) rfl (?_ : XW _ _ _ _ _ _ _ 73 _ _)
      refine xi_iconst (v := (-1)) (by decide +kernel : decode mX11_round.2.1 73 = .ok (.iconst (-1), 1)) (by decide) (?_ : XW _ _ _ _ _ _ _ 74 _ _)
      refine xi_icmp_eq (by decide +kernel : decode mX11_round.2.1 74 = .ok (.if_icmp .eq 21, 3)) (by decide)  (fun _ => (?_ : XW _ _ _ _ _ _ _ 95 _ _)) (fun c => absurd c (by decide))
      refine xi_iinc (v := x3 + 1) (ls' := [some (.ref 56), some (.int x1), some (.int x2), some (.int (x3 + 1)), some (.int (-1))]) (by decide +kernel : decode mX11_round.2.1 95 = .ok (.iinc 3 1, 3)) rfl rfl (by decide) rfl (?_ : XW _ _ _ _ _ _ _ 98 _ _)
      refine xi_goto (by decide +kernel : decode mX11_round.2.1 98 = .ok (.goto (-66), 3)) (by decide) (?_ : XW _ _ _ _ _ _ _ 32 _ _)
      refine xw_drop 4 (ls' := [some (.ref 56), some (.int x1), some (.int x2), some (.int (x3 + 1)), none]) rfl ?_
      exact vc

