/-! THE LAW: its walk, part 5 -/
set_option maxRecDepth 20000 in
theorem v_L_law_1410 {h : XH} {Q : Option Value → XH → Prop} {X : String → XH → Prop} (xs : Nat → Int32) (L B S : Nat)  (x4 : Int32)
    (vc : (vp_in (x4 + 1) L) ∧ ((vp_in (x4 + 2) L) ∧ (∃ Q1, XSpecH mL_matters 9 2 12 100 100 [.ref 0, .int (xs (x4 + 1).toNatClampNeg), .int (xs (x4 + 2).toNatClampNeg), .ref 99] h Q1 ∧ ∀ v h1, Q1 v h1 → ∃ r1 : Int32, v = some (.int r1) ∧ ((vp_in (x4 + 1) L) ∧ ((vp_in (x4 + 2) L) ∧ (∃ Q1, XSpec mX11_matters 7 0 0 100 100 [.ref 56, .int (xs (x4 + 1).toNatClampNeg), .int (xs (x4 + 2).toNatClampNeg)] h1 Q1 xno ∧ ∀ v h2, Q1 v h2 → xL h2 99 0 = xL h1 99 0 → ∃ r2 : Int64, v = some (.long r2) ∧ (∃ Q1, XSpec mX11_thrown 1 0 0 100 100 [.ref 56] h2 Q1 xno ∧ ∀ v h3, Q1 v h3 → xL h3 99 0 = xL h2 99 0 → ∃ r3 : Int32, v = some (.int r3) ∧ ((r3 = r1 → (¬ r1 = 0 → XW room_1 mL_law (xEL xs L) 100 B S h3 2392 [some (.ref 3000), some (.ref 0), some (.ref 56), some (.ref 99), some (.int x4), none, none, none] []) ∧ (r1 = 0 → ((lg_cmp (xL h3 99 0) r2) = 0 → XW room_1 mL_law (xEL xs L) 100 B S h3 2392 [some (.ref 3000), some (.ref 0), some (.ref 56), some (.ref 99), some (.int x4), none, none, none] []) ∧ (¬ (lg_cmp (xL h3 99 0) r2) = 0 → False))) ∧ (¬ r3 = r1 → False))))))))) :
    XW room_1 mL_law (xEL xs L) 100 (B + 4) (S + 24) h 1410 [some (.ref 3000), some (.ref 0), some (.ref 56), some (.ref 99), some (.int x4), none, none, none] [] := by
  refine xi_aload_n (by decide +kernel : decode mL_law.2.1 1410 = .ok (.aload_n 1, 1)) rfl rfl (?_ : XW _ _ _ _ _ _ _ 1411 _ _)
  refine xi_aload_n (by decide +kernel : decode mL_law.2.1 1411 = .ok (.aload_n 0, 1)) rfl rfl (?_ : XW _ _ _ _ _ _ _ 1412 _ _)
  refine xi_iload (by decide +kernel : decode mL_law.2.1 1412 = .ok (.iload 4, 2)) rfl (?_ : XW _ _ _ _ _ _ _ 1414 _ _)
  refine xi_iconst (v := 1) (by decide +kernel : decode mL_law.2.1 1414 = .ok (.iconst 1, 1)) (by decide) (?_ : XW _ _ _ _ _ _ _ 1415 _ _)
  refine xi_iadd (by decide +kernel : decode mL_law.2.1 1415 = .ok (.iadd, 1)) (?_ : XW _ _ _ _ _ _ _ 1416 _ _)
  obtain ⟨s1, vc⟩ := vc
  refine xi_sldS (by decide +kernel : decode mL_law.2.1 1416 = .ok (.iaload, 1)) s1 (?_ : XW _ _ _ _ _ _ _ 1417 _ _)
  refine xi_aload_n (by decide +kernel : decode mL_law.2.1 1417 = .ok (.aload_n 0, 1)) rfl rfl (?_ : XW _ _ _ _ _ _ _ 1418 _ _)
  refine xi_iload (by decide +kernel : decode mL_law.2.1 1418 = .ok (.iload 4, 2)) rfl (?_ : XW _ _ _ _ _ _ _ 1420 _ _)
  refine xi_iconst (v := 2) (by decide +kernel : decode mL_law.2.1 1420 = .ok (.iconst 2, 1)) (by decide) (?_ : XW _ _ _ _ _ _ _ 1421 _ _)
  refine xi_iadd (by decide +kernel : decode mL_law.2.1 1421 = .ok (.iadd, 1)) (?_ : XW _ _ _ _ _ _ _ 1422 _ _)
  obtain ⟨s1, vc⟩ := vc
  refine xi_sldS (by decide +kernel : decode mL_law.2.1 1422 = .ok (.iaload, 1)) s1 (?_ : XW _ _ _ _ _ _ _ 1423 _ _)
  refine xi_aload_n (by decide +kernel : decode mL_law.2.1 1423 = .ok (.aload_n 3, 1)) rfl rfl (?_ : XW _ _ _ _ _ _ _ 1424 _ _)
  obtain ⟨Q1, sp, vc⟩ := vc
  refine xi_callSH (b := B + 2) (bs := S + 12) (As := [.ref 0, .int (xs (x4 + 1).toNatClampNeg), .int (xs (x4 + 2).toNatClampNeg), .ref 99]) (st := []) (by decide +kernel : decode mL_law.2.1 1424 = .ok (.invokestatic 188, 3)) kL_188 rfl rfl sp (by decide) (by decide) (Nat.le_of_ble_eq_true rfl) (by omega) (fun v9 h1 hq9 => ?_)
  obtain ⟨r1, e9, vc⟩ := vc v9 h1 hq9
  subst e9
  show XW _ _ _ _ _ _ _ 1427 _ [.int r1]
  refine xi_istore (ls' := [some (.ref 3000), some (.ref 0), some (.ref 56), some (.ref 99), some (.int x4), some (.int r1), none, none]) (by decide +kernel : decode mL_law.2.1 1427 = .ok (.istore 5, 2)) (by decide) rfl (?_ : XW _ _ _ _ _ _ _ 1429 _ _)
  refine xi_aload_n (by decide +kernel : decode mL_law.2.1 1429 = .ok (.aload_n 2, 1)) rfl rfl (?_ : XW _ _ _ _ _ _ _ 1430 _ _)
  refine xi_aload_n (by decide +kernel : decode mL_law.2.1 1430 = .ok (.aload_n 0, 1)) rfl rfl (?_ : XW _ _ _ _ _ _ _ 1431 _ _)
  refine xi_iload (by decide +kernel : decode mL_law.2.1 1431 = .ok (.iload 4, 2)) rfl (?_ : XW _ _ _ _ _ _ _ 1433 _ _)
  refine xi_iconst (v := 1) (by decide +kernel : decode mL_law.2.1 1433 = .ok (.iconst 1, 1)) (by decide) (?_ : XW _ _ _ _ _ _ _ 1434 _ _)
  refine xi_iadd (by decide +kernel : decode mL_law.2.1 1434 = .ok (.iadd, 1)) (?_ : XW _ _ _ _ _ _ _ 1435 _ _)
  obtain ⟨s1, vc⟩ := vc
  refine xi_sldS (by decide +kernel : decode mL_law.2.1 1435 = .ok (.iaload, 1)) s1 (?_ : XW _ _ _ _ _ _ _ 1436 _ _)
  refine xi_aload_n (by decide +kernel : decode mL_law.2.1 1436 = .ok (.aload_n 0, 1)) rfl rfl (?_ : XW _ _ _ _ _ _ _ 1437 _ _)
  refine xi_iload (by decide +kernel : decode mL_law.2.1 1437 = .ok (.iload 4, 2)) rfl (?_ : XW _ _ _ _ _ _ _ 1439 _ _)
  refine xi_iconst (v := 2) (by decide +kernel : decode mL_law.2.1 1439 = .ok (.iconst 2, 1)) (by decide) (?_ : XW _ _ _ _ _ _ _ 1440 _ _)
  refine xi_iadd (by decide +kernel : decode mL_law.2.1 1440 = .ok (.iadd, 1)) (?_ : XW _ _ _ _ _ _ _ 1441 _ _)
  obtain ⟨s1, vc⟩ := vc
  refine xi_sldS (by decide +kernel : decode mL_law.2.1 1441 = .ok (.iaload, 1)) s1 (?_ : XW _ _ _ _ _ _ _ 1442 _ _)
  obtain ⟨Q1, sp, vc⟩ := vc
  refine xi_callVg (b := B + 2) (bs := S + 12) (As := [.int (xs (x4 + 1).toNatClampNeg), .int (xs (x4 + 2).toNatClampNeg)]) (st := []) (by decide +kernel : decode mL_law.2.1 1442 = .ok (.invokevirtual 190, 3)) kL_190 rfl rfl (by omega) rfl sp (by decide) (by decide) (Nat.le_of_ble_eq_true rfl) (by omega) (fun v9 h2 hq9 hx9 => ?_)
  obtain ⟨r2, e9, vc⟩ := vc v9 h2 hq9 hx9
  subst e9
  show XW _ _ _ _ _ _ _ 1445 _ [.long r2]
  refine xi_lstore (ls' := [some (.ref 3000), some (.ref 0), some (.ref 56), some (.ref 99), some (.int x4), some (.int r1), some (.long r2), none]) (by decide +kernel : decode mL_law.2.1 1445 = .ok (.lstore 6, 2)) (by decide) rfl (?_ : XW _ _ _ _ _ _ _ 1447 _ _)
  refine xi_aload_n (by decide +kernel : decode mL_law.2.1 1447 = .ok (.aload_n 2, 1)) rfl rfl (?_ : XW _ _ _ _ _ _ _ 1448 _ _)
  obtain ⟨Q1, sp, vc⟩ := vc
  refine xi_callVg (b := B + 2) (bs := S + 12) (As := []) (st := []) (by decide +kernel : decode mL_law.2.1 1448 = .ok (.invokevirtual 125, 3)) kL_125 rfl rfl (by omega) rfl sp (by decide) (by decide) (Nat.le_of_ble_eq_true rfl) (by omega) (fun v9 h3 hq9 hx9 => ?_)
  obtain ⟨r3, e9, vc⟩ := vc v9 h3 hq9 hx9
  subst e9
  show XW _ _ _ _ _ _ _ 1451 _ [.int r3]
  refine xi_iload (by decide +kernel : decode mL_law.2.1 1451 = .ok (.iload 5, 2)) rfl (?_ : XW _ _ _ _ _ _ _ 1453 _ _)
  refine xi_icmp_eq (by decide +kernel : decode mL_law.2.1 1453 = .ok (.if_icmp .eq 5, 3)) (by decide) (fun c => (?_ : XW _ _ _ _ _ _ _ 1458 _ _)) (fun c => (?_ : XW _ _ _ _ _ _ _ 1456 _ _))
  · replace vc := vc.1 c
    refine xi_iload (by decide +kernel : decode mL_law.2.1 1458 = .ok (.iload 5, 2)) rfl (?_ : XW _ _ _ _ _ _ _ 1460 _ _)
    refine xi_if_ne (by decide +kernel : decode mL_law.2.1 1460 = .ok (.ifCond .ne 14, 3)) (by decide) (fun c => (?_ : XW _ _ _ _ _ _ _ 1474 _ _)) (fun c => (?_ : XW _ _ _ _ _ _ _ 1463 _ _))
    · replace vc := vc.1 c
      refine xi_goto (by decide +kernel : decode mL_law.2.1 1474 = .ok (.goto 918, 3)) (by decide) (?_ : XW _ _ _ _ _ _ _ 2392 _ _)
      refine xw_drop 5 (ls' := [some (.ref 3000), some (.ref 0), some (.ref 56), some (.ref 99), some (.int x4), none, some (.long r2), none]) rfl ?_
      refine xw_drop 6 (ls' := [some (.ref 3000), some (.ref 0), some (.ref 56), some (.ref 99), some (.int x4), none, none, none]) rfl ?_
      refine xw_b (b' := B) (bs' := S) (by omega) (by omega) ?_
      exact vc
    · replace vc := vc.2 c
      refine xi_aload_n (by decide +kernel : decode mL_law.2.1 1463 = .ok (.aload_n 3, 1)) rfl rfl (?_ : XW _ _ _ _ _ _ _ 1464 _ _)
      refine xi_iconst (v := 0) (by decide +kernel : decode mL_law.2.1 1464 = .ok (.iconst 0, 1)) (by decide) (?_ : XW _ _ _ _ _ _ _ 1465 _ _)
      refine xi_lald (by decide +kernel : decode mL_law.2.1 1465 = .ok (.laload, 1)) rfl (by omega) (by unfold vp_in; decide) (?_ : XW _ _ _ _ _ _ _ 1466 _ [.long (xL h3 99 0)])
      refine xi_lload (by decide +kernel : decode mL_law.2.1 1466 = .ok (.lload 6, 2)) rfl (?_ : XW _ _ _ _ _ _ _ 1468 _ _)
      refine xi_lcmp (by decide +kernel : decode mL_law.2.1 1468 = .ok (.lcmp, 1)) (?_ : XW _ _ _ _ _ _ _ 1469 _ _)
      refine xi_if_eq (by decide +kernel : decode mL_law.2.1 1469 = .ok (.ifCond .eq 5, 3)) (by decide) (fun c => (?_ : XW _ _ _ _ _ _ _ 1474 _ _)) (fun c => (?_ : XW _ _ _ _ _ _ _ 1472 _ _))
      · replace vc := vc.1 c
        refine xi_goto (by decide +kernel : decode mL_law.2.1 1474 = .ok (.goto 918, 3)) (by decide) (?_ : XW _ _ _ _ _ _ _ 2392 _ _)
        refine xw_drop 5 (ls' := [some (.ref 3000), some (.ref 0), some (.ref 56), some (.ref 99), some (.int x4), none, some (.long r2), none]) rfl ?_
        refine xw_drop 6 (ls' := [some (.ref 3000), some (.ref 0), some (.ref 56), some (.ref 99), some (.int x4), none, none, none]) rfl ?_
        refine xw_b (b' := B) (bs' := S) (by omega) (by omega) ?_
        exact vc
      · replace vc := vc.2 c
        refine xi_iconst (v := 0) (by decide +kernel : decode mL_law.2.1 1472 = .ok (.iconst 0, 1)) (by decide) (?_ : XW _ _ _ _ _ _ _ 1473 _ _)
        exact vc.elim
  · replace vc := vc.2 c
    refine xi_iconst (v := 0) (by decide +kernel : decode mL_law.2.1 1456 = .ok (.iconst 0, 1)) (by decide) (?_ : XW _ _ _ _ _ _ _ 1457 _ _)
    exact vc.elim

set_option maxRecDepth 20000 in
theorem v_L_law_1477 {h : XH} {Q : Option Value → XH → Prop} {X : String → XH → Prop} (xs : Nat → Int32) (L B S : Nat)  (x4 : Int32)
    (vc : (vp_in (x4 + 1) L) ∧ (∃ Q1, XSpecH mL_most 9 1 6 100 100 [.ref 0, .int (xs (x4 + 1).toNatClampNeg), .ref 99] h Q1 ∧ ∀ v h4, Q1 v h4 → ∃ r4 : Int32, v = some (.int r4) ∧ ((vp_in (x4 + 1) L) ∧ (∃ Q1, XSpec mX11_most 7 0 0 100 100 [.ref 56, .int (xs (x4 + 1).toNatClampNeg)] h4 Q1 xno ∧ ∀ v h5, Q1 v h5 → xL h5 99 0 = xL h4 99 0 → ∃ r5 : Int32, v = some (.int r5) ∧ (∃ Q1, XSpec mX11_thrown 1 0 0 100 100 [.ref 56] h5 Q1 xno ∧ ∀ v h6, Q1 v h6 → xL h6 99 0 = xL h5 99 0 → ∃ r6 : Int32, v = some (.int r6) ∧ ((r6 = r4 → (¬ r4 = 0 → XW room_1 mL_law (xEL xs L) 100 B S h6 2392 [some (.ref 3000), some (.ref 0), some (.ref 56), some (.ref 99), some (.int x4), none, none, none] []) ∧ (r4 = 0 → ((lg_cmp (xL h6 99 0) (Int32.toInt64 r5)) = 0 → XW room_1 mL_law (xEL xs L) 100 B S h6 2392 [some (.ref 3000), some (.ref 0), some (.ref 56), some (.ref 99), some (.int x4), none, none, none] []) ∧ (¬ (lg_cmp (xL h6 99 0) (Int32.toInt64 r5)) = 0 → False))) ∧ (¬ r6 = r4 → False))))))) :
    XW room_1 mL_law (xEL xs L) 100 (B + 4) (S + 24) h 1477 [some (.ref 3000), some (.ref 0), some (.ref 56), some (.ref 99), some (.int x4), none, none, none] [] := by
  refine xi_aload_n (by decide +kernel : decode mL_law.2.1 1477 = .ok (.aload_n 1, 1)) rfl rfl (?_ : XW _ _ _ _ _ _ _ 1478 _ _)
  refine xi_aload_n (by decide +kernel : decode mL_law.2.1 1478 = .ok (.aload_n 0, 1)) rfl rfl (?_ : XW _ _ _ _ _ _ _ 1479 _ _)
  refine xi_iload (by decide +kernel : decode mL_law.2.1 1479 = .ok (.iload 4, 2)) rfl (?_ : XW _ _ _ _ _ _ _ 1481 _ _)
  refine xi_iconst (v := 1) (by decide +kernel : decode mL_law.2.1 1481 = .ok (.iconst 1, 1)) (by decide) (?_ : XW _ _ _ _ _ _ _ 1482 _ _)
  refine xi_iadd (by decide +kernel : decode mL_law.2.1 1482 = .ok (.iadd, 1)) (?_ : XW _ _ _ _ _ _ _ 1483 _ _)
  obtain ⟨s1, vc⟩ := vc
  refine xi_sldS (by decide +kernel : decode mL_law.2.1 1483 = .ok (.iaload, 1)) s1 (?_ : XW _ _ _ _ _ _ _ 1484 _ _)
  refine xi_aload_n (by decide +kernel : decode mL_law.2.1 1484 = .ok (.aload_n 3, 1)) rfl rfl (?_ : XW _ _ _ _ _ _ _ 1485 _ _)
  obtain ⟨Q1, sp, vc⟩ := vc
  refine xi_callSH (b := B + 3) (bs := S + 18) (As := [.ref 0, .int (xs (x4 + 1).toNatClampNeg), .ref 99]) (st := []) (by decide +kernel : decode mL_law.2.1 1485 = .ok (.invokestatic 191, 3)) kL_191 rfl rfl sp (by decide) (by decide) (Nat.le_of_ble_eq_true rfl) (by omega) (fun v9 h4 hq9 => ?_)
  obtain ⟨r4, e9, vc⟩ := vc v9 h4 hq9
  subst e9
  show XW _ _ _ _ _ _ _ 1488 _ [.int r4]
  refine xi_istore (ls' := [some (.ref 3000), some (.ref 0), some (.ref 56), some (.ref 99), some (.int x4), some (.int r4), none, none]) (by decide +kernel : decode mL_law.2.1 1488 = .ok (.istore 5, 2)) (by decide) rfl (?_ : XW _ _ _ _ _ _ _ 1490 _ _)
  refine xi_aload_n (by decide +kernel : decode mL_law.2.1 1490 = .ok (.aload_n 2, 1)) rfl rfl (?_ : XW _ _ _ _ _ _ _ 1491 _ _)
  refine xi_aload_n (by decide +kernel : decode mL_law.2.1 1491 = .ok (.aload_n 0, 1)) rfl rfl (?_ : XW _ _ _ _ _ _ _ 1492 _ _)
  refine xi_iload (by decide +kernel : decode mL_law.2.1 1492 = .ok (.iload 4, 2)) rfl (?_ : XW _ _ _ _ _ _ _ 1494 _ _)
  refine xi_iconst (v := 1) (by decide +kernel : decode mL_law.2.1 1494 = .ok (.iconst 1, 1)) (by decide) (?_ : XW _ _ _ _ _ _ _ 1495 _ _)
  refine xi_iadd (by decide +kernel : decode mL_law.2.1 1495 = .ok (.iadd, 1)) (?_ : XW _ _ _ _ _ _ _ 1496 _ _)
  obtain ⟨s1, vc⟩ := vc
  refine xi_sldS (by decide +kernel : decode mL_law.2.1 1496 = .ok (.iaload, 1)) s1 (?_ : XW _ _ _ _ _ _ _ 1497 _ _)
  obtain ⟨Q1, sp, vc⟩ := vc
  refine xi_callVg (b := B + 3) (bs := S + 18) (As := [.int (xs (x4 + 1).toNatClampNeg)]) (st := []) (by decide +kernel : decode mL_law.2.1 1497 = .ok (.invokevirtual 193, 3)) kL_193 rfl rfl (by omega) rfl sp (by decide) (by decide) (Nat.le_of_ble_eq_true rfl) (by omega) (fun v9 h5 hq9 hx9 => ?_)
  obtain ⟨r5, e9, vc⟩ := vc v9 h5 hq9 hx9
  subst e9
  show XW _ _ _ _ _ _ _ 1500 _ [.int r5]
  refine xi_istore (ls' := [some (.ref 3000), some (.ref 0), some (.ref 56), some (.ref 99), some (.int x4), some (.int r4), some (.int r5), none]) (by decide +kernel : decode mL_law.2.1 1500 = .ok (.istore 6, 2)) (by decide) rfl (?_ : XW _ _ _ _ _ _ _ 1502 _ _)
  refine xi_aload_n (by decide +kernel : decode mL_law.2.1 1502 = .ok (.aload_n 2, 1)) rfl rfl (?_ : XW _ _ _ _ _ _ _ 1503 _ _)
  obtain ⟨Q1, sp, vc⟩ := vc
  refine xi_callVg (b := B + 3) (bs := S + 18) (As := []) (st := []) (by decide +kernel : decode mL_law.2.1 1503 = .ok (.invokevirtual 125, 3)) kL_125 rfl rfl (by omega) rfl sp (by decide) (by decide) (Nat.le_of_ble_eq_true rfl) (by omega) (fun v9 h6 hq9 hx9 => ?_)
  obtain ⟨r6, e9, vc⟩ := vc v9 h6 hq9 hx9
  subst e9
  show XW _ _ _ _ _ _ _ 1506 _ [.int r6]
  refine xi_iload (by decide +kernel : decode mL_law.2.1 1506 = .ok (.iload 5, 2)) rfl (?_ : XW _ _ _ _ _ _ _ 1508 _ _)
  refine xi_icmp_eq (by decide +kernel : decode mL_law.2.1 1508 = .ok (.if_icmp .eq 5, 3)) (by decide) (fun c => (?_ : XW _ _ _ _ _ _ _ 1513 _ _)) (fun c => (?_ : XW _ _ _ _ _ _ _ 1511 _ _))
  · replace vc := vc.1 c
    refine xi_iload (by decide +kernel : decode mL_law.2.1 1513 = .ok (.iload 5, 2)) rfl (?_ : XW _ _ _ _ _ _ _ 1515 _ _)
    refine xi_if_ne (by decide +kernel : decode mL_law.2.1 1515 = .ok (.ifCond .ne 15, 3)) (by decide) (fun c => (?_ : XW _ _ _ _ _ _ _ 1530 _ _)) (fun c => (?_ : XW _ _ _ _ _ _ _ 1518 _ _))
    · replace vc := vc.1 c
      refine xi_goto (by decide +kernel : decode mL_law.2.1 1530 = .ok (.goto 862, 3)) (by decide) (?_ : XW _ _ _ _ _ _ _ 2392 _ _)
      refine xw_drop 5 (ls' := [some (.ref 3000), some (.ref 0), some (.ref 56), some (.ref 99), some (.int x4), none, some (.int r5), none]) rfl ?_
      refine xw_drop 6 (ls' := [some (.ref 3000), some (.ref 0), some (.ref 56), some (.ref 99), some (.int x4), none, none, none]) rfl ?_
      refine xw_b (b' := B) (bs' := S) (by omega) (by omega) ?_
      exact vc
    · replace vc := vc.2 c
      refine xi_aload_n (by decide +kernel : decode mL_law.2.1 1518 = .ok (.aload_n 3, 1)) rfl rfl (?_ : XW _ _ _ _ _ _ _ 1519 _ _)
      refine xi_iconst (v := 0) (by decide +kernel : decode mL_law.2.1 1519 = .ok (.iconst 0, 1)) (by decide) (?_ : XW _ _ _ _ _ _ _ 1520 _ _)
      refine xi_lald (by decide +kernel : decode mL_law.2.1 1520 = .ok (.laload, 1)) rfl (by omega) (by unfold vp_in; decide) (?_ : XW _ _ _ _ _ _ _ 1521 _ [.long (xL h6 99 0)])
      refine xi_iload (by decide +kernel : decode mL_law.2.1 1521 = .ok (.iload 6, 2)) rfl (?_ : XW _ _ _ _ _ _ _ 1523 _ _)
      refine xi_i2l (by decide +kernel : decode mL_law.2.1 1523 = .ok (.i2l, 1)) (?_ : XW _ _ _ _ _ _ _ 1524 _ _)
      refine xi_lcmp (by decide +kernel : decode mL_law.2.1 1524 = .ok (.lcmp, 1)) (?_ : XW _ _ _ _ _ _ _ 1525 _ _)
      refine xi_if_eq (by decide +kernel : decode mL_law.2.1 1525 = .ok (.ifCond .eq 5, 3)) (by decide) (fun c => (?_ : XW _ _ _ _ _ _ _ 1530 _ _)) (fun c => (?_ : XW _ _ _ _ _ _ _ 1528 _ _))
      · replace vc := vc.1 c
        refine xi_goto (by decide +kernel : decode mL_law.2.1 1530 = .ok (.goto 862, 3)) (by decide) (?_ : XW _ _ _ _ _ _ _ 2392 _ _)
        refine xw_drop 5 (ls' := [some (.ref 3000), some (.ref 0), some (.ref 56), some (.ref 99), some (.int x4), none, some (.int r5), none]) rfl ?_
        refine xw_drop 6 (ls' := [some (.ref 3000), some (.ref 0), some (.ref 56), some (.ref 99), some (.int x4), none, none, none]) rfl ?_
        refine xw_b (b' := B) (bs' := S) (by omega) (by omega) ?_
        exact vc
      · replace vc := vc.2 c
        refine xi_iconst (v := 0) (by decide +kernel : decode mL_law.2.1 1528 = .ok (.iconst 0, 1)) (by decide) (?_ : XW _ _ _ _ _ _ _ 1529 _ _)
        exact vc.elim
  · replace vc := vc.2 c
    refine xi_iconst (v := 0) (by decide +kernel : decode mL_law.2.1 1511 = .ok (.iconst 0, 1)) (by decide) (?_ : XW _ _ _ _ _ _ _ 1512 _ _)
    exact vc.elim

set_option maxRecDepth 20000 in
theorem v_L_law_1533 {h : XH} {Q : Option Value → XH → Prop} {X : String → XH → Prop} (xs : Nat → Int32) (L B S : Nat)  (x4 : Int32)
    (vc : (vp_in (x4 + 1) L) ∧ ((vp_in (x4 + 2) L) ∧ ((vp_in (x4 + 3) L) ∧ (∃ Q1, XSpecH mL_wanted 9 2 12 100 100 [.ref 0, .long (((Int32.toInt64 (xs (x4 + 1).toNatClampNeg)) <<< ((32 : Int32).toInt64 &&& 63)) ||| ((Int32.toInt64 (xs (x4 + 2).toNatClampNeg)) &&& 4294967295)), .int (xs (x4 + 3).toNatClampNeg), .ref 99] h Q1 ∧ ∀ v h7, Q1 v h7 → ∃ r7 : Int32, v = some (.int r7) ∧ ((vp_in (x4 + 1) L) ∧ ((vp_in (x4 + 2) L) ∧ ((vp_in (x4 + 3) L) ∧ (∃ Q1, XSpec mX11_wanted 6 0 0 100 100 [.ref 56, .long (((Int32.toInt64 (xs (x4 + 1).toNatClampNeg)) <<< ((32 : Int32).toInt64 &&& 63)) ||| ((Int32.toInt64 (xs (x4 + 2).toNatClampNeg)) &&& 4294967295)), .int (xs (x4 + 3).toNatClampNeg)] h7 Q1 xno ∧ ∀ v h8, Q1 v h8 → xL h8 99 0 = xL h7 99 0 → ∃ r8 : Int32, v = some (.int r8) ∧ (∃ Q1, XSpec mX11_thrown 1 0 0 100 100 [.ref 56] h8 Q1 xno ∧ ∀ v h9, Q1 v h9 → xL h9 99 0 = xL h8 99 0 → ∃ r9 : Int32, v = some (.int r9) ∧ ((r9 = r7 → (¬ r7 = 0 → XW room_1 mL_law (xEL xs L) 100 B S h9 2392 [some (.ref 3000), some (.ref 0), some (.ref 56), some (.ref 99), some (.int x4), none, none, none] []) ∧ (r7 = 0 → ((lg_cmp (xL h9 99 0) (Int32.toInt64 r8)) = 0 → XW room_1 mL_law (xEL xs L) 100 B S h9 2392 [some (.ref 3000), some (.ref 0), some (.ref 56), some (.ref 99), some (.int x4), none, none, none] []) ∧ (¬ (lg_cmp (xL h9 99 0) (Int32.toInt64 r8)) = 0 → False))) ∧ (¬ r9 = r7 → False))))))))))) :
    XW room_1 mL_law (xEL xs L) 100 (B + 4) (S + 24) h 1533 [some (.ref 3000), some (.ref 0), some (.ref 56), some (.ref 99), some (.int x4), none, none, none] [] := by
  refine xi_aload_n (by decide +kernel : decode mL_law.2.1 1533 = .ok (.aload_n 1, 1)) rfl rfl (?_ : XW _ _ _ _ _ _ _ 1534 _ _)
  refine xi_aload_n (by decide +kernel : decode mL_law.2.1 1534 = .ok (.aload_n 0, 1)) rfl rfl (?_ : XW _ _ _ _ _ _ _ 1535 _ _)
  refine xi_iload (by decide +kernel : decode mL_law.2.1 1535 = .ok (.iload 4, 2)) rfl (?_ : XW _ _ _ _ _ _ _ 1537 _ _)
  refine xi_iconst (v := 1) (by decide +kernel : decode mL_law.2.1 1537 = .ok (.iconst 1, 1)) (by decide) (?_ : XW _ _ _ _ _ _ _ 1538 _ _)
  refine xi_iadd (by decide +kernel : decode mL_law.2.1 1538 = .ok (.iadd, 1)) (?_ : XW _ _ _ _ _ _ _ 1539 _ _)
  obtain ⟨s1, vc⟩ := vc
  refine xi_sldS (by decide +kernel : decode mL_law.2.1 1539 = .ok (.iaload, 1)) s1 (?_ : XW _ _ _ _ _ _ _ 1540 _ _)
  refine xi_i2l (by decide +kernel : decode mL_law.2.1 1540 = .ok (.i2l, 1)) (?_ : XW _ _ _ _ _ _ _ 1541 _ _)
  refine xi_bipush (v := 32) (by decide +kernel : decode mL_law.2.1 1541 = .ok (.bipush 32, 2)) (by decide) (?_ : XW _ _ _ _ _ _ _ 1543 _ _)
  refine xi_lshl (by decide +kernel : decode mL_law.2.1 1543 = .ok (.lshl, 1)) (?_ : XW _ _ _ _ _ _ _ 1544 _ _)
  refine xi_aload_n (by decide +kernel : decode mL_law.2.1 1544 = .ok (.aload_n 0, 1)) rfl rfl (?_ : XW _ _ _ _ _ _ _ 1545 _ _)
  refine xi_iload (by decide +kernel : decode mL_law.2.1 1545 = .ok (.iload 4, 2)) rfl (?_ : XW _ _ _ _ _ _ _ 1547 _ _)
  refine xi_iconst (v := 2) (by decide +kernel : decode mL_law.2.1 1547 = .ok (.iconst 2, 1)) (by decide) (?_ : XW _ _ _ _ _ _ _ 1548 _ _)
  refine xi_iadd (by decide +kernel : decode mL_law.2.1 1548 = .ok (.iadd, 1)) (?_ : XW _ _ _ _ _ _ _ 1549 _ _)
  obtain ⟨s1, vc⟩ := vc
  refine xi_sldS (by decide +kernel : decode mL_law.2.1 1549 = .ok (.iaload, 1)) s1 (?_ : XW _ _ _ _ _ _ _ 1550 _ _)
  refine xi_i2l (by decide +kernel : decode mL_law.2.1 1550 = .ok (.i2l, 1)) (?_ : XW _ _ _ _ _ _ _ 1551 _ _)
  refine xi_ldc2 (v := 4294967295) (by decide +kernel : decode mL_law.2.1 1551 = .ok (.ldc2_w 194, 3)) cK_L_194 (?_ : XW _ _ _ _ _ _ _ 1554 _ _)
  refine xi_land (by decide +kernel : decode mL_law.2.1 1554 = .ok (.land, 1)) (?_ : XW _ _ _ _ _ _ _ 1555 _ _)
  refine xi_lor (by decide +kernel : decode mL_law.2.1 1555 = .ok (.lor, 1)) (?_ : XW _ _ _ _ _ _ _ 1556 _ _)
  refine xi_aload_n (by decide +kernel : decode mL_law.2.1 1556 = .ok (.aload_n 0, 1)) rfl rfl (?_ : XW _ _ _ _ _ _ _ 1557 _ _)
  refine xi_iload (by decide +kernel : decode mL_law.2.1 1557 = .ok (.iload 4, 2)) rfl (?_ : XW _ _ _ _ _ _ _ 1559 _ _)
  refine xi_iconst (v := 3) (by decide +kernel : decode mL_law.2.1 1559 = .ok (.iconst 3, 1)) (by decide) (?_ : XW _ _ _ _ _ _ _ 1560 _ _)
  refine xi_iadd (by decide +kernel : decode mL_law.2.1 1560 = .ok (.iadd, 1)) (?_ : XW _ _ _ _ _ _ _ 1561 _ _)
  obtain ⟨s1, vc⟩ := vc
  refine xi_sldS (by decide +kernel : decode mL_law.2.1 1561 = .ok (.iaload, 1)) s1 (?_ : XW _ _ _ _ _ _ _ 1562 _ _)
  refine xi_aload_n (by decide +kernel : decode mL_law.2.1 1562 = .ok (.aload_n 3, 1)) rfl rfl (?_ : XW _ _ _ _ _ _ _ 1563 _ _)
  obtain ⟨Q1, sp, vc⟩ := vc
  refine xi_callSH (b := B + 2) (bs := S + 12) (As := [.ref 0, .long (((Int32.toInt64 (xs (x4 + 1).toNatClampNeg)) <<< ((32 : Int32).toInt64 &&& 63)) ||| ((Int32.toInt64 (xs (x4 + 2).toNatClampNeg)) &&& 4294967295)), .int (xs (x4 + 3).toNatClampNeg), .ref 99]) (st := []) (by decide +kernel : decode mL_law.2.1 1563 = .ok (.invokestatic 196, 3)) kL_196 rfl rfl sp (by decide) (by decide) (Nat.le_of_ble_eq_true rfl) (by omega) (fun v9 h7 hq9 => ?_)
  obtain ⟨r7, e9, vc⟩ := vc v9 h7 hq9
  subst e9
  show XW _ _ _ _ _ _ _ 1566 _ [.int r7]
  refine xi_istore (ls' := [some (.ref 3000), some (.ref 0), some (.ref 56), some (.ref 99), some (.int x4), some (.int r7), none, none]) (by decide +kernel : decode mL_law.2.1 1566 = .ok (.istore 5, 2)) (by decide) rfl (?_ : XW _ _ _ _ _ _ _ 1568 _ _)
  refine xi_aload_n (by decide +kernel : decode mL_law.2.1 1568 = .ok (.aload_n 2, 1)) rfl rfl (?_ : XW _ _ _ _ _ _ _ 1569 _ _)
  refine xi_aload_n (by decide +kernel : decode mL_law.2.1 1569 = .ok (.aload_n 0, 1)) rfl rfl (?_ : XW _ _ _ _ _ _ _ 1570 _ _)
  refine xi_iload (by decide +kernel : decode mL_law.2.1 1570 = .ok (.iload 4, 2)) rfl (?_ : XW _ _ _ _ _ _ _ 1572 _ _)
  refine xi_iconst (v := 1) (by decide +kernel : decode mL_law.2.1 1572 = .ok (.iconst 1, 1)) (by decide) (?_ : XW _ _ _ _ _ _ _ 1573 _ _)
  refine xi_iadd (by decide +kernel : decode mL_law.2.1 1573 = .ok (.iadd, 1)) (?_ : XW _ _ _ _ _ _ _ 1574 _ _)
  obtain ⟨s1, vc⟩ := vc
  refine xi_sldS (by decide +kernel : decode mL_law.2.1 1574 = .ok (.iaload, 1)) s1 (?_ : XW _ _ _ _ _ _ _ 1575 _ _)
  refine xi_i2l (by decide +kernel : decode mL_law.2.1 1575 = .ok (.i2l, 1)) (?_ : XW _ _ _ _ _ _ _ 1576 _ _)
  refine xi_bipush (v := 32) (by decide +kernel : decode mL_law.2.1 1576 = .ok (.bipush 32, 2)) (by decide) (?_ : XW _ _ _ _ _ _ _ 1578 _ _)
  refine xi_lshl (by decide +kernel : decode mL_law.2.1 1578 = .ok (.lshl, 1)) (?_ : XW _ _ _ _ _ _ _ 1579 _ _)
  refine xi_aload_n (by decide +kernel : decode mL_law.2.1 1579 = .ok (.aload_n 0, 1)) rfl rfl (?_ : XW _ _ _ _ _ _ _ 1580 _ _)
  refine xi_iload (by decide +kernel : decode mL_law.2.1 1580 = .ok (.iload 4, 2)) rfl (?_ : XW _ _ _ _ _ _ _ 1582 _ _)
  refine xi_iconst (v := 2) (by decide +kernel : decode mL_law.2.1 1582 = .ok (.iconst 2, 1)) (by decide) (?_ : XW _ _ _ _ _ _ _ 1583 _ _)
  refine xi_iadd (by decide +kernel : decode mL_law.2.1 1583 = .ok (.iadd, 1)) (?_ : XW _ _ _ _ _ _ _ 1584 _ _)
  obtain ⟨s1, vc⟩ := vc
  refine xi_sldS (by decide +kernel : decode mL_law.2.1 1584 = .ok (.iaload, 1)) s1 (?_ : XW _ _ _ _ _ _ _ 1585 _ _)
  refine xi_i2l (by decide +kernel : decode mL_law.2.1 1585 = .ok (.i2l, 1)) (?_ : XW _ _ _ _ _ _ _ 1586 _ _)
  refine xi_ldc2 (v := 4294967295) (by decide +kernel : decode mL_law.2.1 1586 = .ok (.ldc2_w 194, 3)) cK_L_194 (?_ : XW _ _ _ _ _ _ _ 1589 _ _)
  refine xi_land (by decide +kernel : decode mL_law.2.1 1589 = .ok (.land, 1)) (?_ : XW _ _ _ _ _ _ _ 1590 _ _)
  refine xi_lor (by decide +kernel : decode mL_law.2.1 1590 = .ok (.lor, 1)) (?_ : XW _ _ _ _ _ _ _ 1591 _ _)
  refine xi_aload_n (by decide +kernel : decode mL_law.2.1 1591 = .ok (.aload_n 0, 1)) rfl rfl (?_ : XW _ _ _ _ _ _ _ 1592 _ _)
  refine xi_iload (by decide +kernel : decode mL_law.2.1 1592 = .ok (.iload 4, 2)) rfl (?_ : XW _ _ _ _ _ _ _ 1594 _ _)
  refine xi_iconst (v := 3) (by decide +kernel : decode mL_law.2.1 1594 = .ok (.iconst 3, 1)) (by decide) (?_ : XW _ _ _ _ _ _ _ 1595 _ _)
  refine xi_iadd (by decide +kernel : decode mL_law.2.1 1595 = .ok (.iadd, 1)) (?_ : XW _ _ _ _ _ _ _ 1596 _ _)
  obtain ⟨s1, vc⟩ := vc
  refine xi_sldS (by decide +kernel : decode mL_law.2.1 1596 = .ok (.iaload, 1)) s1 (?_ : XW _ _ _ _ _ _ _ 1597 _ _)
  obtain ⟨Q1, sp, vc⟩ := vc
  refine xi_callVg (b := B + 2) (bs := S + 12) (As := [.long (((Int32.toInt64 (xs (x4 + 1).toNatClampNeg)) <<< ((32 : Int32).toInt64 &&& 63)) ||| ((Int32.toInt64 (xs (x4 + 2).toNatClampNeg)) &&& 4294967295)), .int (xs (x4 + 3).toNatClampNeg)]) (st := []) (by decide +kernel : decode mL_law.2.1 1597 = .ok (.invokevirtual 199, 3)) kL_199 rfl rfl (by omega) rfl sp (by decide) (by decide) (Nat.le_of_ble_eq_true rfl) (by omega) (fun v9 h8 hq9 hx9 => ?_)
  obtain ⟨r8, e9, vc⟩ := vc v9 h8 hq9 hx9
  subst e9
  show XW _ _ _ _ _ _ _ 1600 _ [.int r8]
  refine xi_istore (ls' := [some (.ref 3000), some (.ref 0), some (.ref 56), some (.ref 99), some (.int x4), some (.int r7), some (.int r8), none]) (by decide +kernel : decode mL_law.2.1 1600 = .ok (.istore 6, 2)) (by decide) rfl (?_ : XW _ _ _ _ _ _ _ 1602 _ _)
  refine xi_aload_n (by decide +kernel : decode mL_law.2.1 1602 = .ok (.aload_n 2, 1)) rfl rfl (?_ : XW _ _ _ _ _ _ _ 1603 _ _)
  obtain ⟨Q1, sp, vc⟩ := vc
  refine xi_callVg (b := B + 2) (bs := S + 12) (As := []) (st := []) (by decide +kernel : decode mL_law.2.1 1603 = .ok (.invokevirtual 125, 3)) kL_125 rfl rfl (by omega) rfl sp (by decide) (by decide) (Nat.le_of_ble_eq_true rfl) (by omega) (fun v9 h9 hq9 hx9 => ?_)
  obtain ⟨r9, e9, vc⟩ := vc v9 h9 hq9 hx9
  subst e9
  show XW _ _ _ _ _ _ _ 1606 _ [.int r9]
  refine xi_iload (by decide +kernel : decode mL_law.2.1 1606 = .ok (.iload 5, 2)) rfl (?_ : XW _ _ _ _ _ _ _ 1608 _ _)
  refine xi_icmp_eq (by decide +kernel : decode mL_law.2.1 1608 = .ok (.if_icmp .eq 5, 3)) (by decide) (fun c => (?_ : XW _ _ _ _ _ _ _ 1613 _ _)) (fun c => (?_ : XW _ _ _ _ _ _ _ 1611 _ _))
  · replace vc := vc.1 c
    refine xi_iload (by decide +kernel : decode mL_law.2.1 1613 = .ok (.iload 5, 2)) rfl (?_ : XW _ _ _ _ _ _ _ 1615 _ _)
    refine xi_if_ne (by decide +kernel : decode mL_law.2.1 1615 = .ok (.ifCond .ne 15, 3)) (by decide) (fun c => (?_ : XW _ _ _ _ _ _ _ 1630 _ _)) (fun c => (?_ : XW _ _ _ _ _ _ _ 1618 _ _))
    · replace vc := vc.1 c
      refine xi_goto (by decide +kernel : decode mL_law.2.1 1630 = .ok (.goto 762, 3)) (by decide) (?_ : XW _ _ _ _ _ _ _ 2392 _ _)
      refine xw_drop 5 (ls' := [some (.ref 3000), some (.ref 0), some (.ref 56), some (.ref 99), some (.int x4), none, some (.int r8), none]) rfl ?_
      refine xw_drop 6 (ls' := [some (.ref 3000), some (.ref 0), some (.ref 56), some (.ref 99), some (.int x4), none, none, none]) rfl ?_
      refine xw_b (b' := B) (bs' := S) (by omega) (by omega) ?_
      exact vc
    · replace vc := vc.2 c
      refine xi_aload_n (by decide +kernel : decode mL_law.2.1 1618 = .ok (.aload_n 3, 1)) rfl rfl (?_ : XW _ _ _ _ _ _ _ 1619 _ _)
      refine xi_iconst (v := 0) (by decide +kernel : decode mL_law.2.1 1619 = .ok (.iconst 0, 1)) (by decide) (?_ : XW _ _ _ _ _ _ _ 1620 _ _)
      refine xi_lald (by decide +kernel : decode mL_law.2.1 1620 = .ok (.laload, 1)) rfl (by omega) (by unfold vp_in; decide) (?_ : XW _ _ _ _ _ _ _ 1621 _ [.long (xL h9 99 0)])
      refine xi_iload (by decide +kernel : decode mL_law.2.1 1621 = .ok (.iload 6, 2)) rfl (?_ : XW _ _ _ _ _ _ _ 1623 _ _)
      refine xi_i2l (by decide +kernel : decode mL_law.2.1 1623 = .ok (.i2l, 1)) (?_ : XW _ _ _ _ _ _ _ 1624 _ _)
      refine xi_lcmp (by decide +kernel : decode mL_law.2.1 1624 = .ok (.lcmp, 1)) (?_ : XW _ _ _ _ _ _ _ 1625 _ _)
      refine xi_if_eq (by decide +kernel : decode mL_law.2.1 1625 = .ok (.ifCond .eq 5, 3)) (by decide) (fun c => (?_ : XW _ _ _ _ _ _ _ 1630 _ _)) (fun c => (?_ : XW _ _ _ _ _ _ _ 1628 _ _))
      · replace vc := vc.1 c
        refine xi_goto (by decide +kernel : decode mL_law.2.1 1630 = .ok (.goto 762, 3)) (by decide) (?_ : XW _ _ _ _ _ _ _ 2392 _ _)
        refine xw_drop 5 (ls' := [some (.ref 3000), some (.ref 0), some (.ref 56), some (.ref 99), some (.int x4), none, some (.int r8), none]) rfl ?_
        refine xw_drop 6 (ls' := [some (.ref 3000), some (.ref 0), some (.ref 56), some (.ref 99), some (.int x4), none, none, none]) rfl ?_
        refine xw_b (b' := B) (bs' := S) (by omega) (by omega) ?_
        exact vc
      · replace vc := vc.2 c
        refine xi_iconst (v := 0) (by decide +kernel : decode mL_law.2.1 1628 = .ok (.iconst 0, 1)) (by decide) (?_ : XW _ _ _ _ _ _ _ 1629 _ _)
        exact vc.elim
  · replace vc := vc.2 c
    refine xi_iconst (v := 0) (by decide +kernel : decode mL_law.2.1 1611 = .ok (.iconst 0, 1)) (by decide) (?_ : XW _ _ _ _ _ _ _ 1612 _ _)
    exact vc.elim

set_option maxRecDepth 20000 in
theorem v_L_law_1633 {h : XH} {Q : Option Value → XH → Prop} {X : String → XH → Prop} (xs : Nat → Int32) (L B S : Nat)  (x4 : Int32)
    (vc : (vp_in (x4 + 1) L) ∧ ((vp_in (x4 + 2) L) ∧ (∃ Q1, XSpecH mL_ahead 9 2 12 100 100 [.ref 0, .int (xs (x4 + 1).toNatClampNeg), .int (xs (x4 + 2).toNatClampNeg), .ref 99] h Q1 ∧ ∀ v h10, Q1 v h10 → ∃ r10 : Int32, v = some (.int r10) ∧ ((vp_in (x4 + 1) L) ∧ ((vp_in (x4 + 2) L) ∧ (∃ Q1, XSpec mX11_ahead 6 0 0 100 100 [.ref 56, .int (xs (x4 + 1).toNatClampNeg), .int (xs (x4 + 2).toNatClampNeg)] h10 Q1 xno ∧ ∀ v h11, Q1 v h11 → xL h11 99 0 = xL h10 99 0 → ∃ r11 : Int64, v = some (.long r11) ∧ (∃ Q1, XSpec mX11_thrown 1 0 0 100 100 [.ref 56] h11 Q1 xno ∧ ∀ v h12, Q1 v h12 → xL h12 99 0 = xL h11 99 0 → ∃ r12 : Int32, v = some (.int r12) ∧ ((r12 = r10 → (¬ r10 = 0 → XW room_1 mL_law (xEL xs L) 100 B S h12 2392 [some (.ref 3000), some (.ref 0), some (.ref 56), some (.ref 99), some (.int x4), none, none, none] []) ∧ (r10 = 0 → ((lg_cmp (xL h12 99 0) r11) = 0 → XW room_1 mL_law (xEL xs L) 100 B S h12 2392 [some (.ref 3000), some (.ref 0), some (.ref 56), some (.ref 99), some (.int x4), none, none, none] []) ∧ (¬ (lg_cmp (xL h12 99 0) r11) = 0 → False))) ∧ (¬ r12 = r10 → False))))))))) :
    XW room_1 mL_law (xEL xs L) 100 (B + 4) (S + 24) h 1633 [some (.ref 3000), some (.ref 0), some (.ref 56), some (.ref 99), some (.int x4), none, none, none] [] := by
  refine xi_aload_n (by decide +kernel : decode mL_law.2.1 1633 = .ok (.aload_n 1, 1)) rfl rfl (?_ : XW _ _ _ _ _ _ _ 1634 _ _)
  refine xi_aload_n (by decide +kernel : decode mL_law.2.1 1634 = .ok (.aload_n 0, 1)) rfl rfl (?_ : XW _ _ _ _ _ _ _ 1635 _ _)
  refine xi_iload (by decide +kernel : decode mL_law.2.1 1635 = .ok (.iload 4, 2)) rfl (?_ : XW _ _ _ _ _ _ _ 1637 _ _)
  refine xi_iconst (v := 1) (by decide +kernel : decode mL_law.2.1 1637 = .ok (.iconst 1, 1)) (by decide) (?_ : XW _ _ _ _ _ _ _ 1638 _ _)
  refine xi_iadd (by decide +kernel : decode mL_law.2.1 1638 = .ok (.iadd, 1)) (?_ : XW _ _ _ _ _ _ _ 1639 _ _)
  obtain ⟨s1, vc⟩ := vc
  refine xi_sldS (by decide +kernel : decode mL_law.2.1 1639 = .ok (.iaload, 1)) s1 (?_ : XW _ _ _ _ _ _ _ 1640 _ _)
  refine xi_aload_n (by decide +kernel : decode mL_law.2.1 1640 = .ok (.aload_n 0, 1)) rfl rfl (?_ : XW _ _ _ _ _ _ _ 1641 _ _)
  refine xi_iload (by decide +kernel : decode mL_law.2.1 1641 = .ok (.iload 4, 2)) rfl (?_ : XW _ _ _ _ _ _ _ 1643 _ _)
  refine xi_iconst (v := 2) (by decide +kernel : decode mL_law.2.1 1643 = .ok (.iconst 2, 1)) (by decide) (?_ : XW _ _ _ _ _ _ _ 1644 _ _)
  refine xi_iadd (by decide +kernel : decode mL_law.2.1 1644 = .ok (.iadd, 1)) (?_ : XW _ _ _ _ _ _ _ 1645 _ _)
  obtain ⟨s1, vc⟩ := vc
  refine xi_sldS (by decide +kernel : decode mL_law.2.1 1645 = .ok (.iaload, 1)) s1 (?_ : XW _ _ _ _ _ _ _ 1646 _ _)
  refine xi_aload_n (by decide +kernel : decode mL_law.2.1 1646 = .ok (.aload_n 3, 1)) rfl rfl (?_ : XW _ _ _ _ _ _ _ 1647 _ _)
  obtain ⟨Q1, sp, vc⟩ := vc
  refine xi_callSH (b := B + 2) (bs := S + 12) (As := [.ref 0, .int (xs (x4 + 1).toNatClampNeg), .int (xs (x4 + 2).toNatClampNeg), .ref 99]) (st := []) (by decide +kernel : decode mL_law.2.1 1647 = .ok (.invokestatic 200, 3)) kL_200 rfl rfl sp (by decide) (by decide) (Nat.le_of_ble_eq_true rfl) (by omega) (fun v9 h10 hq9 => ?_)
  obtain ⟨r10, e9, vc⟩ := vc v9 h10 hq9
  subst e9
  show XW _ _ _ _ _ _ _ 1650 _ [.int r10]
  refine xi_istore (ls' := [some (.ref 3000), some (.ref 0), some (.ref 56), some (.ref 99), some (.int x4), some (.int r10), none, none]) (by decide +kernel : decode mL_law.2.1 1650 = .ok (.istore 5, 2)) (by decide) rfl (?_ : XW _ _ _ _ _ _ _ 1652 _ _)
  refine xi_aload_n (by decide +kernel : decode mL_law.2.1 1652 = .ok (.aload_n 2, 1)) rfl rfl (?_ : XW _ _ _ _ _ _ _ 1653 _ _)
  refine xi_aload_n (by decide +kernel : decode mL_law.2.1 1653 = .ok (.aload_n 0, 1)) rfl rfl (?_ : XW _ _ _ _ _ _ _ 1654 _ _)
  refine xi_iload (by decide +kernel : decode mL_law.2.1 1654 = .ok (.iload 4, 2)) rfl (?_ : XW _ _ _ _ _ _ _ 1656 _ _)
  refine xi_iconst (v := 1) (by decide +kernel : decode mL_law.2.1 1656 = .ok (.iconst 1, 1)) (by decide) (?_ : XW _ _ _ _ _ _ _ 1657 _ _)
  refine xi_iadd (by decide +kernel : decode mL_law.2.1 1657 = .ok (.iadd, 1)) (?_ : XW _ _ _ _ _ _ _ 1658 _ _)
  obtain ⟨s1, vc⟩ := vc
  refine xi_sldS (by decide +kernel : decode mL_law.2.1 1658 = .ok (.iaload, 1)) s1 (?_ : XW _ _ _ _ _ _ _ 1659 _ _)
  refine xi_aload_n (by decide +kernel : decode mL_law.2.1 1659 = .ok (.aload_n 0, 1)) rfl rfl (?_ : XW _ _ _ _ _ _ _ 1660 _ _)
  refine xi_iload (by decide +kernel : decode mL_law.2.1 1660 = .ok (.iload 4, 2)) rfl (?_ : XW _ _ _ _ _ _ _ 1662 _ _)
  refine xi_iconst (v := 2) (by decide +kernel : decode mL_law.2.1 1662 = .ok (.iconst 2, 1)) (by decide) (?_ : XW _ _ _ _ _ _ _ 1663 _ _)
  refine xi_iadd (by decide +kernel : decode mL_law.2.1 1663 = .ok (.iadd, 1)) (?_ : XW _ _ _ _ _ _ _ 1664 _ _)
  obtain ⟨s1, vc⟩ := vc
  refine xi_sldS (by decide +kernel : decode mL_law.2.1 1664 = .ok (.iaload, 1)) s1 (?_ : XW _ _ _ _ _ _ _ 1665 _ _)
  obtain ⟨Q1, sp, vc⟩ := vc
  refine xi_callVg (b := B + 2) (bs := S + 12) (As := [.int (xs (x4 + 1).toNatClampNeg), .int (xs (x4 + 2).toNatClampNeg)]) (st := []) (by decide +kernel : decode mL_law.2.1 1665 = .ok (.invokevirtual 202, 3)) kL_202 rfl rfl (by omega) rfl sp (by decide) (by decide) (Nat.le_of_ble_eq_true rfl) (by omega) (fun v9 h11 hq9 hx9 => ?_)
  obtain ⟨r11, e9, vc⟩ := vc v9 h11 hq9 hx9
  subst e9
  show XW _ _ _ _ _ _ _ 1668 _ [.long r11]
  refine xi_lstore (ls' := [some (.ref 3000), some (.ref 0), some (.ref 56), some (.ref 99), some (.int x4), some (.int r10), some (.long r11), none]) (by decide +kernel : decode mL_law.2.1 1668 = .ok (.lstore 6, 2)) (by decide) rfl (?_ : XW _ _ _ _ _ _ _ 1670 _ _)
  refine xi_aload_n (by decide +kernel : decode mL_law.2.1 1670 = .ok (.aload_n 2, 1)) rfl rfl (?_ : XW _ _ _ _ _ _ _ 1671 _ _)
  obtain ⟨Q1, sp, vc⟩ := vc
  refine xi_callVg (b := B + 2) (bs := S + 12) (As := []) (st := []) (by decide +kernel : decode mL_law.2.1 1671 = .ok (.invokevirtual 125, 3)) kL_125 rfl rfl (by omega) rfl sp (by decide) (by decide) (Nat.le_of_ble_eq_true rfl) (by omega) (fun v9 h12 hq9 hx9 => ?_)
  obtain ⟨r12, e9, vc⟩ := vc v9 h12 hq9 hx9
  subst e9
  show XW _ _ _ _ _ _ _ 1674 _ [.int r12]
  refine xi_iload (by decide +kernel : decode mL_law.2.1 1674 = .ok (.iload 5, 2)) rfl (?_ : XW _ _ _ _ _ _ _ 1676 _ _)
  refine xi_icmp_eq (by decide +kernel : decode mL_law.2.1 1676 = .ok (.if_icmp .eq 5, 3)) (by decide) (fun c => (?_ : XW _ _ _ _ _ _ _ 1681 _ _)) (fun c => (?_ : XW _ _ _ _ _ _ _ 1679 _ _))
  · replace vc := vc.1 c
    refine xi_iload (by decide +kernel : decode mL_law.2.1 1681 = .ok (.iload 5, 2)) rfl (?_ : XW _ _ _ _ _ _ _ 1683 _ _)
    refine xi_if_ne (by decide +kernel : decode mL_law.2.1 1683 = .ok (.ifCond .ne 14, 3)) (by decide) (fun c => (?_ : XW _ _ _ _ _ _ _ 1697 _ _)) (fun c => (?_ : XW _ _ _ _ _ _ _ 1686 _ _))
    · replace vc := vc.1 c
      refine xi_goto (by decide +kernel : decode mL_law.2.1 1697 = .ok (.goto 695, 3)) (by decide) (?_ : XW _ _ _ _ _ _ _ 2392 _ _)
      refine xw_drop 5 (ls' := [some (.ref 3000), some (.ref 0), some (.ref 56), some (.ref 99), some (.int x4), none, some (.long r11), none]) rfl ?_
      refine xw_drop 6 (ls' := [some (.ref 3000), some (.ref 0), some (.ref 56), some (.ref 99), some (.int x4), none, none, none]) rfl ?_
      refine xw_b (b' := B) (bs' := S) (by omega) (by omega) ?_
      exact vc
    · replace vc := vc.2 c
      refine xi_aload_n (by decide +kernel : decode mL_law.2.1 1686 = .ok (.aload_n 3, 1)) rfl rfl (?_ : XW _ _ _ _ _ _ _ 1687 _ _)
      refine xi_iconst (v := 0) (by decide +kernel : decode mL_law.2.1 1687 = .ok (.iconst 0, 1)) (by decide) (?_ : XW _ _ _ _ _ _ _ 1688 _ _)
      refine xi_lald (by decide +kernel : decode mL_law.2.1 1688 = .ok (.laload, 1)) rfl (by omega) (by unfold vp_in; decide) (?_ : XW _ _ _ _ _ _ _ 1689 _ [.long (xL h12 99 0)])
      refine xi_lload (by decide +kernel : decode mL_law.2.1 1689 = .ok (.lload 6, 2)) rfl (?_ : XW _ _ _ _ _ _ _ 1691 _ _)
      refine xi_lcmp (by decide +kernel : decode mL_law.2.1 1691 = .ok (.lcmp, 1)) (?_ : XW _ _ _ _ _ _ _ 1692 _ _)
      refine xi_if_eq (by decide +kernel : decode mL_law.2.1 1692 = .ok (.ifCond .eq 5, 3)) (by decide) (fun c => (?_ : XW _ _ _ _ _ _ _ 1697 _ _)) (fun c => (?_ : XW _ _ _ _ _ _ _ 1695 _ _))
      · replace vc := vc.1 c
        refine xi_goto (by decide +kernel : decode mL_law.2.1 1697 = .ok (.goto 695, 3)) (by decide) (?_ : XW _ _ _ _ _ _ _ 2392 _ _)
        refine xw_drop 5 (ls' := [some (.ref 3000), some (.ref 0), some (.ref 56), some (.ref 99), some (.int x4), none, some (.long r11), none]) rfl ?_
        refine xw_drop 6 (ls' := [some (.ref 3000), some (.ref 0), some (.ref 56), some (.ref 99), some (.int x4), none, none, none]) rfl ?_
        refine xw_b (b' := B) (bs' := S) (by omega) (by omega) ?_
        exact vc
      · replace vc := vc.2 c
        refine xi_iconst (v := 0) (by decide +kernel : decode mL_law.2.1 1695 = .ok (.iconst 0, 1)) (by decide) (?_ : XW _ _ _ _ _ _ _ 1696 _ _)
        exact vc.elim
  · replace vc := vc.2 c
    refine xi_iconst (v := 0) (by decide +kernel : decode mL_law.2.1 1679 = .ok (.iconst 0, 1)) (by decide) (?_ : XW _ _ _ _ _ _ _ 1680 _ _)
    exact vc.elim

set_option maxRecDepth 20000 in
theorem v_L_law_1700 {h : XH} {Q : Option Value → XH → Prop} {X : String → XH → Prop} (xs : Nat → Int32) (L B S : Nat)  (x4 : Int32)
    (vc : (vp_in (x4 + 1) L) ∧ ((vp_in (x4 + 2) L) ∧ ((vp_in (x4 + 3) L) ∧ ((vp_in (x4 + 4) L) ∧ (∃ Q1, XSpecH mL_choose 9 4 24 100 100 [.ref 0, .int (xs (x4 + 1).toNatClampNeg), .int (xs (x4 + 2).toNatClampNeg), .int (xs (x4 + 3).toNatClampNeg), .int (xs (x4 + 4).toNatClampNeg), .ref 99] h Q1 ∧ ∀ v h13, Q1 v h13 → ∃ r13 : Int32, v = some (.int r13) ∧ ((vp_in (x4 + 1) L) ∧ ((vp_in (x4 + 2) L) ∧ ((vp_in (x4 + 3) L) ∧ ((vp_in (x4 + 4) L) ∧ (∃ Q1, XSpec mX11_choose 6 0 0 100 100 [.ref 56, .int (xs (x4 + 1).toNatClampNeg), .int (xs (x4 + 2).toNatClampNeg), .int (xs (x4 + 3).toNatClampNeg), .int (xs (x4 + 4).toNatClampNeg)] h13 Q1 xno ∧ ∀ v h14, Q1 v h14 → xL h14 99 0 = xL h13 99 0 → ∃ r14 : Int32, v = some (.int r14) ∧ (∃ Q1, XSpec mX11_thrown 1 0 0 100 100 [.ref 56] h14 Q1 xno ∧ ∀ v h15, Q1 v h15 → xL h15 99 0 = xL h14 99 0 → ∃ r15 : Int32, v = some (.int r15) ∧ ((r15 = r13 → (¬ r13 = 0 → XW room_1 mL_law (xEL xs L) 100 B S h15 2392 [some (.ref 3000), some (.ref 0), some (.ref 56), some (.ref 99), some (.int x4), none, none, none] []) ∧ (r13 = 0 → ((lg_cmp (xL h15 99 0) (Int32.toInt64 r14)) = 0 → XW room_1 mL_law (xEL xs L) 100 B S h15 2392 [some (.ref 3000), some (.ref 0), some (.ref 56), some (.ref 99), some (.int x4), none, none, none] []) ∧ (¬ (lg_cmp (xL h15 99 0) (Int32.toInt64 r14)) = 0 → False))) ∧ (¬ r15 = r13 → False))))))))))))) :
    XW room_1 mL_law (xEL xs L) 100 (B + 4) (S + 24) h 1700 [some (.ref 3000), some (.ref 0), some (.ref 56), some (.ref 99), some (.int x4), none, none, none] [] := by
  refine xi_aload_n (by decide +kernel : decode mL_law.2.1 1700 = .ok (.aload_n 1, 1)) rfl rfl (?_ : XW _ _ _ _ _ _ _ 1701 _ _)
  refine xi_aload_n (by decide +kernel : decode mL_law.2.1 1701 = .ok (.aload_n 0, 1)) rfl rfl (?_ : XW _ _ _ _ _ _ _ 1702 _ _)
  refine xi_iload (by decide +kernel : decode mL_law.2.1 1702 = .ok (.iload 4, 2)) rfl (?_ : XW _ _ _ _ _ _ _ 1704 _ _)
  refine xi_iconst (v := 1) (by decide +kernel : decode mL_law.2.1 1704 = .ok (.iconst 1, 1)) (by decide) (?_ : XW _ _ _ _ _ _ _ 1705 _ _)
  refine xi_iadd (by decide +kernel : decode mL_law.2.1 1705 = .ok (.iadd, 1)) (?_ : XW _ _ _ _ _ _ _ 1706 _ _)
  obtain ⟨s1, vc⟩ := vc
  refine xi_sldS (by decide +kernel : decode mL_law.2.1 1706 = .ok (.iaload, 1)) s1 (?_ : XW _ _ _ _ _ _ _ 1707 _ _)
  refine xi_aload_n (by decide +kernel : decode mL_law.2.1 1707 = .ok (.aload_n 0, 1)) rfl rfl (?_ : XW _ _ _ _ _ _ _ 1708 _ _)
  refine xi_iload (by decide +kernel : decode mL_law.2.1 1708 = .ok (.iload 4, 2)) rfl (?_ : XW _ _ _ _ _ _ _ 1710 _ _)
  refine xi_iconst (v := 2) (by decide +kernel : decode mL_law.2.1 1710 = .ok (.iconst 2, 1)) (by decide) (?_ : XW _ _ _ _ _ _ _ 1711 _ _)
  refine xi_iadd (by decide +kernel : decode mL_law.2.1 1711 = .ok (.iadd, 1)) (?_ : XW _ _ _ _ _ _ _ 1712 _ _)
  obtain ⟨s1, vc⟩ := vc
  refine xi_sldS (by decide +kernel : decode mL_law.2.1 1712 = .ok (.iaload, 1)) s1 (?_ : XW _ _ _ _ _ _ _ 1713 _ _)
  refine xi_aload_n (by decide +kernel : decode mL_law.2.1 1713 = .ok (.aload_n 0, 1)) rfl rfl (?_ : XW _ _ _ _ _ _ _ 1714 _ _)
  refine xi_iload (by decide +kernel : decode mL_law.2.1 1714 = .ok (.iload 4, 2)) rfl (?_ : XW _ _ _ _ _ _ _ 1716 _ _)
  refine xi_iconst (v := 3) (by decide +kernel : decode mL_law.2.1 1716 = .ok (.iconst 3, 1)) (by decide) (?_ : XW _ _ _ _ _ _ _ 1717 _ _)
  refine xi_iadd (by decide +kernel : decode mL_law.2.1 1717 = .ok (.iadd, 1)) (?_ : XW _ _ _ _ _ _ _ 1718 _ _)
  obtain ⟨s1, vc⟩ := vc
  refine xi_sldS (by decide +kernel : decode mL_law.2.1 1718 = .ok (.iaload, 1)) s1 (?_ : XW _ _ _ _ _ _ _ 1719 _ _)
  refine xi_aload_n (by decide +kernel : decode mL_law.2.1 1719 = .ok (.aload_n 0, 1)) rfl rfl (?_ : XW _ _ _ _ _ _ _ 1720 _ _)
  refine xi_iload (by decide +kernel : decode mL_law.2.1 1720 = .ok (.iload 4, 2)) rfl (?_ : XW _ _ _ _ _ _ _ 1722 _ _)
  refine xi_iconst (v := 4) (by decide +kernel : decode mL_law.2.1 1722 = .ok (.iconst 4, 1)) (by decide) (?_ : XW _ _ _ _ _ _ _ 1723 _ _)
  refine xi_iadd (by decide +kernel : decode mL_law.2.1 1723 = .ok (.iadd, 1)) (?_ : XW _ _ _ _ _ _ _ 1724 _ _)
  obtain ⟨s1, vc⟩ := vc
  refine xi_sldS (by decide +kernel : decode mL_law.2.1 1724 = .ok (.iaload, 1)) s1 (?_ : XW _ _ _ _ _ _ _ 1725 _ _)
  refine xi_aload_n (by decide +kernel : decode mL_law.2.1 1725 = .ok (.aload_n 3, 1)) rfl rfl (?_ : XW _ _ _ _ _ _ _ 1726 _ _)
  obtain ⟨Q1, sp, vc⟩ := vc
  refine xi_callSH (b := B + 0) (bs := S + 0) (As := [.ref 0, .int (xs (x4 + 1).toNatClampNeg), .int (xs (x4 + 2).toNatClampNeg), .int (xs (x4 + 3).toNatClampNeg), .int (xs (x4 + 4).toNatClampNeg), .ref 99]) (st := []) (by decide +kernel : decode mL_law.2.1 1726 = .ok (.invokestatic 203, 3)) kL_203 rfl rfl sp (by decide) (by decide) (Nat.le_of_ble_eq_true rfl) (by omega) (fun v9 h13 hq9 => ?_)
  obtain ⟨r13, e9, vc⟩ := vc v9 h13 hq9
  subst e9
  show XW _ _ _ _ _ _ _ 1729 _ [.int r13]
  refine xi_istore (ls' := [some (.ref 3000), some (.ref 0), some (.ref 56), some (.ref 99), some (.int x4), some (.int r13), none, none]) (by decide +kernel : decode mL_law.2.1 1729 = .ok (.istore 5, 2)) (by decide) rfl (?_ : XW _ _ _ _ _ _ _ 1731 _ _)
  refine xi_aload_n (by decide +kernel : decode mL_law.2.1 1731 = .ok (.aload_n 2, 1)) rfl rfl (?_ : XW _ _ _ _ _ _ _ 1732 _ _)
  refine xi_aload_n (by decide +kernel : decode mL_law.2.1 1732 = .ok (.aload_n 0, 1)) rfl rfl (?_ : XW _ _ _ _ _ _ _ 1733 _ _)
  refine xi_iload (by decide +kernel : decode mL_law.2.1 1733 = .ok (.iload 4, 2)) rfl (?_ : XW _ _ _ _ _ _ _ 1735 _ _)
  refine xi_iconst (v := 1) (by decide +kernel : decode mL_law.2.1 1735 = .ok (.iconst 1, 1)) (by decide) (?_ : XW _ _ _ _ _ _ _ 1736 _ _)
  refine xi_iadd (by decide +kernel : decode mL_law.2.1 1736 = .ok (.iadd, 1)) (?_ : XW _ _ _ _ _ _ _ 1737 _ _)
  obtain ⟨s1, vc⟩ := vc
  refine xi_sldS (by decide +kernel : decode mL_law.2.1 1737 = .ok (.iaload, 1)) s1 (?_ : XW _ _ _ _ _ _ _ 1738 _ _)
  refine xi_aload_n (by decide +kernel : decode mL_law.2.1 1738 = .ok (.aload_n 0, 1)) rfl rfl (?_ : XW _ _ _ _ _ _ _ 1739 _ _)
  refine xi_iload (by decide +kernel : decode mL_law.2.1 1739 = .ok (.iload 4, 2)) rfl (?_ : XW _ _ _ _ _ _ _ 1741 _ _)
  refine xi_iconst (v := 2) (by decide +kernel : decode mL_law.2.1 1741 = .ok (.iconst 2, 1)) (by decide) (?_ : XW _ _ _ _ _ _ _ 1742 _ _)
  refine xi_iadd (by decide +kernel : decode mL_law.2.1 1742 = .ok (.iadd, 1)) (?_ : XW _ _ _ _ _ _ _ 1743 _ _)
  obtain ⟨s1, vc⟩ := vc
  refine xi_sldS (by decide +kernel : decode mL_law.2.1 1743 = .ok (.iaload, 1)) s1 (?_ : XW _ _ _ _ _ _ _ 1744 _ _)
  refine xi_aload_n (by decide +kernel : decode mL_law.2.1 1744 = .ok (.aload_n 0, 1)) rfl rfl (?_ : XW _ _ _ _ _ _ _ 1745 _ _)
  refine xi_iload (by decide +kernel : decode mL_law.2.1 1745 = .ok (.iload 4, 2)) rfl (?_ : XW _ _ _ _ _ _ _ 1747 _ _)
  refine xi_iconst (v := 3) (by decide +kernel : decode mL_law.2.1 1747 = .ok (.iconst 3, 1)) (by decide) (?_ : XW _ _ _ _ _ _ _ 1748 _ _)
  refine xi_iadd (by decide +kernel : decode mL_law.2.1 1748 = .ok (.iadd, 1)) (?_ : XW _ _ _ _ _ _ _ 1749 _ _)
  obtain ⟨s1, vc⟩ := vc
  refine xi_sldS (by decide +kernel : decode mL_law.2.1 1749 = .ok (.iaload, 1)) s1 (?_ : XW _ _ _ _ _ _ _ 1750 _ _)
  refine xi_aload_n (by decide +kernel : decode mL_law.2.1 1750 = .ok (.aload_n 0, 1)) rfl rfl (?_ : XW _ _ _ _ _ _ _ 1751 _ _)
  refine xi_iload (by decide +kernel : decode mL_law.2.1 1751 = .ok (.iload 4, 2)) rfl (?_ : XW _ _ _ _ _ _ _ 1753 _ _)
  refine xi_iconst (v := 4) (by decide +kernel : decode mL_law.2.1 1753 = .ok (.iconst 4, 1)) (by decide) (?_ : XW _ _ _ _ _ _ _ 1754 _ _)
  refine xi_iadd (by decide +kernel : decode mL_law.2.1 1754 = .ok (.iadd, 1)) (?_ : XW _ _ _ _ _ _ _ 1755 _ _)
  obtain ⟨s1, vc⟩ := vc
  refine xi_sldS (by decide +kernel : decode mL_law.2.1 1755 = .ok (.iaload, 1)) s1 (?_ : XW _ _ _ _ _ _ _ 1756 _ _)
  obtain ⟨Q1, sp, vc⟩ := vc
  refine xi_callVg (b := B + 0) (bs := S + 0) (As := [.int (xs (x4 + 1).toNatClampNeg), .int (xs (x4 + 2).toNatClampNeg), .int (xs (x4 + 3).toNatClampNeg), .int (xs (x4 + 4).toNatClampNeg)]) (st := []) (by decide +kernel : decode mL_law.2.1 1756 = .ok (.invokevirtual 205, 3)) kL_205 rfl rfl (by omega) rfl sp (by decide) (by decide) (Nat.le_of_ble_eq_true rfl) (by omega) (fun v9 h14 hq9 hx9 => ?_)
  obtain ⟨r14, e9, vc⟩ := vc v9 h14 hq9 hx9
  subst e9
  show XW _ _ _ _ _ _ _ 1759 _ [.int r14]
  refine xi_istore (ls' := [some (.ref 3000), some (.ref 0), some (.ref 56), some (.ref 99), some (.int x4), some (.int r13), some (.int r14), none]) (by decide +kernel : decode mL_law.2.1 1759 = .ok (.istore 6, 2)) (by decide) rfl (?_ : XW _ _ _ _ _ _ _ 1761 _ _)
  refine xi_aload_n (by decide +kernel : decode mL_law.2.1 1761 = .ok (.aload_n 2, 1)) rfl rfl (?_ : XW _ _ _ _ _ _ _ 1762 _ _)
  obtain ⟨Q1, sp, vc⟩ := vc
  refine xi_callVg (b := B + 0) (bs := S + 0) (As := []) (st := []) (by decide +kernel : decode mL_law.2.1 1762 = .ok (.invokevirtual 125, 3)) kL_125 rfl rfl (by omega) rfl sp (by decide) (by decide) (Nat.le_of_ble_eq_true rfl) (by omega) (fun v9 h15 hq9 hx9 => ?_)
  obtain ⟨r15, e9, vc⟩ := vc v9 h15 hq9 hx9
  subst e9
  show XW _ _ _ _ _ _ _ 1765 _ [.int r15]
  refine xi_iload (by decide +kernel : decode mL_law.2.1 1765 = .ok (.iload 5, 2)) rfl (?_ : XW _ _ _ _ _ _ _ 1767 _ _)
  refine xi_icmp_eq (by decide +kernel : decode mL_law.2.1 1767 = .ok (.if_icmp .eq 5, 3)) (by decide) (fun c => (?_ : XW _ _ _ _ _ _ _ 1772 _ _)) (fun c => (?_ : XW _ _ _ _ _ _ _ 1770 _ _))
  · replace vc := vc.1 c
    refine xi_iload (by decide +kernel : decode mL_law.2.1 1772 = .ok (.iload 5, 2)) rfl (?_ : XW _ _ _ _ _ _ _ 1774 _ _)
    refine xi_if_ne (by decide +kernel : decode mL_law.2.1 1774 = .ok (.ifCond .ne 15, 3)) (by decide) (fun c => (?_ : XW _ _ _ _ _ _ _ 1789 _ _)) (fun c => (?_ : XW _ _ _ _ _ _ _ 1777 _ _))
    · replace vc := vc.1 c
      refine xi_goto (by decide +kernel : decode mL_law.2.1 1789 = .ok (.goto 603, 3)) (by decide) (?_ : XW _ _ _ _ _ _ _ 2392 _ _)
      refine xw_drop 5 (ls' := [some (.ref 3000), some (.ref 0), some (.ref 56), some (.ref 99), some (.int x4), none, some (.int r14), none]) rfl ?_
      refine xw_drop 6 (ls' := [some (.ref 3000), some (.ref 0), some (.ref 56), some (.ref 99), some (.int x4), none, none, none]) rfl ?_
      refine xw_b (b' := B) (bs' := S) (by omega) (by omega) ?_
      exact vc
    · replace vc := vc.2 c
      refine xi_aload_n (by decide +kernel : decode mL_law.2.1 1777 = .ok (.aload_n 3, 1)) rfl rfl (?_ : XW _ _ _ _ _ _ _ 1778 _ _)
      refine xi_iconst (v := 0) (by decide +kernel : decode mL_law.2.1 1778 = .ok (.iconst 0, 1)) (by decide) (?_ : XW _ _ _ _ _ _ _ 1779 _ _)
      refine xi_lald (by decide +kernel : decode mL_law.2.1 1779 = .ok (.laload, 1)) rfl (by omega) (by unfold vp_in; decide) (?_ : XW _ _ _ _ _ _ _ 1780 _ [.long (xL h15 99 0)])
      refine xi_iload (by decide +kernel : decode mL_law.2.1 1780 = .ok (.iload 6, 2)) rfl (?_ : XW _ _ _ _ _ _ _ 1782 _ _)
      refine xi_i2l (by decide +kernel : decode mL_law.2.1 1782 = .ok (.i2l, 1)) (?_ : XW _ _ _ _ _ _ _ 1783 _ _)
      refine xi_lcmp (by decide +kernel : decode mL_law.2.1 1783 = .ok (.lcmp, 1)) (?_ : XW _ _ _ _ _ _ _ 1784 _ _)
      refine xi_if_eq (by decide +kernel : decode mL_law.2.1 1784 = .ok (.ifCond .eq 5, 3)) (by decide) (fun c => (?_ : XW _ _ _ _ _ _ _ 1789 _ _)) (fun c => (?_ : XW _ _ _ _ _ _ _ 1787 _ _))
      · replace vc := vc.1 c
        refine xi_goto (by decide +kernel : decode mL_law.2.1 1789 = .ok (.goto 603, 3)) (by decide) (?_ : XW _ _ _ _ _ _ _ 2392 _ _)
        refine xw_drop 5 (ls' := [some (.ref 3000), some (.ref 0), some (.ref 56), some (.ref 99), some (.int x4), none, some (.int r14), none]) rfl ?_
        refine xw_drop 6 (ls' := [some (.ref 3000), some (.ref 0), some (.ref 56), some (.ref 99), some (.int x4), none, none, none]) rfl ?_
        refine xw_b (b' := B) (bs' := S) (by omega) (by omega) ?_
        exact vc
      · replace vc := vc.2 c
        refine xi_iconst (v := 0) (by decide +kernel : decode mL_law.2.1 1787 = .ok (.iconst 0, 1)) (by decide) (?_ : XW _ _ _ _ _ _ _ 1788 _ _)
        exact vc.elim
  · replace vc := vc.2 c
    refine xi_iconst (v := 0) (by decide +kernel : decode mL_law.2.1 1770 = .ok (.iconst 0, 1)) (by decide) (?_ : XW _ _ _ _ _ _ _ 1771 _ _)
    exact vc.elim

