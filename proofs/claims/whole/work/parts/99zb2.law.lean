/-! THE LAW: its walk, part 2 -/
set_option maxRecDepth 20000 in
theorem v_L_law_482 {h : XH} {Q : Option Value → XH → Prop} {X : String → XH → Prop} (xs : Nat → Int32) (L B S : Nat)  (x4 : Int32)
    (vc : (vp_in (x4 + 1) L) ∧ ((vp_in (x4 + 2) L) ∧ (∃ Q1, XSpecH mL_goes 9 2 12 100 100 [.ref 0, .int (xs (x4 + 1).toNatClampNeg), .int (xs (x4 + 2).toNatClampNeg), .ref 99] h Q1 ∧ ∀ v h1, Q1 v h1 → ∃ r1 : Int32, v = some (.int r1) ∧ ((vp_in (x4 + 1) L) ∧ ((vp_in (x4 + 2) L) ∧ (∃ Q1, XSpec mX11_goes 6 0 0 100 100 [.ref 56, .int (xs (x4 + 1).toNatClampNeg), .int (xs (x4 + 2).toNatClampNeg)] h1 Q1 xno ∧ ∀ v h2, Q1 v h2 → xL h2 99 0 = xL h1 99 0 → ∃ r2 : Int32, v = some (.int r2) ∧ (∃ Q1, XSpec mX11_thrown 1 0 0 100 100 [.ref 56] h2 Q1 xno ∧ ∀ v h3, Q1 v h3 → xL h3 99 0 = xL h2 99 0 → ∃ r3 : Int32, v = some (.int r3) ∧ ((r3 = r1 → (¬ r1 = 0 → XW room_1 mL_law (xEL xs L) 100 B S h3 2392 [some (.ref 3000), some (.ref 0), some (.ref 56), some (.ref 99), some (.int x4), none, none, none] []) ∧ (r1 = 0 → ((lg_cmp (xL h3 99 0) (Int32.toInt64 r2)) = 0 → XW room_1 mL_law (xEL xs L) 100 B S h3 2392 [some (.ref 3000), some (.ref 0), some (.ref 56), some (.ref 99), some (.int x4), none, none, none] []) ∧ (¬ (lg_cmp (xL h3 99 0) (Int32.toInt64 r2)) = 0 → False))) ∧ (¬ r3 = r1 → False))))))))) :
    XW room_1 mL_law (xEL xs L) 100 (B + 4) (S + 24) h 482 [some (.ref 3000), some (.ref 0), some (.ref 56), some (.ref 99), some (.int x4), none, none, none] [] := by
  refine xi_aload_n (by decide +kernel : decode mL_law.2.1 482 = .ok (.aload_n 1, 1)) rfl rfl (?_ : XW _ _ _ _ _ _ _ 483 _ _)
  refine xi_aload_n (by decide +kernel : decode mL_law.2.1 483 = .ok (.aload_n 0, 1)) rfl rfl (?_ : XW _ _ _ _ _ _ _ 484 _ _)
  refine xi_iload (by decide +kernel : decode mL_law.2.1 484 = .ok (.iload 4, 2)) rfl (?_ : XW _ _ _ _ _ _ _ 486 _ _)
  refine xi_iconst (v := 1) (by decide +kernel : decode mL_law.2.1 486 = .ok (.iconst 1, 1)) (by decide) (?_ : XW _ _ _ _ _ _ _ 487 _ _)
  refine xi_iadd (by decide +kernel : decode mL_law.2.1 487 = .ok (.iadd, 1)) (?_ : XW _ _ _ _ _ _ _ 488 _ _)
  obtain ⟨s1, vc⟩ := vc
  refine xi_sldS (by decide +kernel : decode mL_law.2.1 488 = .ok (.iaload, 1)) s1 (?_ : XW _ _ _ _ _ _ _ 489 _ _)
  refine xi_aload_n (by decide +kernel : decode mL_law.2.1 489 = .ok (.aload_n 0, 1)) rfl rfl (?_ : XW _ _ _ _ _ _ _ 490 _ _)
  refine xi_iload (by decide +kernel : decode mL_law.2.1 490 = .ok (.iload 4, 2)) rfl (?_ : XW _ _ _ _ _ _ _ 492 _ _)
  refine xi_iconst (v := 2) (by decide +kernel : decode mL_law.2.1 492 = .ok (.iconst 2, 1)) (by decide) (?_ : XW _ _ _ _ _ _ _ 493 _ _)
  refine xi_iadd (by decide +kernel : decode mL_law.2.1 493 = .ok (.iadd, 1)) (?_ : XW _ _ _ _ _ _ _ 494 _ _)
  obtain ⟨s1, vc⟩ := vc
  refine xi_sldS (by decide +kernel : decode mL_law.2.1 494 = .ok (.iaload, 1)) s1 (?_ : XW _ _ _ _ _ _ _ 495 _ _)
  refine xi_aload_n (by decide +kernel : decode mL_law.2.1 495 = .ok (.aload_n 3, 1)) rfl rfl (?_ : XW _ _ _ _ _ _ _ 496 _ _)
  obtain ⟨Q1, sp, vc⟩ := vc
  refine xi_callSH (b := B + 2) (bs := S + 12) (As := [.ref 0, .int (xs (x4 + 1).toNatClampNeg), .int (xs (x4 + 2).toNatClampNeg), .ref 99]) (st := []) (by decide +kernel : decode mL_law.2.1 496 = .ok (.invokestatic 140, 3)) kL_140 rfl rfl sp (by decide) (by decide) (Nat.le_of_ble_eq_true rfl) (by omega) (fun v9 h1 hq9 => ?_)
  obtain ⟨r1, e9, vc⟩ := vc v9 h1 hq9
  subst e9
  show XW _ _ _ _ _ _ _ 499 _ [.int r1]
  refine xi_istore (ls' := [some (.ref 3000), some (.ref 0), some (.ref 56), some (.ref 99), some (.int x4), some (.int r1), none, none]) (by decide +kernel : decode mL_law.2.1 499 = .ok (.istore 5, 2)) (by decide) rfl (?_ : XW _ _ _ _ _ _ _ 501 _ _)
  refine xi_aload_n (by decide +kernel : decode mL_law.2.1 501 = .ok (.aload_n 2, 1)) rfl rfl (?_ : XW _ _ _ _ _ _ _ 502 _ _)
  refine xi_aload_n (by decide +kernel : decode mL_law.2.1 502 = .ok (.aload_n 0, 1)) rfl rfl (?_ : XW _ _ _ _ _ _ _ 503 _ _)
  refine xi_iload (by decide +kernel : decode mL_law.2.1 503 = .ok (.iload 4, 2)) rfl (?_ : XW _ _ _ _ _ _ _ 505 _ _)
  refine xi_iconst (v := 1) (by decide +kernel : decode mL_law.2.1 505 = .ok (.iconst 1, 1)) (by decide) (?_ : XW _ _ _ _ _ _ _ 506 _ _)
  refine xi_iadd (by decide +kernel : decode mL_law.2.1 506 = .ok (.iadd, 1)) (?_ : XW _ _ _ _ _ _ _ 507 _ _)
  obtain ⟨s1, vc⟩ := vc
  refine xi_sldS (by decide +kernel : decode mL_law.2.1 507 = .ok (.iaload, 1)) s1 (?_ : XW _ _ _ _ _ _ _ 508 _ _)
  refine xi_aload_n (by decide +kernel : decode mL_law.2.1 508 = .ok (.aload_n 0, 1)) rfl rfl (?_ : XW _ _ _ _ _ _ _ 509 _ _)
  refine xi_iload (by decide +kernel : decode mL_law.2.1 509 = .ok (.iload 4, 2)) rfl (?_ : XW _ _ _ _ _ _ _ 511 _ _)
  refine xi_iconst (v := 2) (by decide +kernel : decode mL_law.2.1 511 = .ok (.iconst 2, 1)) (by decide) (?_ : XW _ _ _ _ _ _ _ 512 _ _)
  refine xi_iadd (by decide +kernel : decode mL_law.2.1 512 = .ok (.iadd, 1)) (?_ : XW _ _ _ _ _ _ _ 513 _ _)
  obtain ⟨s1, vc⟩ := vc
  refine xi_sldS (by decide +kernel : decode mL_law.2.1 513 = .ok (.iaload, 1)) s1 (?_ : XW _ _ _ _ _ _ _ 514 _ _)
  obtain ⟨Q1, sp, vc⟩ := vc
  refine xi_callVg (b := B + 2) (bs := S + 12) (As := [.int (xs (x4 + 1).toNatClampNeg), .int (xs (x4 + 2).toNatClampNeg)]) (st := []) (by decide +kernel : decode mL_law.2.1 514 = .ok (.invokevirtual 142, 3)) kL_142 rfl rfl (by omega) rfl sp (by decide) (by decide) (Nat.le_of_ble_eq_true rfl) (by omega) (fun v9 h2 hq9 hx9 => ?_)
  obtain ⟨r2, e9, vc⟩ := vc v9 h2 hq9 hx9
  subst e9
  show XW _ _ _ _ _ _ _ 517 _ [.int r2]
  refine xi_istore (ls' := [some (.ref 3000), some (.ref 0), some (.ref 56), some (.ref 99), some (.int x4), some (.int r1), some (.int r2), none]) (by decide +kernel : decode mL_law.2.1 517 = .ok (.istore 6, 2)) (by decide) rfl (?_ : XW _ _ _ _ _ _ _ 519 _ _)
  refine xi_aload_n (by decide +kernel : decode mL_law.2.1 519 = .ok (.aload_n 2, 1)) rfl rfl (?_ : XW _ _ _ _ _ _ _ 520 _ _)
  obtain ⟨Q1, sp, vc⟩ := vc
  refine xi_callVg (b := B + 2) (bs := S + 12) (As := []) (st := []) (by decide +kernel : decode mL_law.2.1 520 = .ok (.invokevirtual 125, 3)) kL_125 rfl rfl (by omega) rfl sp (by decide) (by decide) (Nat.le_of_ble_eq_true rfl) (by omega) (fun v9 h3 hq9 hx9 => ?_)
  obtain ⟨r3, e9, vc⟩ := vc v9 h3 hq9 hx9
  subst e9
  show XW _ _ _ _ _ _ _ 523 _ [.int r3]
  refine xi_iload (by decide +kernel : decode mL_law.2.1 523 = .ok (.iload 5, 2)) rfl (?_ : XW _ _ _ _ _ _ _ 525 _ _)
  refine xi_icmp_eq (by decide +kernel : decode mL_law.2.1 525 = .ok (.if_icmp .eq 5, 3)) (by decide) (fun c => (?_ : XW _ _ _ _ _ _ _ 530 _ _)) (fun c => (?_ : XW _ _ _ _ _ _ _ 528 _ _))
  · replace vc := vc.1 c
    refine xi_iload (by decide +kernel : decode mL_law.2.1 530 = .ok (.iload 5, 2)) rfl (?_ : XW _ _ _ _ _ _ _ 532 _ _)
    refine xi_if_ne (by decide +kernel : decode mL_law.2.1 532 = .ok (.ifCond .ne 15, 3)) (by decide) (fun c => (?_ : XW _ _ _ _ _ _ _ 547 _ _)) (fun c => (?_ : XW _ _ _ _ _ _ _ 535 _ _))
    · replace vc := vc.1 c
      refine xi_goto (by decide +kernel : decode mL_law.2.1 547 = .ok (.goto 1845, 3)) (by decide) (?_ : XW _ _ _ _ _ _ _ 2392 _ _)
      refine xw_drop 5 (ls' := [some (.ref 3000), some (.ref 0), some (.ref 56), some (.ref 99), some (.int x4), none, some (.int r2), none]) rfl ?_
      refine xw_drop 6 (ls' := [some (.ref 3000), some (.ref 0), some (.ref 56), some (.ref 99), some (.int x4), none, none, none]) rfl ?_
      refine xw_b (b' := B) (bs' := S) (by omega) (by omega) ?_
      exact vc
    · replace vc := vc.2 c
      refine xi_aload_n (by decide +kernel : decode mL_law.2.1 535 = .ok (.aload_n 3, 1)) rfl rfl (?_ : XW _ _ _ _ _ _ _ 536 _ _)
      refine xi_iconst (v := 0) (by decide +kernel : decode mL_law.2.1 536 = .ok (.iconst 0, 1)) (by decide) (?_ : XW _ _ _ _ _ _ _ 537 _ _)
      refine xi_lald (by decide +kernel : decode mL_law.2.1 537 = .ok (.laload, 1)) rfl (by omega) (by unfold vp_in; decide) (?_ : XW _ _ _ _ _ _ _ 538 _ [.long (xL h3 99 0)])
      refine xi_iload (by decide +kernel : decode mL_law.2.1 538 = .ok (.iload 6, 2)) rfl (?_ : XW _ _ _ _ _ _ _ 540 _ _)
      refine xi_i2l (by decide +kernel : decode mL_law.2.1 540 = .ok (.i2l, 1)) (?_ : XW _ _ _ _ _ _ _ 541 _ _)
      refine xi_lcmp (by decide +kernel : decode mL_law.2.1 541 = .ok (.lcmp, 1)) (?_ : XW _ _ _ _ _ _ _ 542 _ _)
      refine xi_if_eq (by decide +kernel : decode mL_law.2.1 542 = .ok (.ifCond .eq 5, 3)) (by decide) (fun c => (?_ : XW _ _ _ _ _ _ _ 547 _ _)) (fun c => (?_ : XW _ _ _ _ _ _ _ 545 _ _))
      · replace vc := vc.1 c
        refine xi_goto (by decide +kernel : decode mL_law.2.1 547 = .ok (.goto 1845, 3)) (by decide) (?_ : XW _ _ _ _ _ _ _ 2392 _ _)
        refine xw_drop 5 (ls' := [some (.ref 3000), some (.ref 0), some (.ref 56), some (.ref 99), some (.int x4), none, some (.int r2), none]) rfl ?_
        refine xw_drop 6 (ls' := [some (.ref 3000), some (.ref 0), some (.ref 56), some (.ref 99), some (.int x4), none, none, none]) rfl ?_
        refine xw_b (b' := B) (bs' := S) (by omega) (by omega) ?_
        exact vc
      · replace vc := vc.2 c
        refine xi_iconst (v := 0) (by decide +kernel : decode mL_law.2.1 545 = .ok (.iconst 0, 1)) (by decide) (?_ : XW _ _ _ _ _ _ _ 546 _ _)
        exact vc.elim
  · replace vc := vc.2 c
    refine xi_iconst (v := 0) (by decide +kernel : decode mL_law.2.1 528 = .ok (.iconst 0, 1)) (by decide) (?_ : XW _ _ _ _ _ _ _ 529 _ _)
    exact vc.elim

set_option maxRecDepth 20000 in
theorem v_L_law_550 {h : XH} {Q : Option Value → XH → Prop} {X : String → XH → Prop} (xs : Nat → Int32) (L B S : Nat)  (x4 : Int32)
    (vc : (vp_in (x4 + 1) L) ∧ (∃ Q1, XSpecH mL_roll 9 1 6 100 100 [.ref 0, .int (xs (x4 + 1).toNatClampNeg), .ref 99] h Q1 ∧ ∀ v h4, Q1 v h4 → ∃ r4 : Int32, v = some (.int r4) ∧ ((vp_in (x4 + 1) L) ∧ (∃ Q1, XSpec mX11_roll 6 0 0 100 100 [.ref 56, .int (xs (x4 + 1).toNatClampNeg)] h4 Q1 xno ∧ ∀ v h5, Q1 v h5 → xL h5 99 0 = xL h4 99 0 → ∃ r5 : Int32, v = some (.int r5) ∧ (∃ Q1, XSpec mX11_thrown 1 0 0 100 100 [.ref 56] h5 Q1 xno ∧ ∀ v h6, Q1 v h6 → xL h6 99 0 = xL h5 99 0 → ∃ r6 : Int32, v = some (.int r6) ∧ ((r6 = r4 → (¬ r4 = 0 → XW room_1 mL_law (xEL xs L) 100 B S h6 2392 [some (.ref 3000), some (.ref 0), some (.ref 56), some (.ref 99), some (.int x4), none, none, none] []) ∧ (r4 = 0 → ((lg_cmp (xL h6 99 0) (Int32.toInt64 r5)) = 0 → XW room_1 mL_law (xEL xs L) 100 B S h6 2392 [some (.ref 3000), some (.ref 0), some (.ref 56), some (.ref 99), some (.int x4), none, none, none] []) ∧ (¬ (lg_cmp (xL h6 99 0) (Int32.toInt64 r5)) = 0 → False))) ∧ (¬ r6 = r4 → False))))))) :
    XW room_1 mL_law (xEL xs L) 100 (B + 4) (S + 24) h 550 [some (.ref 3000), some (.ref 0), some (.ref 56), some (.ref 99), some (.int x4), none, none, none] [] := by
  refine xi_aload_n (by decide +kernel : decode mL_law.2.1 550 = .ok (.aload_n 1, 1)) rfl rfl (?_ : XW _ _ _ _ _ _ _ 551 _ _)
  refine xi_aload_n (by decide +kernel : decode mL_law.2.1 551 = .ok (.aload_n 0, 1)) rfl rfl (?_ : XW _ _ _ _ _ _ _ 552 _ _)
  refine xi_iload (by decide +kernel : decode mL_law.2.1 552 = .ok (.iload 4, 2)) rfl (?_ : XW _ _ _ _ _ _ _ 554 _ _)
  refine xi_iconst (v := 1) (by decide +kernel : decode mL_law.2.1 554 = .ok (.iconst 1, 1)) (by decide) (?_ : XW _ _ _ _ _ _ _ 555 _ _)
  refine xi_iadd (by decide +kernel : decode mL_law.2.1 555 = .ok (.iadd, 1)) (?_ : XW _ _ _ _ _ _ _ 556 _ _)
  obtain ⟨s1, vc⟩ := vc
  refine xi_sldS (by decide +kernel : decode mL_law.2.1 556 = .ok (.iaload, 1)) s1 (?_ : XW _ _ _ _ _ _ _ 557 _ _)
  refine xi_aload_n (by decide +kernel : decode mL_law.2.1 557 = .ok (.aload_n 3, 1)) rfl rfl (?_ : XW _ _ _ _ _ _ _ 558 _ _)
  obtain ⟨Q1, sp, vc⟩ := vc
  refine xi_callSH (b := B + 3) (bs := S + 18) (As := [.ref 0, .int (xs (x4 + 1).toNatClampNeg), .ref 99]) (st := []) (by decide +kernel : decode mL_law.2.1 558 = .ok (.invokestatic 143, 3)) kL_143 rfl rfl sp (by decide) (by decide) (Nat.le_of_ble_eq_true rfl) (by omega) (fun v9 h4 hq9 => ?_)
  obtain ⟨r4, e9, vc⟩ := vc v9 h4 hq9
  subst e9
  show XW _ _ _ _ _ _ _ 561 _ [.int r4]
  refine xi_istore (ls' := [some (.ref 3000), some (.ref 0), some (.ref 56), some (.ref 99), some (.int x4), some (.int r4), none, none]) (by decide +kernel : decode mL_law.2.1 561 = .ok (.istore 5, 2)) (by decide) rfl (?_ : XW _ _ _ _ _ _ _ 563 _ _)
  refine xi_aload_n (by decide +kernel : decode mL_law.2.1 563 = .ok (.aload_n 2, 1)) rfl rfl (?_ : XW _ _ _ _ _ _ _ 564 _ _)
  refine xi_aload_n (by decide +kernel : decode mL_law.2.1 564 = .ok (.aload_n 0, 1)) rfl rfl (?_ : XW _ _ _ _ _ _ _ 565 _ _)
  refine xi_iload (by decide +kernel : decode mL_law.2.1 565 = .ok (.iload 4, 2)) rfl (?_ : XW _ _ _ _ _ _ _ 567 _ _)
  refine xi_iconst (v := 1) (by decide +kernel : decode mL_law.2.1 567 = .ok (.iconst 1, 1)) (by decide) (?_ : XW _ _ _ _ _ _ _ 568 _ _)
  refine xi_iadd (by decide +kernel : decode mL_law.2.1 568 = .ok (.iadd, 1)) (?_ : XW _ _ _ _ _ _ _ 569 _ _)
  obtain ⟨s1, vc⟩ := vc
  refine xi_sldS (by decide +kernel : decode mL_law.2.1 569 = .ok (.iaload, 1)) s1 (?_ : XW _ _ _ _ _ _ _ 570 _ _)
  obtain ⟨Q1, sp, vc⟩ := vc
  refine xi_callVg (b := B + 3) (bs := S + 18) (As := [.int (xs (x4 + 1).toNatClampNeg)]) (st := []) (by decide +kernel : decode mL_law.2.1 570 = .ok (.invokevirtual 145, 3)) kL_145 rfl rfl (by omega) rfl sp (by decide) (by decide) (Nat.le_of_ble_eq_true rfl) (by omega) (fun v9 h5 hq9 hx9 => ?_)
  obtain ⟨r5, e9, vc⟩ := vc v9 h5 hq9 hx9
  subst e9
  show XW _ _ _ _ _ _ _ 573 _ [.int r5]
  refine xi_istore (ls' := [some (.ref 3000), some (.ref 0), some (.ref 56), some (.ref 99), some (.int x4), some (.int r4), some (.int r5), none]) (by decide +kernel : decode mL_law.2.1 573 = .ok (.istore 6, 2)) (by decide) rfl (?_ : XW _ _ _ _ _ _ _ 575 _ _)
  refine xi_aload_n (by decide +kernel : decode mL_law.2.1 575 = .ok (.aload_n 2, 1)) rfl rfl (?_ : XW _ _ _ _ _ _ _ 576 _ _)
  obtain ⟨Q1, sp, vc⟩ := vc
  refine xi_callVg (b := B + 3) (bs := S + 18) (As := []) (st := []) (by decide +kernel : decode mL_law.2.1 576 = .ok (.invokevirtual 125, 3)) kL_125 rfl rfl (by omega) rfl sp (by decide) (by decide) (Nat.le_of_ble_eq_true rfl) (by omega) (fun v9 h6 hq9 hx9 => ?_)
  obtain ⟨r6, e9, vc⟩ := vc v9 h6 hq9 hx9
  subst e9
  show XW _ _ _ _ _ _ _ 579 _ [.int r6]
  refine xi_iload (by decide +kernel : decode mL_law.2.1 579 = .ok (.iload 5, 2)) rfl (?_ : XW _ _ _ _ _ _ _ 581 _ _)
  refine xi_icmp_eq (by decide +kernel : decode mL_law.2.1 581 = .ok (.if_icmp .eq 5, 3)) (by decide) (fun c => (?_ : XW _ _ _ _ _ _ _ 586 _ _)) (fun c => (?_ : XW _ _ _ _ _ _ _ 584 _ _))
  · replace vc := vc.1 c
    refine xi_iload (by decide +kernel : decode mL_law.2.1 586 = .ok (.iload 5, 2)) rfl (?_ : XW _ _ _ _ _ _ _ 588 _ _)
    refine xi_if_ne (by decide +kernel : decode mL_law.2.1 588 = .ok (.ifCond .ne 15, 3)) (by decide) (fun c => (?_ : XW _ _ _ _ _ _ _ 603 _ _)) (fun c => (?_ : XW _ _ _ _ _ _ _ 591 _ _))
    · replace vc := vc.1 c
      refine xi_goto (by decide +kernel : decode mL_law.2.1 603 = .ok (.goto 1789, 3)) (by decide) (?_ : XW _ _ _ _ _ _ _ 2392 _ _)
      refine xw_drop 5 (ls' := [some (.ref 3000), some (.ref 0), some (.ref 56), some (.ref 99), some (.int x4), none, some (.int r5), none]) rfl ?_
      refine xw_drop 6 (ls' := [some (.ref 3000), some (.ref 0), some (.ref 56), some (.ref 99), some (.int x4), none, none, none]) rfl ?_
      refine xw_b (b' := B) (bs' := S) (by omega) (by omega) ?_
      exact vc
    · replace vc := vc.2 c
      refine xi_aload_n (by decide +kernel : decode mL_law.2.1 591 = .ok (.aload_n 3, 1)) rfl rfl (?_ : XW _ _ _ _ _ _ _ 592 _ _)
      refine xi_iconst (v := 0) (by decide +kernel : decode mL_law.2.1 592 = .ok (.iconst 0, 1)) (by decide) (?_ : XW _ _ _ _ _ _ _ 593 _ _)
      refine xi_lald (by decide +kernel : decode mL_law.2.1 593 = .ok (.laload, 1)) rfl (by omega) (by unfold vp_in; decide) (?_ : XW _ _ _ _ _ _ _ 594 _ [.long (xL h6 99 0)])
      refine xi_iload (by decide +kernel : decode mL_law.2.1 594 = .ok (.iload 6, 2)) rfl (?_ : XW _ _ _ _ _ _ _ 596 _ _)
      refine xi_i2l (by decide +kernel : decode mL_law.2.1 596 = .ok (.i2l, 1)) (?_ : XW _ _ _ _ _ _ _ 597 _ _)
      refine xi_lcmp (by decide +kernel : decode mL_law.2.1 597 = .ok (.lcmp, 1)) (?_ : XW _ _ _ _ _ _ _ 598 _ _)
      refine xi_if_eq (by decide +kernel : decode mL_law.2.1 598 = .ok (.ifCond .eq 5, 3)) (by decide) (fun c => (?_ : XW _ _ _ _ _ _ _ 603 _ _)) (fun c => (?_ : XW _ _ _ _ _ _ _ 601 _ _))
      · replace vc := vc.1 c
        refine xi_goto (by decide +kernel : decode mL_law.2.1 603 = .ok (.goto 1789, 3)) (by decide) (?_ : XW _ _ _ _ _ _ _ 2392 _ _)
        refine xw_drop 5 (ls' := [some (.ref 3000), some (.ref 0), some (.ref 56), some (.ref 99), some (.int x4), none, some (.int r5), none]) rfl ?_
        refine xw_drop 6 (ls' := [some (.ref 3000), some (.ref 0), some (.ref 56), some (.ref 99), some (.int x4), none, none, none]) rfl ?_
        refine xw_b (b' := B) (bs' := S) (by omega) (by omega) ?_
        exact vc
      · replace vc := vc.2 c
        refine xi_iconst (v := 0) (by decide +kernel : decode mL_law.2.1 601 = .ok (.iconst 0, 1)) (by decide) (?_ : XW _ _ _ _ _ _ _ 602 _ _)
        exact vc.elim
  · replace vc := vc.2 c
    refine xi_iconst (v := 0) (by decide +kernel : decode mL_law.2.1 584 = .ok (.iconst 0, 1)) (by decide) (?_ : XW _ _ _ _ _ _ _ 585 _ _)
    exact vc.elim

set_option maxRecDepth 20000 in
theorem v_L_law_606 {h : XH} {Q : Option Value → XH → Prop} {X : String → XH → Prop} (xs : Nat → Int32) (L B S : Nat)  (x4 : Int32)
    (vc : (vp_in (x4 + 1) L) ∧ ((vp_in (x4 + 2) L) ∧ (∃ Q1, XSpecH mL_rolls 8 1 6 100 100 [.ref 0, .int (xs (x4 + 1).toNatClampNeg), .int (xs (x4 + 2).toNatClampNeg), .ref 99] h Q1 ∧ ∀ v h7, Q1 v h7 → ∃ r7 : Int32, v = some (.int r7) ∧ ((vp_in (x4 + 1) L) ∧ ((vp_in (x4 + 2) L) ∧ (∃ Q1, XSpec mX11_rolls 6 0 0 100 100 [.ref 56, .int (xs (x4 + 1).toNatClampNeg), .int (xs (x4 + 2).toNatClampNeg)] h7 Q1 xno ∧ ∀ v h8, Q1 v h8 → xL h8 99 0 = xL h7 99 0 → ∃ r8 : Int32, v = some (.int r8) ∧ (∃ Q1, XSpec mX11_thrown 1 0 0 100 100 [.ref 56] h8 Q1 xno ∧ ∀ v h9, Q1 v h9 → xL h9 99 0 = xL h8 99 0 → ∃ r9 : Int32, v = some (.int r9) ∧ ((r9 = r7 → (¬ r7 = 0 → XW room_1 mL_law (xEL xs L) 100 B S h9 2392 [some (.ref 3000), some (.ref 0), some (.ref 56), some (.ref 99), some (.int x4), none, none, none] []) ∧ (r7 = 0 → ((lg_cmp (xL h9 99 0) (Int32.toInt64 r8)) = 0 → XW room_1 mL_law (xEL xs L) 100 B S h9 2392 [some (.ref 3000), some (.ref 0), some (.ref 56), some (.ref 99), some (.int x4), none, none, none] []) ∧ (¬ (lg_cmp (xL h9 99 0) (Int32.toInt64 r8)) = 0 → False))) ∧ (¬ r9 = r7 → False))))))))) :
    XW room_1 mL_law (xEL xs L) 100 (B + 4) (S + 24) h 606 [some (.ref 3000), some (.ref 0), some (.ref 56), some (.ref 99), some (.int x4), none, none, none] [] := by
  refine xi_aload_n (by decide +kernel : decode mL_law.2.1 606 = .ok (.aload_n 1, 1)) rfl rfl (?_ : XW _ _ _ _ _ _ _ 607 _ _)
  refine xi_aload_n (by decide +kernel : decode mL_law.2.1 607 = .ok (.aload_n 0, 1)) rfl rfl (?_ : XW _ _ _ _ _ _ _ 608 _ _)
  refine xi_iload (by decide +kernel : decode mL_law.2.1 608 = .ok (.iload 4, 2)) rfl (?_ : XW _ _ _ _ _ _ _ 610 _ _)
  refine xi_iconst (v := 1) (by decide +kernel : decode mL_law.2.1 610 = .ok (.iconst 1, 1)) (by decide) (?_ : XW _ _ _ _ _ _ _ 611 _ _)
  refine xi_iadd (by decide +kernel : decode mL_law.2.1 611 = .ok (.iadd, 1)) (?_ : XW _ _ _ _ _ _ _ 612 _ _)
  obtain ⟨s1, vc⟩ := vc
  refine xi_sldS (by decide +kernel : decode mL_law.2.1 612 = .ok (.iaload, 1)) s1 (?_ : XW _ _ _ _ _ _ _ 613 _ _)
  refine xi_aload_n (by decide +kernel : decode mL_law.2.1 613 = .ok (.aload_n 0, 1)) rfl rfl (?_ : XW _ _ _ _ _ _ _ 614 _ _)
  refine xi_iload (by decide +kernel : decode mL_law.2.1 614 = .ok (.iload 4, 2)) rfl (?_ : XW _ _ _ _ _ _ _ 616 _ _)
  refine xi_iconst (v := 2) (by decide +kernel : decode mL_law.2.1 616 = .ok (.iconst 2, 1)) (by decide) (?_ : XW _ _ _ _ _ _ _ 617 _ _)
  refine xi_iadd (by decide +kernel : decode mL_law.2.1 617 = .ok (.iadd, 1)) (?_ : XW _ _ _ _ _ _ _ 618 _ _)
  obtain ⟨s1, vc⟩ := vc
  refine xi_sldS (by decide +kernel : decode mL_law.2.1 618 = .ok (.iaload, 1)) s1 (?_ : XW _ _ _ _ _ _ _ 619 _ _)
  refine xi_aload_n (by decide +kernel : decode mL_law.2.1 619 = .ok (.aload_n 3, 1)) rfl rfl (?_ : XW _ _ _ _ _ _ _ 620 _ _)
  obtain ⟨Q1, sp, vc⟩ := vc
  refine xi_callSH (b := B + 3) (bs := S + 18) (As := [.ref 0, .int (xs (x4 + 1).toNatClampNeg), .int (xs (x4 + 2).toNatClampNeg), .ref 99]) (st := []) (by decide +kernel : decode mL_law.2.1 620 = .ok (.invokestatic 146, 3)) kL_146 rfl rfl sp (by decide) (by decide) (Nat.le_of_ble_eq_true rfl) (by omega) (fun v9 h7 hq9 => ?_)
  obtain ⟨r7, e9, vc⟩ := vc v9 h7 hq9
  subst e9
  show XW _ _ _ _ _ _ _ 623 _ [.int r7]
  refine xi_istore (ls' := [some (.ref 3000), some (.ref 0), some (.ref 56), some (.ref 99), some (.int x4), some (.int r7), none, none]) (by decide +kernel : decode mL_law.2.1 623 = .ok (.istore 5, 2)) (by decide) rfl (?_ : XW _ _ _ _ _ _ _ 625 _ _)
  refine xi_aload_n (by decide +kernel : decode mL_law.2.1 625 = .ok (.aload_n 2, 1)) rfl rfl (?_ : XW _ _ _ _ _ _ _ 626 _ _)
  refine xi_aload_n (by decide +kernel : decode mL_law.2.1 626 = .ok (.aload_n 0, 1)) rfl rfl (?_ : XW _ _ _ _ _ _ _ 627 _ _)
  refine xi_iload (by decide +kernel : decode mL_law.2.1 627 = .ok (.iload 4, 2)) rfl (?_ : XW _ _ _ _ _ _ _ 629 _ _)
  refine xi_iconst (v := 1) (by decide +kernel : decode mL_law.2.1 629 = .ok (.iconst 1, 1)) (by decide) (?_ : XW _ _ _ _ _ _ _ 630 _ _)
  refine xi_iadd (by decide +kernel : decode mL_law.2.1 630 = .ok (.iadd, 1)) (?_ : XW _ _ _ _ _ _ _ 631 _ _)
  obtain ⟨s1, vc⟩ := vc
  refine xi_sldS (by decide +kernel : decode mL_law.2.1 631 = .ok (.iaload, 1)) s1 (?_ : XW _ _ _ _ _ _ _ 632 _ _)
  refine xi_aload_n (by decide +kernel : decode mL_law.2.1 632 = .ok (.aload_n 0, 1)) rfl rfl (?_ : XW _ _ _ _ _ _ _ 633 _ _)
  refine xi_iload (by decide +kernel : decode mL_law.2.1 633 = .ok (.iload 4, 2)) rfl (?_ : XW _ _ _ _ _ _ _ 635 _ _)
  refine xi_iconst (v := 2) (by decide +kernel : decode mL_law.2.1 635 = .ok (.iconst 2, 1)) (by decide) (?_ : XW _ _ _ _ _ _ _ 636 _ _)
  refine xi_iadd (by decide +kernel : decode mL_law.2.1 636 = .ok (.iadd, 1)) (?_ : XW _ _ _ _ _ _ _ 637 _ _)
  obtain ⟨s1, vc⟩ := vc
  refine xi_sldS (by decide +kernel : decode mL_law.2.1 637 = .ok (.iaload, 1)) s1 (?_ : XW _ _ _ _ _ _ _ 638 _ _)
  obtain ⟨Q1, sp, vc⟩ := vc
  refine xi_callVg (b := B + 3) (bs := S + 18) (As := [.int (xs (x4 + 1).toNatClampNeg), .int (xs (x4 + 2).toNatClampNeg)]) (st := []) (by decide +kernel : decode mL_law.2.1 638 = .ok (.invokevirtual 148, 3)) kL_148 rfl rfl (by omega) rfl sp (by decide) (by decide) (Nat.le_of_ble_eq_true rfl) (by omega) (fun v9 h8 hq9 hx9 => ?_)
  obtain ⟨r8, e9, vc⟩ := vc v9 h8 hq9 hx9
  subst e9
  show XW _ _ _ _ _ _ _ 641 _ [.int r8]
  refine xi_istore (ls' := [some (.ref 3000), some (.ref 0), some (.ref 56), some (.ref 99), some (.int x4), some (.int r7), some (.int r8), none]) (by decide +kernel : decode mL_law.2.1 641 = .ok (.istore 6, 2)) (by decide) rfl (?_ : XW _ _ _ _ _ _ _ 643 _ _)
  refine xi_aload_n (by decide +kernel : decode mL_law.2.1 643 = .ok (.aload_n 2, 1)) rfl rfl (?_ : XW _ _ _ _ _ _ _ 644 _ _)
  obtain ⟨Q1, sp, vc⟩ := vc
  refine xi_callVg (b := B + 3) (bs := S + 18) (As := []) (st := []) (by decide +kernel : decode mL_law.2.1 644 = .ok (.invokevirtual 125, 3)) kL_125 rfl rfl (by omega) rfl sp (by decide) (by decide) (Nat.le_of_ble_eq_true rfl) (by omega) (fun v9 h9 hq9 hx9 => ?_)
  obtain ⟨r9, e9, vc⟩ := vc v9 h9 hq9 hx9
  subst e9
  show XW _ _ _ _ _ _ _ 647 _ [.int r9]
  refine xi_iload (by decide +kernel : decode mL_law.2.1 647 = .ok (.iload 5, 2)) rfl (?_ : XW _ _ _ _ _ _ _ 649 _ _)
  refine xi_icmp_eq (by decide +kernel : decode mL_law.2.1 649 = .ok (.if_icmp .eq 5, 3)) (by decide) (fun c => (?_ : XW _ _ _ _ _ _ _ 654 _ _)) (fun c => (?_ : XW _ _ _ _ _ _ _ 652 _ _))
  · replace vc := vc.1 c
    refine xi_iload (by decide +kernel : decode mL_law.2.1 654 = .ok (.iload 5, 2)) rfl (?_ : XW _ _ _ _ _ _ _ 656 _ _)
    refine xi_if_ne (by decide +kernel : decode mL_law.2.1 656 = .ok (.ifCond .ne 15, 3)) (by decide) (fun c => (?_ : XW _ _ _ _ _ _ _ 671 _ _)) (fun c => (?_ : XW _ _ _ _ _ _ _ 659 _ _))
    · replace vc := vc.1 c
      refine xi_goto (by decide +kernel : decode mL_law.2.1 671 = .ok (.goto 1721, 3)) (by decide) (?_ : XW _ _ _ _ _ _ _ 2392 _ _)
      refine xw_drop 5 (ls' := [some (.ref 3000), some (.ref 0), some (.ref 56), some (.ref 99), some (.int x4), none, some (.int r8), none]) rfl ?_
      refine xw_drop 6 (ls' := [some (.ref 3000), some (.ref 0), some (.ref 56), some (.ref 99), some (.int x4), none, none, none]) rfl ?_
      refine xw_b (b' := B) (bs' := S) (by omega) (by omega) ?_
      exact vc
    · replace vc := vc.2 c
      refine xi_aload_n (by decide +kernel : decode mL_law.2.1 659 = .ok (.aload_n 3, 1)) rfl rfl (?_ : XW _ _ _ _ _ _ _ 660 _ _)
      refine xi_iconst (v := 0) (by decide +kernel : decode mL_law.2.1 660 = .ok (.iconst 0, 1)) (by decide) (?_ : XW _ _ _ _ _ _ _ 661 _ _)
      refine xi_lald (by decide +kernel : decode mL_law.2.1 661 = .ok (.laload, 1)) rfl (by omega) (by unfold vp_in; decide) (?_ : XW _ _ _ _ _ _ _ 662 _ [.long (xL h9 99 0)])
      refine xi_iload (by decide +kernel : decode mL_law.2.1 662 = .ok (.iload 6, 2)) rfl (?_ : XW _ _ _ _ _ _ _ 664 _ _)
      refine xi_i2l (by decide +kernel : decode mL_law.2.1 664 = .ok (.i2l, 1)) (?_ : XW _ _ _ _ _ _ _ 665 _ _)
      refine xi_lcmp (by decide +kernel : decode mL_law.2.1 665 = .ok (.lcmp, 1)) (?_ : XW _ _ _ _ _ _ _ 666 _ _)
      refine xi_if_eq (by decide +kernel : decode mL_law.2.1 666 = .ok (.ifCond .eq 5, 3)) (by decide) (fun c => (?_ : XW _ _ _ _ _ _ _ 671 _ _)) (fun c => (?_ : XW _ _ _ _ _ _ _ 669 _ _))
      · replace vc := vc.1 c
        refine xi_goto (by decide +kernel : decode mL_law.2.1 671 = .ok (.goto 1721, 3)) (by decide) (?_ : XW _ _ _ _ _ _ _ 2392 _ _)
        refine xw_drop 5 (ls' := [some (.ref 3000), some (.ref 0), some (.ref 56), some (.ref 99), some (.int x4), none, some (.int r8), none]) rfl ?_
        refine xw_drop 6 (ls' := [some (.ref 3000), some (.ref 0), some (.ref 56), some (.ref 99), some (.int x4), none, none, none]) rfl ?_
        refine xw_b (b' := B) (bs' := S) (by omega) (by omega) ?_
        exact vc
      · replace vc := vc.2 c
        refine xi_iconst (v := 0) (by decide +kernel : decode mL_law.2.1 669 = .ok (.iconst 0, 1)) (by decide) (?_ : XW _ _ _ _ _ _ _ 670 _ _)
        exact vc.elim
  · replace vc := vc.2 c
    refine xi_iconst (v := 0) (by decide +kernel : decode mL_law.2.1 652 = .ok (.iconst 0, 1)) (by decide) (?_ : XW _ _ _ _ _ _ _ 653 _ _)
    exact vc.elim

set_option maxRecDepth 20000 in
theorem v_L_law_674 {h : XH} {Q : Option Value → XH → Prop} {X : String → XH → Prop} (xs : Nat → Int32) (L B S : Nat)  (x4 : Int32)
    (vc : ∃ Q1, XSpec mX10_undo 3 0 0 100 100 [.ref 0] h Q1 xno ∧ ∀ v h10, Q1 v h10 → ∃ r10 : Int32, v = some (.int r10) ∧ (∃ Q1, XSpec mX11_undo 1 0 0 100 100 [.ref 56] h10 Q1 xno ∧ ∀ v h11, Q1 v h11 → xL h11 99 0 = xL h10 99 0 → ∃ r11 : Int32, v = some (.int r11) ∧ ((r10 = r11 → XW room_1 mL_law (xEL xs L) 100 B S h11 2392 [some (.ref 3000), some (.ref 0), some (.ref 56), some (.ref 99), some (.int x4), none, none, none] []) ∧ (¬ r10 = r11 → False)))) :
    XW room_1 mL_law (xEL xs L) 100 (B + 4) (S + 24) h 674 [some (.ref 3000), some (.ref 0), some (.ref 56), some (.ref 99), some (.int x4), none, none, none] [] := by
  refine xi_aload_n (by decide +kernel : decode mL_law.2.1 674 = .ok (.aload_n 1, 1)) rfl rfl (?_ : XW _ _ _ _ _ _ _ 675 _ _)
  obtain ⟨Q1, sp, vc⟩ := vc
  refine xi_callV (b := B + 4) (bs := S + 24) (As := []) (st := []) (by decide +kernel : decode mL_law.2.1 675 = .ok (.invokevirtual 149, 3)) kL_149 rfl rfl (by omega) rfl sp (by decide) (by decide) (Nat.le_of_ble_eq_true rfl) (by omega) (fun v9 h10 hq9 => ?_)
  obtain ⟨r10, e9, vc⟩ := vc v9 h10 hq9
  subst e9
  show XW _ _ _ _ _ _ _ 678 _ [.int r10]
  refine xi_aload_n (by decide +kernel : decode mL_law.2.1 678 = .ok (.aload_n 2, 1)) rfl rfl (?_ : XW _ _ _ _ _ _ _ 679 _ _)
  obtain ⟨Q1, sp, vc⟩ := vc
  refine xi_callVg (b := B + 4) (bs := S + 24) (As := []) (st := [.int r10]) (by decide +kernel : decode mL_law.2.1 679 = .ok (.invokevirtual 152, 3)) kL_152 rfl rfl (by omega) rfl sp (by decide) (by decide) (Nat.le_of_ble_eq_true rfl) (by omega) (fun v9 h11 hq9 hx9 => ?_)
  obtain ⟨r11, e9, vc⟩ := vc v9 h11 hq9 hx9
  subst e9
  show XW _ _ _ _ _ _ _ 682 _ [.int r11, .int r10]
  refine xi_icmp_eq (by decide +kernel : decode mL_law.2.1 682 = .ok (.if_icmp .eq 1710, 3)) (by decide) (fun c => (?_ : XW _ _ _ _ _ _ _ 2392 _ _)) (fun c => (?_ : XW _ _ _ _ _ _ _ 685 _ _))
  · replace vc := vc.1 c
    refine xw_b (b' := B) (bs' := S) (by omega) (by omega) ?_
    exact vc
  · replace vc := vc.2 c
    refine xi_iconst (v := 0) (by decide +kernel : decode mL_law.2.1 685 = .ok (.iconst 0, 1)) (by decide) (?_ : XW _ _ _ _ _ _ _ 686 _ _)
    exact vc.elim

set_option maxRecDepth 20000 in
theorem v_L_law_687 {h : XH} {Q : Option Value → XH → Prop} {X : String → XH → Prop} (xs : Nat → Int32) (L B S : Nat)  (x4 : Int32)
    (vc : (vp_in (x4 + 1) L) ∧ (∃ Q1, XSpecH mL_piece 8 1 6 100 100 [.ref 0, .int (xs (x4 + 1).toNatClampNeg), .ref 99] h Q1 ∧ ∀ v h12, Q1 v h12 → ∃ r12 : Int32, v = some (.int r12) ∧ ((vp_in (x4 + 1) L) ∧ (∃ Q1, XSpec mX11_piece 2 0 0 100 100 [.ref 56, .int (xs (x4 + 1).toNatClampNeg)] h12 Q1 xno ∧ ∀ v h13, Q1 v h13 → xL h13 99 0 = xL h12 99 0 → ∃ r13 : Int32, v = some (.int r13) ∧ (∃ Q1, XSpec mX11_thrown 1 0 0 100 100 [.ref 56] h13 Q1 xno ∧ ∀ v h14, Q1 v h14 → xL h14 99 0 = xL h13 99 0 → ∃ r14 : Int32, v = some (.int r14) ∧ ((r14 = r12 → (¬ r12 = 0 → XW room_1 mL_law (xEL xs L) 100 B S h14 2392 [some (.ref 3000), some (.ref 0), some (.ref 56), some (.ref 99), some (.int x4), none, none, none] []) ∧ (r12 = 0 → ((lg_cmp (xL h14 99 0) (Int32.toInt64 r13)) = 0 → XW room_1 mL_law (xEL xs L) 100 B S h14 2392 [some (.ref 3000), some (.ref 0), some (.ref 56), some (.ref 99), some (.int x4), none, none, none] []) ∧ (¬ (lg_cmp (xL h14 99 0) (Int32.toInt64 r13)) = 0 → False))) ∧ (¬ r14 = r12 → False))))))) :
    XW room_1 mL_law (xEL xs L) 100 (B + 4) (S + 24) h 687 [some (.ref 3000), some (.ref 0), some (.ref 56), some (.ref 99), some (.int x4), none, none, none] [] := by
  refine xi_aload_n (by decide +kernel : decode mL_law.2.1 687 = .ok (.aload_n 1, 1)) rfl rfl (?_ : XW _ _ _ _ _ _ _ 688 _ _)
  refine xi_aload_n (by decide +kernel : decode mL_law.2.1 688 = .ok (.aload_n 0, 1)) rfl rfl (?_ : XW _ _ _ _ _ _ _ 689 _ _)
  refine xi_iload (by decide +kernel : decode mL_law.2.1 689 = .ok (.iload 4, 2)) rfl (?_ : XW _ _ _ _ _ _ _ 691 _ _)
  refine xi_iconst (v := 1) (by decide +kernel : decode mL_law.2.1 691 = .ok (.iconst 1, 1)) (by decide) (?_ : XW _ _ _ _ _ _ _ 692 _ _)
  refine xi_iadd (by decide +kernel : decode mL_law.2.1 692 = .ok (.iadd, 1)) (?_ : XW _ _ _ _ _ _ _ 693 _ _)
  obtain ⟨s1, vc⟩ := vc
  refine xi_sldS (by decide +kernel : decode mL_law.2.1 693 = .ok (.iaload, 1)) s1 (?_ : XW _ _ _ _ _ _ _ 694 _ _)
  refine xi_aload_n (by decide +kernel : decode mL_law.2.1 694 = .ok (.aload_n 3, 1)) rfl rfl (?_ : XW _ _ _ _ _ _ _ 695 _ _)
  obtain ⟨Q1, sp, vc⟩ := vc
  refine xi_callSH (b := B + 3) (bs := S + 18) (As := [.ref 0, .int (xs (x4 + 1).toNatClampNeg), .ref 99]) (st := []) (by decide +kernel : decode mL_law.2.1 695 = .ok (.invokestatic 153, 3)) kL_153 rfl rfl sp (by decide) (by decide) (Nat.le_of_ble_eq_true rfl) (by omega) (fun v9 h12 hq9 => ?_)
  obtain ⟨r12, e9, vc⟩ := vc v9 h12 hq9
  subst e9
  show XW _ _ _ _ _ _ _ 698 _ [.int r12]
  refine xi_istore (ls' := [some (.ref 3000), some (.ref 0), some (.ref 56), some (.ref 99), some (.int x4), some (.int r12), none, none]) (by decide +kernel : decode mL_law.2.1 698 = .ok (.istore 5, 2)) (by decide) rfl (?_ : XW _ _ _ _ _ _ _ 700 _ _)
  refine xi_aload_n (by decide +kernel : decode mL_law.2.1 700 = .ok (.aload_n 2, 1)) rfl rfl (?_ : XW _ _ _ _ _ _ _ 701 _ _)
  refine xi_aload_n (by decide +kernel : decode mL_law.2.1 701 = .ok (.aload_n 0, 1)) rfl rfl (?_ : XW _ _ _ _ _ _ _ 702 _ _)
  refine xi_iload (by decide +kernel : decode mL_law.2.1 702 = .ok (.iload 4, 2)) rfl (?_ : XW _ _ _ _ _ _ _ 704 _ _)
  refine xi_iconst (v := 1) (by decide +kernel : decode mL_law.2.1 704 = .ok (.iconst 1, 1)) (by decide) (?_ : XW _ _ _ _ _ _ _ 705 _ _)
  refine xi_iadd (by decide +kernel : decode mL_law.2.1 705 = .ok (.iadd, 1)) (?_ : XW _ _ _ _ _ _ _ 706 _ _)
  obtain ⟨s1, vc⟩ := vc
  refine xi_sldS (by decide +kernel : decode mL_law.2.1 706 = .ok (.iaload, 1)) s1 (?_ : XW _ _ _ _ _ _ _ 707 _ _)
  obtain ⟨Q1, sp, vc⟩ := vc
  refine xi_callVg (b := B + 3) (bs := S + 18) (As := [.int (xs (x4 + 1).toNatClampNeg)]) (st := []) (by decide +kernel : decode mL_law.2.1 707 = .ok (.invokevirtual 155, 3)) kL_155 rfl rfl (by omega) rfl sp (by decide) (by decide) (Nat.le_of_ble_eq_true rfl) (by omega) (fun v9 h13 hq9 hx9 => ?_)
  obtain ⟨r13, e9, vc⟩ := vc v9 h13 hq9 hx9
  subst e9
  show XW _ _ _ _ _ _ _ 710 _ [.int r13]
  refine xi_istore (ls' := [some (.ref 3000), some (.ref 0), some (.ref 56), some (.ref 99), some (.int x4), some (.int r12), some (.int r13), none]) (by decide +kernel : decode mL_law.2.1 710 = .ok (.istore 6, 2)) (by decide) rfl (?_ : XW _ _ _ _ _ _ _ 712 _ _)
  refine xi_aload_n (by decide +kernel : decode mL_law.2.1 712 = .ok (.aload_n 2, 1)) rfl rfl (?_ : XW _ _ _ _ _ _ _ 713 _ _)
  obtain ⟨Q1, sp, vc⟩ := vc
  refine xi_callVg (b := B + 3) (bs := S + 18) (As := []) (st := []) (by decide +kernel : decode mL_law.2.1 713 = .ok (.invokevirtual 125, 3)) kL_125 rfl rfl (by omega) rfl sp (by decide) (by decide) (Nat.le_of_ble_eq_true rfl) (by omega) (fun v9 h14 hq9 hx9 => ?_)
  obtain ⟨r14, e9, vc⟩ := vc v9 h14 hq9 hx9
  subst e9
  show XW _ _ _ _ _ _ _ 716 _ [.int r14]
  refine xi_iload (by decide +kernel : decode mL_law.2.1 716 = .ok (.iload 5, 2)) rfl (?_ : XW _ _ _ _ _ _ _ 718 _ _)
  refine xi_icmp_eq (by decide +kernel : decode mL_law.2.1 718 = .ok (.if_icmp .eq 5, 3)) (by decide) (fun c => (?_ : XW _ _ _ _ _ _ _ 723 _ _)) (fun c => (?_ : XW _ _ _ _ _ _ _ 721 _ _))
  · replace vc := vc.1 c
    refine xi_iload (by decide +kernel : decode mL_law.2.1 723 = .ok (.iload 5, 2)) rfl (?_ : XW _ _ _ _ _ _ _ 725 _ _)
    refine xi_if_ne (by decide +kernel : decode mL_law.2.1 725 = .ok (.ifCond .ne 15, 3)) (by decide) (fun c => (?_ : XW _ _ _ _ _ _ _ 740 _ _)) (fun c => (?_ : XW _ _ _ _ _ _ _ 728 _ _))
    · replace vc := vc.1 c
      refine xi_goto (by decide +kernel : decode mL_law.2.1 740 = .ok (.goto 1652, 3)) (by decide) (?_ : XW _ _ _ _ _ _ _ 2392 _ _)
      refine xw_drop 5 (ls' := [some (.ref 3000), some (.ref 0), some (.ref 56), some (.ref 99), some (.int x4), none, some (.int r13), none]) rfl ?_
      refine xw_drop 6 (ls' := [some (.ref 3000), some (.ref 0), some (.ref 56), some (.ref 99), some (.int x4), none, none, none]) rfl ?_
      refine xw_b (b' := B) (bs' := S) (by omega) (by omega) ?_
      exact vc
    · replace vc := vc.2 c
      refine xi_aload_n (by decide +kernel : decode mL_law.2.1 728 = .ok (.aload_n 3, 1)) rfl rfl (?_ : XW _ _ _ _ _ _ _ 729 _ _)
      refine xi_iconst (v := 0) (by decide +kernel : decode mL_law.2.1 729 = .ok (.iconst 0, 1)) (by decide) (?_ : XW _ _ _ _ _ _ _ 730 _ _)
      refine xi_lald (by decide +kernel : decode mL_law.2.1 730 = .ok (.laload, 1)) rfl (by omega) (by unfold vp_in; decide) (?_ : XW _ _ _ _ _ _ _ 731 _ [.long (xL h14 99 0)])
      refine xi_iload (by decide +kernel : decode mL_law.2.1 731 = .ok (.iload 6, 2)) rfl (?_ : XW _ _ _ _ _ _ _ 733 _ _)
      refine xi_i2l (by decide +kernel : decode mL_law.2.1 733 = .ok (.i2l, 1)) (?_ : XW _ _ _ _ _ _ _ 734 _ _)
      refine xi_lcmp (by decide +kernel : decode mL_law.2.1 734 = .ok (.lcmp, 1)) (?_ : XW _ _ _ _ _ _ _ 735 _ _)
      refine xi_if_eq (by decide +kernel : decode mL_law.2.1 735 = .ok (.ifCond .eq 5, 3)) (by decide) (fun c => (?_ : XW _ _ _ _ _ _ _ 740 _ _)) (fun c => (?_ : XW _ _ _ _ _ _ _ 738 _ _))
      · replace vc := vc.1 c
        refine xi_goto (by decide +kernel : decode mL_law.2.1 740 = .ok (.goto 1652, 3)) (by decide) (?_ : XW _ _ _ _ _ _ _ 2392 _ _)
        refine xw_drop 5 (ls' := [some (.ref 3000), some (.ref 0), some (.ref 56), some (.ref 99), some (.int x4), none, some (.int r13), none]) rfl ?_
        refine xw_drop 6 (ls' := [some (.ref 3000), some (.ref 0), some (.ref 56), some (.ref 99), some (.int x4), none, none, none]) rfl ?_
        refine xw_b (b' := B) (bs' := S) (by omega) (by omega) ?_
        exact vc
      · replace vc := vc.2 c
        refine xi_iconst (v := 0) (by decide +kernel : decode mL_law.2.1 738 = .ok (.iconst 0, 1)) (by decide) (?_ : XW _ _ _ _ _ _ _ 739 _ _)
        exact vc.elim
  · replace vc := vc.2 c
    refine xi_iconst (v := 0) (by decide +kernel : decode mL_law.2.1 721 = .ok (.iconst 0, 1)) (by decide) (?_ : XW _ _ _ _ _ _ _ 722 _ _)
    exact vc.elim

