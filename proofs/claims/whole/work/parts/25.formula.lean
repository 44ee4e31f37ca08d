/-! THE FORMULA: how far one goes -/
set_option maxRecDepth 20000 in
theorem v_X0_joined_0 {h : XH} {Q : Option Value → XH → Prop} {X : String → XH → Prop} (n : Nat)  (c : Int32) (x : Int32) (y : Int32)
    (vc : (c = (-12) → Q (some (.int (x * y))) h) ∧ (c = (-11) → Q (some (.int (x - y))) h) ∧ (c = (-10) → Q (some (.int (x + y))) h) ∧ (c = (-9) → (¬ x = y → ∃ Q1, XSpec mX0_holds 1 0 0 n n [.int 0] h Q1 xno ∧ ∀ v h1, Q1 v h1 → ∃ r1 : Int32, v = some (.int r1) ∧ (Q (some (.int r1)) h1)) ∧ (x = y → ∃ Q1, XSpec mX0_holds 1 0 0 n n [.int 1] h Q1 xno ∧ ∀ v h2, Q1 v h2 → ∃ r2 : Int32, v = some (.int r2) ∧ (Q (some (.int r2)) h2))) ∧ (c = (-8) → (y ≤ x → ∃ Q1, XSpec mX0_holds 1 0 0 n n [.int 0] h Q1 xno ∧ ∀ v h3, Q1 v h3 → ∃ r3 : Int32, v = some (.int r3) ∧ (Q (some (.int r3)) h3)) ∧ (¬ y ≤ x → ∃ Q1, XSpec mX0_holds 1 0 0 n n [.int 1] h Q1 xno ∧ ∀ v h4, Q1 v h4 → ∃ r4 : Int32, v = some (.int r4) ∧ (Q (some (.int r4)) h4))) ∧ (c = (-7) → (¬ x = 0 → ∃ Q1, XSpec mX0_holds 1 0 0 n n [.int 1] h Q1 xno ∧ ∀ v h5, Q1 v h5 → ∃ r5 : Int32, v = some (.int r5) ∧ (Q (some (.int r5)) h5)) ∧ (x = 0 → (y = 0 → ∃ Q1, XSpec mX0_holds 1 0 0 n n [.int 0] h Q1 xno ∧ ∀ v h6, Q1 v h6 → ∃ r6 : Int32, v = some (.int r6) ∧ (Q (some (.int r6)) h6)) ∧ (¬ y = 0 → ∃ Q1, XSpec mX0_holds 1 0 0 n n [.int 1] h Q1 xno ∧ ∀ v h7, Q1 v h7 → ∃ r7 : Int32, v = some (.int r7) ∧ (Q (some (.int r7)) h7)))) ∧ (c = (-6) → (x = 0 → ∃ Q1, XSpec mX0_holds 1 0 0 n n [.int 0] h Q1 xno ∧ ∀ v h8, Q1 v h8 → ∃ r8 : Int32, v = some (.int r8) ∧ (Q (some (.int r8)) h8)) ∧ (¬ x = 0 → (y = 0 → ∃ Q1, XSpec mX0_holds 1 0 0 n n [.int 0] h Q1 xno ∧ ∀ v h9, Q1 v h9 → ∃ r9 : Int32, v = some (.int r9) ∧ (Q (some (.int r9)) h9)) ∧ (¬ y = 0 → ∃ Q1, XSpec mX0_holds 1 0 0 n n [.int 1] h Q1 xno ∧ ∀ v h10, Q1 v h10 → ∃ r10 : Int32, v = some (.int r10) ∧ (Q (some (.int r10)) h10)))) ∧ ((c.toInt < -12 ∨ -6 < c.toInt) → (¬ y = 0 → (¬ y = 0) ∧ (Q (some (.int (x / y))) h)) ∧ (y = 0 → Q (some (.int 0)) h))) :
    XW (xrm 2 0 0) mX0_joined (xE n Q X 0 0) n 0 0 h 0 [some (.int c), some (.int x), some (.int y)] [] := by
  refine xi_iload_n (by decide +kernel : decode mX0_joined.2.1 0 = .ok (.iload_n 0, 1)) rfl rfl (?_ : XW _ _ _ _ _ _ _ 1 _ _)
  by_cases c9 : c.toInt < -12 ∨ -6 < c.toInt
  · replace vc := vc.2.2.2.2.2.2.2 c9
    refine xi_tableOut (by decide +kernel : decode mX0_joined.2.1 1 = .ok (.tableswitch 117 (-12) (-6) #[113, 109, 105, 91, 77, 60, 43], 43)) c9 (by decide) (?_ : XW _ _ _ _ _ _ _ 118 _ _)
    refine xi_iload_n (by decide +kernel : decode mX0_joined.2.1 118 = .ok (.iload_n 2, 1)) rfl rfl (?_ : XW _ _ _ _ _ _ _ 119 _ _)
    refine xi_if_ne (by decide +kernel : decode mX0_joined.2.1 119 = .ok (.ifCond .ne 7, 3)) (by decide) (fun c => (?_ : XW _ _ _ _ _ _ _ 126 _ _)) (fun c => (?_ : XW _ _ _ _ _ _ _ 122 _ _))
    · replace vc := vc.1 c
      refine xi_iload_n (by decide +kernel : decode mX0_joined.2.1 126 = .ok (.iload_n 1, 1)) rfl rfl (?_ : XW _ _ _ _ _ _ _ 127 _ _)
      refine xi_iload_n (by decide +kernel : decode mX0_joined.2.1 127 = .ok (.iload_n 2, 1)) rfl rfl (?_ : XW _ _ _ _ _ _ _ 128 _ _)
      obtain ⟨s1, vc⟩ := vc
      refine xi_idiv (by decide +kernel : decode mX0_joined.2.1 128 = .ok (.idiv, 1)) s1 (?_ : XW _ _ _ _ _ _ _ 129 _ _)
      exact xi_iret (by decide +kernel : decode mX0_joined.2.1 129 = .ok (.ireturn, 1)) rfl rfl vc
    · replace vc := vc.2 c
      refine xi_iconst (v := 0) (by decide +kernel : decode mX0_joined.2.1 122 = .ok (.iconst 0, 1)) (by decide) (?_ : XW _ _ _ _ _ _ _ 123 _ _)
      refine xi_goto (by decide +kernel : decode mX0_joined.2.1 123 = .ok (.goto 6, 3)) (by decide) (?_ : XW _ _ _ _ _ _ _ 129 _ _)
      exact xi_iret (by decide +kernel : decode mX0_joined.2.1 129 = .ok (.ireturn, 1)) rfl rfl vc
  · have c8 := x_tabcases (lo := -12) (hi := -6) (by omega) (by omega) c9
    obtain ⟨j, hj, c7⟩ := c8
    have hj2 : j < 7 := by omega
    by_cases e0 : j = 0
    · subst e0
      have c6 : c = (-12) := c7.trans (by decide)
      replace vc := vc.1 c6
      refine xi_tableIn (off := 113) (by decide +kernel : decode mX0_joined.2.1 1 = .ok (.tableswitch 117 (-12) (-6) #[113, 109, 105, 91, 77, 60, 43], 43)) (by omega) (by omega) (by rw [c6]; decide) (by decide) (?_ : XW _ _ _ _ _ _ _ 114 _ _)
      refine xi_iload_n (by decide +kernel : decode mX0_joined.2.1 114 = .ok (.iload_n 1, 1)) rfl rfl (?_ : XW _ _ _ _ _ _ _ 115 _ _)
      refine xi_iload_n (by decide +kernel : decode mX0_joined.2.1 115 = .ok (.iload_n 2, 1)) rfl rfl (?_ : XW _ _ _ _ _ _ _ 116 _ _)
      refine xi_imul (by decide +kernel : decode mX0_joined.2.1 116 = .ok (.imul, 1)) (?_ : XW _ _ _ _ _ _ _ 117 _ _)
      exact xi_iret (by decide +kernel : decode mX0_joined.2.1 117 = .ok (.ireturn, 1)) rfl rfl vc
    by_cases e1 : j = 1
    · subst e1
      have c6 : c = (-11) := c7.trans (by decide)
      replace vc := vc.2.1 c6
      refine xi_tableIn (off := 109) (by decide +kernel : decode mX0_joined.2.1 1 = .ok (.tableswitch 117 (-12) (-6) #[113, 109, 105, 91, 77, 60, 43], 43)) (by omega) (by omega) (by rw [c6]; decide) (by decide) (?_ : XW _ _ _ _ _ _ _ 110 _ _)
      refine xi_iload_n (by decide +kernel : decode mX0_joined.2.1 110 = .ok (.iload_n 1, 1)) rfl rfl (?_ : XW _ _ _ _ _ _ _ 111 _ _)
      refine xi_iload_n (by decide +kernel : decode mX0_joined.2.1 111 = .ok (.iload_n 2, 1)) rfl rfl (?_ : XW _ _ _ _ _ _ _ 112 _ _)
      refine xi_isub (by decide +kernel : decode mX0_joined.2.1 112 = .ok (.isub, 1)) (?_ : XW _ _ _ _ _ _ _ 113 _ _)
      exact xi_iret (by decide +kernel : decode mX0_joined.2.1 113 = .ok (.ireturn, 1)) rfl rfl vc
    by_cases e2 : j = 2
    · subst e2
      have c6 : c = (-10) := c7.trans (by decide)
      replace vc := vc.2.2.1 c6
      refine xi_tableIn (off := 105) (by decide +kernel : decode mX0_joined.2.1 1 = .ok (.tableswitch 117 (-12) (-6) #[113, 109, 105, 91, 77, 60, 43], 43)) (by omega) (by omega) (by rw [c6]; decide) (by decide) (?_ : XW _ _ _ _ _ _ _ 106 _ _)
      refine xi_iload_n (by decide +kernel : decode mX0_joined.2.1 106 = .ok (.iload_n 1, 1)) rfl rfl (?_ : XW _ _ _ _ _ _ _ 107 _ _)
      refine xi_iload_n (by decide +kernel : decode mX0_joined.2.1 107 = .ok (.iload_n 2, 1)) rfl rfl (?_ : XW _ _ _ _ _ _ _ 108 _ _)
      refine xi_iadd (by decide +kernel : decode mX0_joined.2.1 108 = .ok (.iadd, 1)) (?_ : XW _ _ _ _ _ _ _ 109 _ _)
      exact xi_iret (by decide +kernel : decode mX0_joined.2.1 109 = .ok (.ireturn, 1)) rfl rfl vc
    by_cases e3 : j = 3
    · subst e3
      have c6 : c = (-9) := c7.trans (by decide)
      replace vc := vc.2.2.2.1 c6
      refine xi_tableIn (off := 91) (by decide +kernel : decode mX0_joined.2.1 1 = .ok (.tableswitch 117 (-12) (-6) #[113, 109, 105, 91, 77, 60, 43], 43)) (by omega) (by omega) (by rw [c6]; decide) (by decide) (?_ : XW _ _ _ _ _ _ _ 92 _ _)
      refine xi_iload_n (by decide +kernel : decode mX0_joined.2.1 92 = .ok (.iload_n 1, 1)) rfl rfl (?_ : XW _ _ _ _ _ _ _ 93 _ _)
      refine xi_iload_n (by decide +kernel : decode mX0_joined.2.1 93 = .ok (.iload_n 2, 1)) rfl rfl (?_ : XW _ _ _ _ _ _ _ 94 _ _)
      refine xi_icmp_ne (by decide +kernel : decode mX0_joined.2.1 94 = .ok (.if_icmp .ne 7, 3)) (by decide) (fun c => (?_ : XW _ _ _ _ _ _ _ 101 _ _)) (fun c => (?_ : XW _ _ _ _ _ _ _ 97 _ _))
      · replace vc := vc.1 c
        refine xi_iconst (v := 0) (by decide +kernel : decode mX0_joined.2.1 101 = .ok (.iconst 0, 1)) (by decide) (?_ : XW _ _ _ _ _ _ _ 102 _ _)
        obtain ⟨Q1, sp, vc⟩ := vc
        refine xi_callS (b := 0) (bs := 0) (As := [.int 0]) (st := []) (by decide +kernel : decode mX0_joined.2.1 102 = .ok (.invokestatic 54, 3)) kX0_54 rfl rfl sp (by decide) (by decide) (Nat.le_of_ble_eq_true rfl) (by omega) (fun v9 h1 hq9 => ?_)
        obtain ⟨r1, e9, vc⟩ := vc v9 h1 hq9
        subst e9
        show XW _ _ _ _ _ _ _ 105 _ [.int r1]
        exact xi_iret (by decide +kernel : decode mX0_joined.2.1 105 = .ok (.ireturn, 1)) rfl rfl vc
      · replace vc := vc.2 c
        refine xi_iconst (v := 1) (by decide +kernel : decode mX0_joined.2.1 97 = .ok (.iconst 1, 1)) (by decide) (?_ : XW _ _ _ _ _ _ _ 98 _ _)
        refine xi_goto (by decide +kernel : decode mX0_joined.2.1 98 = .ok (.goto 4, 3)) (by decide) (?_ : XW _ _ _ _ _ _ _ 102 _ _)
        obtain ⟨Q1, sp, vc⟩ := vc
        refine xi_callS (b := 0) (bs := 0) (As := [.int 1]) (st := []) (by decide +kernel : decode mX0_joined.2.1 102 = .ok (.invokestatic 54, 3)) kX0_54 rfl rfl sp (by decide) (by decide) (Nat.le_of_ble_eq_true rfl) (by omega) (fun v9 h2 hq9 => ?_)
        obtain ⟨r2, e9, vc⟩ := vc v9 h2 hq9
        subst e9
        show XW _ _ _ _ _ _ _ 105 _ [.int r2]
        exact xi_iret (by decide +kernel : decode mX0_joined.2.1 105 = .ok (.ireturn, 1)) rfl rfl vc
    by_cases e4 : j = 4
    · subst e4
      have c6 : c = (-8) := c7.trans (by decide)
      replace vc := vc.2.2.2.2.1 c6
      refine xi_tableIn (off := 77) (by decide +kernel : decode mX0_joined.2.1 1 = .ok (.tableswitch 117 (-12) (-6) #[113, 109, 105, 91, 77, 60, 43], 43)) (by omega) (by omega) (by rw [c6]; decide) (by decide) (?_ : XW _ _ _ _ _ _ _ 78 _ _)
      refine xi_iload_n (by decide +kernel : decode mX0_joined.2.1 78 = .ok (.iload_n 1, 1)) rfl rfl (?_ : XW _ _ _ _ _ _ _ 79 _ _)
      refine xi_iload_n (by decide +kernel : decode mX0_joined.2.1 79 = .ok (.iload_n 2, 1)) rfl rfl (?_ : XW _ _ _ _ _ _ _ 80 _ _)
      refine xi_icmp_ge (by decide +kernel : decode mX0_joined.2.1 80 = .ok (.if_icmp .ge 7, 3)) (by decide) (fun c => (?_ : XW _ _ _ _ _ _ _ 87 _ _)) (fun c => (?_ : XW _ _ _ _ _ _ _ 83 _ _))
      · replace vc := vc.1 c
        refine xi_iconst (v := 0) (by decide +kernel : decode mX0_joined.2.1 87 = .ok (.iconst 0, 1)) (by decide) (?_ : XW _ _ _ _ _ _ _ 88 _ _)
        obtain ⟨Q1, sp, vc⟩ := vc
        refine xi_callS (b := 0) (bs := 0) (As := [.int 0]) (st := []) (by decide +kernel : decode mX0_joined.2.1 88 = .ok (.invokestatic 54, 3)) kX0_54 rfl rfl sp (by decide) (by decide) (Nat.le_of_ble_eq_true rfl) (by omega) (fun v9 h3 hq9 => ?_)
        obtain ⟨r3, e9, vc⟩ := vc v9 h3 hq9
        subst e9
        show XW _ _ _ _ _ _ _ 91 _ [.int r3]
        exact xi_iret (by decide +kernel : decode mX0_joined.2.1 91 = .ok (.ireturn, 1)) rfl rfl vc
      · replace vc := vc.2 c
        refine xi_iconst (v := 1) (by decide +kernel : decode mX0_joined.2.1 83 = .ok (.iconst 1, 1)) (by decide) (?_ : XW _ _ _ _ _ _ _ 84 _ _)
        refine xi_goto (by decide +kernel : decode mX0_joined.2.1 84 = .ok (.goto 4, 3)) (by decide) (?_ : XW _ _ _ _ _ _ _ 88 _ _)
        obtain ⟨Q1, sp, vc⟩ := vc
        refine xi_callS (b := 0) (bs := 0) (As := [.int 1]) (st := []) (by decide +kernel : decode mX0_joined.2.1 88 = .ok (.invokestatic 54, 3)) kX0_54 rfl rfl sp (by decide) (by decide) (Nat.le_of_ble_eq_true rfl) (by omega) (fun v9 h4 hq9 => ?_)
        obtain ⟨r4, e9, vc⟩ := vc v9 h4 hq9
        subst e9
        show XW _ _ _ _ _ _ _ 91 _ [.int r4]
        exact xi_iret (by decide +kernel : decode mX0_joined.2.1 91 = .ok (.ireturn, 1)) rfl rfl vc
    by_cases e5 : j = 5
    · subst e5
      have c6 : c = (-7) := c7.trans (by decide)
      replace vc := vc.2.2.2.2.2.1 c6
      refine xi_tableIn (off := 60) (by decide +kernel : decode mX0_joined.2.1 1 = .ok (.tableswitch 117 (-12) (-6) #[113, 109, 105, 91, 77, 60, 43], 43)) (by omega) (by omega) (by rw [c6]; decide) (by decide) (?_ : XW _ _ _ _ _ _ _ 61 _ _)
      refine xi_iload_n (by decide +kernel : decode mX0_joined.2.1 61 = .ok (.iload_n 1, 1)) rfl rfl (?_ : XW _ _ _ _ _ _ _ 62 _ _)
      refine xi_if_ne (by decide +kernel : decode mX0_joined.2.1 62 = .ok (.ifCond .ne 7, 3)) (by decide) (fun c => (?_ : XW _ _ _ _ _ _ _ 69 _ _)) (fun c => (?_ : XW _ _ _ _ _ _ _ 65 _ _))
      · replace vc := vc.1 c
        refine xi_iconst (v := 1) (by decide +kernel : decode mX0_joined.2.1 69 = .ok (.iconst 1, 1)) (by decide) (?_ : XW _ _ _ _ _ _ _ 70 _ _)
        refine xi_goto (by decide +kernel : decode mX0_joined.2.1 70 = .ok (.goto 4, 3)) (by decide) (?_ : XW _ _ _ _ _ _ _ 74 _ _)
        obtain ⟨Q1, sp, vc⟩ := vc
        refine xi_callS (b := 0) (bs := 0) (As := [.int 1]) (st := []) (by decide +kernel : decode mX0_joined.2.1 74 = .ok (.invokestatic 54, 3)) kX0_54 rfl rfl sp (by decide) (by decide) (Nat.le_of_ble_eq_true rfl) (by omega) (fun v9 h5 hq9 => ?_)
        obtain ⟨r5, e9, vc⟩ := vc v9 h5 hq9
        subst e9
        show XW _ _ _ _ _ _ _ 77 _ [.int r5]
        exact xi_iret (by decide +kernel : decode mX0_joined.2.1 77 = .ok (.ireturn, 1)) rfl rfl vc
      · replace vc := vc.2 c
        refine xi_iload_n (by decide +kernel : decode mX0_joined.2.1 65 = .ok (.iload_n 2, 1)) rfl rfl (?_ : XW _ _ _ _ _ _ _ 66 _ _)
        refine xi_if_eq (by decide +kernel : decode mX0_joined.2.1 66 = .ok (.ifCond .eq 7, 3)) (by decide) (fun c => (?_ : XW _ _ _ _ _ _ _ 73 _ _)) (fun c => (?_ : XW _ _ _ _ _ _ _ 69 _ _))
        · replace vc := vc.1 c
          refine xi_iconst (v := 0) (by decide +kernel : decode mX0_joined.2.1 73 = .ok (.iconst 0, 1)) (by decide) (?_ : XW _ _ _ _ _ _ _ 74 _ _)
          obtain ⟨Q1, sp, vc⟩ := vc
          refine xi_callS (b := 0) (bs := 0) (As := [.int 0]) (st := []) (by decide +kernel : decode mX0_joined.2.1 74 = .ok (.invokestatic 54, 3)) kX0_54 rfl rfl sp (by decide) (by decide) (Nat.le_of_ble_eq_true rfl) (by omega) (fun v9 h6 hq9 => ?_)
          obtain ⟨r6, e9, vc⟩ := vc v9 h6 hq9
          subst e9
          show XW _ _ _ _ _ _ _ 77 _ [.int r6]
          exact xi_iret (by decide +kernel : decode mX0_joined.2.1 77 = .ok (.ireturn, 1)) rfl rfl vc
        · replace vc := vc.2 c
          refine xi_iconst (v := 1) (by decide +kernel : decode mX0_joined.2.1 69 = .ok (.iconst 1, 1)) (by decide) (?_ : XW _ _ _ _ _ _ _ 70 _ _)
          refine xi_goto (by decide +kernel : decode mX0_joined.2.1 70 = .ok (.goto 4, 3)) (by decide) (?_ : XW _ _ _ _ _ _ _ 74 _ _)
          obtain ⟨Q1, sp, vc⟩ := vc
          refine xi_callS (b := 0) (bs := 0) (As := [.int 1]) (st := []) (by decide +kernel : decode mX0_joined.2.1 74 = .ok (.invokestatic 54, 3)) kX0_54 rfl rfl sp (by decide) (by decide) (Nat.le_of_ble_eq_true rfl) (by omega) (fun v9 h7 hq9 => ?_)
          obtain ⟨r7, e9, vc⟩ := vc v9 h7 hq9
          subst e9
          show XW _ _ _ _ _ _ _ 77 _ [.int r7]
          exact xi_iret (by decide +kernel : decode mX0_joined.2.1 77 = .ok (.ireturn, 1)) rfl rfl vc
    by_cases e6 : j = 6
    · subst e6
      have c6 : c = (-6) := c7.trans (by decide)
      replace vc := vc.2.2.2.2.2.2.1 c6
      refine xi_tableIn (off := 43) (by decide +kernel : decode mX0_joined.2.1 1 = .ok (.tableswitch 117 (-12) (-6) #[113, 109, 105, 91, 77, 60, 43], 43)) (by omega) (by omega) (by rw [c6]; decide) (by decide) (?_ : XW _ _ _ _ _ _ _ 44 _ _)
      refine xi_iload_n (by decide +kernel : decode mX0_joined.2.1 44 = .ok (.iload_n 1, 1)) rfl rfl (?_ : XW _ _ _ _ _ _ _ 45 _ _)
      refine xi_if_eq (by decide +kernel : decode mX0_joined.2.1 45 = .ok (.ifCond .eq 11, 3)) (by decide) (fun c => (?_ : XW _ _ _ _ _ _ _ 56 _ _)) (fun c => (?_ : XW _ _ _ _ _ _ _ 48 _ _))
      · replace vc := vc.1 c
        refine xi_iconst (v := 0) (by decide +kernel : decode mX0_joined.2.1 56 = .ok (.iconst 0, 1)) (by decide) (?_ : XW _ _ _ _ _ _ _ 57 _ _)
        obtain ⟨Q1, sp, vc⟩ := vc
        refine xi_callS (b := 0) (bs := 0) (As := [.int 0]) (st := []) (by decide +kernel : decode mX0_joined.2.1 57 = .ok (.invokestatic 54, 3)) kX0_54 rfl rfl sp (by decide) (by decide) (Nat.le_of_ble_eq_true rfl) (by omega) (fun v9 h8 hq9 => ?_)
        obtain ⟨r8, e9, vc⟩ := vc v9 h8 hq9
        subst e9
        show XW _ _ _ _ _ _ _ 60 _ [.int r8]
        exact xi_iret (by decide +kernel : decode mX0_joined.2.1 60 = .ok (.ireturn, 1)) rfl rfl vc
      · replace vc := vc.2 c
        refine xi_iload_n (by decide +kernel : decode mX0_joined.2.1 48 = .ok (.iload_n 2, 1)) rfl rfl (?_ : XW _ _ _ _ _ _ _ 49 _ _)
        refine xi_if_eq (by decide +kernel : decode mX0_joined.2.1 49 = .ok (.ifCond .eq 7, 3)) (by decide) (fun c => (?_ : XW _ _ _ _ _ _ _ 56 _ _)) (fun c => (?_ : XW _ _ _ _ _ _ _ 52 _ _))
        · replace vc := vc.1 c
          refine xi_iconst (v := 0) (by decide +kernel : decode mX0_joined.2.1 56 = .ok (.iconst 0, 1)) (by decide) (?_ : XW _ _ _ _ _ _ _ 57 _ _)
          obtain ⟨Q1, sp, vc⟩ := vc
          refine xi_callS (b := 0) (bs := 0) (As := [.int 0]) (st := []) (by decide +kernel : decode mX0_joined.2.1 57 = .ok (.invokestatic 54, 3)) kX0_54 rfl rfl sp (by decide) (by decide) (Nat.le_of_ble_eq_true rfl) (by omega) (fun v9 h9 hq9 => ?_)
          obtain ⟨r9, e9, vc⟩ := vc v9 h9 hq9
          subst e9
          show XW _ _ _ _ _ _ _ 60 _ [.int r9]
          exact xi_iret (by decide +kernel : decode mX0_joined.2.1 60 = .ok (.ireturn, 1)) rfl rfl vc
        · replace vc := vc.2 c
          refine xi_iconst (v := 1) (by decide +kernel : decode mX0_joined.2.1 52 = .ok (.iconst 1, 1)) (by decide) (?_ : XW _ _ _ _ _ _ _ 53 _ _)
          refine xi_goto (by decide +kernel : decode mX0_joined.2.1 53 = .ok (.goto 4, 3)) (by decide) (?_ : XW _ _ _ _ _ _ _ 57 _ _)
          obtain ⟨Q1, sp, vc⟩ := vc
          refine xi_callS (b := 0) (bs := 0) (As := [.int 1]) (st := []) (by decide +kernel : decode mX0_joined.2.1 57 = .ok (.invokestatic 54, 3)) kX0_54 rfl rfl sp (by decide) (by decide) (Nat.le_of_ble_eq_true rfl) (by omega) (fun v9 h10 hq9 => ?_)
          obtain ⟨r10, e9, vc⟩ := vc v9 h10 hq9
          subst e9
          show XW _ _ _ _ _ _ _ 60 _ [.int r10]
          exact xi_iret (by decide +kernel : decode mX0_joined.2.1 60 = .ok (.ireturn, 1)) rfl rfl vc
    omega

def binop (c x y : Int32) : Int32 := if c = -12 then x * y else if c = -11 then x - y else if c = -10 then x + y else if c = -9 then (if x = y then 1 else 0) else if c = -8 then (if x < y then 1 else 0) else if c = -7 then (if x = 0 then (if y = 0 then 0 else 1) else 1) else if c = -6 then (if x = 0 then 0 else if y = 0 then 0 else 1) else if y = 0 then 0 else x / y
def opval (c th aq lq ab : Int32) : Int32 := if c = -4 then ab else if c = -3 then lq else if c = -2 then aq else if c = -1 then th else c
theorem s_X0_holds (n : Nat) (h : XH) (v : Int32) : XSpec mX0_holds 1 0 0 n n [.int v] h (xq (some (.int (if v = 0 then 0 else 1))) h) xno :=
  XSpec.of rfl (by decide) (Nat.le_of_ble_eq_true rfl) rfl (v_X0_holds_0 n v ⟨fun c => ⟨by rw [if_pos c], rfl⟩, fun c => ⟨by rw [if_neg c], rfl⟩⟩)
theorem s_X0_operand (n : Nat) (h : XH) (c th aq lq ab : Int32) : XSpec mX0_operand 1 0 0 n n [.int c, .int th, .int aq, .int lq, .int ab] h (xq (some (.int (opval c th aq lq ab))) h) xno := by
  refine XSpec.of rfl (by decide) (Nat.le_of_ble_eq_true rfl) rfl (v_X0_operand_0 n c th aq lq ab ⟨?_, ?_, ?_, ?_, ?_⟩)
  · rintro rfl; exact ⟨rfl, rfl⟩
  · rintro rfl; exact ⟨rfl, rfl⟩
  · rintro rfl; exact ⟨rfl, rfl⟩
  · rintro rfl; exact ⟨rfl, rfl⟩
  · intro q
    have h4 : ¬ c = -4 := by rintro rfl; revert q; decide
    have h3 : ¬ c = -3 := by rintro rfl; revert q; decide
    have h2 : ¬ c = -2 := by rintro rfl; revert q; decide
    have h1 : ¬ c = -1 := by rintro rfl; revert q; decide
    refine ⟨?_, rfl⟩
    unfold opval
    rw [if_neg h4, if_neg h3, if_neg h2, if_neg h1]
theorem s_X0_joined (n : Nat) (h : XH) (c x y : Int32) : XSpec mX0_joined 2 0 0 n n [.int c, .int x, .int y] h (xq (some (.int (binop c x y))) h) xno := by
  have hq : ∀ v w : Int32, (if v = 0 then (0 : Int32) else 1) = w → ∃ Q1, XSpec mX0_holds 1 0 0 n n [.int v] h Q1 xno ∧ ∀ v9 h9, Q1 v9 h9 → ∃ r : Int32, v9 = some (.int r) ∧ xq (some (.int w)) h (some (.int r)) h9 := by
    intro v w e
    refine ⟨_, s_X0_holds n h v, ?_⟩
    rintro v9 h9 ⟨rfl, rfl⟩
    refine ⟨_, rfl, ?_, rfl⟩
    rw [e]
  refine XSpec.of rfl (by decide) (Nat.le_of_ble_eq_true rfl) rfl (v_X0_joined_0 n c x y ⟨?_, ?_, ?_, ?_, ?_, ?_, ?_, ?_⟩)
  · rintro rfl; exact ⟨rfl, rfl⟩
  · rintro rfl; exact ⟨rfl, rfl⟩
  · rintro rfl; exact ⟨rfl, rfl⟩
  · rintro rfl
    have e : binop (-9) x y = if x = y then 1 else 0 := rfl
    rw [e]
    exact ⟨fun q => hq 0 _ (by rw [if_neg q]; rfl), fun q => hq 1 _ (by rw [if_pos q]; rfl)⟩
  · rintro rfl
    have e : binop (-8) x y = if x < y then 1 else 0 := rfl
    rw [e]
    refine ⟨fun q => hq 0 _ ?_, fun q => hq 1 _ ?_⟩
    · rw [if_neg (show ¬ x < y from fun z => by rw [Int32.lt_iff_toInt_lt] at z; rw [Int32.le_iff_toInt_le] at q; omega)]; rfl
    · rw [if_pos (show x < y by rw [Int32.lt_iff_toInt_lt]; first | exact Int32.lt_iff_toInt_lt.1 q | (rw [Int32.le_iff_toInt_le] at q; omega))]; rfl
  · rintro rfl
    have e : binop (-7) x y = if x = 0 then (if y = 0 then 0 else 1) else 1 := rfl
    rw [e]
    refine ⟨fun q => hq 1 _ (by rw [if_neg q]; rfl), fun q => ⟨fun q2 => hq 0 _ (by rw [if_pos q, if_pos q2]; rfl), fun q2 => hq 1 _ (by rw [if_pos q, if_neg q2]; rfl)⟩⟩
  · rintro rfl
    have e : binop (-6) x y = if x = 0 then 0 else if y = 0 then 0 else 1 := rfl
    rw [e]
    refine ⟨fun q => hq 0 _ (by rw [if_pos q]; rfl), fun q => ⟨fun q2 => hq 0 _ (by rw [if_neg q, if_pos q2]; rfl), fun q2 => hq 1 _ (by rw [if_neg q, if_neg q2]; rfl)⟩⟩
  · intro q
    have e : binop c x y = if y = 0 then 0 else x / y := by
      unfold binop
      rw [if_neg (by rintro rfl; revert q; decide), if_neg (by rintro rfl; revert q; decide), if_neg (by rintro rfl; revert q; decide), if_neg (by rintro rfl; revert q; decide), if_neg (by rintro rfl; revert q; decide), if_neg (by rintro rfl; revert q; decide), if_neg (by rintro rfl; revert q; decide)]
    rw [e]
    exact ⟨fun z => ⟨z, by rw [if_neg z], rfl⟩, fun z => ⟨by rw [if_pos z], rfl⟩⟩
set_option maxRecDepth 20000 in
theorem v_X0_value_0 {h : XH} {Q : Option Value → XH → Prop} {X : String → XH → Prop} (n f : Nat) (hf : xFor f (xP h)) (hn : f + 4 ≤ n)  (th : Int32) (aq : Int32) (lq : Int32) (ab : Int32)
    (vc : XW (xrm 3 0 0) mX0_value (xE n Q X 0 0) n 0 0 h 6 [some (.ref f), some (.int th), some (.int aq), some (.int lq), some (.int ab), some (.int 0), some (.int 0), none] []) :
    XW (xrm 3 0 0) mX0_value (xE n Q X 0 0) n 0 0 h 0 [some (.ref f), some (.int th), some (.int aq), some (.int lq), some (.int ab), none, none, none] [] := by
  rcases hf.1 with rfl | rfl
  · refine xi_iconst (v := 0) (by decide +kernel : decode mX0_value.2.1 0 = .ok (.iconst 0, 1)) (by decide) (?_ : XW _ _ _ _ _ _ _ 1 _ _)
    refine xi_istore (ls' := [some (.ref 3), some (.int th), some (.int aq), some (.int lq), some (.int ab), some (.int 0), none, none]) (by decide +kernel : decode mX0_value.2.1 1 = .ok (.istore 5, 2)) (by decide) rfl (?_ : XW _ _ _ _ _ _ _ 3 _ _)
    refine xi_iconst (v := 0) (by decide +kernel : decode mX0_value.2.1 3 = .ok (.iconst 0, 1)) (by decide) (?_ : XW _ _ _ _ _ _ _ 4 _ _)
    refine xi_istore (ls' := [some (.ref 3), some (.int th), some (.int aq), some (.int lq), some (.int ab), some (.int 0), some (.int 0), none]) (by decide +kernel : decode mX0_value.2.1 4 = .ok (.istore 6, 2)) (by decide) rfl (?_ : XW _ _ _ _ _ _ _ 6 _ _)
    exact vc
  · refine xi_iconst (v := 0) (by decide +kernel : decode mX0_value.2.1 0 = .ok (.iconst 0, 1)) (by decide) (?_ : XW _ _ _ _ _ _ _ 1 _ _)
    refine xi_istore (ls' := [some (.ref 13), some (.int th), some (.int aq), some (.int lq), some (.int ab), some (.int 0), none, none]) (by decide +kernel : decode mX0_value.2.1 1 = .ok (.istore 5, 2)) (by decide) rfl (?_ : XW _ _ _ _ _ _ _ 3 _ _)
    refine xi_iconst (v := 0) (by decide +kernel : decode mX0_value.2.1 3 = .ok (.iconst 0, 1)) (by decide) (?_ : XW _ _ _ _ _ _ _ 4 _ _)
    refine xi_istore (ls' := [some (.ref 13), some (.int th), some (.int aq), some (.int lq), some (.int ab), some (.int 0), some (.int 0), none]) (by decide +kernel : decode mX0_value.2.1 4 = .ok (.istore 6, 2)) (by decide) rfl (?_ : XW _ _ _ _ _ _ _ 6 _ _)
    exact vc

set_option maxRecDepth 20000 in
theorem v_X0_value_6 {h : XH} {Q : Option Value → XH → Prop} {X : String → XH → Prop} (n f : Nat) (hf : xFor f (xP h)) (hn : f + 4 ≤ n)  (x1 : Int32) (x2 : Int32) (x3 : Int32) (x4 : Int32) (x5 : Int32) (x6 : Int32)
    (vc : ((xI h f 3) ≤ x6 → Q (some (.int (xI h (f + 3) 0))) h) ∧ (¬ (xI h f 3) ≤ x6 → (500 ≤ x6 → Q (some (.int (xI h (f + 3) 0))) h) ∧ (¬ 500 ≤ x6 → (vp_in x6 500) ∧ (((xI h (f + 2) x6.toNatClampNeg) ≤ (-5) → (¬ (xI h (f + 2) x6.toNatClampNeg) = (-5) → (x5 < 2 → Q (some (.int 0)) h) ∧ (¬ x5 < 2 → (x5 ≤ 64 → (vp_in ((x5 + (-1)) - 1) 64) ∧ ((vp_in (x5 + (-1)) 64) ∧ ((vp_in ((x5 + (-1)) - 1) 64) ∧ (XW (xrm 3 0 0) mX0_value (xE n Q X 0 0) n 0 0 (xSI (f + 3) (va_up (xI h (f + 3)) ((x5 + (-1)) - 1).toNatClampNeg (binop (xI h (f + 2) x6.toNatClampNeg) (xI h (f + 3) ((x5 + (-1)) - 1).toNatClampNeg) (xI h (f + 3) (x5 + (-1)).toNatClampNeg))) h) 6 [some (.ref f), some (.int x1), some (.int x2), some (.int x3), some (.int x4), some (.int (x5 + (-1))), some (.int (x6 + 1)), none] [])))) ∧ (¬ x5 ≤ 64 → Q (some (.int 0)) h))) ∧ ((xI h (f + 2) x6.toNatClampNeg) = (-5) → (x5 < 1 → Q (some (.int 0)) h) ∧ (¬ x5 < 1 → (x5 ≤ 64 → (vp_in (x5 - 1) 64) ∧ ((¬ (xI h (f + 3) (x5 - 1).toNatClampNeg) = 0 → (vp_in (x5 - 1) 64) ∧ (XW (xrm 3 0 0) mX0_value (xE n Q X 0 0) n 0 0 (xSI (f + 3) (va_up (xI h (f + 3)) (x5 - 1).toNatClampNeg (if 0 = 0 then 0 else 1)) h) 6 [some (.ref f), some (.int x1), some (.int x2), some (.int x3), some (.int x4), some (.int x5), some (.int (x6 + 1)), none] [])) ∧ ((xI h (f + 3) (x5 - 1).toNatClampNeg) = 0 → (vp_in (x5 - 1) 64) ∧ (XW (xrm 3 0 0) mX0_value (xE n Q X 0 0) n 0 0 (xSI (f + 3) (va_up (xI h (f + 3)) (x5 - 1).toNatClampNeg (if 1 = 0 then 0 else 1)) h) 6 [some (.ref f), some (.int x1), some (.int x2), some (.int x3), some (.int x4), some (.int x5), some (.int (x6 + 1)), none] [])))) ∧ (¬ x5 ≤ 64 → Q (some (.int 0)) h)))) ∧ (¬ (xI h (f + 2) x6.toNatClampNeg) ≤ (-5) → (x5 < 64 → (vp_in x5 64) ∧ (XW (xrm 3 0 0) mX0_value (xE n Q X 0 0) n 0 0 (xSI (f + 3) (va_up (xI h (f + 3)) x5.toNatClampNeg (opval (xI h (f + 2) x6.toNatClampNeg) x1 x2 x3 x4)) h) 6 [some (.ref f), some (.int x1), some (.int x2), some (.int x3), some (.int x4), some (.int (x5 + 1)), some (.int (x6 + 1)), none] [])) ∧ (¬ x5 < 64 → Q (some (.int 0)) h)))))) :
    XW (xrm 3 0 0) mX0_value (xE n Q X 0 0) n 0 0 h 6 [some (.ref f), some (.int x1), some (.int x2), some (.int x3), some (.int x4), some (.int x5), some (.int x6), none] [] := by
  rcases hf.1 with rfl | rfl
  · refine xi_iload (by decide +kernel : decode mX0_value.2.1 6 = .ok (.iload 6, 2)) rfl (?_ : XW _ _ _ _ _ _ _ 8 _ _)
    refine xi_aload_n (by decide +kernel : decode mX0_value.2.1 8 = .ok (.aload_n 0, 1)) rfl rfl (?_ : XW _ _ _ _ _ _ _ 9 _ _)
    refine xi_getI (by decide +kernel : decode mX0_value.2.1 9 = .ok (.getfield 30, 3)) fX0_30 rfl (by omega) rfl (?_ : XW _ _ _ _ _ _ _ 12 _ _)
    refine xi_icmp_ge (by decide +kernel : decode mX0_value.2.1 12 = .ok (.if_icmp .ge 178, 3)) (by decide) (fun c => (?_ : XW _ _ _ _ _ _ _ 190 _ _)) (fun c => (?_ : XW _ _ _ _ _ _ _ 15 _ _))
    · replace vc := vc.1 c
      refine xi_aload_n (by decide +kernel : decode mX0_value.2.1 190 = .ok (.aload_n 0, 1)) rfl rfl (?_ : XW _ _ _ _ _ _ _ 191 _ _)
      refine xi_getR (y := 6) (by decide +kernel : decode mX0_value.2.1 191 = .ok (.getfield 19, 3)) fX0_19 rfl (by omega) rfl hf.2.2.2 (?_ : XW _ _ _ _ _ _ _ 194 _ _)
      refine xi_iconst (v := 0) (by decide +kernel : decode mX0_value.2.1 194 = .ok (.iconst 0, 1)) (by decide) (?_ : XW _ _ _ _ _ _ _ 195 _ _)
      refine xi_iald (by decide +kernel : decode mX0_value.2.1 195 = .ok (.iaload, 1)) rfl (by omega) (by unfold vp_in; decide) (?_ : XW _ _ _ _ _ _ _ 196 _ [.int (xI h (6) 0)])
      exact xi_iret (by decide +kernel : decode mX0_value.2.1 196 = .ok (.ireturn, 1)) rfl rfl vc
    · replace vc := vc.2 c
      refine xi_iload (by decide +kernel : decode mX0_value.2.1 15 = .ok (.iload 6, 2)) rfl (?_ : XW _ _ _ _ _ _ _ 17 _ _)
      refine xi_aload_n (by decide +kernel : decode mX0_value.2.1 17 = .ok (.aload_n 0, 1)) rfl rfl (?_ : XW _ _ _ _ _ _ _ 18 _ _)
      refine xi_getR (y := 5) (by decide +kernel : decode mX0_value.2.1 18 = .ok (.getfield 15, 3)) fX0_15 rfl (by omega) rfl hf.2.2.1 (?_ : XW _ _ _ _ _ _ _ 21 _ _)
      refine xi_alen (v := 500) (by decide +kernel : decode mX0_value.2.1 21 = .ok (.arraylength, 1)) rfl (by omega) (Or.inl rfl) rfl (?_ : XW _ _ _ _ _ _ _ 22 _ _)
      refine xi_icmp_ge (by decide +kernel : decode mX0_value.2.1 22 = .ok (.if_icmp .ge 168, 3)) (by decide) (fun c => (?_ : XW _ _ _ _ _ _ _ 190 _ _)) (fun c => (?_ : XW _ _ _ _ _ _ _ 25 _ _))
      · replace vc := vc.1 c
        refine xi_aload_n (by decide +kernel : decode mX0_value.2.1 190 = .ok (.aload_n 0, 1)) rfl rfl (?_ : XW _ _ _ _ _ _ _ 191 _ _)
        refine xi_getR (y := 6) (by decide +kernel : decode mX0_value.2.1 191 = .ok (.getfield 19, 3)) fX0_19 rfl (by omega) rfl hf.2.2.2 (?_ : XW _ _ _ _ _ _ _ 194 _ _)
        refine xi_iconst (v := 0) (by decide +kernel : decode mX0_value.2.1 194 = .ok (.iconst 0, 1)) (by decide) (?_ : XW _ _ _ _ _ _ _ 195 _ _)
        refine xi_iald (by decide +kernel : decode mX0_value.2.1 195 = .ok (.iaload, 1)) rfl (by omega) (by unfold vp_in; decide) (?_ : XW _ _ _ _ _ _ _ 196 _ [.int (xI h (6) 0)])
        exact xi_iret (by decide +kernel : decode mX0_value.2.1 196 = .ok (.ireturn, 1)) rfl rfl vc
      · replace vc := vc.2 c
        refine xi_aload_n (by decide +kernel : decode mX0_value.2.1 25 = .ok (.aload_n 0, 1)) rfl rfl (?_ : XW _ _ _ _ _ _ _ 26 _ _)
        refine xi_getR (y := 5) (by decide +kernel : decode mX0_value.2.1 26 = .ok (.getfield 15, 3)) fX0_15 rfl (by omega) rfl hf.2.2.1 (?_ : XW _ _ _ _ _ _ _ 29 _ _)
        refine xi_iload (by decide +kernel : decode mX0_value.2.1 29 = .ok (.iload 6, 2)) rfl (?_ : XW _ _ _ _ _ _ _ 31 _ _)
        obtain ⟨s1, vc⟩ := vc
        refine xi_iald (by decide +kernel : decode mX0_value.2.1 31 = .ok (.iaload, 1)) rfl (by omega) s1 (?_ : XW _ _ _ _ _ _ _ 32 _ _)
        refine xi_istore (ls' := [some (.ref 3), some (.int x1), some (.int x2), some (.int x3), some (.int x4), some (.int x5), some (.int x6), some (.int (xI h (5) x6.toNatClampNeg))]) (by decide +kernel : decode mX0_value.2.1 32 = .ok (.istore 7, 2)) (by decide) rfl (?_ : XW _ _ _ _ _ _ _ 34 _ _)
        refine xi_iload (by decide +kernel : decode mX0_value.2.1 34 = .ok (.iload 7, 2)) rfl (?_ : XW _ _ _ _ _ _ _ 36 _ _)
        refine xi_bipush (v := (-5)) (by decide +kernel : decode mX0_value.2.1 36 = .ok (.bipush (-5), 2)) (by decide) (?_ : XW _ _ _ _ _ _ _ 38 _ _)
        refine xi_icmp_le (by decide +kernel : decode mX0_value.2.1 38 = .ok (.if_icmp .le 38, 3)) (by decide) (fun c => (?_ : XW _ _ _ _ _ _ _ 76 _ _)) (fun c => (?_ : XW _ _ _ _ _ _ _ 41 _ _))
        · replace vc := vc.1 c
          refine xi_iload (by decide +kernel : decode mX0_value.2.1 76 = .ok (.iload 7, 2)) rfl (?_ : XW _ _ _ _ _ _ _ 78 _ _)
          refine xi_bipush (v := (-5)) (by decide +kernel : decode mX0_value.2.1 78 = .ok (.bipush (-5), 2)) (by decide) (?_ : XW _ _ _ _ _ _ _ 80 _ _)
          refine xi_icmp_ne (by decide +kernel : decode mX0_value.2.1 80 = .ok (.if_icmp .ne 53, 3)) (by decide) (fun c => (?_ : XW _ _ _ _ _ _ _ 133 _ _)) (fun c => (?_ : XW _ _ _ _ _ _ _ 83 _ _))
          · replace vc := vc.1 c
            refine xi_iload (by decide +kernel : decode mX0_value.2.1 133 = .ok (.iload 5, 2)) rfl (?_ : XW _ _ _ _ _ _ _ 135 _ _)
            refine xi_iconst (v := 2) (by decide +kernel : decode mX0_value.2.1 135 = .ok (.iconst 2, 1)) (by decide) (?_ : XW _ _ _ _ _ _ _ 136 _ _)
            refine xi_icmp_lt (by decide +kernel : decode mX0_value.2.1 136 = .ok (.if_icmp .lt 13, 3)) (by decide) (fun c => (?_ : XW _ _ _ _ _ _ _ 149 _ _)) (fun c => (?_ : XW _ _ _ _ _ _ _ 139 _ _))
            · replace vc := vc.1 c
              refine xi_iconst (v := 0) (by decide +kernel : decode mX0_value.2.1 149 = .ok (.iconst 0, 1)) (by decide) (?_ : XW _ _ _ _ _ _ _ 150 _ _)
              exact xi_iret (by decide +kernel : decode mX0_value.2.1 150 = .ok (.ireturn, 1)) rfl rfl vc
            · replace vc := vc.2 c
              refine xi_iload (by decide +kernel : decode mX0_value.2.1 139 = .ok (.iload 5, 2)) rfl (?_ : XW _ _ _ _ _ _ _ 141 _ _)
              refine xi_aload_n (by decide +kernel : decode mX0_value.2.1 141 = .ok (.aload_n 0, 1)) rfl rfl (?_ : XW _ _ _ _ _ _ _ 142 _ _)
              refine xi_getR (y := 6) (by decide +kernel : decode mX0_value.2.1 142 = .ok (.getfield 19, 3)) fX0_19 rfl (by omega) rfl hf.2.2.2 (?_ : XW _ _ _ _ _ _ _ 145 _ _)
              refine xi_alen (v := 64) (by decide +kernel : decode mX0_value.2.1 145 = .ok (.arraylength, 1)) rfl (by omega) (Or.inl rfl) rfl (?_ : XW _ _ _ _ _ _ _ 146 _ _)
              refine xi_icmp_le (by decide +kernel : decode mX0_value.2.1 146 = .ok (.if_icmp .le 5, 3)) (by decide) (fun c => (?_ : XW _ _ _ _ _ _ _ 151 _ _)) (fun c => (?_ : XW _ _ _ _ _ _ _ 149 _ _))
              · replace vc := vc.1 c
                refine xi_iinc (v := x5 + (-1)) (ls' := [some (.ref 3), some (.int x1), some (.int x2), some (.int x3), some (.int x4), some (.int (x5 + (-1))), some (.int x6), some (.int (xI h (5) x6.toNatClampNeg))]) (by decide +kernel : decode mX0_value.2.1 151 = .ok (.iinc 5 (-1), 3)) rfl rfl (by decide) rfl (?_ : XW _ _ _ _ _ _ _ 154 _ _)
                refine xi_aload_n (by decide +kernel : decode mX0_value.2.1 154 = .ok (.aload_n 0, 1)) rfl rfl (?_ : XW _ _ _ _ _ _ _ 155 _ _)
                refine xi_getR (y := 6) (by decide +kernel : decode mX0_value.2.1 155 = .ok (.getfield 19, 3)) fX0_19 rfl (by omega) rfl hf.2.2.2 (?_ : XW _ _ _ _ _ _ _ 158 _ _)
                refine xi_iload (by decide +kernel : decode mX0_value.2.1 158 = .ok (.iload 5, 2)) rfl (?_ : XW _ _ _ _ _ _ _ 160 _ _)
                refine xi_iconst (v := 1) (by decide +kernel : decode mX0_value.2.1 160 = .ok (.iconst 1, 1)) (by decide) (?_ : XW _ _ _ _ _ _ _ 161 _ _)
                refine xi_isub (by decide +kernel : decode mX0_value.2.1 161 = .ok (.isub, 1)) (?_ : XW _ _ _ _ _ _ _ 162 _ _)
                refine xi_iload (by decide +kernel : decode mX0_value.2.1 162 = .ok (.iload 7, 2)) rfl (?_ : XW _ _ _ _ _ _ _ 164 _ _)
                refine xi_aload_n (by decide +kernel : decode mX0_value.2.1 164 = .ok (.aload_n 0, 1)) rfl rfl (?_ : XW _ _ _ _ _ _ _ 165 _ _)
                refine xi_getR (y := 6) (by decide +kernel : decode mX0_value.2.1 165 = .ok (.getfield 19, 3)) fX0_19 rfl (by omega) rfl hf.2.2.2 (?_ : XW _ _ _ _ _ _ _ 168 _ _)
                refine xi_iload (by decide +kernel : decode mX0_value.2.1 168 = .ok (.iload 5, 2)) rfl (?_ : XW _ _ _ _ _ _ _ 170 _ _)
                refine xi_iconst (v := 1) (by decide +kernel : decode mX0_value.2.1 170 = .ok (.iconst 1, 1)) (by decide) (?_ : XW _ _ _ _ _ _ _ 171 _ _)
                refine xi_isub (by decide +kernel : decode mX0_value.2.1 171 = .ok (.isub, 1)) (?_ : XW _ _ _ _ _ _ _ 172 _ _)
                obtain ⟨s1, vc⟩ := vc
                refine xi_iald (by decide +kernel : decode mX0_value.2.1 172 = .ok (.iaload, 1)) rfl (by omega) s1 (?_ : XW _ _ _ _ _ _ _ 173 _ _)
                refine xi_aload_n (by decide +kernel : decode mX0_value.2.1 173 = .ok (.aload_n 0, 1)) rfl rfl (?_ : XW _ _ _ _ _ _ _ 174 _ _)
                refine xi_getR (y := 6) (by decide +kernel : decode mX0_value.2.1 174 = .ok (.getfield 19, 3)) fX0_19 rfl (by omega) rfl hf.2.2.2 (?_ : XW _ _ _ _ _ _ _ 177 _ _)
                refine xi_iload (by decide +kernel : decode mX0_value.2.1 177 = .ok (.iload 5, 2)) rfl (?_ : XW _ _ _ _ _ _ _ 179 _ _)
                obtain ⟨s1, vc⟩ := vc
                refine xi_iald (by decide +kernel : decode mX0_value.2.1 179 = .ok (.iaload, 1)) rfl (by omega) s1 (?_ : XW _ _ _ _ _ _ _ 180 _ _)
                refine xi_callS (b := 0) (bs := 0) (As := [.int (xI h (5) x6.toNatClampNeg), .int (xI h (6) ((x5 + (-1)) - 1).toNatClampNeg), .int (xI h (6) (x5 + (-1)).toNatClampNeg)]) (st := [.int ((x5 + (-1)) - 1), .ref (6)]) (by decide +kernel : decode mX0_value.2.1 180 = .ok (.invokestatic 58, 3)) kX0_58 rfl rfl (s_X0_joined n h (xI h (5) x6.toNatClampNeg) (xI h (6) ((x5 + (-1)) - 1).toNatClampNeg) (xI h (6) (x5 + (-1)).toNatClampNeg)) (by decide) (by decide) (Nat.le_of_ble_eq_true rfl) (by omega) (fun v9 h9 hq9 => ?_)
                rw [hq9.1, hq9.2]
                show XW _ _ _ _ _ _ _ 183 _ [.int (binop (xI h (5) x6.toNatClampNeg) (xI h (6) ((x5 + (-1)) - 1).toNatClampNeg) (xI h (6) (x5 + (-1)).toNatClampNeg)), .int ((x5 + (-1)) - 1), .ref (6)]
                obtain ⟨s1, vc⟩ := vc
                refine xi_iast (by decide +kernel : decode mX0_value.2.1 183 = .ok (.iastore, 1)) rfl (by omega) s1 (?_ : XW _ _ _ _ _ _ (xSI (6) (va_up (xI h (6)) ((x5 + (-1)) - 1).toNatClampNeg (binop (xI h (5) x6.toNatClampNeg) (xI h (6) ((x5 + (-1)) - 1).toNatClampNeg) (xI h (6) (x5 + (-1)).toNatClampNeg))) h) 184 _ _)
                refine xi_iinc (v := x6 + 1) (ls' := [some (.ref 3), some (.int x1), some (.int x2), some (.int x3), some (.int x4), some (.int (x5 + (-1))), some (.int (x6 + 1)), some (.int (xI h (5) x6.toNatClampNeg))]) (by decide +kernel : decode mX0_value.2.1 184 = .ok (.iinc 6 1, 3)) rfl rfl (by decide) rfl (?_ : XW _ _ _ _ _ _ _ 187 _ _)
                refine xi_goto (by decide +kernel : decode mX0_value.2.1 187 = .ok (.goto (-181), 3)) (by decide) (?_ : XW _ _ _ _ _ _ _ 6 _ _)
                refine xw_drop 7 (ls' := [some (.ref 3), some (.int x1), some (.int x2), some (.int x3), some (.int x4), some (.int (x5 + (-1))), some (.int (x6 + 1)), none]) rfl ?_
                exact vc
              · replace vc := vc.2 c
                refine xi_iconst (v := 0) (by decide +kernel : decode mX0_value.2.1 149 = .ok (.iconst 0, 1)) (by decide) (?_ : XW _ _ _ _ _ _ _ 150 _ _)
                exact xi_iret (by decide +kernel : decode mX0_value.2.1 150 = .ok (.ireturn, 1)) rfl rfl vc
          · replace vc := vc.2 c
            refine xi_iload (by decide +kernel : decode mX0_value.2.1 83 = .ok (.iload 5, 2)) rfl (?_ : XW _ _ _ _ _ _ _ 85 _ _)
            refine xi_iconst (v := 1) (by decide +kernel : decode mX0_value.2.1 85 = .ok (.iconst 1, 1)) (by decide) (?_ : XW _ _ _ _ _ _ _ 86 _ _)
            refine xi_icmp_lt (by decide +kernel : decode mX0_value.2.1 86 = .ok (.if_icmp .lt 13, 3)) (by decide) (fun c => (?_ : XW _ _ _ _ _ _ _ 99 _ _)) (fun c => (?_ : XW _ _ _ _ _ _ _ 89 _ _))
            · replace vc := vc.1 c
              refine xi_iconst (v := 0) (by decide +kernel : decode mX0_value.2.1 99 = .ok (.iconst 0, 1)) (by decide) (?_ : XW _ _ _ _ _ _ _ 100 _ _)
              exact xi_iret (by decide +kernel : decode mX0_value.2.1 100 = .ok (.ireturn, 1)) rfl rfl vc
            · replace vc := vc.2 c
              refine xi_iload (by decide +kernel : decode mX0_value.2.1 89 = .ok (.iload 5, 2)) rfl (?_ : XW _ _ _ _ _ _ _ 91 _ _)
              refine xi_aload_n (by decide +kernel : decode mX0_value.2.1 91 = .ok (.aload_n 0, 1)) rfl rfl (?_ : XW _ _ _ _ _ _ _ 92 _ _)
              refine xi_getR (y := 6) (by decide +kernel : decode mX0_value.2.1 92 = .ok (.getfield 19, 3)) fX0_19 rfl (by omega) rfl hf.2.2.2 (?_ : XW _ _ _ _ _ _ _ 95 _ _)
              refine xi_alen (v := 64) (by decide +kernel : decode mX0_value.2.1 95 = .ok (.arraylength, 1)) rfl (by omega) (Or.inl rfl) rfl (?_ : XW _ _ _ _ _ _ _ 96 _ _)
              refine xi_icmp_le (by decide +kernel : decode mX0_value.2.1 96 = .ok (.if_icmp .le 5, 3)) (by decide) (fun c => (?_ : XW _ _ _ _ _ _ _ 101 _ _)) (fun c => (?_ : XW _ _ _ _ _ _ _ 99 _ _))
              · replace vc := vc.1 c
                refine xi_aload_n (by decide +kernel : decode mX0_value.2.1 101 = .ok (.aload_n 0, 1)) rfl rfl (?_ : XW _ _ _ _ _ _ _ 102 _ _)
                refine xi_getR (y := 6) (by decide +kernel : decode mX0_value.2.1 102 = .ok (.getfield 19, 3)) fX0_19 rfl (by omega) rfl hf.2.2.2 (?_ : XW _ _ _ _ _ _ _ 105 _ _)
                refine xi_iload (by decide +kernel : decode mX0_value.2.1 105 = .ok (.iload 5, 2)) rfl (?_ : XW _ _ _ _ _ _ _ 107 _ _)
                refine xi_iconst (v := 1) (by decide +kernel : decode mX0_value.2.1 107 = .ok (.iconst 1, 1)) (by decide) (?_ : XW _ _ _ _ _ _ _ 108 _ _)
                refine xi_isub (by decide +kernel : decode mX0_value.2.1 108 = .ok (.isub, 1)) (?_ : XW _ _ _ _ _ _ _ 109 _ _)
                refine xi_aload_n (by decide +kernel : decode mX0_value.2.1 109 = .ok (.aload_n 0, 1)) rfl rfl (?_ : XW _ _ _ _ _ _ _ 110 _ _)
                refine xi_getR (y := 6) (by decide +kernel : decode mX0_value.2.1 110 = .ok (.getfield 19, 3)) fX0_19 rfl (by omega) rfl hf.2.2.2 (?_ : XW _ _ _ _ _ _ _ 113 _ _)
                refine xi_iload (by decide +kernel : decode mX0_value.2.1 113 = .ok (.iload 5, 2)) rfl (?_ : XW _ _ _ _ _ _ _ 115 _ _)
                refine xi_iconst (v := 1) (by decide +kernel : decode mX0_value.2.1 115 = .ok (.iconst 1, 1)) (by decide) (?_ : XW _ _ _ _ _ _ _ 116 _ _)
                refine xi_isub (by decide +kernel : decode mX0_value.2.1 116 = .ok (.isub, 1)) (?_ : XW _ _ _ _ _ _ _ 117 _ _)
                obtain ⟨s1, vc⟩ := vc
                refine xi_iald (by decide +kernel : decode mX0_value.2.1 117 = .ok (.iaload, 1)) rfl (by omega) s1 (?_ : XW _ _ _ _ _ _ _ 118 _ _)
                refine xi_if_ne (by decide +kernel : decode mX0_value.2.1 118 = .ok (.ifCond .ne 7, 3)) (by decide) (fun c => (?_ : XW _ _ _ _ _ _ _ 125 _ _)) (fun c => (?_ : XW _ _ _ _ _ _ _ 121 _ _))
                · replace vc := vc.1 c
                  refine xi_iconst (v := 0) (by decide +kernel : decode mX0_value.2.1 125 = .ok (.iconst 0, 1)) (by decide) (?_ : XW _ _ _ _ _ _ _ 126 _ _)
                  refine xi_callS (b := 0) (bs := 0) (As := [.int 0]) (st := [.int (x5 - 1), .ref (6)]) (by decide +kernel : decode mX0_value.2.1 126 = .ok (.invokestatic 54, 3)) kX0_54 rfl rfl (s_X0_holds n h 0) (by decide) (by decide) (Nat.le_of_ble_eq_true rfl) (by omega) (fun v9 h9 hq9 => ?_)
                  rw [hq9.1, hq9.2]
                  show XW _ _ _ _ _ _ _ 129 _ [.int (if 0 = 0 then 0 else 1), .int (x5 - 1), .ref (6)]
                  obtain ⟨s1, vc⟩ := vc
                  refine xi_iast (by decide +kernel : decode mX0_value.2.1 129 = .ok (.iastore, 1)) rfl (by omega) s1 (?_ : XW _ _ _ _ _ _ (xSI (6) (va_up (xI h (6)) (x5 - 1).toNatClampNeg (if 0 = 0 then 0 else 1)) h) 130 _ _)
                  refine xi_goto (by decide +kernel : decode mX0_value.2.1 130 = .ok (.goto 54, 3)) (by decide) (?_ : XW _ _ _ _ _ _ _ 184 _ _)
                  refine xi_iinc (v := x6 + 1) (ls' := [some (.ref 3), some (.int x1), some (.int x2), some (.int x3), some (.int x4), some (.int x5), some (.int (x6 + 1)), some (.int (xI h (5) x6.toNatClampNeg))]) (by decide +kernel : decode mX0_value.2.1 184 = .ok (.iinc 6 1, 3)) rfl rfl (by decide) rfl (?_ : XW _ _ _ _ _ _ _ 187 _ _)
                  refine xi_goto (by decide +kernel : decode mX0_value.2.1 187 = .ok (.goto (-181), 3)) (by decide) (?_ : XW _ _ _ _ _ _ _ 6 _ _)
                  refine xw_drop 7 (ls' := [some (.ref 3), some (.int x1), some (.int x2), some (.int x3), some (.int x4), some (.int x5), some (.int (x6 + 1)), none]) rfl ?_
                  exact vc
                · replace vc := vc.2 c
                  refine xi_iconst (v := 1) (by decide +kernel : decode mX0_value.2.1 121 = .ok (.iconst 1, 1)) (by decide) (?_ : XW _ _ _ _ _ _ _ 122 _ _)
                  refine xi_goto (by decide +kernel : decode mX0_value.2.1 122 = .ok (.goto 4, 3)) (by decide) (?_ : XW _ _ _ _ _ _ _ 126 _ _)
                  refine xi_callS (b := 0) (bs := 0) (As := [.int 1]) (st := [.int (x5 - 1), .ref (6)]) (by decide +kernel : decode mX0_value.2.1 126 = .ok (.invokestatic 54, 3)) kX0_54 rfl rfl (s_X0_holds n h 1) (by decide) (by decide) (Nat.le_of_ble_eq_true rfl) (by omega) (fun v9 h9 hq9 => ?_)
                  rw [hq9.1, hq9.2]
                  show XW _ _ _ _ _ _ _ 129 _ [.int (if 1 = 0 then 0 else 1), .int (x5 - 1), .ref (6)]
                  obtain ⟨s1, vc⟩ := vc
                  refine xi_iast (by decide +kernel : decode mX0_value.2.1 129 = .ok (.iastore, 1)) rfl (by omega) s1 (?_ : XW _ _ _ _ _ _ (xSI (6) (va_up (xI h (6)) (x5 - 1).toNatClampNeg (if 1 = 0 then 0 else 1)) h) 130 _ _)
                  refine xi_goto (by decide +kernel : decode mX0_value.2.1 130 = .ok (.goto 54, 3)) (by decide) (?_ : XW _ _ _ _ _ _ _ 184 _ _)
                  refine xi_iinc (v := x6 + 1) (ls' := [some (.ref 3), some (.int x1), some (.int x2), some (.int x3), some (.int x4), some (.int x5), some (.int (x6 + 1)), some (.int (xI h (5) x6.toNatClampNeg))]) (by decide +kernel : decode mX0_value.2.1 184 = .ok (.iinc 6 1, 3)) rfl rfl (by decide) rfl (?_ : XW _ _ _ _ _ _ _ 187 _ _)
                  refine xi_goto (by decide +kernel : decode mX0_value.2.1 187 = .ok (.goto (-181), 3)) (by decide) (?_ : XW _ _ _ _ _ _ _ 6 _ _)
                  refine xw_drop 7 (ls' := [some (.ref 3), some (.int x1), some (.int x2), some (.int x3), some (.int x4), some (.int x5), some (.int (x6 + 1)), none]) rfl ?_
                  exact vc
              · replace vc := vc.2 c
                refine xi_iconst (v := 0) (by decide +kernel : decode mX0_value.2.1 99 = .ok (.iconst 0, 1)) (by decide) (?_ : XW _ _ _ _ _ _ _ 100 _ _)
                exact xi_iret (by decide +kernel : decode mX0_value.2.1 100 = .ok (.ireturn, 1)) rfl rfl vc
        · replace vc := vc.2 c
          refine xi_iload (by decide +kernel : decode mX0_value.2.1 41 = .ok (.iload 5, 2)) rfl (?_ : XW _ _ _ _ _ _ _ 43 _ _)
          refine xi_aload_n (by decide +kernel : decode mX0_value.2.1 43 = .ok (.aload_n 0, 1)) rfl rfl (?_ : XW _ _ _ _ _ _ _ 44 _ _)
          refine xi_getR (y := 6) (by decide +kernel : decode mX0_value.2.1 44 = .ok (.getfield 19, 3)) fX0_19 rfl (by omega) rfl hf.2.2.2 (?_ : XW _ _ _ _ _ _ _ 47 _ _)
          refine xi_alen (v := 64) (by decide +kernel : decode mX0_value.2.1 47 = .ok (.arraylength, 1)) rfl (by omega) (Or.inl rfl) rfl (?_ : XW _ _ _ _ _ _ _ 48 _ _)
          refine xi_icmp_lt (by decide +kernel : decode mX0_value.2.1 48 = .ok (.if_icmp .lt 5, 3)) (by decide) (fun c => (?_ : XW _ _ _ _ _ _ _ 53 _ _)) (fun c => (?_ : XW _ _ _ _ _ _ _ 51 _ _))
          · replace vc := vc.1 c
            refine xi_aload_n (by decide +kernel : decode mX0_value.2.1 53 = .ok (.aload_n 0, 1)) rfl rfl (?_ : XW _ _ _ _ _ _ _ 54 _ _)
            refine xi_getR (y := 6) (by decide +kernel : decode mX0_value.2.1 54 = .ok (.getfield 19, 3)) fX0_19 rfl (by omega) rfl hf.2.2.2 (?_ : XW _ _ _ _ _ _ _ 57 _ _)
            refine xi_iload (by decide +kernel : decode mX0_value.2.1 57 = .ok (.iload 5, 2)) rfl (?_ : XW _ _ _ _ _ _ _ 59 _ _)
            refine xi_iload (by decide +kernel : decode mX0_value.2.1 59 = .ok (.iload 7, 2)) rfl (?_ : XW _ _ _ _ _ _ _ 61 _ _)
            refine xi_iload_n (by decide +kernel : decode mX0_value.2.1 61 = .ok (.iload_n 1, 1)) rfl rfl (?_ : XW _ _ _ _ _ _ _ 62 _ _)
            refine xi_iload_n (by decide +kernel : decode mX0_value.2.1 62 = .ok (.iload_n 2, 1)) rfl rfl (?_ : XW _ _ _ _ _ _ _ 63 _ _)
            refine xi_iload_n (by decide +kernel : decode mX0_value.2.1 63 = .ok (.iload_n 3, 1)) rfl rfl (?_ : XW _ _ _ _ _ _ _ 64 _ _)
            refine xi_iload (by decide +kernel : decode mX0_value.2.1 64 = .ok (.iload 4, 2)) rfl (?_ : XW _ _ _ _ _ _ _ 66 _ _)
            refine xi_callS (b := 0) (bs := 0) (As := [.int (xI h (5) x6.toNatClampNeg), .int x1, .int x2, .int x3, .int x4]) (st := [.int x5, .ref (6)]) (by decide +kernel : decode mX0_value.2.1 66 = .ok (.invokestatic 50, 3)) kX0_50 rfl rfl (s_X0_operand n h (xI h (5) x6.toNatClampNeg) x1 x2 x3 x4) (by decide) (by decide) (Nat.le_of_ble_eq_true rfl) (by omega) (fun v9 h9 hq9 => ?_)
            rw [hq9.1, hq9.2]
            show XW _ _ _ _ _ _ _ 69 _ [.int (opval (xI h (5) x6.toNatClampNeg) x1 x2 x3 x4), .int x5, .ref (6)]
            obtain ⟨s1, vc⟩ := vc
            refine xi_iast (by decide +kernel : decode mX0_value.2.1 69 = .ok (.iastore, 1)) rfl (by omega) s1 (?_ : XW _ _ _ _ _ _ (xSI (6) (va_up (xI h (6)) x5.toNatClampNeg (opval (xI h (5) x6.toNatClampNeg) x1 x2 x3 x4)) h) 70 _ _)
            refine xi_iinc (v := x5 + 1) (ls' := [some (.ref 3), some (.int x1), some (.int x2), some (.int x3), some (.int x4), some (.int (x5 + 1)), some (.int x6), some (.int (xI h (5) x6.toNatClampNeg))]) (by decide +kernel : decode mX0_value.2.1 70 = .ok (.iinc 5 1, 3)) rfl rfl (by decide) rfl (?_ : XW _ _ _ _ _ _ _ 73 _ _)
            refine xi_goto (by decide +kernel : decode mX0_value.2.1 73 = .ok (.goto 111, 3)) (by decide) (?_ : XW _ _ _ _ _ _ _ 184 _ _)
            refine xi_iinc (v := x6 + 1) (ls' := [some (.ref 3), some (.int x1), some (.int x2), some (.int x3), some (.int x4), some (.int (x5 + 1)), some (.int (x6 + 1)), some (.int (xI h (5) x6.toNatClampNeg))]) (by decide +kernel : decode mX0_value.2.1 184 = .ok (.iinc 6 1, 3)) rfl rfl (by decide) rfl (?_ : XW _ _ _ _ _ _ _ 187 _ _)
            refine xi_goto (by decide +kernel : decode mX0_value.2.1 187 = .ok (.goto (-181), 3)) (by decide) (?_ : XW _ _ _ _ _ _ _ 6 _ _)
            refine xw_drop 7 (ls' := [some (.ref 3), some (.int x1), some (.int x2), some (.int x3), some (.int x4), some (.int (x5 + 1)), some (.int (x6 + 1)), none]) rfl ?_
            exact vc
          · replace vc := vc.2 c
            refine xi_iconst (v := 0) (by decide +kernel : decode mX0_value.2.1 51 = .ok (.iconst 0, 1)) (by decide) (?_ : XW _ _ _ _ _ _ _ 52 _ _)
            exact xi_iret (by decide +kernel : decode mX0_value.2.1 52 = .ok (.ireturn, 1)) rfl rfl vc
  · refine xi_iload (by decide +kernel : decode mX0_value.2.1 6 = .ok (.iload 6, 2)) rfl (?_ : XW _ _ _ _ _ _ _ 8 _ _)
    refine xi_aload_n (by decide +kernel : decode mX0_value.2.1 8 = .ok (.aload_n 0, 1)) rfl rfl (?_ : XW _ _ _ _ _ _ _ 9 _ _)
    refine xi_getI (by decide +kernel : decode mX0_value.2.1 9 = .ok (.getfield 30, 3)) fX0_30 rfl (by omega) rfl (?_ : XW _ _ _ _ _ _ _ 12 _ _)
    refine xi_icmp_ge (by decide +kernel : decode mX0_value.2.1 12 = .ok (.if_icmp .ge 178, 3)) (by decide) (fun c => (?_ : XW _ _ _ _ _ _ _ 190 _ _)) (fun c => (?_ : XW _ _ _ _ _ _ _ 15 _ _))
    · replace vc := vc.1 c
      refine xi_aload_n (by decide +kernel : decode mX0_value.2.1 190 = .ok (.aload_n 0, 1)) rfl rfl (?_ : XW _ _ _ _ _ _ _ 191 _ _)
      refine xi_getR (y := 16) (by decide +kernel : decode mX0_value.2.1 191 = .ok (.getfield 19, 3)) fX0_19 rfl (by omega) rfl hf.2.2.2 (?_ : XW _ _ _ _ _ _ _ 194 _ _)
      refine xi_iconst (v := 0) (by decide +kernel : decode mX0_value.2.1 194 = .ok (.iconst 0, 1)) (by decide) (?_ : XW _ _ _ _ _ _ _ 195 _ _)
      refine xi_iald (by decide +kernel : decode mX0_value.2.1 195 = .ok (.iaload, 1)) rfl (by omega) (by unfold vp_in; decide) (?_ : XW _ _ _ _ _ _ _ 196 _ [.int (xI h (16) 0)])
      exact xi_iret (by decide +kernel : decode mX0_value.2.1 196 = .ok (.ireturn, 1)) rfl rfl vc
    · replace vc := vc.2 c
      refine xi_iload (by decide +kernel : decode mX0_value.2.1 15 = .ok (.iload 6, 2)) rfl (?_ : XW _ _ _ _ _ _ _ 17 _ _)
      refine xi_aload_n (by decide +kernel : decode mX0_value.2.1 17 = .ok (.aload_n 0, 1)) rfl rfl (?_ : XW _ _ _ _ _ _ _ 18 _ _)
      refine xi_getR (y := 15) (by decide +kernel : decode mX0_value.2.1 18 = .ok (.getfield 15, 3)) fX0_15 rfl (by omega) rfl hf.2.2.1 (?_ : XW _ _ _ _ _ _ _ 21 _ _)
      refine xi_alen (v := 500) (by decide +kernel : decode mX0_value.2.1 21 = .ok (.arraylength, 1)) rfl (by omega) (Or.inl rfl) rfl (?_ : XW _ _ _ _ _ _ _ 22 _ _)
      refine xi_icmp_ge (by decide +kernel : decode mX0_value.2.1 22 = .ok (.if_icmp .ge 168, 3)) (by decide) (fun c => (?_ : XW _ _ _ _ _ _ _ 190 _ _)) (fun c => (?_ : XW _ _ _ _ _ _ _ 25 _ _))
      · replace vc := vc.1 c
        refine xi_aload_n (by decide +kernel : decode mX0_value.2.1 190 = .ok (.aload_n 0, 1)) rfl rfl (?_ : XW _ _ _ _ _ _ _ 191 _ _)
        refine xi_getR (y := 16) (by decide +kernel : decode mX0_value.2.1 191 = .ok (.getfield 19, 3)) fX0_19 rfl (by omega) rfl hf.2.2.2 (?_ : XW _ _ _ _ _ _ _ 194 _ _)
        refine xi_iconst (v := 0) (by decide +kernel : decode mX0_value.2.1 194 = .ok (.iconst 0, 1)) (by decide) (?_ : XW _ _ _ _ _ _ _ 195 _ _)
        refine xi_iald (by decide +kernel : decode mX0_value.2.1 195 = .ok (.iaload, 1)) rfl (by omega) (by unfold vp_in; decide) (?_ : XW _ _ _ _ _ _ _ 196 _ [.int (xI h (16) 0)])
        exact xi_iret (by decide +kernel : decode mX0_value.2.1 196 = .ok (.ireturn, 1)) rfl rfl vc
      · replace vc := vc.2 c
        refine xi_aload_n (by decide +kernel : decode mX0_value.2.1 25 = .ok (.aload_n 0, 1)) rfl rfl (?_ : XW _ _ _ _ _ _ _ 26 _ _)
        refine xi_getR (y := 15) (by decide +kernel : decode mX0_value.2.1 26 = .ok (.getfield 15, 3)) fX0_15 rfl (by omega) rfl hf.2.2.1 (?_ : XW _ _ _ _ _ _ _ 29 _ _)
        refine xi_iload (by decide +kernel : decode mX0_value.2.1 29 = .ok (.iload 6, 2)) rfl (?_ : XW _ _ _ _ _ _ _ 31 _ _)
        obtain ⟨s1, vc⟩ := vc
        refine xi_iald (by decide +kernel : decode mX0_value.2.1 31 = .ok (.iaload, 1)) rfl (by omega) s1 (?_ : XW _ _ _ _ _ _ _ 32 _ _)
        refine xi_istore (ls' := [some (.ref 13), some (.int x1), some (.int x2), some (.int x3), some (.int x4), some (.int x5), some (.int x6), some (.int (xI h (15) x6.toNatClampNeg))]) (by decide +kernel : decode mX0_value.2.1 32 = .ok (.istore 7, 2)) (by decide) rfl (?_ : XW _ _ _ _ _ _ _ 34 _ _)
        refine xi_iload (by decide +kernel : decode mX0_value.2.1 34 = .ok (.iload 7, 2)) rfl (?_ : XW _ _ _ _ _ _ _ 36 _ _)
        refine xi_bipush (v := (-5)) (by decide +kernel : decode mX0_value.2.1 36 = .ok (.bipush (-5), 2)) (by decide) (?_ : XW _ _ _ _ _ _ _ 38 _ _)
        refine xi_icmp_le (by decide +kernel : decode mX0_value.2.1 38 = .ok (.if_icmp .le 38, 3)) (by decide) (fun c => (?_ : XW _ _ _ _ _ _ _ 76 _ _)) (fun c => (?_ : XW _ _ _ _ _ _ _ 41 _ _))
        · replace vc := vc.1 c
          refine xi_iload (by decide +kernel : decode mX0_value.2.1 76 = .ok (.iload 7, 2)) rfl (?_ : XW _ _ _ _ _ _ _ 78 _ _)
          refine xi_bipush (v := (-5)) (by decide +kernel : decode mX0_value.2.1 78 = .ok (.bipush (-5), 2)) (by decide) (?_ : XW _ _ _ _ _ _ _ 80 _ _)
          refine xi_icmp_ne (by decide +kernel : decode mX0_value.2.1 80 = .ok (.if_icmp .ne 53, 3)) (by decide) (fun c => (?_ : XW _ _ _ _ _ _ _ 133 _ _)) (fun c => (?_ : XW _ _ _ _ _ _ _ 83 _ _))
          · replace vc := vc.1 c
            refine xi_iload (by decide +kernel : decode mX0_value.2.1 133 = .ok (.iload 5, 2)) rfl (?_ : XW _ _ _ _ _ _ _ 135 _ _)
            refine xi_iconst (v := 2) (by decide +kernel : decode mX0_value.2.1 135 = .ok (.iconst 2, 1)) (by decide) (?_ : XW _ _ _ _ _ _ _ 136 _ _)
            refine xi_icmp_lt (by decide +kernel : decode mX0_value.2.1 136 = .ok (.if_icmp .lt 13, 3)) (by decide) (fun c => (?_ : XW _ _ _ _ _ _ _ 149 _ _)) (fun c => (?_ : XW _ _ _ _ _ _ _ 139 _ _))
            · replace vc := vc.1 c
              refine xi_iconst (v := 0) (by decide +kernel : decode mX0_value.2.1 149 = .ok (.iconst 0, 1)) (by decide) (?_ : XW _ _ _ _ _ _ _ 150 _ _)
              exact xi_iret (by decide +kernel : decode mX0_value.2.1 150 = .ok (.ireturn, 1)) rfl rfl vc
            · replace vc := vc.2 c
              refine xi_iload (by decide +kernel : decode mX0_value.2.1 139 = .ok (.iload 5, 2)) rfl (?_ : XW _ _ _ _ _ _ _ 141 _ _)
              refine xi_aload_n (by decide +kernel : decode mX0_value.2.1 141 = .ok (.aload_n 0, 1)) rfl rfl (?_ : XW _ _ _ _ _ _ _ 142 _ _)
              refine xi_getR (y := 16) (by decide +kernel : decode mX0_value.2.1 142 = .ok (.getfield 19, 3)) fX0_19 rfl (by omega) rfl hf.2.2.2 (?_ : XW _ _ _ _ _ _ _ 145 _ _)
              refine xi_alen (v := 64) (by decide +kernel : decode mX0_value.2.1 145 = .ok (.arraylength, 1)) rfl (by omega) (Or.inl rfl) rfl (?_ : XW _ _ _ _ _ _ _ 146 _ _)
              refine xi_icmp_le (by decide +kernel : decode mX0_value.2.1 146 = .ok (.if_icmp .le 5, 3)) (by decide) (fun c => (?_ : XW _ _ _ _ _ _ _ 151 _ _)) (fun c => (?_ : XW _ _ _ _ _ _ _ 149 _ _))
              · replace vc := vc.1 c
                refine xi_iinc (v := x5 + (-1)) (ls' := [some (.ref 13), some (.int x1), some (.int x2), some (.int x3), some (.int x4), some (.int (x5 + (-1))), some (.int x6), some (.int (xI h (15) x6.toNatClampNeg))]) (by decide +kernel : decode mX0_value.2.1 151 = .ok (.iinc 5 (-1), 3)) rfl rfl (by decide) rfl (?_ : XW _ _ _ _ _ _ _ 154 _ _)
                refine xi_aload_n (by decide +kernel : decode mX0_value.2.1 154 = .ok (.aload_n 0, 1)) rfl rfl (?_ : XW _ _ _ _ _ _ _ 155 _ _)
                refine xi_getR (y := 16) (by decide +kernel : decode mX0_value.2.1 155 = .ok (.getfield 19, 3)) fX0_19 rfl (by omega) rfl hf.2.2.2 (?_ : XW _ _ _ _ _ _ _ 158 _ _)
                refine xi_iload (by decide +kernel : decode mX0_value.2.1 158 = .ok (.iload 5, 2)) rfl (?_ : XW _ _ _ _ _ _ _ 160 _ _)
                refine xi_iconst (v := 1) (by decide +kernel : decode mX0_value.2.1 160 = .ok (.iconst 1, 1)) (by decide) (?_ : XW _ _ _ _ _ _ _ 161 _ _)
                refine xi_isub (by decide +kernel : decode mX0_value.2.1 161 = .ok (.isub, 1)) (?_ : XW _ _ _ _ _ _ _ 162 _ _)
                refine xi_iload (by decide +kernel : decode mX0_value.2.1 162 = .ok (.iload 7, 2)) rfl (?_ : XW _ _ _ _ _ _ _ 164 _ _)
                refine xi_aload_n (by decide +kernel : decode mX0_value.2.1 164 = .ok (.aload_n 0, 1)) rfl rfl (?_ : XW _ _ _ _ _ _ _ 165 _ _)
                refine xi_getR (y := 16) (by decide +kernel : decode mX0_value.2.1 165 = .ok (.getfield 19, 3)) fX0_19 rfl (by omega) rfl hf.2.2.2 (?_ : XW _ _ _ _ _ _ _ 168 _ _)
                refine xi_iload (by decide +kernel : decode mX0_value.2.1 168 = .ok (.iload 5, 2)) rfl (?_ : XW _ _ _ _ _ _ _ 170 _ _)
                refine xi_iconst (v := 1) (by decide +kernel : decode mX0_value.2.1 170 = .ok (.iconst 1, 1)) (by decide) (?_ : XW _ _ _ _ _ _ _ 171 _ _)
                refine xi_isub (by decide +kernel : decode mX0_value.2.1 171 = .ok (.isub, 1)) (?_ : XW _ _ _ _ _ _ _ 172 _ _)
                obtain ⟨s1, vc⟩ := vc
                refine xi_iald (by decide +kernel : decode mX0_value.2.1 172 = .ok (.iaload, 1)) rfl (by omega) s1 (?_ : XW _ _ _ _ _ _ _ 173 _ _)
                refine xi_aload_n (by decide +kernel : decode mX0_value.2.1 173 = .ok (.aload_n 0, 1)) rfl rfl (?_ : XW _ _ _ _ _ _ _ 174 _ _)
                refine xi_getR (y := 16) (by decide +kernel : decode mX0_value.2.1 174 = .ok (.getfield 19, 3)) fX0_19 rfl (by omega) rfl hf.2.2.2 (?_ : XW _ _ _ _ _ _ _ 177 _ _)
                refine xi_iload (by decide +kernel : decode mX0_value.2.1 177 = .ok (.iload 5, 2)) rfl (?_ : XW _ _ _ _ _ _ _ 179 _ _)
                obtain ⟨s1, vc⟩ := vc
                refine xi_iald (by decide +kernel : decode mX0_value.2.1 179 = .ok (.iaload, 1)) rfl (by omega) s1 (?_ : XW _ _ _ _ _ _ _ 180 _ _)
                refine xi_callS (b := 0) (bs := 0) (As := [.int (xI h (15) x6.toNatClampNeg), .int (xI h (16) ((x5 + (-1)) - 1).toNatClampNeg), .int (xI h (16) (x5 + (-1)).toNatClampNeg)]) (st := [.int ((x5 + (-1)) - 1), .ref (16)]) (by decide +kernel : decode mX0_value.2.1 180 = .ok (.invokestatic 58, 3)) kX0_58 rfl rfl (s_X0_joined n h (xI h (15) x6.toNatClampNeg) (xI h (16) ((x5 + (-1)) - 1).toNatClampNeg) (xI h (16) (x5 + (-1)).toNatClampNeg)) (by decide) (by decide) (Nat.le_of_ble_eq_true rfl) (by omega) (fun v9 h9 hq9 => ?_)
                rw [hq9.1, hq9.2]
                show XW _ _ _ _ _ _ _ 183 _ [.int (binop (xI h (15) x6.toNatClampNeg) (xI h (16) ((x5 + (-1)) - 1).toNatClampNeg) (xI h (16) (x5 + (-1)).toNatClampNeg)), .int ((x5 + (-1)) - 1), .ref (16)]
                obtain ⟨s1, vc⟩ := vc
                refine xi_iast (by decide +kernel : decode mX0_value.2.1 183 = .ok (.iastore, 1)) rfl (by omega) s1 (?_ : XW _ _ _ _ _ _ (xSI (16) (va_up (xI h (16)) ((x5 + (-1)) - 1).toNatClampNeg (binop (xI h (15) x6.toNatClampNeg) (xI h (16) ((x5 + (-1)) - 1).toNatClampNeg) (xI h (16) (x5 + (-1)).toNatClampNeg))) h) 184 _ _)
                refine xi_iinc (v := x6 + 1) (ls' := [some (.ref 13), some (.int x1), some (.int x2), some (.int x3), some (.int x4), some (.int (x5 + (-1))), some (.int (x6 + 1)), some (.int (xI h (15) x6.toNatClampNeg))]) (by decide +kernel : decode mX0_value.2.1 184 = .ok (.iinc 6 1, 3)) rfl rfl (by decide) rfl (?_ : XW _ _ _ _ _ _ _ 187 _ _)
                refine xi_goto (by decide +kernel : decode mX0_value.2.1 187 = .ok (.goto (-181), 3)) (by decide) (?_ : XW _ _ _ _ _ _ _ 6 _ _)
                refine xw_drop 7 (ls' := [some (.ref 13), some (.int x1), some (.int x2), some (.int x3), some (.int x4), some (.int (x5 + (-1))), some (.int (x6 + 1)), none]) rfl ?_
                exact vc
              · replace vc := vc.2 c
                refine xi_iconst (v := 0) (by decide +kernel : decode mX0_value.2.1 149 = .ok (.iconst 0, 1)) (by decide) (?_ : XW _ _ _ _ _ _ _ 150 _ _)
                exact xi_iret (by decide +kernel : decode mX0_value.2.1 150 = .ok (.ireturn, 1)) rfl rfl vc
          · replace vc := vc.2 c
            refine xi_iload (by decide +kernel : decode mX0_value.2.1 83 = .ok (.iload 5, 2)) rfl (?_ : XW _ _ _ _ _ _ _ 85 _ _)
            refine xi_iconst (v := 1) (by decide +kernel : decode mX0_value.2.1 85 = .ok (.iconst 1, 1)) (by decide) (?_ : XW _ _ _ _ _ _ _ 86 _ _)
            refine xi_icmp_lt (by decide +kernel : decode mX0_value.2.1 86 = .ok (.if_icmp .lt 13, 3)) (by decide) (fun c => (?_ : XW _ _ _ _ _ _ _ 99 _ _)) (fun c => (?_ : XW _ _ _ _ _ _ _ 89 _ _))
            · replace vc := vc.1 c
              refine xi_iconst (v := 0) (by decide +kernel : decode mX0_value.2.1 99 = .ok (.iconst 0, 1)) (by decide) (?_ : XW _ _ _ _ _ _ _ 100 _ _)
              exact xi_iret (by decide +kernel : decode mX0_value.2.1 100 = .ok (.ireturn, 1)) rfl rfl vc
            · replace vc := vc.2 c
              refine xi_iload (by decide +kernel : decode mX0_value.2.1 89 = .ok (.iload 5, 2)) rfl (?_ : XW _ _ _ _ _ _ _ 91 _ _)
              refine xi_aload_n (by decide +kernel : decode mX0_value.2.1 91 = .ok (.aload_n 0, 1)) rfl rfl (?_ : XW _ _ _ _ _ _ _ 92 _ _)
              refine xi_getR (y := 16) (by decide +kernel : decode mX0_value.2.1 92 = .ok (.getfield 19, 3)) fX0_19 rfl (by omega) rfl hf.2.2.2 (?_ : XW _ _ _ _ _ _ _ 95 _ _)
              refine xi_alen (v := 64) (by decide +kernel : decode mX0_value.2.1 95 = .ok (.arraylength, 1)) rfl (by omega) (Or.inl rfl) rfl (?_ : XW _ _ _ _ _ _ _ 96 _ _)
              refine xi_icmp_le (by decide +kernel : decode mX0_value.2.1 96 = .ok (.if_icmp .le 5, 3)) (by decide) (fun c => (?_ : XW _ _ _ _ _ _ _ 101 _ _)) (fun c => (?_ : XW _ _ _ _ _ _ _ 99 _ _))
              · replace vc := vc.1 c
                refine xi_aload_n (by decide +kernel : decode mX0_value.2.1 101 = .ok (.aload_n 0, 1)) rfl rfl (?_ : XW _ _ _ _ _ _ _ 102 _ _)
                refine xi_getR (y := 16) (by decide +kernel : decode mX0_value.2.1 102 = .ok (.getfield 19, 3)) fX0_19 rfl (by omega) rfl hf.2.2.2 (?_ : XW _ _ _ _ _ _ _ 105 _ _)
                refine xi_iload (by decide +kernel : decode mX0_value.2.1 105 = .ok (.iload 5, 2)) rfl (?_ : XW _ _ _ _ _ _ _ 107 _ _)
                refine xi_iconst (v := 1) (by decide +kernel : decode mX0_value.2.1 107 = .ok (.iconst 1, 1)) (by decide) (?_ : XW _ _ _ _ _ _ _ 108 _ _)
                refine xi_isub (by decide +kernel : decode mX0_value.2.1 108 = .ok (.isub, 1)) (?_ : XW _ _ _ _ _ _ _ 109 _ _)
                refine xi_aload_n (by decide +kernel : decode mX0_value.2.1 109 = .ok (.aload_n 0, 1)) rfl rfl (?_ : XW _ _ _ _ _ _ _ 110 _ _)
                refine xi_getR (y := 16) (by decide +kernel : decode mX0_value.2.1 110 = .ok (.getfield 19, 3)) fX0_19 rfl (by omega) rfl hf.2.2.2 (?_ : XW _ _ _ _ _ _ _ 113 _ _)
                refine xi_iload (by decide +kernel : decode mX0_value.2.1 113 = .ok (.iload 5, 2)) rfl (?_ : XW _ _ _ _ _ _ _ 115 _ _)
                refine xi_iconst (v := 1) (by decide +kernel : decode mX0_value.2.1 115 = .ok (.iconst 1, 1)) (by decide) (?_ : XW _ _ _ _ _ _ _ 116 _ _)
                refine xi_isub (by decide +kernel : decode mX0_value.2.1 116 = .ok (.isub, 1)) (?_ : XW _ _ _ _ _ _ _ 117 _ _)
                obtain ⟨s1, vc⟩ := vc
                refine xi_iald (by decide +kernel : decode mX0_value.2.1 117 = .ok (.iaload, 1)) rfl (by omega) s1 (?_ : XW _ _ _ _ _ _ _ 118 _ _)
                refine xi_if_ne (by decide +kernel : decode mX0_value.2.1 118 = .ok (.ifCond .ne 7, 3)) (by decide) (fun c => (?_ : XW _ _ _ _ _ _ _ 125 _ _)) (fun c => (?_ : XW _ _ _ _ _ _ _ 121 _ _))
                · replace vc := vc.1 c
                  refine xi_iconst (v := 0) (by decide +kernel : decode mX0_value.2.1 125 = .ok (.iconst 0, 1)) (by decide) (?_ : XW _ _ _ _ _ _ _ 126 _ _)
                  refine xi_callS (b := 0) (bs := 0) (As := [.int 0]) (st := [.int (x5 - 1), .ref (16)]) (by decide +kernel : decode mX0_value.2.1 126 = .ok (.invokestatic 54, 3)) kX0_54 rfl rfl (s_X0_holds n h 0) (by decide) (by decide) (Nat.le_of_ble_eq_true rfl) (by omega) (fun v9 h9 hq9 => ?_)
                  rw [hq9.1, hq9.2]
                  show XW _ _ _ _ _ _ _ 129 _ [.int (if 0 = 0 then 0 else 1), .int (x5 - 1), .ref (16)]
                  obtain ⟨s1, vc⟩ := vc
                  refine xi_iast (by decide +kernel : decode mX0_value.2.1 129 = .ok (.iastore, 1)) rfl (by omega) s1 (?_ : XW _ _ _ _ _ _ (xSI (16) (va_up (xI h (16)) (x5 - 1).toNatClampNeg (if 0 = 0 then 0 else 1)) h) 130 _ _)
                  refine xi_goto (by decide +kernel : decode mX0_value.2.1 130 = .ok (.goto 54, 3)) (by decide) (?_ : XW _ _ _ _ _ _ _ 184 _ _)
                  refine xi_iinc (v := x6 + 1) (ls' := [some (.ref 13), some (.int x1), some (.int x2), some (.int x3), some (.int x4), some (.int x5), some (.int (x6 + 1)), some (.int (xI h (15) x6.toNatClampNeg))]) (by decide +kernel : decode mX0_value.2.1 184 = .ok (.iinc 6 1, 3)) rfl rfl (by decide) rfl (?_ : XW _ _ _ _ _ _ _ 187 _ _)
                  refine xi_goto (by decide +kernel : decode mX0_value.2.1 187 = .ok (.goto (-181), 3)) (by decide) (?_ : XW _ _ _ _ _ _ _ 6 _ _)
                  refine xw_drop 7 (ls' := [some (.ref 13), some (.int x1), some (.int x2), some (.int x3), some (.int x4), some (.int x5), some (.int (x6 + 1)), none]) rfl ?_
                  exact vc
                · replace vc := vc.2 c
                  refine xi_iconst (v := 1) (by decide +kernel : decode mX0_value.2.1 121 = .ok (.iconst 1, 1)) (by decide) (?_ : XW _ _ _ _ _ _ _ 122 _ _)
                  refine xi_goto (by decide +kernel : decode mX0_value.2.1 122 = .ok (.goto 4, 3)) (by decide) (?_ : XW _ _ _ _ _ _ _ 126 _ _)
                  refine xi_callS (b := 0) (bs := 0) (As := [.int 1]) (st := [.int (x5 - 1), .ref (16)]) (by decide +kernel : decode mX0_value.2.1 126 = .ok (.invokestatic 54, 3)) kX0_54 rfl rfl (s_X0_holds n h 1) (by decide) (by decide) (Nat.le_of_ble_eq_true rfl) (by omega) (fun v9 h9 hq9 => ?_)
                  rw [hq9.1, hq9.2]
                  show XW _ _ _ _ _ _ _ 129 _ [.int (if 1 = 0 then 0 else 1), .int (x5 - 1), .ref (16)]
                  obtain ⟨s1, vc⟩ := vc
                  refine xi_iast (by decide +kernel : decode mX0_value.2.1 129 = .ok (.iastore, 1)) rfl (by omega) s1 (?_ : XW _ _ _ _ _ _ (xSI (16) (va_up (xI h (16)) (x5 - 1).toNatClampNeg (if 1 = 0 then 0 else 1)) h) 130 _ _)
                  refine xi_goto (by decide +kernel : decode mX0_value.2.1 130 = .ok (.goto 54, 3)) (by decide) (?_ : XW _ _ _ _ _ _ _ 184 _ _)
                  refine xi_iinc (v := x6 + 1) (ls' := [some (.ref 13), some (.int x1), some (.int x2), some (.int x3), some (.int x4), some (.int x5), some (.int (x6 + 1)), some (.int (xI h (15) x6.toNatClampNeg))]) (by decide +kernel : decode mX0_value.2.1 184 = .ok (.iinc 6 1, 3)) rfl rfl (by decide) rfl (?_ : XW _ _ _ _ _ _ _ 187 _ _)
                  refine xi_goto (by decide +kernel : decode mX0_value.2.1 187 = .ok (.goto (-181), 3)) (by decide) (?_ : XW _ _ _ _ _ _ _ 6 _ _)
                  refine xw_drop 7 (ls' := [some (.ref 13), some (.int x1), some (.int x2), some (.int x3), some (.int x4), some (.int x5), some (.int (x6 + 1)), none]) rfl ?_
                  exact vc
              · replace vc := vc.2 c
                refine xi_iconst (v := 0) (by decide +kernel : decode mX0_value.2.1 99 = .ok (.iconst 0, 1)) (by decide) (?_ : XW _ _ _ _ _ _ _ 100 _ _)
                exact xi_iret (by decide +kernel : decode mX0_value.2.1 100 = .ok (.ireturn, 1)) rfl rfl vc
        · replace vc := vc.2 c
          refine xi_iload (by decide +kernel : decode mX0_value.2.1 41 = .ok (.iload 5, 2)) rfl (?_ : XW _ _ _ _ _ _ _ 43 _ _)
          refine xi_aload_n (by decide +kernel : decode mX0_value.2.1 43 = .ok (.aload_n 0, 1)) rfl rfl (?_ : XW _ _ _ _ _ _ _ 44 _ _)
          refine xi_getR (y := 16) (by decide +kernel : decode mX0_value.2.1 44 = .ok (.getfield 19, 3)) fX0_19 rfl (by omega) rfl hf.2.2.2 (?_ : XW _ _ _ _ _ _ _ 47 _ _)
          refine xi_alen (v := 64) (by decide +kernel : decode mX0_value.2.1 47 = .ok (.arraylength, 1)) rfl (by omega) (Or.inl rfl) rfl (?_ : XW _ _ _ _ _ _ _ 48 _ _)
          refine xi_icmp_lt (by decide +kernel : decode mX0_value.2.1 48 = .ok (.if_icmp .lt 5, 3)) (by decide) (fun c => (?_ : XW _ _ _ _ _ _ _ 53 _ _)) (fun c => (?_ : XW _ _ _ _ _ _ _ 51 _ _))
          · replace vc := vc.1 c
            refine xi_aload_n (by decide +kernel : decode mX0_value.2.1 53 = .ok (.aload_n 0, 1)) rfl rfl (?_ : XW _ _ _ _ _ _ _ 54 _ _)
            refine xi_getR (y := 16) (by decide +kernel : decode mX0_value.2.1 54 = .ok (.getfield 19, 3)) fX0_19 rfl (by omega) rfl hf.2.2.2 (?_ : XW _ _ _ _ _ _ _ 57 _ _)
            refine xi_iload (by decide +kernel : decode mX0_value.2.1 57 = .ok (.iload 5, 2)) rfl (?_ : XW _ _ _ _ _ _ _ 59 _ _)
            refine xi_iload (by decide +kernel : decode mX0_value.2.1 59 = .ok (.iload 7, 2)) rfl (?_ : XW _ _ _ _ _ _ _ 61 _ _)
            refine xi_iload_n (by decide +kernel : decode mX0_value.2.1 61 = .ok (.iload_n 1, 1)) rfl rfl (?_ : XW _ _ _ _ _ _ _ 62 _ _)
            refine xi_iload_n (by decide +kernel : decode mX0_value.2.1 62 = .ok (.iload_n 2, 1)) rfl rfl (?_ : XW _ _ _ _ _ _ _ 63 _ _)
            refine xi_iload_n (by decide +kernel : decode mX0_value.2.1 63 = .ok (.iload_n 3, 1)) rfl rfl (?_ : XW _ _ _ _ _ _ _ 64 _ _)
            refine xi_iload (by decide +kernel : decode mX0_value.2.1 64 = .ok (.iload 4, 2)) rfl (?_ : XW _ _ _ _ _ _ _ 66 _ _)
            refine xi_callS (b := 0) (bs := 0) (As := [.int (xI h (15) x6.toNatClampNeg), .int x1, .int x2, .int x3, .int x4]) (st := [.int x5, .ref (16)]) (by decide +kernel : decode mX0_value.2.1 66 = .ok (.invokestatic 50, 3)) kX0_50 rfl rfl (s_X0_operand n h (xI h (15) x6.toNatClampNeg) x1 x2 x3 x4) (by decide) (by decide) (Nat.le_of_ble_eq_true rfl) (by omega) (fun v9 h9 hq9 => ?_)
            rw [hq9.1, hq9.2]
            show XW _ _ _ _ _ _ _ 69 _ [.int (opval (xI h (15) x6.toNatClampNeg) x1 x2 x3 x4), .int x5, .ref (16)]
            obtain ⟨s1, vc⟩ := vc
            refine xi_iast (by decide +kernel : decode mX0_value.2.1 69 = .ok (.iastore, 1)) rfl (by omega) s1 (?_ : XW _ _ _ _ _ _ (xSI (16) (va_up (xI h (16)) x5.toNatClampNeg (opval (xI h (15) x6.toNatClampNeg) x1 x2 x3 x4)) h) 70 _ _)
            refine xi_iinc (v := x5 + 1) (ls' := [some (.ref 13), some (.int x1), some (.int x2), some (.int x3), some (.int x4), some (.int (x5 + 1)), some (.int x6), some (.int (xI h (15) x6.toNatClampNeg))]) (by decide +kernel : decode mX0_value.2.1 70 = .ok (.iinc 5 1, 3)) rfl rfl (by decide) rfl (?_ : XW _ _ _ _ _ _ _ 73 _ _)
            refine xi_goto (by decide +kernel : decode mX0_value.2.1 73 = .ok (.goto 111, 3)) (by decide) (?_ : XW _ _ _ _ _ _ _ 184 _ _)
            refine xi_iinc (v := x6 + 1) (ls' := [some (.ref 13), some (.int x1), some (.int x2), some (.int x3), some (.int x4), some (.int (x5 + 1)), some (.int (x6 + 1)), some (.int (xI h (15) x6.toNatClampNeg))]) (by decide +kernel : decode mX0_value.2.1 184 = .ok (.iinc 6 1, 3)) rfl rfl (by decide) rfl (?_ : XW _ _ _ _ _ _ _ 187 _ _)
            refine xi_goto (by decide +kernel : decode mX0_value.2.1 187 = .ok (.goto (-181), 3)) (by decide) (?_ : XW _ _ _ _ _ _ _ 6 _ _)
            refine xw_drop 7 (ls' := [some (.ref 13), some (.int x1), some (.int x2), some (.int x3), some (.int x4), some (.int (x5 + 1)), some (.int (x6 + 1)), none]) rfl ?_
            exact vc
          · replace vc := vc.2 c
            refine xi_iconst (v := 0) (by decide +kernel : decode mX0_value.2.1 51 = .ok (.iconst 0, 1)) (by decide) (?_ : XW _ _ _ _ _ _ _ 52 _ _)
            exact xi_iret (by decide +kernel : decode mX0_value.2.1 52 = .ok (.ireturn, 1)) rfl rfl vc

set_option maxRecDepth 20000 in
theorem v_X0_howFar_0 {h : XH} {Q : Option Value → XH → Prop} {X : String → XH → Prop} (n f : Nat) (hf : xFor f (xP h)) (hn : f + 4 ≤ n)  (th : Int32) (aq : Int32) (lq : Int32) (ab : Int32)
    (vc : ∃ Q1, XSpec mX0_value 3 0 0 n n [.ref f, .int th, .int aq, .int lq, .int ab] h Q1 xno ∧ ∀ v h1, Q1 v h1 → ∃ r1 : Int32, v = some (.int r1) ∧ (Q (some (.int (if (-200) < (if r1 < 200 then r1 else 200) then (if r1 < 200 then r1 else 200) else (-200)))) h1)) :
    XW (xrm 4 0 0) mX0_howFar (xE n Q X 0 0) n 0 0 h 0 [some (.ref f), some (.int th), some (.int aq), some (.int lq), some (.int ab)] [] := by
  rcases hf.1 with rfl | rfl
  · refine xi_sipush (v := (-200)) (by decide +kernel : decode mX0_howFar.2.1 0 = .ok (.sipush (-200), 3)) (by decide) (?_ : XW _ _ _ _ _ _ _ 3 _ _)
    refine xi_sipush (v := 200) (by decide +kernel : decode mX0_howFar.2.1 3 = .ok (.sipush 200, 3)) (by decide) (?_ : XW _ _ _ _ _ _ _ 6 _ _)
    refine xi_aload_n (by decide +kernel : decode mX0_howFar.2.1 6 = .ok (.aload_n 0, 1)) rfl rfl (?_ : XW _ _ _ _ _ _ _ 7 _ _)
    refine xi_iload_n (by decide +kernel : decode mX0_howFar.2.1 7 = .ok (.iload_n 1, 1)) rfl rfl (?_ : XW _ _ _ _ _ _ _ 8 _ _)
    refine xi_iload_n (by decide +kernel : decode mX0_howFar.2.1 8 = .ok (.iload_n 2, 1)) rfl rfl (?_ : XW _ _ _ _ _ _ _ 9 _ _)
    refine xi_iload_n (by decide +kernel : decode mX0_howFar.2.1 9 = .ok (.iload_n 3, 1)) rfl rfl (?_ : XW _ _ _ _ _ _ _ 10 _ _)
    refine xi_iload (by decide +kernel : decode mX0_howFar.2.1 10 = .ok (.iload 4, 2)) rfl (?_ : XW _ _ _ _ _ _ _ 12 _ _)
    obtain ⟨Q1, sp, vc⟩ := vc
    refine xi_callV (b := 0) (bs := 0) (As := [.int th, .int aq, .int lq, .int ab]) (st := [.int 200, .int (-200)]) (by decide +kernel : decode mX0_howFar.2.1 12 = .ok (.invokevirtual 37, 3)) kX0_37 rfl rfl (by omega) rfl sp (by decide) (by decide) (Nat.le_of_ble_eq_true rfl) (by omega) (fun v9 h1 hq9 => ?_)
    obtain ⟨r1, e9, vc⟩ := vc v9 h1 hq9
    subst e9
    show XW _ _ _ _ _ _ _ 15 _ [.int r1, .int 200, .int (-200)]
    refine xi_mmin (by decide +kernel : decode mX0_howFar.2.1 15 = .ok (.invokestatic 41, 3)) kX0_41.2.1 (by decide) (Nat.le_of_ble_eq_true rfl) (?_ : XW _ _ _ _ _ _ _ 18 _ _)
    refine xi_mmax (by decide +kernel : decode mX0_howFar.2.1 18 = .ok (.invokestatic 47, 3)) kX0_47.2.1 (by decide) (Nat.le_of_ble_eq_true rfl) (?_ : XW _ _ _ _ _ _ _ 21 _ _)
    exact xi_iret (by decide +kernel : decode mX0_howFar.2.1 21 = .ok (.ireturn, 1)) rfl rfl vc
  · refine xi_sipush (v := (-200)) (by decide +kernel : decode mX0_howFar.2.1 0 = .ok (.sipush (-200), 3)) (by decide) (?_ : XW _ _ _ _ _ _ _ 3 _ _)
    refine xi_sipush (v := 200) (by decide +kernel : decode mX0_howFar.2.1 3 = .ok (.sipush 200, 3)) (by decide) (?_ : XW _ _ _ _ _ _ _ 6 _ _)
    refine xi_aload_n (by decide +kernel : decode mX0_howFar.2.1 6 = .ok (.aload_n 0, 1)) rfl rfl (?_ : XW _ _ _ _ _ _ _ 7 _ _)
    refine xi_iload_n (by decide +kernel : decode mX0_howFar.2.1 7 = .ok (.iload_n 1, 1)) rfl rfl (?_ : XW _ _ _ _ _ _ _ 8 _ _)
    refine xi_iload_n (by decide +kernel : decode mX0_howFar.2.1 8 = .ok (.iload_n 2, 1)) rfl rfl (?_ : XW _ _ _ _ _ _ _ 9 _ _)
    refine xi_iload_n (by decide +kernel : decode mX0_howFar.2.1 9 = .ok (.iload_n 3, 1)) rfl rfl (?_ : XW _ _ _ _ _ _ _ 10 _ _)
    refine xi_iload (by decide +kernel : decode mX0_howFar.2.1 10 = .ok (.iload 4, 2)) rfl (?_ : XW _ _ _ _ _ _ _ 12 _ _)
    obtain ⟨Q1, sp, vc⟩ := vc
    refine xi_callV (b := 0) (bs := 0) (As := [.int th, .int aq, .int lq, .int ab]) (st := [.int 200, .int (-200)]) (by decide +kernel : decode mX0_howFar.2.1 12 = .ok (.invokevirtual 37, 3)) kX0_37 rfl rfl (by omega) rfl sp (by decide) (by decide) (Nat.le_of_ble_eq_true rfl) (by omega) (fun v9 h1 hq9 => ?_)
    obtain ⟨r1, e9, vc⟩ := vc v9 h1 hq9
    subst e9
    show XW _ _ _ _ _ _ _ 15 _ [.int r1, .int 200, .int (-200)]
    refine xi_mmin (by decide +kernel : decode mX0_howFar.2.1 15 = .ok (.invokestatic 41, 3)) kX0_41.2.1 (by decide) (Nat.le_of_ble_eq_true rfl) (?_ : XW _ _ _ _ _ _ _ 18 _ _)
    refine xi_mmax (by decide +kernel : decode mX0_howFar.2.1 18 = .ok (.invokestatic 47, 3)) kX0_47.2.1 (by decide) (Nat.le_of_ble_eq_true rfl) (?_ : XW _ _ _ _ _ _ _ 21 _ _)
    exact xi_iret (by decide +kernel : decode mX0_howFar.2.1 21 = .ok (.ireturn, 1)) rfl rfl vc

/-- how many values lie on the stack after k signs; which values lie there -/
def dep (C : Nat → Int32) : Nat → Nat
  | 0 => 0
  | k + 1 => if -5 < C k then dep C k + 1 else if C k = -5 then dep C k else dep C k - 1
def evk (o : Int32 → Int32) (C : Nat → Int32) : Nat → Nat → Int32
  | 0 => fun _ => 0
  | k + 1 => if -5 < C k then va_up (evk o C k) (dep C k) (o (C k)) else if C k = -5 then va_up (evk o C k) (dep C k - 1) (if evk o C k (dep C k - 1) = 0 then 1 else 0) else va_up (evk o C k) (dep C k - 2) (binop (C k) (evk o C k (dep C k - 2)) (evk o C k (dep C k - 1)))
def CodeOK (C : Nat → Int32) (len : Nat) : Prop := len ≤ 500 ∧ dep C len = 1 ∧ ∀ k, k < len → -13 ≤ C k ∧ (-5 < C k → dep C k < 64) ∧ (C k = -5 → 1 ≤ dep C k) ∧ (¬ -5 < C k → ¬ C k = -5 → 2 ≤ dep C k)
theorem dep_le {C : Nat → Int32} {len : Nat} (hc : CodeOK C len) : ∀ k, k ≤ len → dep C k ≤ 64 := by
  intro k
  induction k with
  | zero => intro _; exact Nat.zero_le _
  | succ k ih =>
    intro hk
    obtain ⟨-, h1, -, -⟩ := hc.2.2 k (by omega)
    have := ih (by omega)
    rw [dep]
    split
    · rename_i c; have := h1 c; omega
    · split <;> omega
theorem lt5_iff (c : Int32) : (-5 < c) ↔ ¬ c ≤ -5 := by rw [Int32.lt_iff_toInt_lt, Int32.le_iff_toInt_le]; omega
theorem va_up_c {α : Type} {f g : Nat → α} {k j : Nat} {v w : α} (h1 : v = w) (h2 : f j = g j) : va_up f k v j = va_up g k w j := by
  unfold va_up
  rw [h1, h2]
theorem l_value (n f : Nat) (hn : f + 4 ≤ n) (th aq lq ab : Int32) (C : Nat → Int32) (len : Nat) (hc : CodeOK C len) {Q : Option Value → XH → Prop} {X : String → XH → Prop} : ∀ (k i : Nat) (h : XH), i + k = len → xFor f (xP h) → xI h f 3 = nI len → xI h (f + 2) = C → (∀ j, j < dep C i → xI h (f + 3) j = evk (fun c => opval c th aq lq ab) C i j) →
    (∀ S : Nat → Int32, S 0 = evk (fun c => opval c th aq lq ab) C len 0 → Q (some (.int (S 0))) (xSI (f + 3) S h)) →
    XW (xrm 3 0 0) mX0_value (xE n Q X 0 0) n 0 0 h 6 [some (.ref f), some (.int th), some (.int aq), some (.int lq), some (.int ab), some (.int (nI (dep C i))), some (.int (nI i)), none] [] := by
  have hlen := hc.1
  intro k
  induction k with
  | zero =>
    intro i h hi hf hl hC hS hQ
    have : i = len := by omega
    subst this
    refine v_X0_value_6 n f hf hn th aq lq ab _ (nI i) ⟨fun _ => ?_, fun c => absurd (by rw [hl]; exact nI_le (Nat.le_refl _) (by omega)) c⟩
    have := hQ (xI h (f + 3)) (hS 0 (by rw [hc.2.1]; omega))
    rwa [xSI_self] at this
  | succ k ih =>
    intro i h hi hf hl hC hS hQ
    have hd := dep_le hc i (by omega)
    obtain ⟨-, g1, g2, g3⟩ := hc.2.2 i (by omega)
    have step : ∀ S : Nat → Int32, (∀ j, j < dep C (i + 1) → S j = evk (fun c => opval c th aq lq ab) C (i + 1) j) → XW (xrm 3 0 0) mX0_value (xE n Q X 0 0) n 0 0 (xSI (f + 3) S h) 6 [some (.ref f), some (.int th), some (.int aq), some (.int lq), some (.int ab), some (.int (nI (dep C (i + 1)))), some (.int (nI i + 1)), none] [] := by
      intro S h2
      rw [nI_1]
      refine ih (i + 1) _ (by omega) hf (by rw [xI_ne (by omega)]; exact hl) (by rw [xI_ne (by omega)]; exact hC) (by rw [xI_at]; exact h2) (fun S' h3 => ?_)
      rw [xSI_SI]
      exact hQ S' h3
    refine v_X0_value_6 n f hf hn th aq lq ab _ (nI i) ⟨fun c => absurd c (by rw [hl]; exact nI_ge (by omega) (by omega)), fun _ => ⟨fun c => absurd c (nI_ge (a := i) (b := 500) (by omega) (by omega)), fun _ => ⟨vp_in_nI (by omega) (by omega), ?_, ?_⟩⟩⟩
    · rw [nI_clamp (by omega), hC]
      intro c
      have c' : ¬ -5 < C i := by rw [lt5_iff]; exact fun z => z c
      refine ⟨fun c5 => ?_, fun c5 => ?_⟩
      · have h2 := g3 c' c5
        have e1 : dep C (i + 1) = dep C i - 1 := by rw [dep, if_neg c', if_neg c5]
        have e2 : nI (dep C i) + (-1) = nI (dep C i - 1) := by
          have : nI (dep C i) + (-1) = nI (dep C i) - nI 1 := by rw [Int32.sub_eq_add_neg]; rfl
          rw [this, pk_sub (by omega)]
        have e3 : nI (dep C i - 1) - 1 = nI (dep C i - 2) := by
          have : nI (dep C i - 1) - 1 = nI (dep C i - 1) - nI 1 := rfl
          rw [this, pk_sub (by omega)]; congr 1
        refine ⟨fun z => absurd z (nI_nlt (a := dep C i) (b := 2) (by omega) (by omega)), fun _ => ⟨fun _ => ?_, fun z => absurd (nI_le (a := dep C i) (b := 64) (by omega) (by omega)) z⟩⟩
        rw [e2, e3, nI_clamp (by omega), nI_clamp (by omega)]
        refine ⟨vp_in_nI (by omega) (by omega), vp_in_nI (by omega) (by omega), vp_in_nI (by omega) (by omega), ?_⟩
        have st := step (va_up (xI h (f + 3)) (dep C i - 2) (binop (C i) (xI h (f + 3) (dep C i - 2)) (xI h (f + 3) (dep C i - 1)))) (fun j hj => by
          rw [evk, if_neg c', if_neg c5, ← hS (dep C i - 2) (by omega), ← hS (dep C i - 1) (by omega)]
          exact va_up_c rfl (hS j (by omega)))
        rw [e1] at st
        exact st
      · have h2 := g2 c5
        have e1 : dep C (i + 1) = dep C i := by rw [dep, if_neg c', if_pos c5]
        have e3 : nI (dep C i) - 1 = nI (dep C i - 1) := by
          have : nI (dep C i) - 1 = nI (dep C i) - nI 1 := rfl
          rw [this, pk_sub (by omega)]
        refine ⟨fun z => absurd z (nI_nlt (a := dep C i) (b := 1) (by omega) (by omega)), fun _ => ⟨fun _ => ?_, fun z => absurd (nI_le (a := dep C i) (b := 64) (by omega) (by omega)) z⟩⟩
        rw [e3, nI_clamp (by omega)]
        refine ⟨vp_in_nI (by omega) (by omega), fun z => ⟨vp_in_nI (by omega) (by omega), ?_⟩, fun z => ⟨vp_in_nI (by omega) (by omega), ?_⟩⟩
        · have st := step (va_up (xI h (f + 3)) (dep C i - 1) (if (0 : Int32) = 0 then 0 else 1)) (fun j hj => by
            rw [evk, if_neg c', if_pos c5, ← hS (dep C i - 1) (by omega), if_neg z]
            exact va_up_c rfl (hS j (by omega)))
          rw [e1] at st
          exact st
        · have st := step (va_up (xI h (f + 3)) (dep C i - 1) (if (1 : Int32) = 0 then 0 else 1)) (fun j hj => by
            rw [evk, if_neg c', if_pos c5, ← hS (dep C i - 1) (by omega), if_pos z]
            exact va_up_c rfl (hS j (by omega)))
          rw [e1] at st
          exact st
    · rw [nI_clamp (by omega), hC]
      intro c
      have c' : -5 < C i := (lt5_iff _).2 c
      have h2 := g1 c'
      have e1 : dep C (i + 1) = dep C i + 1 := by rw [dep, if_pos c']
      refine ⟨fun _ => ⟨vp_in_nI (by omega) (by omega), ?_⟩, fun z => absurd (nI_lt (a := dep C i) (b := 64) (by omega) (by omega)) z⟩
      rw [nI_clamp (by omega), nI_1]
      have st := step (va_up (xI h (f + 3)) (dep C i) (opval (C i) th aq lq ab)) (fun j hj => by
        rw [evk, if_pos c']
        by_cases c9 : j = dep C i
        · rw [c9, va_up_eq, va_up_eq]
        · exact va_up_c rfl (hS j (by omega)))
      rw [e1] at st
      exact st
theorem s_X0_value (n f : Nat) (h : XH) (hf : xFor f (xP h)) (hn : f + 4 ≤ n) (th aq lq ab : Int32) (len : Nat) (hl : xI h f 3 = nI len) (hc : CodeOK (xI h (f + 2)) len) : XSpec mX0_value 3 0 0 n n [.ref f, .int th, .int aq, .int lq, .int ab] h (fun v h' => v = some (.int (evk (fun c => opval c th aq lq ab) (xI h (f + 2)) len 0)) ∧ xfr (f + 3) (f + 4) h h') xno := by
  refine XSpec.of rfl (by decide) (Nat.le_of_ble_eq_true rfl) rfl (v_X0_value_0 n f hf hn th aq lq ab ?_)
  refine l_value n f hn th aq lq ab _ len hc len 0 h (by omega) hf hl rfl (fun j hj => absurd hj (Nat.not_lt_zero _)) (fun S hS => ⟨?_, xfr.SI (by omega) (by omega)⟩)
  rw [hS]
def clamp200 (v : Int32) : Int32 := if (-200) < (if v < 200 then v else 200) then (if v < 200 then v else 200) else (-200)
def farC (C : Nat → Int32) (len : Nat) (th aq lq ab : Int32) : Int32 := clamp200 (evk (fun c => opval c th aq lq ab) C len 0)
theorem s_X0_howFar (n f : Nat) (h : XH) (hf : xFor f (xP h)) (hn : f + 4 ≤ n) (th aq lq ab : Int32) (len : Nat) (hl : xI h f 3 = nI len) (hc : CodeOK (xI h (f + 2)) len) : XSpec mX0_howFar 4 0 0 n n [.ref f, .int th, .int aq, .int lq, .int ab] h (fun v h' => v = some (.int (farC (xI h (f + 2)) len th aq lq ab)) ∧ xfr (f + 3) (f + 4) h h') xno := by
  refine XSpec.of rfl (by decide) (Nat.le_of_ble_eq_true rfl) rfl (v_X0_howFar_0 n f hf hn th aq lq ab ⟨_, s_X0_value n f h hf hn th aq lq ab len hl hc, ?_⟩)
  rintro v h1 ⟨rfl, hfr⟩
  exact ⟨_, rfl, rfl, hfr⟩
