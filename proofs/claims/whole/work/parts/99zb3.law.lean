/-! THE LAW: its walk, part 3 -/
set_option maxRecDepth 20000 in
theorem v_L_law_743 {h : XH} {Q : Option Value → XH → Prop} {X : String → XH → Prop} (xs : Nat → Int32) (L B S : Nat)  (x4 : Int32)
    (vc : (vp_in (x4 + 1) L) ∧ ((vp_in (x4 + 2) L) ∧ (∃ Q1, XSpecH mL_rolled 8 1 6 100 100 [.ref 0, .int (xs (x4 + 1).toNatClampNeg), .int (xs (x4 + 2).toNatClampNeg), .ref 99] h Q1 ∧ ∀ v h1, Q1 v h1 → ∃ r1 : Int32, v = some (.int r1) ∧ ((vp_in (x4 + 1) L) ∧ ((vp_in (x4 + 2) L) ∧ (∃ Q1, XSpec mX11_rolled 2 0 0 100 100 [.ref 56, .int (xs (x4 + 1).toNatClampNeg), .int (xs (x4 + 2).toNatClampNeg)] h1 Q1 xno ∧ ∀ v h2, Q1 v h2 → xL h2 99 0 = xL h1 99 0 → ∃ r2 : Int32, v = some (.int r2) ∧ (∃ Q1, XSpec mX11_thrown 1 0 0 100 100 [.ref 56] h2 Q1 xno ∧ ∀ v h3, Q1 v h3 → xL h3 99 0 = xL h2 99 0 → ∃ r3 : Int32, v = some (.int r3) ∧ ((r3 = r1 → (¬ r1 = 0 → XW room_1 mL_law (xEL xs L) 100 B S h3 2392 [some (.ref 3000), some (.ref 0), some (.ref 56), some (.ref 99), some (.int x4), none, none, none] []) ∧ (r1 = 0 → ((lg_cmp (xL h3 99 0) (Int32.toInt64 r2)) = 0 → XW room_1 mL_law (xEL xs L) 100 B S h3 2392 [some (.ref 3000), some (.ref 0), some (.ref 56), some (.ref 99), some (.int x4), none, none, none] []) ∧ (¬ (lg_cmp (xL h3 99 0) (Int32.toInt64 r2)) = 0 → False))) ∧ (¬ r3 = r1 → False))))))))) :
    XW room_1 mL_law (xEL xs L) 100 (B + 4) (S + 24) h 743 [some (.ref 3000), some (.ref 0), some (.ref 56), some (.ref 99), some (.int x4), none, none, none] [] := by
  refine xi_aload_n (by decide +kernel : decode mL_law.2.1 743 = .ok (.aload_n 1, 1)) rfl rfl (?_ : XW _ _ _ _ _ _ _ 744 _ _)
  refine xi_aload_n (by decide +kernel : decode mL_law.2.1 744 = .ok (.aload_n 0, 1)) rfl rfl (?_ : XW _ _ _ _ _ _ _ 745 _ _)
  refine xi_iload (by decide +kernel : decode mL_law.2.1 745 = .ok (.iload 4, 2)) rfl (?_ : XW _ _ _ _ _ _ _ 747 _ _)
  refine xi_iconst (v := 1) (by decide +kernel : decode mL_law.2.1 747 = .ok (.iconst 1, 1)) (by decide) (?_ : XW _ _ _ _ _ _ _ 748 _ _)
  refine xi_iadd (by decide +kernel : decode mL_law.2.1 748 = .ok (.iadd, 1)) (?_ : XW _ _ _ _ _ _ _ 749 _ _)
  obtain ⟨s1, vc⟩ := vc
  refine xi_sldS (by decide +kernel : decode mL_law.2.1 749 = .ok (.iaload, 1)) s1 (?_ : XW _ _ _ _ _ _ _ 750 _ _)
  refine xi_aload_n (by decide +kernel : decode mL_law.2.1 750 = .ok (.aload_n 0, 1)) rfl rfl (?_ : XW _ _ _ _ _ _ _ 751 _ _)
  refine xi_iload (by decide +kernel : decode mL_law.2.1 751 = .ok (.iload 4, 2)) rfl (?_ : XW _ _ _ _ _ _ _ 753 _ _)
  refine xi_iconst (v := 2) (by decide +kernel : decode mL_law.2.1 753 = .ok (.iconst 2, 1)) (by decide) (?_ : XW _ _ _ _ _ _ _ 754 _ _)
  refine xi_iadd (by decide +kernel : decode mL_law.2.1 754 = .ok (.iadd, 1)) (?_ : XW _ _ _ _ _ _ _ 755 _ _)
  obtain ⟨s1, vc⟩ := vc
  refine xi_sldS (by decide +kernel : decode mL_law.2.1 755 = .ok (.iaload, 1)) s1 (?_ : XW _ _ _ _ _ _ _ 756 _ _)
  refine xi_aload_n (by decide +kernel : decode mL_law.2.1 756 = .ok (.aload_n 3, 1)) rfl rfl (?_ : XW _ _ _ _ _ _ _ 757 _ _)
  obtain ⟨Q1, sp, vc⟩ := vc
  refine xi_callSH (b := B + 3) (bs := S + 18) (As := [.ref 0, .int (xs (x4 + 1).toNatClampNeg), .int (xs (x4 + 2).toNatClampNeg), .ref 99]) (st := []) (by decide +kernel : decode mL_law.2.1 757 = .ok (.invokestatic 156, 3)) kL_156 rfl rfl sp (by decide) (by decide) (Nat.le_of_ble_eq_true rfl) (by omega) (fun v9 h1 hq9 => ?_)
  obtain ⟨r1, e9, vc⟩ := vc v9 h1 hq9
  subst e9
  show XW _ _ _ _ _ _ _ 760 _ [.int r1]
  refine xi_istore (ls' := [some (.ref 3000), some (.ref 0), some (.ref 56), some (.ref 99), some (.int x4), some (.int r1), none, none]) (by decide +kernel : decode mL_law.2.1 760 = .ok (.istore 5, 2)) (by decide) rfl (?_ : XW _ _ _ _ _ _ _ 762 _ _)
  refine xi_aload_n (by decide +kernel : decode mL_law.2.1 762 = .ok (.aload_n 2, 1)) rfl rfl (?_ : XW _ _ _ _ _ _ _ 763 _ _)
  refine xi_aload_n (by decide +kernel : decode mL_law.2.1 763 = .ok (.aload_n 0, 1)) rfl rfl (?_ : XW _ _ _ _ _ _ _ 764 _ _)
  refine xi_iload (by decide +kernel : decode mL_law.2.1 764 = .ok (.iload 4, 2)) rfl (?_ : XW _ _ _ _ _ _ _ 766 _ _)
  refine xi_iconst (v := 1) (by decide +kernel : decode mL_law.2.1 766 = .ok (.iconst 1, 1)) (by decide) (?_ : XW _ _ _ _ _ _ _ 767 _ _)
  refine xi_iadd (by decide +kernel : decode mL_law.2.1 767 = .ok (.iadd, 1)) (?_ : XW _ _ _ _ _ _ _ 768 _ _)
  obtain ⟨s1, vc⟩ := vc
  refine xi_sldS (by decide +kernel : decode mL_law.2.1 768 = .ok (.iaload, 1)) s1 (?_ : XW _ _ _ _ _ _ _ 769 _ _)
  refine xi_aload_n (by decide +kernel : decode mL_law.2.1 769 = .ok (.aload_n 0, 1)) rfl rfl (?_ : XW _ _ _ _ _ _ _ 770 _ _)
  refine xi_iload (by decide +kernel : decode mL_law.2.1 770 = .ok (.iload 4, 2)) rfl (?_ : XW _ _ _ _ _ _ _ 772 _ _)
  refine xi_iconst (v := 2) (by decide +kernel : decode mL_law.2.1 772 = .ok (.iconst 2, 1)) (by decide) (?_ : XW _ _ _ _ _ _ _ 773 _ _)
  refine xi_iadd (by decide +kernel : decode mL_law.2.1 773 = .ok (.iadd, 1)) (?_ : XW _ _ _ _ _ _ _ 774 _ _)
  obtain ⟨s1, vc⟩ := vc
  refine xi_sldS (by decide +kernel : decode mL_law.2.1 774 = .ok (.iaload, 1)) s1 (?_ : XW _ _ _ _ _ _ _ 775 _ _)
  obtain ⟨Q1, sp, vc⟩ := vc
  refine xi_callVg (b := B + 3) (bs := S + 18) (As := [.int (xs (x4 + 1).toNatClampNeg), .int (xs (x4 + 2).toNatClampNeg)]) (st := []) (by decide +kernel : decode mL_law.2.1 775 = .ok (.invokevirtual 158, 3)) kL_158 rfl rfl (by omega) rfl sp (by decide) (by decide) (Nat.le_of_ble_eq_true rfl) (by omega) (fun v9 h2 hq9 hx9 => ?_)
  obtain ⟨r2, e9, vc⟩ := vc v9 h2 hq9 hx9
  subst e9
  show XW _ _ _ _ _ _ _ 778 _ [.int r2]
  refine xi_istore (ls' := [some (.ref 3000), some (.ref 0), some (.ref 56), some (.ref 99), some (.int x4), some (.int r1), some (.int r2), none]) (by decide +kernel : decode mL_law.2.1 778 = .ok (.istore 6, 2)) (by decide) rfl (?_ : XW _ _ _ _ _ _ _ 780 _ _)
  refine xi_aload_n (by decide +kernel : decode mL_law.2.1 780 = .ok (.aload_n 2, 1)) rfl rfl (?_ : XW _ _ _ _ _ _ _ 781 _ _)
  obtain ⟨Q1, sp, vc⟩ := vc
  refine xi_callVg (b := B + 3) (bs := S + 18) (As := []) (st := []) (by decide +kernel : decode mL_law.2.1 781 = .ok (.invokevirtual 125, 3)) kL_125 rfl rfl (by omega) rfl sp (by decide) (by decide) (Nat.le_of_ble_eq_true rfl) (by omega) (fun v9 h3 hq9 hx9 => ?_)
  obtain ⟨r3, e9, vc⟩ := vc v9 h3 hq9 hx9
  subst e9
  show XW _ _ _ _ _ _ _ 784 _ [.int r3]
  refine xi_iload (by decide +kernel : decode mL_law.2.1 784 = .ok (.iload 5, 2)) rfl (?_ : XW _ _ _ _ _ _ _ 786 _ _)
  refine xi_icmp_eq (by decide +kernel : decode mL_law.2.1 786 = .ok (.if_icmp .eq 5, 3)) (by decide) (fun c => (?_ : XW _ _ _ _ _ _ _ 791 _ _)) (fun c => (?_ : XW _ _ _ _ _ _ _ 789 _ _))
  · replace vc := vc.1 c
    refine xi_iload (by decide +kernel : decode mL_law.2.1 791 = .ok (.iload 5, 2)) rfl (?_ : XW _ _ _ _ _ _ _ 793 _ _)
    refine xi_if_ne (by decide +kernel : decode mL_law.2.1 793 = .ok (.ifCond .ne 15, 3)) (by decide) (fun c => (?_ : XW _ _ _ _ _ _ _ 808 _ _)) (fun c => (?_ : XW _ _ _ _ _ _ _ 796 _ _))
    · replace vc := vc.1 c
      refine xi_goto (by decide +kernel : decode mL_law.2.1 808 = .ok (.goto 1584, 3)) (by decide) (?_ : XW _ _ _ _ _ _ _ 2392 _ _)
      refine xw_drop 5 (ls' := [some (.ref 3000), some (.ref 0), some (.ref 56), some (.ref 99), some (.int x4), none, some (.int r2), none]) rfl ?_
      refine xw_drop 6 (ls' := [some (.ref 3000), some (.ref 0), some (.ref 56), some (.ref 99), some (.int x4), none, none, none]) rfl ?_
      refine xw_b (b' := B) (bs' := S) (by omega) (by omega) ?_
      exact vc
    · replace vc := vc.2 c
      refine xi_aload_n (by decide +kernel : decode mL_law.2.1 796 = .ok (.aload_n 3, 1)) rfl rfl (?_ : XW _ _ _ _ _ _ _ 797 _ _)
      refine xi_iconst (v := 0) (by decide +kernel : decode mL_law.2.1 797 = .ok (.iconst 0, 1)) (by decide) (?_ : XW _ _ _ _ _ _ _ 798 _ _)
      refine xi_lald (by decide +kernel : decode mL_law.2.1 798 = .ok (.laload, 1)) rfl (by omega) (by unfold vp_in; decide) (?_ : XW _ _ _ _ _ _ _ 799 _ [.long (xL h3 99 0)])
      refine xi_iload (by decide +kernel : decode mL_law.2.1 799 = .ok (.iload 6, 2)) rfl (?_ : XW _ _ _ _ _ _ _ 801 _ _)
      refine xi_i2l (by decide +kernel : decode mL_law.2.1 801 = .ok (.i2l, 1)) (?_ : XW _ _ _ _ _ _ _ 802 _ _)
      refine xi_lcmp (by decide +kernel : decode mL_law.2.1 802 = .ok (.lcmp, 1)) (?_ : XW _ _ _ _ _ _ _ 803 _ _)
      refine xi_if_eq (by decide +kernel : decode mL_law.2.1 803 = .ok (.ifCond .eq 5, 3)) (by decide) (fun c => (?_ : XW _ _ _ _ _ _ _ 808 _ _)) (fun c => (?_ : XW _ _ _ _ _ _ _ 806 _ _))
      · replace vc := vc.1 c
        refine xi_goto (by decide +kernel : decode mL_law.2.1 808 = .ok (.goto 1584, 3)) (by decide) (?_ : XW _ _ _ _ _ _ _ 2392 _ _)
        refine xw_drop 5 (ls' := [some (.ref 3000), some (.ref 0), some (.ref 56), some (.ref 99), some (.int x4), none, some (.int r2), none]) rfl ?_
        refine xw_drop 6 (ls' := [some (.ref 3000), some (.ref 0), some (.ref 56), some (.ref 99), some (.int x4), none, none, none]) rfl ?_
        refine xw_b (b' := B) (bs' := S) (by omega) (by omega) ?_
        exact vc
      · replace vc := vc.2 c
        refine xi_iconst (v := 0) (by decide +kernel : decode mL_law.2.1 806 = .ok (.iconst 0, 1)) (by decide) (?_ : XW _ _ _ _ _ _ _ 807 _ _)
        exact vc.elim
  · replace vc := vc.2 c
    refine xi_iconst (v := 0) (by decide +kernel : decode mL_law.2.1 789 = .ok (.iconst 0, 1)) (by decide) (?_ : XW _ _ _ _ _ _ _ 790 _ _)
    exact vc.elim

set_option maxRecDepth 20000 in
theorem v_L_law_811 {h : XH} {Q : Option Value → XH → Prop} {X : String → XH → Prop} (xs : Nat → Int32) (L B S : Nat)  (x4 : Int32)
    (vc : (vp_in (x4 + 1) L) ∧ (∃ Q1, XSpecH mL_fewest 9 1 6 100 100 [.ref 0, .int (xs (x4 + 1).toNatClampNeg), .ref 99] h Q1 ∧ ∀ v h4, Q1 v h4 → ∃ r4 : Int32, v = some (.int r4) ∧ ((vp_in (x4 + 1) L) ∧ (∃ Q1, XSpec mX11_fewest 6 0 0 100 100 [.ref 56, .int (xs (x4 + 1).toNatClampNeg)] h4 Q1 xno ∧ ∀ v h5, Q1 v h5 → xL h5 99 0 = xL h4 99 0 → ∃ r5 : Int32, v = some (.int r5) ∧ (∃ Q1, XSpec mX11_thrown 1 0 0 100 100 [.ref 56] h5 Q1 xno ∧ ∀ v h6, Q1 v h6 → xL h6 99 0 = xL h5 99 0 → ∃ r6 : Int32, v = some (.int r6) ∧ ((r6 = r4 → (¬ r4 = 0 → XW room_1 mL_law (xEL xs L) 100 B S h6 2392 [some (.ref 3000), some (.ref 0), some (.ref 56), some (.ref 99), some (.int x4), none, none, none] []) ∧ (r4 = 0 → ((lg_cmp (xL h6 99 0) (Int32.toInt64 r5)) = 0 → XW room_1 mL_law (xEL xs L) 100 B S h6 2392 [some (.ref 3000), some (.ref 0), some (.ref 56), some (.ref 99), some (.int x4), none, none, none] []) ∧ (¬ (lg_cmp (xL h6 99 0) (Int32.toInt64 r5)) = 0 → False))) ∧ (¬ r6 = r4 → False))))))) :
    XW room_1 mL_law (xEL xs L) 100 (B + 4) (S + 24) h 811 [some (.ref 3000), some (.ref 0), some (.ref 56), some (.ref 99), some (.int x4), none, none, none] [] := by
  refine xi_aload_n (by decide +kernel : decode mL_law.2.1 811 = .ok (.aload_n 1, 1)) rfl rfl (?_ : XW _ _ _ _ _ _ _ 812 _ _)
  refine xi_aload_n (by decide +kernel : decode mL_law.2.1 812 = .ok (.aload_n 0, 1)) rfl rfl (?_ : XW _ _ _ _ _ _ _ 813 _ _)
  refine xi_iload (by decide +kernel : decode mL_law.2.1 813 = .ok (.iload 4, 2)) rfl (?_ : XW _ _ _ _ _ _ _ 815 _ _)
  refine xi_iconst (v := 1) (by decide +kernel : decode mL_law.2.1 815 = .ok (.iconst 1, 1)) (by decide) (?_ : XW _ _ _ _ _ _ _ 816 _ _)
  refine xi_iadd (by decide +kernel : decode mL_law.2.1 816 = .ok (.iadd, 1)) (?_ : XW _ _ _ _ _ _ _ 817 _ _)
  obtain ⟨s1, vc⟩ := vc
  refine xi_sldS (by decide +kernel : decode mL_law.2.1 817 = .ok (.iaload, 1)) s1 (?_ : XW _ _ _ _ _ _ _ 818 _ _)
  refine xi_aload_n (by decide +kernel : decode mL_law.2.1 818 = .ok (.aload_n 3, 1)) rfl rfl (?_ : XW _ _ _ _ _ _ _ 819 _ _)
  obtain ⟨Q1, sp, vc⟩ := vc
  refine xi_callSH (b := B + 3) (bs := S + 18) (As := [.ref 0, .int (xs (x4 + 1).toNatClampNeg), .ref 99]) (st := []) (by decide +kernel : decode mL_law.2.1 819 = .ok (.invokestatic 159, 3)) kL_159 rfl rfl sp (by decide) (by decide) (Nat.le_of_ble_eq_true rfl) (by omega) (fun v9 h4 hq9 => ?_)
  obtain ⟨r4, e9, vc⟩ := vc v9 h4 hq9
  subst e9
  show XW _ _ _ _ _ _ _ 822 _ [.int r4]
  refine xi_istore (ls' := [some (.ref 3000), some (.ref 0), some (.ref 56), some (.ref 99), some (.int x4), some (.int r4), none, none]) (by decide +kernel : decode mL_law.2.1 822 = .ok (.istore 5, 2)) (by decide) rfl (?_ : XW _ _ _ _ _ _ _ 824 _ _)
  refine xi_aload_n (by decide +kernel : decode mL_law.2.1 824 = .ok (.aload_n 2, 1)) rfl rfl (?_ : XW _ _ _ _ _ _ _ 825 _ _)
  refine xi_aload_n (by decide +kernel : decode mL_law.2.1 825 = .ok (.aload_n 0, 1)) rfl rfl (?_ : XW _ _ _ _ _ _ _ 826 _ _)
  refine xi_iload (by decide +kernel : decode mL_law.2.1 826 = .ok (.iload 4, 2)) rfl (?_ : XW _ _ _ _ _ _ _ 828 _ _)
  refine xi_iconst (v := 1) (by decide +kernel : decode mL_law.2.1 828 = .ok (.iconst 1, 1)) (by decide) (?_ : XW _ _ _ _ _ _ _ 829 _ _)
  refine xi_iadd (by decide +kernel : decode mL_law.2.1 829 = .ok (.iadd, 1)) (?_ : XW _ _ _ _ _ _ _ 830 _ _)
  obtain ⟨s1, vc⟩ := vc
  refine xi_sldS (by decide +kernel : decode mL_law.2.1 830 = .ok (.iaload, 1)) s1 (?_ : XW _ _ _ _ _ _ _ 831 _ _)
  obtain ⟨Q1, sp, vc⟩ := vc
  refine xi_callVg (b := B + 3) (bs := S + 18) (As := [.int (xs (x4 + 1).toNatClampNeg)]) (st := []) (by decide +kernel : decode mL_law.2.1 831 = .ok (.invokevirtual 161, 3)) kL_161 rfl rfl (by omega) rfl sp (by decide) (by decide) (Nat.le_of_ble_eq_true rfl) (by omega) (fun v9 h5 hq9 hx9 => ?_)
  obtain ⟨r5, e9, vc⟩ := vc v9 h5 hq9 hx9
  subst e9
  show XW _ _ _ _ _ _ _ 834 _ [.int r5]
  refine xi_istore (ls' := [some (.ref 3000), some (.ref 0), some (.ref 56), some (.ref 99), some (.int x4), some (.int r4), some (.int r5), none]) (by decide +kernel : decode mL_law.2.1 834 = .ok (.istore 6, 2)) (by decide) rfl (?_ : XW _ _ _ _ _ _ _ 836 _ _)
  refine xi_aload_n (by decide +kernel : decode mL_law.2.1 836 = .ok (.aload_n 2, 1)) rfl rfl (?_ : XW _ _ _ _ _ _ _ 837 _ _)
  obtain ⟨Q1, sp, vc⟩ := vc
  refine xi_callVg (b := B + 3) (bs := S + 18) (As := []) (st := []) (by decide +kernel : decode mL_law.2.1 837 = .ok (.invokevirtual 125, 3)) kL_125 rfl rfl (by omega) rfl sp (by decide) (by decide) (Nat.le_of_ble_eq_true rfl) (by omega) (fun v9 h6 hq9 hx9 => ?_)
  obtain ⟨r6, e9, vc⟩ := vc v9 h6 hq9 hx9
  subst e9
  show XW _ _ _ _ _ _ _ 840 _ [.int r6]
  refine xi_iload (by decide +kernel : decode mL_law.2.1 840 = .ok (.iload 5, 2)) rfl (?_ : XW _ _ _ _ _ _ _ 842 _ _)
  refine xi_icmp_eq (by decide +kernel : decode mL_law.2.1 842 = .ok (.if_icmp .eq 5, 3)) (by decide) (fun c => (?_ : XW _ _ _ _ _ _ _ 847 _ _)) (fun c => (?_ : XW _ _ _ _ _ _ _ 845 _ _))
  · replace vc := vc.1 c
    refine xi_iload (by decide +kernel : decode mL_law.2.1 847 = .ok (.iload 5, 2)) rfl (?_ : XW _ _ _ _ _ _ _ 849 _ _)
    refine xi_if_ne (by decide +kernel : decode mL_law.2.1 849 = .ok (.ifCond .ne 15, 3)) (by decide) (fun c => (?_ : XW _ _ _ _ _ _ _ 864 _ _)) (fun c => (?_ : XW _ _ _ _ _ _ _ 852 _ _))
    · replace vc := vc.1 c
      refine xi_goto (by decide +kernel : decode mL_law.2.1 864 = .ok (.goto 1528, 3)) (by decide) (?_ : XW _ _ _ _ _ _ _ 2392 _ _)
      refine xw_drop 5 (ls' := [some (.ref 3000), some (.ref 0), some (.ref 56), some (.ref 99), some (.int x4), none, some (.int r5), none]) rfl ?_
      refine xw_drop 6 (ls' := [some (.ref 3000), some (.ref 0), some (.ref 56), some (.ref 99), some (.int x4), none, none, none]) rfl ?_
      refine xw_b (b' := B) (bs' := S) (by omega) (by omega) ?_
      exact vc
    · replace vc := vc.2 c
      refine xi_aload_n (by decide +kernel : decode mL_law.2.1 852 = .ok (.aload_n 3, 1)) rfl rfl (?_ : XW _ _ _ _ _ _ _ 853 _ _)
      refine xi_iconst (v := 0) (by decide +kernel : decode mL_law.2.1 853 = .ok (.iconst 0, 1)) (by decide) (?_ : XW _ _ _ _ _ _ _ 854 _ _)
      refine xi_lald (by decide +kernel : decode mL_law.2.1 854 = .ok (.laload, 1)) rfl (by omega) (by unfold vp_in; decide) (?_ : XW _ _ _ _ _ _ _ 855 _ [.long (xL h6 99 0)])
      refine xi_iload (by decide +kernel : decode mL_law.2.1 855 = .ok (.iload 6, 2)) rfl (?_ : XW _ _ _ _ _ _ _ 857 _ _)
      refine xi_i2l (by decide +kernel : decode mL_law.2.1 857 = .ok (.i2l, 1)) (?_ : XW _ _ _ _ _ _ _ 858 _ _)
      refine xi_lcmp (by decide +kernel : decode mL_law.2.1 858 = .ok (.lcmp, 1)) (?_ : XW _ _ _ _ _ _ _ 859 _ _)
      refine xi_if_eq (by decide +kernel : decode mL_law.2.1 859 = .ok (.ifCond .eq 5, 3)) (by decide) (fun c => (?_ : XW _ _ _ _ _ _ _ 864 _ _)) (fun c => (?_ : XW _ _ _ _ _ _ _ 862 _ _))
      · replace vc := vc.1 c
        refine xi_goto (by decide +kernel : decode mL_law.2.1 864 = .ok (.goto 1528, 3)) (by decide) (?_ : XW _ _ _ _ _ _ _ 2392 _ _)
        refine xw_drop 5 (ls' := [some (.ref 3000), some (.ref 0), some (.ref 56), some (.ref 99), some (.int x4), none, some (.int r5), none]) rfl ?_
        refine xw_drop 6 (ls' := [some (.ref 3000), some (.ref 0), some (.ref 56), some (.ref 99), some (.int x4), none, none, none]) rfl ?_
        refine xw_b (b' := B) (bs' := S) (by omega) (by omega) ?_
        exact vc
      · replace vc := vc.2 c
        refine xi_iconst (v := 0) (by decide +kernel : decode mL_law.2.1 862 = .ok (.iconst 0, 1)) (by decide) (?_ : XW _ _ _ _ _ _ _ 863 _ _)
        exact vc.elim
  · replace vc := vc.2 c
    refine xi_iconst (v := 0) (by decide +kernel : decode mL_law.2.1 845 = .ok (.iconst 0, 1)) (by decide) (?_ : XW _ _ _ _ _ _ _ 846 _ _)
    exact vc.elim

set_option maxRecDepth 20000 in
theorem v_L_law_867 {h : XH} {Q : Option Value → XH → Prop} {X : String → XH → Prop} (xs : Nat → Int32) (L B S : Nat)  (x4 : Int32)
    (vc : (vp_in (x4 + 1) L) ∧ (∃ Q1, XSpecH mL_row 8 1 6 100 100 [.ref 0, .int (xs (x4 + 1).toNatClampNeg), .ref 99] h Q1 ∧ ∀ v h7, Q1 v h7 → ∃ r7 : Int32, v = some (.int r7) ∧ ((vp_in (x4 + 1) L) ∧ (∃ Q1, XSpec mX11_row 2 0 0 100 100 [.ref 56, .int (xs (x4 + 1).toNatClampNeg)] h7 Q1 xno ∧ ∀ v h8, Q1 v h8 → xL h8 99 0 = xL h7 99 0 → ∃ r8 : Int32, v = some (.int r8) ∧ (∃ Q1, XSpec mX11_thrown 1 0 0 100 100 [.ref 56] h8 Q1 xno ∧ ∀ v h9, Q1 v h9 → xL h9 99 0 = xL h8 99 0 → ∃ r9 : Int32, v = some (.int r9) ∧ ((r9 = r7 → (¬ r7 = 0 → XW room_1 mL_law (xEL xs L) 100 B S h9 2392 [some (.ref 3000), some (.ref 0), some (.ref 56), some (.ref 99), some (.int x4), none, none, none] []) ∧ (r7 = 0 → ((lg_cmp (xL h9 99 0) (Int32.toInt64 r8)) = 0 → XW room_1 mL_law (xEL xs L) 100 B S h9 2392 [some (.ref 3000), some (.ref 0), some (.ref 56), some (.ref 99), some (.int x4), none, none, none] []) ∧ (¬ (lg_cmp (xL h9 99 0) (Int32.toInt64 r8)) = 0 → False))) ∧ (¬ r9 = r7 → False))))))) :
    XW room_1 mL_law (xEL xs L) 100 (B + 4) (S + 24) h 867 [some (.ref 3000), some (.ref 0), some (.ref 56), some (.ref 99), some (.int x4), none, none, none] [] := by
  refine xi_aload_n (by decide +kernel : decode mL_law.2.1 867 = .ok (.aload_n 1, 1)) rfl rfl (?_ : XW _ _ _ _ _ _ _ 868 _ _)
  refine xi_aload_n (by decide +kernel : decode mL_law.2.1 868 = .ok (.aload_n 0, 1)) rfl rfl (?_ : XW _ _ _ _ _ _ _ 869 _ _)
  refine xi_iload (by decide +kernel : decode mL_law.2.1 869 = .ok (.iload 4, 2)) rfl (?_ : XW _ _ _ _ _ _ _ 871 _ _)
  refine xi_iconst (v := 1) (by decide +kernel : decode mL_law.2.1 871 = .ok (.iconst 1, 1)) (by decide) (?_ : XW _ _ _ _ _ _ _ 872 _ _)
  refine xi_iadd (by decide +kernel : decode mL_law.2.1 872 = .ok (.iadd, 1)) (?_ : XW _ _ _ _ _ _ _ 873 _ _)
  obtain ⟨s1, vc⟩ := vc
  refine xi_sldS (by decide +kernel : decode mL_law.2.1 873 = .ok (.iaload, 1)) s1 (?_ : XW _ _ _ _ _ _ _ 874 _ _)
  refine xi_aload_n (by decide +kernel : decode mL_law.2.1 874 = .ok (.aload_n 3, 1)) rfl rfl (?_ : XW _ _ _ _ _ _ _ 875 _ _)
  obtain ⟨Q1, sp, vc⟩ := vc
  refine xi_callSH (b := B + 3) (bs := S + 18) (As := [.ref 0, .int (xs (x4 + 1).toNatClampNeg), .ref 99]) (st := []) (by decide +kernel : decode mL_law.2.1 875 = .ok (.invokestatic 162, 3)) kL_162 rfl rfl sp (by decide) (by decide) (Nat.le_of_ble_eq_true rfl) (by omega) (fun v9 h7 hq9 => ?_)
  obtain ⟨r7, e9, vc⟩ := vc v9 h7 hq9
  subst e9
  show XW _ _ _ _ _ _ _ 878 _ [.int r7]
  refine xi_istore (ls' := [some (.ref 3000), some (.ref 0), some (.ref 56), some (.ref 99), some (.int x4), some (.int r7), none, none]) (by decide +kernel : decode mL_law.2.1 878 = .ok (.istore 5, 2)) (by decide) rfl (?_ : XW _ _ _ _ _ _ _ 880 _ _)
  refine xi_aload_n (by decide +kernel : decode mL_law.2.1 880 = .ok (.aload_n 2, 1)) rfl rfl (?_ : XW _ _ _ _ _ _ _ 881 _ _)
  refine xi_aload_n (by decide +kernel : decode mL_law.2.1 881 = .ok (.aload_n 0, 1)) rfl rfl (?_ : XW _ _ _ _ _ _ _ 882 _ _)
  refine xi_iload (by decide +kernel : decode mL_law.2.1 882 = .ok (.iload 4, 2)) rfl (?_ : XW _ _ _ _ _ _ _ 884 _ _)
  refine xi_iconst (v := 1) (by decide +kernel : decode mL_law.2.1 884 = .ok (.iconst 1, 1)) (by decide) (?_ : XW _ _ _ _ _ _ _ 885 _ _)
  refine xi_iadd (by decide +kernel : decode mL_law.2.1 885 = .ok (.iadd, 1)) (?_ : XW _ _ _ _ _ _ _ 886 _ _)
  obtain ⟨s1, vc⟩ := vc
  refine xi_sldS (by decide +kernel : decode mL_law.2.1 886 = .ok (.iaload, 1)) s1 (?_ : XW _ _ _ _ _ _ _ 887 _ _)
  obtain ⟨Q1, sp, vc⟩ := vc
  refine xi_callVg (b := B + 3) (bs := S + 18) (As := [.int (xs (x4 + 1).toNatClampNeg)]) (st := []) (by decide +kernel : decode mL_law.2.1 887 = .ok (.invokevirtual 164, 3)) kL_164 rfl rfl (by omega) rfl sp (by decide) (by decide) (Nat.le_of_ble_eq_true rfl) (by omega) (fun v9 h8 hq9 hx9 => ?_)
  obtain ⟨r8, e9, vc⟩ := vc v9 h8 hq9 hx9
  subst e9
  show XW _ _ _ _ _ _ _ 890 _ [.int r8]
  refine xi_istore (ls' := [some (.ref 3000), some (.ref 0), some (.ref 56), some (.ref 99), some (.int x4), some (.int r7), some (.int r8), none]) (by decide +kernel : decode mL_law.2.1 890 = .ok (.istore 6, 2)) (by decide) rfl (?_ : XW _ _ _ _ _ _ _ 892 _ _)
  refine xi_aload_n (by decide +kernel : decode mL_law.2.1 892 = .ok (.aload_n 2, 1)) rfl rfl (?_ : XW _ _ _ _ _ _ _ 893 _ _)
  obtain ⟨Q1, sp, vc⟩ := vc
  refine xi_callVg (b := B + 3) (bs := S + 18) (As := []) (st := []) (by decide +kernel : decode mL_law.2.1 893 = .ok (.invokevirtual 125, 3)) kL_125 rfl rfl (by omega) rfl sp (by decide) (by decide) (Nat.le_of_ble_eq_true rfl) (by omega) (fun v9 h9 hq9 hx9 => ?_)
  obtain ⟨r9, e9, vc⟩ := vc v9 h9 hq9 hx9
  subst e9
  show XW _ _ _ _ _ _ _ 896 _ [.int r9]
  refine xi_iload (by decide +kernel : decode mL_law.2.1 896 = .ok (.iload 5, 2)) rfl (?_ : XW _ _ _ _ _ _ _ 898 _ _)
  refine xi_icmp_eq (by decide +kernel : decode mL_law.2.1 898 = .ok (.if_icmp .eq 5, 3)) (by decide) (fun c => (?_ : XW _ _ _ _ _ _ _ 903 _ _)) (fun c => (?_ : XW _ _ _ _ _ _ _ 901 _ _))
  · replace vc := vc.1 c
    refine xi_iload (by decide +kernel : decode mL_law.2.1 903 = .ok (.iload 5, 2)) rfl (?_ : XW _ _ _ _ _ _ _ 905 _ _)
    refine xi_if_ne (by decide +kernel : decode mL_law.2.1 905 = .ok (.ifCond .ne 15, 3)) (by decide) (fun c => (?_ : XW _ _ _ _ _ _ _ 920 _ _)) (fun c => (?_ : XW _ _ _ _ _ _ _ 908 _ _))
    · replace vc := vc.1 c
      refine xi_goto (by decide +kernel : decode mL_law.2.1 920 = .ok (.goto 1472, 3)) (by decide) (?_ : XW _ _ _ _ _ _ _ 2392 _ _)
      refine xw_drop 5 (ls' := [some (.ref 3000), some (.ref 0), some (.ref 56), some (.ref 99), some (.int x4), none, some (.int r8), none]) rfl ?_
      refine xw_drop 6 (ls' := [some (.ref 3000), some (.ref 0), some (.ref 56), some (.ref 99), some (.int x4), none, none, none]) rfl ?_
      refine xw_b (b' := B) (bs' := S) (by omega) (by omega) ?_
      exact vc
    · replace vc := vc.2 c
      refine xi_aload_n (by decide +kernel : decode mL_law.2.1 908 = .ok (.aload_n 3, 1)) rfl rfl (?_ : XW _ _ _ _ _ _ _ 909 _ _)
      refine xi_iconst (v := 0) (by decide +kernel : decode mL_law.2.1 909 = .ok (.iconst 0, 1)) (by decide) (?_ : XW _ _ _ _ _ _ _ 910 _ _)
      refine xi_lald (by decide +kernel : decode mL_law.2.1 910 = .ok (.laload, 1)) rfl (by omega) (by unfold vp_in; decide) (?_ : XW _ _ _ _ _ _ _ 911 _ [.long (xL h9 99 0)])
      refine xi_iload (by decide +kernel : decode mL_law.2.1 911 = .ok (.iload 6, 2)) rfl (?_ : XW _ _ _ _ _ _ _ 913 _ _)
      refine xi_i2l (by decide +kernel : decode mL_law.2.1 913 = .ok (.i2l, 1)) (?_ : XW _ _ _ _ _ _ _ 914 _ _)
      refine xi_lcmp (by decide +kernel : decode mL_law.2.1 914 = .ok (.lcmp, 1)) (?_ : XW _ _ _ _ _ _ _ 915 _ _)
      refine xi_if_eq (by decide +kernel : decode mL_law.2.1 915 = .ok (.ifCond .eq 5, 3)) (by decide) (fun c => (?_ : XW _ _ _ _ _ _ _ 920 _ _)) (fun c => (?_ : XW _ _ _ _ _ _ _ 918 _ _))
      · replace vc := vc.1 c
        refine xi_goto (by decide +kernel : decode mL_law.2.1 920 = .ok (.goto 1472, 3)) (by decide) (?_ : XW _ _ _ _ _ _ _ 2392 _ _)
        refine xw_drop 5 (ls' := [some (.ref 3000), some (.ref 0), some (.ref 56), some (.ref 99), some (.int x4), none, some (.int r8), none]) rfl ?_
        refine xw_drop 6 (ls' := [some (.ref 3000), some (.ref 0), some (.ref 56), some (.ref 99), some (.int x4), none, none, none]) rfl ?_
        refine xw_b (b' := B) (bs' := S) (by omega) (by omega) ?_
        exact vc
      · replace vc := vc.2 c
        refine xi_iconst (v := 0) (by decide +kernel : decode mL_law.2.1 918 = .ok (.iconst 0, 1)) (by decide) (?_ : XW _ _ _ _ _ _ _ 919 _ _)
        exact vc.elim
  · replace vc := vc.2 c
    refine xi_iconst (v := 0) (by decide +kernel : decode mL_law.2.1 901 = .ok (.iconst 0, 1)) (by decide) (?_ : XW _ _ _ _ _ _ _ 902 _ _)
    exact vc.elim

set_option maxRecDepth 20000 in
theorem v_L_law_923 {h : XH} {Q : Option Value → XH → Prop} {X : String → XH → Prop} (xs : Nat → Int32) (L B S : Nat)  (x4 : Int32)
    (vc : (vp_in (x4 + 1) L) ∧ (∃ Q1, XSpecH mL_never 9 1 6 100 100 [.ref 0, .int (xs (x4 + 1).toNatClampNeg), .ref 99] h Q1 ∧ ∀ v h10, Q1 v h10 → ∃ r10 : Int32, v = some (.int r10) ∧ ((vp_in (x4 + 1) L) ∧ (∃ Q1, XSpec mX11_never 6 0 0 100 100 [.ref 56, .int (xs (x4 + 1).toNatClampNeg)] h10 Q1 xno ∧ ∀ v h11, Q1 v h11 → xL h11 99 0 = xL h10 99 0 → ∃ r11 : Int32, v = some (.int r11) ∧ (∃ Q1, XSpec mX11_thrown 1 0 0 100 100 [.ref 56] h11 Q1 xno ∧ ∀ v h12, Q1 v h12 → xL h12 99 0 = xL h11 99 0 → ∃ r12 : Int32, v = some (.int r12) ∧ ((r12 = r10 → (¬ r10 = 0 → XW room_1 mL_law (xEL xs L) 100 B S h12 2392 [some (.ref 3000), some (.ref 0), some (.ref 56), some (.ref 99), some (.int x4), none, none, none] []) ∧ (r10 = 0 → (r11 = 0 → ((lg_cmp (xL h12 99 0) 0) = 0 → XW room_1 mL_law (xEL xs L) 100 B S h12 2392 [some (.ref 3000), some (.ref 0), some (.ref 56), some (.ref 99), some (.int x4), none, none, none] []) ∧ (¬ (lg_cmp (xL h12 99 0) 0) = 0 → False)) ∧ (¬ r11 = 0 → ((lg_cmp (xL h12 99 0) 1) = 0 → XW room_1 mL_law (xEL xs L) 100 B S h12 2392 [some (.ref 3000), some (.ref 0), some (.ref 56), some (.ref 99), some (.int x4), none, none, none] []) ∧ (¬ (lg_cmp (xL h12 99 0) 1) = 0 → False)))) ∧ (¬ r12 = r10 → False))))))) :
    XW room_1 mL_law (xEL xs L) 100 (B + 4) (S + 24) h 923 [some (.ref 3000), some (.ref 0), some (.ref 56), some (.ref 99), some (.int x4), none, none, none] [] := by
  refine xi_aload_n (by decide +kernel : decode mL_law.2.1 923 = .ok (.aload_n 1, 1)) rfl rfl (?_ : XW _ _ _ _ _ _ _ 924 _ _)
  refine xi_aload_n (by decide +kernel : decode mL_law.2.1 924 = .ok (.aload_n 0, 1)) rfl rfl (?_ : XW _ _ _ _ _ _ _ 925 _ _)
  refine xi_iload (by decide +kernel : decode mL_law.2.1 925 = .ok (.iload 4, 2)) rfl (?_ : XW _ _ _ _ _ _ _ 927 _ _)
  refine xi_iconst (v := 1) (by decide +kernel : decode mL_law.2.1 927 = .ok (.iconst 1, 1)) (by decide) (?_ : XW _ _ _ _ _ _ _ 928 _ _)
  refine xi_iadd (by decide +kernel : decode mL_law.2.1 928 = .ok (.iadd, 1)) (?_ : XW _ _ _ _ _ _ _ 929 _ _)
  obtain ⟨s1, vc⟩ := vc
  refine xi_sldS (by decide +kernel : decode mL_law.2.1 929 = .ok (.iaload, 1)) s1 (?_ : XW _ _ _ _ _ _ _ 930 _ _)
  refine xi_aload_n (by decide +kernel : decode mL_law.2.1 930 = .ok (.aload_n 3, 1)) rfl rfl (?_ : XW _ _ _ _ _ _ _ 931 _ _)
  obtain ⟨Q1, sp, vc⟩ := vc
  refine xi_callSH (b := B + 3) (bs := S + 18) (As := [.ref 0, .int (xs (x4 + 1).toNatClampNeg), .ref 99]) (st := []) (by decide +kernel : decode mL_law.2.1 931 = .ok (.invokestatic 165, 3)) kL_165 rfl rfl sp (by decide) (by decide) (Nat.le_of_ble_eq_true rfl) (by omega) (fun v9 h10 hq9 => ?_)
  obtain ⟨r10, e9, vc⟩ := vc v9 h10 hq9
  subst e9
  show XW _ _ _ _ _ _ _ 934 _ [.int r10]
  refine xi_istore (ls' := [some (.ref 3000), some (.ref 0), some (.ref 56), some (.ref 99), some (.int x4), some (.int r10), none, none]) (by decide +kernel : decode mL_law.2.1 934 = .ok (.istore 5, 2)) (by decide) rfl (?_ : XW _ _ _ _ _ _ _ 936 _ _)
  refine xi_aload_n (by decide +kernel : decode mL_law.2.1 936 = .ok (.aload_n 2, 1)) rfl rfl (?_ : XW _ _ _ _ _ _ _ 937 _ _)
  refine xi_aload_n (by decide +kernel : decode mL_law.2.1 937 = .ok (.aload_n 0, 1)) rfl rfl (?_ : XW _ _ _ _ _ _ _ 938 _ _)
  refine xi_iload (by decide +kernel : decode mL_law.2.1 938 = .ok (.iload 4, 2)) rfl (?_ : XW _ _ _ _ _ _ _ 940 _ _)
  refine xi_iconst (v := 1) (by decide +kernel : decode mL_law.2.1 940 = .ok (.iconst 1, 1)) (by decide) (?_ : XW _ _ _ _ _ _ _ 941 _ _)
  refine xi_iadd (by decide +kernel : decode mL_law.2.1 941 = .ok (.iadd, 1)) (?_ : XW _ _ _ _ _ _ _ 942 _ _)
  obtain ⟨s1, vc⟩ := vc
  refine xi_sldS (by decide +kernel : decode mL_law.2.1 942 = .ok (.iaload, 1)) s1 (?_ : XW _ _ _ _ _ _ _ 943 _ _)
  obtain ⟨Q1, sp, vc⟩ := vc
  refine xi_callVg (b := B + 3) (bs := S + 18) (As := [.int (xs (x4 + 1).toNatClampNeg)]) (st := []) (by decide +kernel : decode mL_law.2.1 943 = .ok (.invokevirtual 167, 3)) kL_167 rfl rfl (by omega) rfl sp (by decide) (by decide) (Nat.le_of_ble_eq_true rfl) (by omega) (fun v9 h11 hq9 hx9 => ?_)
  obtain ⟨r11, e9, vc⟩ := vc v9 h11 hq9 hx9
  subst e9
  show XW _ _ _ _ _ _ _ 946 _ [.int r11]
  refine xi_istore (ls' := [some (.ref 3000), some (.ref 0), some (.ref 56), some (.ref 99), some (.int x4), some (.int r10), some (.int r11), none]) (by decide +kernel : decode mL_law.2.1 946 = .ok (.istore 6, 2)) (by decide) rfl (?_ : XW _ _ _ _ _ _ _ 948 _ _)
  refine xi_aload_n (by decide +kernel : decode mL_law.2.1 948 = .ok (.aload_n 2, 1)) rfl rfl (?_ : XW _ _ _ _ _ _ _ 949 _ _)
  obtain ⟨Q1, sp, vc⟩ := vc
  refine xi_callVg (b := B + 3) (bs := S + 18) (As := []) (st := []) (by decide +kernel : decode mL_law.2.1 949 = .ok (.invokevirtual 125, 3)) kL_125 rfl rfl (by omega) rfl sp (by decide) (by decide) (Nat.le_of_ble_eq_true rfl) (by omega) (fun v9 h12 hq9 hx9 => ?_)
  obtain ⟨r12, e9, vc⟩ := vc v9 h12 hq9 hx9
  subst e9
  show XW _ _ _ _ _ _ _ 952 _ [.int r12]
  refine xi_iload (by decide +kernel : decode mL_law.2.1 952 = .ok (.iload 5, 2)) rfl (?_ : XW _ _ _ _ _ _ _ 954 _ _)
  refine xi_icmp_eq (by decide +kernel : decode mL_law.2.1 954 = .ok (.if_icmp .eq 5, 3)) (by decide) (fun c => (?_ : XW _ _ _ _ _ _ _ 959 _ _)) (fun c => (?_ : XW _ _ _ _ _ _ _ 957 _ _))
  · replace vc := vc.1 c
    refine xi_iload (by decide +kernel : decode mL_law.2.1 959 = .ok (.iload 5, 2)) rfl (?_ : XW _ _ _ _ _ _ _ 961 _ _)
    refine xi_if_ne (by decide +kernel : decode mL_law.2.1 961 = .ok (.ifCond .ne 22, 3)) (by decide) (fun c => (?_ : XW _ _ _ _ _ _ _ 983 _ _)) (fun c => (?_ : XW _ _ _ _ _ _ _ 964 _ _))
    · replace vc := vc.1 c
      refine xi_goto (by decide +kernel : decode mL_law.2.1 983 = .ok (.goto 1409, 3)) (by decide) (?_ : XW _ _ _ _ _ _ _ 2392 _ _)
      refine xw_drop 5 (ls' := [some (.ref 3000), some (.ref 0), some (.ref 56), some (.ref 99), some (.int x4), none, some (.int r11), none]) rfl ?_
      refine xw_drop 6 (ls' := [some (.ref 3000), some (.ref 0), some (.ref 56), some (.ref 99), some (.int x4), none, none, none]) rfl ?_
      refine xw_b (b' := B) (bs' := S) (by omega) (by omega) ?_
      exact vc
    · replace vc := vc.2 c
      refine xi_aload_n (by decide +kernel : decode mL_law.2.1 964 = .ok (.aload_n 3, 1)) rfl rfl (?_ : XW _ _ _ _ _ _ _ 965 _ _)
      refine xi_iconst (v := 0) (by decide +kernel : decode mL_law.2.1 965 = .ok (.iconst 0, 1)) (by decide) (?_ : XW _ _ _ _ _ _ _ 966 _ _)
      refine xi_lald (by decide +kernel : decode mL_law.2.1 966 = .ok (.laload, 1)) rfl (by omega) (by unfold vp_in; decide) (?_ : XW _ _ _ _ _ _ _ 967 _ [.long (xL h12 99 0)])
      refine xi_iload (by decide +kernel : decode mL_law.2.1 967 = .ok (.iload 6, 2)) rfl (?_ : XW _ _ _ _ _ _ _ 969 _ _)
      refine xi_if_eq (by decide +kernel : decode mL_law.2.1 969 = .ok (.ifCond .eq 7, 3)) (by decide) (fun c => (?_ : XW _ _ _ _ _ _ _ 976 _ _)) (fun c => (?_ : XW _ _ _ _ _ _ _ 972 _ _))
      · replace vc := vc.1 c
        refine xi_lconst (v := 0) (by decide +kernel : decode mL_law.2.1 976 = .ok (.lconst 0, 1)) (by decide) (?_ : XW _ _ _ _ _ _ _ 977 _ _)
        refine xi_lcmp (by decide +kernel : decode mL_law.2.1 977 = .ok (.lcmp, 1)) (?_ : XW _ _ _ _ _ _ _ 978 _ _)
        refine xi_if_eq (by decide +kernel : decode mL_law.2.1 978 = .ok (.ifCond .eq 5, 3)) (by decide) (fun c => (?_ : XW _ _ _ _ _ _ _ 983 _ _)) (fun c => (?_ : XW _ _ _ _ _ _ _ 981 _ _))
        · replace vc := vc.1 c
          refine xi_goto (by decide +kernel : decode mL_law.2.1 983 = .ok (.goto 1409, 3)) (by decide) (?_ : XW _ _ _ _ _ _ _ 2392 _ _)
          refine xw_drop 5 (ls' := [some (.ref 3000), some (.ref 0), some (.ref 56), some (.ref 99), some (.int x4), none, some (.int r11), none]) rfl ?_
          refine xw_drop 6 (ls' := [some (.ref 3000), some (.ref 0), some (.ref 56), some (.ref 99), some (.int x4), none, none, none]) rfl ?_
          refine xw_b (b' := B) (bs' := S) (by omega) (by omega) ?_
          exact vc
        · replace vc := vc.2 c
          refine xi_iconst (v := 0) (by decide +kernel : decode mL_law.2.1 981 = .ok (.iconst 0, 1)) (by decide) (?_ : XW _ _ _ _ _ _ _ 982 _ _)
          exact vc.elim
      · replace vc := vc.2 c
        refine xi_lconst (v := 1) (by decide +kernel : decode mL_law.2.1 972 = .ok (.lconst 1, 1)) (by decide) (?_ : XW _ _ _ _ _ _ _ 973 _ _)
        refine xi_goto (by decide +kernel : decode mL_law.2.1 973 = .ok (.goto 4, 3)) (by decide) (?_ : XW _ _ _ _ _ _ _ 977 _ _)
        refine xi_lcmp (by decide +kernel : decode mL_law.2.1 977 = .ok (.lcmp, 1)) (?_ : XW _ _ _ _ _ _ _ 978 _ _)
        refine xi_if_eq (by decide +kernel : decode mL_law.2.1 978 = .ok (.ifCond .eq 5, 3)) (by decide) (fun c => (?_ : XW _ _ _ _ _ _ _ 983 _ _)) (fun c => (?_ : XW _ _ _ _ _ _ _ 981 _ _))
        · replace vc := vc.1 c
          refine xi_goto (by decide +kernel : decode mL_law.2.1 983 = .ok (.goto 1409, 3)) (by decide) (?_ : XW _ _ _ _ _ _ _ 2392 _ _)
          refine xw_drop 5 (ls' := [some (.ref 3000), some (.ref 0), some (.ref 56), some (.ref 99), some (.int x4), none, some (.int r11), none]) rfl ?_
          refine xw_drop 6 (ls' := [some (.ref 3000), some (.ref 0), some (.ref 56), some (.ref 99), some (.int x4), none, none, none]) rfl ?_
          refine xw_b (b' := B) (bs' := S) (by omega) (by omega) ?_
          exact vc
        · replace vc := vc.2 c
          refine xi_iconst (v := 0) (by decide +kernel : decode mL_law.2.1 981 = .ok (.iconst 0, 1)) (by decide) (?_ : XW _ _ _ _ _ _ _ 982 _ _)
          exact vc.elim
  · replace vc := vc.2 c
    refine xi_iconst (v := 0) (by decide +kernel : decode mL_law.2.1 957 = .ok (.iconst 0, 1)) (by decide) (?_ : XW _ _ _ _ _ _ _ 958 _ _)
    exact vc.elim

set_option maxRecDepth 20000 in
theorem v_L_law_986 {h : XH} {Q : Option Value → XH → Prop} {X : String → XH → Prop} (xs : Nat → Int32) (L B S : Nat)  (x4 : Int32)
    (vc : (vp_in (x4 + 1) L) ∧ (∃ Q1, XSpecH mL_lost 9 1 6 100 100 [.ref 0, .int (xs (x4 + 1).toNatClampNeg), .ref 99] h Q1 ∧ ∀ v h13, Q1 v h13 → ∃ r13 : Int32, v = some (.int r13) ∧ ((vp_in (x4 + 1) L) ∧ (∃ Q1, XSpec mX11_lost 6 0 0 100 100 [.ref 56, .int (xs (x4 + 1).toNatClampNeg)] h13 Q1 xno ∧ ∀ v h14, Q1 v h14 → xL h14 99 0 = xL h13 99 0 → ∃ r14 : Int32, v = some (.int r14) ∧ (∃ Q1, XSpec mX11_thrown 1 0 0 100 100 [.ref 56] h14 Q1 xno ∧ ∀ v h15, Q1 v h15 → xL h15 99 0 = xL h14 99 0 → ∃ r15 : Int32, v = some (.int r15) ∧ ((r15 = r13 → (¬ r13 = 0 → XW room_1 mL_law (xEL xs L) 100 B S h15 2392 [some (.ref 3000), some (.ref 0), some (.ref 56), some (.ref 99), some (.int x4), none, none, none] []) ∧ (r13 = 0 → (r14 = 0 → ((lg_cmp (xL h15 99 0) 0) = 0 → XW room_1 mL_law (xEL xs L) 100 B S h15 2392 [some (.ref 3000), some (.ref 0), some (.ref 56), some (.ref 99), some (.int x4), none, none, none] []) ∧ (¬ (lg_cmp (xL h15 99 0) 0) = 0 → False)) ∧ (¬ r14 = 0 → ((lg_cmp (xL h15 99 0) 1) = 0 → XW room_1 mL_law (xEL xs L) 100 B S h15 2392 [some (.ref 3000), some (.ref 0), some (.ref 56), some (.ref 99), some (.int x4), none, none, none] []) ∧ (¬ (lg_cmp (xL h15 99 0) 1) = 0 → False)))) ∧ (¬ r15 = r13 → False))))))) :
    XW room_1 mL_law (xEL xs L) 100 (B + 4) (S + 24) h 986 [some (.ref 3000), some (.ref 0), some (.ref 56), some (.ref 99), some (.int x4), none, none, none] [] := by
  refine xi_aload_n (by decide +kernel : decode mL_law.2.1 986 = .ok (.aload_n 1, 1)) rfl rfl (?_ : XW _ _ _ _ _ _ _ 987 _ _)
  refine xi_aload_n (by decide +kernel : decode mL_law.2.1 987 = .ok (.aload_n 0, 1)) rfl rfl (?_ : XW _ _ _ _ _ _ _ 988 _ _)
  refine xi_iload (by decide +kernel : decode mL_law.2.1 988 = .ok (.iload 4, 2)) rfl (?_ : XW _ _ _ _ _ _ _ 990 _ _)
  refine xi_iconst (v := 1) (by decide +kernel : decode mL_law.2.1 990 = .ok (.iconst 1, 1)) (by decide) (?_ : XW _ _ _ _ _ _ _ 991 _ _)
  refine xi_iadd (by decide +kernel : decode mL_law.2.1 991 = .ok (.iadd, 1)) (?_ : XW _ _ _ _ _ _ _ 992 _ _)
  obtain ⟨s1, vc⟩ := vc
  refine xi_sldS (by decide +kernel : decode mL_law.2.1 992 = .ok (.iaload, 1)) s1 (?_ : XW _ _ _ _ _ _ _ 993 _ _)
  refine xi_aload_n (by decide +kernel : decode mL_law.2.1 993 = .ok (.aload_n 3, 1)) rfl rfl (?_ : XW _ _ _ _ _ _ _ 994 _ _)
  obtain ⟨Q1, sp, vc⟩ := vc
  refine xi_callSH (b := B + 3) (bs := S + 18) (As := [.ref 0, .int (xs (x4 + 1).toNatClampNeg), .ref 99]) (st := []) (by decide +kernel : decode mL_law.2.1 994 = .ok (.invokestatic 168, 3)) kL_168 rfl rfl sp (by decide) (by decide) (Nat.le_of_ble_eq_true rfl) (by omega) (fun v9 h13 hq9 => ?_)
  obtain ⟨r13, e9, vc⟩ := vc v9 h13 hq9
  subst e9
  show XW _ _ _ _ _ _ _ 997 _ [.int r13]
  refine xi_istore (ls' := [some (.ref 3000), some (.ref 0), some (.ref 56), some (.ref 99), some (.int x4), some (.int r13), none, none]) (by decide +kernel : decode mL_law.2.1 997 = .ok (.istore 5, 2)) (by decide) rfl (?_ : XW _ _ _ _ _ _ _ 999 _ _)
  refine xi_aload_n (by decide +kernel : decode mL_law.2.1 999 = .ok (.aload_n 2, 1)) rfl rfl (?_ : XW _ _ _ _ _ _ _ 1000 _ _)
  refine xi_aload_n (by decide +kernel : decode mL_law.2.1 1000 = .ok (.aload_n 0, 1)) rfl rfl (?_ : XW _ _ _ _ _ _ _ 1001 _ _)
  refine xi_iload (by decide +kernel : decode mL_law.2.1 1001 = .ok (.iload 4, 2)) rfl (?_ : XW _ _ _ _ _ _ _ 1003 _ _)
  refine xi_iconst (v := 1) (by decide +kernel : decode mL_law.2.1 1003 = .ok (.iconst 1, 1)) (by decide) (?_ : XW _ _ _ _ _ _ _ 1004 _ _)
  refine xi_iadd (by decide +kernel : decode mL_law.2.1 1004 = .ok (.iadd, 1)) (?_ : XW _ _ _ _ _ _ _ 1005 _ _)
  obtain ⟨s1, vc⟩ := vc
  refine xi_sldS (by decide +kernel : decode mL_law.2.1 1005 = .ok (.iaload, 1)) s1 (?_ : XW _ _ _ _ _ _ _ 1006 _ _)
  obtain ⟨Q1, sp, vc⟩ := vc
  refine xi_callVg (b := B + 3) (bs := S + 18) (As := [.int (xs (x4 + 1).toNatClampNeg)]) (st := []) (by decide +kernel : decode mL_law.2.1 1006 = .ok (.invokevirtual 170, 3)) kL_170 rfl rfl (by omega) rfl sp (by decide) (by decide) (Nat.le_of_ble_eq_true rfl) (by omega) (fun v9 h14 hq9 hx9 => ?_)
  obtain ⟨r14, e9, vc⟩ := vc v9 h14 hq9 hx9
  subst e9
  show XW _ _ _ _ _ _ _ 1009 _ [.int r14]
  refine xi_istore (ls' := [some (.ref 3000), some (.ref 0), some (.ref 56), some (.ref 99), some (.int x4), some (.int r13), some (.int r14), none]) (by decide +kernel : decode mL_law.2.1 1009 = .ok (.istore 6, 2)) (by decide) rfl (?_ : XW _ _ _ _ _ _ _ 1011 _ _)
  refine xi_aload_n (by decide +kernel : decode mL_law.2.1 1011 = .ok (.aload_n 2, 1)) rfl rfl (?_ : XW _ _ _ _ _ _ _ 1012 _ _)
  obtain ⟨Q1, sp, vc⟩ := vc
  refine xi_callVg (b := B + 3) (bs := S + 18) (As := []) (st := []) (by decide +kernel : decode mL_law.2.1 1012 = .ok (.invokevirtual 125, 3)) kL_125 rfl rfl (by omega) rfl sp (by decide) (by decide) (Nat.le_of_ble_eq_true rfl) (by omega) (fun v9 h15 hq9 hx9 => ?_)
  obtain ⟨r15, e9, vc⟩ := vc v9 h15 hq9 hx9
  subst e9
  show XW _ _ _ _ _ _ _ 1015 _ [.int r15]
  refine xi_iload (by decide +kernel : decode mL_law.2.1 1015 = .ok (.iload 5, 2)) rfl (?_ : XW _ _ _ _ _ _ _ 1017 _ _)
  refine xi_icmp_eq (by decide +kernel : decode mL_law.2.1 1017 = .ok (.if_icmp .eq 5, 3)) (by decide) (fun c => (?_ : XW _ _ _ _ _ _ _ 1022 _ _)) (fun c => (?_ : XW _ _ _ _ _ _ _ 1020 _ _))
  · replace vc := vc.1 c
    refine xi_iload (by decide +kernel : decode mL_law.2.1 1022 = .ok (.iload 5, 2)) rfl (?_ : XW _ _ _ _ _ _ _ 1024 _ _)
    refine xi_if_ne (by decide +kernel : decode mL_law.2.1 1024 = .ok (.ifCond .ne 22, 3)) (by decide) (fun c => (?_ : XW _ _ _ _ _ _ _ 1046 _ _)) (fun c => (?_ : XW _ _ _ _ _ _ _ 1027 _ _))
    · replace vc := vc.1 c
      refine xi_goto (by decide +kernel : decode mL_law.2.1 1046 = .ok (.goto 1346, 3)) (by decide) (?_ : XW _ _ _ _ _ _ _ 2392 _ _)
      refine xw_drop 5 (ls' := [some (.ref 3000), some (.ref 0), some (.ref 56), some (.ref 99), some (.int x4), none, some (.int r14), none]) rfl ?_
      refine xw_drop 6 (ls' := [some (.ref 3000), some (.ref 0), some (.ref 56), some (.ref 99), some (.int x4), none, none, none]) rfl ?_
      refine xw_b (b' := B) (bs' := S) (by omega) (by omega) ?_
      exact vc
    · replace vc := vc.2 c
      refine xi_aload_n (by decide +kernel : decode mL_law.2.1 1027 = .ok (.aload_n 3, 1)) rfl rfl (?_ : XW _ _ _ _ _ _ _ 1028 _ _)
      refine xi_iconst (v := 0) (by decide +kernel : decode mL_law.2.1 1028 = .ok (.iconst 0, 1)) (by decide) (?_ : XW _ _ _ _ _ _ _ 1029 _ _)
      refine xi_lald (by decide +kernel : decode mL_law.2.1 1029 = .ok (.laload, 1)) rfl (by omega) (by unfold vp_in; decide) (?_ : XW _ _ _ _ _ _ _ 1030 _ [.long (xL h15 99 0)])
      refine xi_iload (by decide +kernel : decode mL_law.2.1 1030 = .ok (.iload 6, 2)) rfl (?_ : XW _ _ _ _ _ _ _ 1032 _ _)
      refine xi_if_eq (by decide +kernel : decode mL_law.2.1 1032 = .ok (.ifCond .eq 7, 3)) (by decide) (fun c => (?_ : XW _ _ _ _ _ _ _ 1039 _ _)) (fun c => (?_ : XW _ _ _ _ _ _ _ 1035 _ _))
      · replace vc := vc.1 c
        refine xi_lconst (v := 0) (by decide +kernel : decode mL_law.2.1 1039 = .ok (.lconst 0, 1)) (by decide) (?_ : XW _ _ _ _ _ _ _ 1040 _ _)
        refine xi_lcmp (by decide +kernel : decode mL_law.2.1 1040 = .ok (.lcmp, 1)) (?_ : XW _ _ _ _ _ _ _ 1041 _ _)
        refine xi_if_eq (by decide +kernel : decode mL_law.2.1 1041 = .ok (.ifCond .eq 5, 3)) (by decide) (fun c => (?_ : XW _ _ _ _ _ _ _ 1046 _ _)) (fun c => (?_ : XW _ _ _ _ _ _ _ 1044 _ _))
        · replace vc := vc.1 c
          refine xi_goto (by decide +kernel : decode mL_law.2.1 1046 = .ok (.goto 1346, 3)) (by decide) (?_ : XW _ _ _ _ _ _ _ 2392 _ _)
          refine xw_drop 5 (ls' := [some (.ref 3000), some (.ref 0), some (.ref 56), some (.ref 99), some (.int x4), none, some (.int r14), none]) rfl ?_
          refine xw_drop 6 (ls' := [some (.ref 3000), some (.ref 0), some (.ref 56), some (.ref 99), some (.int x4), none, none, none]) rfl ?_
          refine xw_b (b' := B) (bs' := S) (by omega) (by omega) ?_
          exact vc
        · replace vc := vc.2 c
          refine xi_iconst (v := 0) (by decide +kernel : decode mL_law.2.1 1044 = .ok (.iconst 0, 1)) (by decide) (?_ : XW _ _ _ _ _ _ _ 1045 _ _)
          exact vc.elim
      · replace vc := vc.2 c
        refine xi_lconst (v := 1) (by decide +kernel : decode mL_law.2.1 1035 = .ok (.lconst 1, 1)) (by decide) (?_ : XW _ _ _ _ _ _ _ 1036 _ _)
        refine xi_goto (by decide +kernel : decode mL_law.2.1 1036 = .ok (.goto 4, 3)) (by decide) (?_ : XW _ _ _ _ _ _ _ 1040 _ _)
        refine xi_lcmp (by decide +kernel : decode mL_law.2.1 1040 = .ok (.lcmp, 1)) (?_ : XW _ _ _ _ _ _ _ 1041 _ _)
        refine xi_if_eq (by decide +kernel : decode mL_law.2.1 1041 = .ok (.ifCond .eq 5, 3)) (by decide) (fun c => (?_ : XW _ _ _ _ _ _ _ 1046 _ _)) (fun c => (?_ : XW _ _ _ _ _ _ _ 1044 _ _))
        · replace vc := vc.1 c
          refine xi_goto (by decide +kernel : decode mL_law.2.1 1046 = .ok (.goto 1346, 3)) (by decide) (?_ : XW _ _ _ _ _ _ _ 2392 _ _)
          refine xw_drop 5 (ls' := [some (.ref 3000), some (.ref 0), some (.ref 56), some (.ref 99), some (.int x4), none, some (.int r14), none]) rfl ?_
          refine xw_drop 6 (ls' := [some (.ref 3000), some (.ref 0), some (.ref 56), some (.ref 99), some (.int x4), none, none, none]) rfl ?_
          refine xw_b (b' := B) (bs' := S) (by omega) (by omega) ?_
          exact vc
        · replace vc := vc.2 c
          refine xi_iconst (v := 0) (by decide +kernel : decode mL_law.2.1 1044 = .ok (.iconst 0, 1)) (by decide) (?_ : XW _ _ _ _ _ _ _ 1045 _ _)
          exact vc.elim
  · replace vc := vc.2 c
    refine xi_iconst (v := 0) (by decide +kernel : decode mL_law.2.1 1020 = .ok (.iconst 0, 1)) (by decide) (?_ : XW _ _ _ _ _ _ _ 1021 _ _)
    exact vc.elim

