/-! THE LAW: its walk, part 6 -/
set_option maxRecDepth 20000 in
theorem v_L_law_1792 {h : XH} {Q : Option Value → XH → Prop} {X : String → XH → Prop} (xs : Nat → Int32) (L B S : Nat)  (x4 : Int32)
    (vc : (vp_in (x4 + 1) L) ∧ (∃ Q1, XSpecH mL_often 9 1 6 100 100 [.ref 0, .int (xs (x4 + 1).toNatClampNeg), .ref 99] h Q1 ∧ ∀ v h1, Q1 v h1 → ∃ r1 : Int32, v = some (.int r1) ∧ ((vp_in (x4 + 1) L) ∧ (∃ Q1, XSpec mX11_often 3 0 0 100 100 [.ref 56, .int (xs (x4 + 1).toNatClampNeg)] h1 Q1 xno ∧ ∀ v h2, Q1 v h2 → xL h2 99 0 = xL h1 99 0 → ∃ r2 : Int32, v = some (.int r2) ∧ (∃ Q1, XSpec mX11_thrown 1 0 0 100 100 [.ref 56] h2 Q1 xno ∧ ∀ v h3, Q1 v h3 → xL h3 99 0 = xL h2 99 0 → ∃ r3 : Int32, v = some (.int r3) ∧ ((r3 = r1 → (¬ r1 = 0 → XW room_1 mL_law (xEL xs L) 100 B S h3 2392 [some (.ref 3000), some (.ref 0), some (.ref 56), some (.ref 99), some (.int x4), none, none, none] []) ∧ (r1 = 0 → ((lg_cmp (xL h3 99 0) (Int32.toInt64 r2)) = 0 → XW room_1 mL_law (xEL xs L) 100 B S h3 2392 [some (.ref 3000), some (.ref 0), some (.ref 56), some (.ref 99), some (.int x4), none, none, none] []) ∧ (¬ (lg_cmp (xL h3 99 0) (Int32.toInt64 r2)) = 0 → False))) ∧ (¬ r3 = r1 → False))))))) :
    XW room_1 mL_law (xEL xs L) 100 (B + 4) (S + 24) h 1792 [some (.ref 3000), some (.ref 0), some (.ref 56), some (.ref 99), some (.int x4), none, none, none] [] := by
  refine xi_aload_n (by decide +kernel : decode mL_law.2.1 1792 = .ok (.aload_n 1, 1)) rfl rfl (?_ : XW _ _ _ _ _ _ _ 1793 _ _)
  refine xi_aload_n (by decide +kernel : decode mL_law.2.1 1793 = .ok (.aload_n 0, 1)) rfl rfl (?_ : XW _ _ _ _ _ _ _ 1794 _ _)
  refine xi_iload (by decide +kernel : decode mL_law.2.1 1794 = .ok (.iload 4, 2)) rfl (?_ : XW _ _ _ _ _ _ _ 1796 _ _)
  refine xi_iconst (v := 1) (by decide +kernel : decode mL_law.2.1 1796 = .ok (.iconst 1, 1)) (by decide) (?_ : XW _ _ _ _ _ _ _ 1797 _ _)
  refine xi_iadd (by decide +kernel : decode mL_law.2.1 1797 = .ok (.iadd, 1)) (?_ : XW _ _ _ _ _ _ _ 1798 _ _)
  obtain ⟨s1, vc⟩ := vc
  refine xi_sldS (by decide +kernel : decode mL_law.2.1 1798 = .ok (.iaload, 1)) s1 (?_ : XW _ _ _ _ _ _ _ 1799 _ _)
  refine xi_aload_n (by decide +kernel : decode mL_law.2.1 1799 = .ok (.aload_n 3, 1)) rfl rfl (?_ : XW _ _ _ _ _ _ _ 1800 _ _)
  obtain ⟨Q1, sp, vc⟩ := vc
  refine xi_callSH (b := B + 3) (bs := S + 18) (As := [.ref 0, .int (xs (x4 + 1).toNatClampNeg), .ref 99]) (st := []) (by decide +kernel : decode mL_law.2.1 1800 = .ok (.invokestatic 206, 3)) kL_206 rfl rfl sp (by decide) (by decide) (Nat.le_of_ble_eq_true rfl) (by omega) (fun v9 h1 hq9 => ?_)
  obtain ⟨r1, e9, vc⟩ := vc v9 h1 hq9
  subst e9
  show XW _ _ _ _ _ _ _ 1803 _ [.int r1]
  refine xi_istore (ls' := [some (.ref 3000), some (.ref 0), some (.ref 56), some (.ref 99), some (.int x4), some (.int r1), none, none]) (by decide +kernel : decode mL_law.2.1 1803 = .ok (.istore 5, 2)) (by decide) rfl (?_ : XW _ _ _ _ _ _ _ 1805 _ _)
  refine xi_aload_n (by decide +kernel : decode mL_law.2.1 1805 = .ok (.aload_n 2, 1)) rfl rfl (?_ : XW _ _ _ _ _ _ _ 1806 _ _)
  refine xi_aload_n (by decide +kernel : decode mL_law.2.1 1806 = .ok (.aload_n 0, 1)) rfl rfl (?_ : XW _ _ _ _ _ _ _ 1807 _ _)
  refine xi_iload (by decide +kernel : decode mL_law.2.1 1807 = .ok (.iload 4, 2)) rfl (?_ : XW _ _ _ _ _ _ _ 1809 _ _)
  refine xi_iconst (v := 1) (by decide +kernel : decode mL_law.2.1 1809 = .ok (.iconst 1, 1)) (by decide) (?_ : XW _ _ _ _ _ _ _ 1810 _ _)
  refine xi_iadd (by decide +kernel : decode mL_law.2.1 1810 = .ok (.iadd, 1)) (?_ : XW _ _ _ _ _ _ _ 1811 _ _)
  obtain ⟨s1, vc⟩ := vc
  refine xi_sldS (by decide +kernel : decode mL_law.2.1 1811 = .ok (.iaload, 1)) s1 (?_ : XW _ _ _ _ _ _ _ 1812 _ _)
  obtain ⟨Q1, sp, vc⟩ := vc
  refine xi_callVg (b := B + 3) (bs := S + 18) (As := [.int (xs (x4 + 1).toNatClampNeg)]) (st := []) (by decide +kernel : decode mL_law.2.1 1812 = .ok (.invokevirtual 208, 3)) kL_208 rfl rfl (by omega) rfl sp (by decide) (by decide) (Nat.le_of_ble_eq_true rfl) (by omega) (fun v9 h2 hq9 hx9 => ?_)
  obtain ⟨r2, e9, vc⟩ := vc v9 h2 hq9 hx9
  subst e9
  show XW _ _ _ _ _ _ _ 1815 _ [.int r2]
  refine xi_istore (ls' := [some (.ref 3000), some (.ref 0), some (.ref 56), some (.ref 99), some (.int x4), some (.int r1), some (.int r2), none]) (by decide +kernel : decode mL_law.2.1 1815 = .ok (.istore 6, 2)) (by decide) rfl (?_ : XW _ _ _ _ _ _ _ 1817 _ _)
  refine xi_aload_n (by decide +kernel : decode mL_law.2.1 1817 = .ok (.aload_n 2, 1)) rfl rfl (?_ : XW _ _ _ _ _ _ _ 1818 _ _)
  obtain ⟨Q1, sp, vc⟩ := vc
  refine xi_callVg (b := B + 3) (bs := S + 18) (As := []) (st := []) (by decide +kernel : decode mL_law.2.1 1818 = .ok (.invokevirtual 125, 3)) kL_125 rfl rfl (by omega) rfl sp (by decide) (by decide) (Nat.le_of_ble_eq_true rfl) (by omega) (fun v9 h3 hq9 hx9 => ?_)
  obtain ⟨r3, e9, vc⟩ := vc v9 h3 hq9 hx9
  subst e9
  show XW _ _ _ _ _ _ _ 1821 _ [.int r3]
  refine xi_iload (by decide +kernel : decode mL_law.2.1 1821 = .ok (.iload 5, 2)) rfl (?_ : XW _ _ _ _ _ _ _ 1823 _ _)
  refine xi_icmp_eq (by decide +kernel : decode mL_law.2.1 1823 = .ok (.if_icmp .eq 5, 3)) (by decide) (fun c => (?_ : XW _ _ _ _ _ _ _ 1828 _ _)) (fun c => (?_ : XW _ _ _ _ _ _ _ 1826 _ _))
  · replace vc := vc.1 c
    refine xi_iload (by decide +kernel : decode mL_law.2.1 1828 = .ok (.iload 5, 2)) rfl (?_ : XW _ _ _ _ _ _ _ 1830 _ _)
    refine xi_if_ne (by decide +kernel : decode mL_law.2.1 1830 = .ok (.ifCond .ne 15, 3)) (by decide) (fun c => (?_ : XW _ _ _ _ _ _ _ 1845 _ _)) (fun c => (?_ : XW _ _ _ _ _ _ _ 1833 _ _))
    · replace vc := vc.1 c
      refine xi_goto (by decide +kernel : decode mL_law.2.1 1845 = .ok (.goto 547, 3)) (by decide) (?_ : XW _ _ _ _ _ _ _ 2392 _ _)
      refine xw_drop 5 (ls' := [some (.ref 3000), some (.ref 0), some (.ref 56), some (.ref 99), some (.int x4), none, some (.int r2), none]) rfl ?_
      refine xw_drop 6 (ls' := [some (.ref 3000), some (.ref 0), some (.ref 56), some (.ref 99), some (.int x4), none, none, none]) rfl ?_
      refine xw_b (b' := B) (bs' := S) (by omega) (by omega) ?_
      exact vc
    · replace vc := vc.2 c
      refine xi_aload_n (by decide +kernel : decode mL_law.2.1 1833 = .ok (.aload_n 3, 1)) rfl rfl (?_ : XW _ _ _ _ _ _ _ 1834 _ _)
      refine xi_iconst (v := 0) (by decide +kernel : decode mL_law.2.1 1834 = .ok (.iconst 0, 1)) (by decide) (?_ : XW _ _ _ _ _ _ _ 1835 _ _)
      refine xi_lald (by decide +kernel : decode mL_law.2.1 1835 = .ok (.laload, 1)) rfl (by omega) (by unfold vp_in; decide) (?_ : XW _ _ _ _ _ _ _ 1836 _ [.long (xL h3 99 0)])
      refine xi_iload (by decide +kernel : decode mL_law.2.1 1836 = .ok (.iload 6, 2)) rfl (?_ : XW _ _ _ _ _ _ _ 1838 _ _)
      refine xi_i2l (by decide +kernel : decode mL_law.2.1 1838 = .ok (.i2l, 1)) (?_ : XW _ _ _ _ _ _ _ 1839 _ _)
      refine xi_lcmp (by decide +kernel : decode mL_law.2.1 1839 = .ok (.lcmp, 1)) (?_ : XW _ _ _ _ _ _ _ 1840 _ _)
      refine xi_if_eq (by decide +kernel : decode mL_law.2.1 1840 = .ok (.ifCond .eq 5, 3)) (by decide) (fun c => (?_ : XW _ _ _ _ _ _ _ 1845 _ _)) (fun c => (?_ : XW _ _ _ _ _ _ _ 1843 _ _))
      · replace vc := vc.1 c
        refine xi_goto (by decide +kernel : decode mL_law.2.1 1845 = .ok (.goto 547, 3)) (by decide) (?_ : XW _ _ _ _ _ _ _ 2392 _ _)
        refine xw_drop 5 (ls' := [some (.ref 3000), some (.ref 0), some (.ref 56), some (.ref 99), some (.int x4), none, some (.int r2), none]) rfl ?_
        refine xw_drop 6 (ls' := [some (.ref 3000), some (.ref 0), some (.ref 56), some (.ref 99), some (.int x4), none, none, none]) rfl ?_
        refine xw_b (b' := B) (bs' := S) (by omega) (by omega) ?_
        exact vc
      · replace vc := vc.2 c
        refine xi_iconst (v := 0) (by decide +kernel : decode mL_law.2.1 1843 = .ok (.iconst 0, 1)) (by decide) (?_ : XW _ _ _ _ _ _ _ 1844 _ _)
        exact vc.elim
  · replace vc := vc.2 c
    refine xi_iconst (v := 0) (by decide +kernel : decode mL_law.2.1 1826 = .ok (.iconst 0, 1)) (by decide) (?_ : XW _ _ _ _ _ _ _ 1827 _ _)
    exact vc.elim

set_option maxRecDepth 20000 in
theorem v_L_law_1848 {h : XH} {Q : Option Value → XH → Prop} {X : String → XH → Prop} (xs : Nat → Int32) (L B S : Nat)  (x4 : Int32)
    (vc : (vp_in (x4 + 1) L) ∧ (∃ Q1, XSpecH mL_unlike 9 1 6 100 100 [.ref 0, .int (xs (x4 + 1).toNatClampNeg), .ref 99] h Q1 ∧ ∀ v h4, Q1 v h4 → ∃ r4 : Int32, v = some (.int r4) ∧ ((vp_in (x4 + 1) L) ∧ (∃ Q1, XSpec mX11_unlike 3 0 0 100 100 [.ref 56, .int (xs (x4 + 1).toNatClampNeg)] h4 Q1 xno ∧ ∀ v h5, Q1 v h5 → xL h5 99 0 = xL h4 99 0 → ∃ r5 : Int64, v = some (.long r5) ∧ (∃ Q1, XSpec mX11_thrown 1 0 0 100 100 [.ref 56] h5 Q1 xno ∧ ∀ v h6, Q1 v h6 → xL h6 99 0 = xL h5 99 0 → ∃ r6 : Int32, v = some (.int r6) ∧ ((r6 = r4 → (¬ r4 = 0 → XW room_1 mL_law (xEL xs L) 100 B S h6 2392 [some (.ref 3000), some (.ref 0), some (.ref 56), some (.ref 99), some (.int x4), none, none, none] []) ∧ (r4 = 0 → ((lg_cmp (xL h6 99 0) r5) = 0 → XW room_1 mL_law (xEL xs L) 100 B S h6 2392 [some (.ref 3000), some (.ref 0), some (.ref 56), some (.ref 99), some (.int x4), none, none, none] []) ∧ (¬ (lg_cmp (xL h6 99 0) r5) = 0 → False))) ∧ (¬ r6 = r4 → False))))))) :
    XW room_1 mL_law (xEL xs L) 100 (B + 4) (S + 24) h 1848 [some (.ref 3000), some (.ref 0), some (.ref 56), some (.ref 99), some (.int x4), none, none, none] [] := by
  refine xi_aload_n (by decide +kernel : decode mL_law.2.1 1848 = .ok (.aload_n 1, 1)) rfl rfl (?_ : XW _ _ _ _ _ _ _ 1849 _ _)
  refine xi_aload_n (by decide +kernel : decode mL_law.2.1 1849 = .ok (.aload_n 0, 1)) rfl rfl (?_ : XW _ _ _ _ _ _ _ 1850 _ _)
  refine xi_iload (by decide +kernel : decode mL_law.2.1 1850 = .ok (.iload 4, 2)) rfl (?_ : XW _ _ _ _ _ _ _ 1852 _ _)
  refine xi_iconst (v := 1) (by decide +kernel : decode mL_law.2.1 1852 = .ok (.iconst 1, 1)) (by decide) (?_ : XW _ _ _ _ _ _ _ 1853 _ _)
  refine xi_iadd (by decide +kernel : decode mL_law.2.1 1853 = .ok (.iadd, 1)) (?_ : XW _ _ _ _ _ _ _ 1854 _ _)
  obtain ⟨s1, vc⟩ := vc
  refine xi_sldS (by decide +kernel : decode mL_law.2.1 1854 = .ok (.iaload, 1)) s1 (?_ : XW _ _ _ _ _ _ _ 1855 _ _)
  refine xi_aload_n (by decide +kernel : decode mL_law.2.1 1855 = .ok (.aload_n 3, 1)) rfl rfl (?_ : XW _ _ _ _ _ _ _ 1856 _ _)
  obtain ⟨Q1, sp, vc⟩ := vc
  refine xi_callSH (b := B + 3) (bs := S + 18) (As := [.ref 0, .int (xs (x4 + 1).toNatClampNeg), .ref 99]) (st := []) (by decide +kernel : decode mL_law.2.1 1856 = .ok (.invokestatic 209, 3)) kL_209 rfl rfl sp (by decide) (by decide) (Nat.le_of_ble_eq_true rfl) (by omega) (fun v9 h4 hq9 => ?_)
  obtain ⟨r4, e9, vc⟩ := vc v9 h4 hq9
  subst e9
  show XW _ _ _ _ _ _ _ 1859 _ [.int r4]
  refine xi_istore (ls' := [some (.ref 3000), some (.ref 0), some (.ref 56), some (.ref 99), some (.int x4), some (.int r4), none, none]) (by decide +kernel : decode mL_law.2.1 1859 = .ok (.istore 5, 2)) (by decide) rfl (?_ : XW _ _ _ _ _ _ _ 1861 _ _)
  refine xi_aload_n (by decide +kernel : decode mL_law.2.1 1861 = .ok (.aload_n 2, 1)) rfl rfl (?_ : XW _ _ _ _ _ _ _ 1862 _ _)
  refine xi_aload_n (by decide +kernel : decode mL_law.2.1 1862 = .ok (.aload_n 0, 1)) rfl rfl (?_ : XW _ _ _ _ _ _ _ 1863 _ _)
  refine xi_iload (by decide +kernel : decode mL_law.2.1 1863 = .ok (.iload 4, 2)) rfl (?_ : XW _ _ _ _ _ _ _ 1865 _ _)
  refine xi_iconst (v := 1) (by decide +kernel : decode mL_law.2.1 1865 = .ok (.iconst 1, 1)) (by decide) (?_ : XW _ _ _ _ _ _ _ 1866 _ _)
  refine xi_iadd (by decide +kernel : decode mL_law.2.1 1866 = .ok (.iadd, 1)) (?_ : XW _ _ _ _ _ _ _ 1867 _ _)
  obtain ⟨s1, vc⟩ := vc
  refine xi_sldS (by decide +kernel : decode mL_law.2.1 1867 = .ok (.iaload, 1)) s1 (?_ : XW _ _ _ _ _ _ _ 1868 _ _)
  obtain ⟨Q1, sp, vc⟩ := vc
  refine xi_callVg (b := B + 3) (bs := S + 18) (As := [.int (xs (x4 + 1).toNatClampNeg)]) (st := []) (by decide +kernel : decode mL_law.2.1 1868 = .ok (.invokevirtual 211, 3)) kL_211 rfl rfl (by omega) rfl sp (by decide) (by decide) (Nat.le_of_ble_eq_true rfl) (by omega) (fun v9 h5 hq9 hx9 => ?_)
  obtain ⟨r5, e9, vc⟩ := vc v9 h5 hq9 hx9
  subst e9
  show XW _ _ _ _ _ _ _ 1871 _ [.long r5]
  refine xi_lstore (ls' := [some (.ref 3000), some (.ref 0), some (.ref 56), some (.ref 99), some (.int x4), some (.int r4), some (.long r5), none]) (by decide +kernel : decode mL_law.2.1 1871 = .ok (.lstore 6, 2)) (by decide) rfl (?_ : XW _ _ _ _ _ _ _ 1873 _ _)
  refine xi_aload_n (by decide +kernel : decode mL_law.2.1 1873 = .ok (.aload_n 2, 1)) rfl rfl (?_ : XW _ _ _ _ _ _ _ 1874 _ _)
  obtain ⟨Q1, sp, vc⟩ := vc
  refine xi_callVg (b := B + 3) (bs := S + 18) (As := []) (st := []) (by decide +kernel : decode mL_law.2.1 1874 = .ok (.invokevirtual 125, 3)) kL_125 rfl rfl (by omega) rfl sp (by decide) (by decide) (Nat.le_of_ble_eq_true rfl) (by omega) (fun v9 h6 hq9 hx9 => ?_)
  obtain ⟨r6, e9, vc⟩ := vc v9 h6 hq9 hx9
  subst e9
  show XW _ _ _ _ _ _ _ 1877 _ [.int r6]
  refine xi_iload (by decide +kernel : decode mL_law.2.1 1877 = .ok (.iload 5, 2)) rfl (?_ : XW _ _ _ _ _ _ _ 1879 _ _)
  refine xi_icmp_eq (by decide +kernel : decode mL_law.2.1 1879 = .ok (.if_icmp .eq 5, 3)) (by decide) (fun c => (?_ : XW _ _ _ _ _ _ _ 1884 _ _)) (fun c => (?_ : XW _ _ _ _ _ _ _ 1882 _ _))
  · replace vc := vc.1 c
    refine xi_iload (by decide +kernel : decode mL_law.2.1 1884 = .ok (.iload 5, 2)) rfl (?_ : XW _ _ _ _ _ _ _ 1886 _ _)
    refine xi_if_ne (by decide +kernel : decode mL_law.2.1 1886 = .ok (.ifCond .ne 14, 3)) (by decide) (fun c => (?_ : XW _ _ _ _ _ _ _ 1900 _ _)) (fun c => (?_ : XW _ _ _ _ _ _ _ 1889 _ _))
    · replace vc := vc.1 c
      refine xi_goto (by decide +kernel : decode mL_law.2.1 1900 = .ok (.goto 492, 3)) (by decide) (?_ : XW _ _ _ _ _ _ _ 2392 _ _)
      refine xw_drop 5 (ls' := [some (.ref 3000), some (.ref 0), some (.ref 56), some (.ref 99), some (.int x4), none, some (.long r5), none]) rfl ?_
      refine xw_drop 6 (ls' := [some (.ref 3000), some (.ref 0), some (.ref 56), some (.ref 99), some (.int x4), none, none, none]) rfl ?_
      refine xw_b (b' := B) (bs' := S) (by omega) (by omega) ?_
      exact vc
    · replace vc := vc.2 c
      refine xi_aload_n (by decide +kernel : decode mL_law.2.1 1889 = .ok (.aload_n 3, 1)) rfl rfl (?_ : XW _ _ _ _ _ _ _ 1890 _ _)
      refine xi_iconst (v := 0) (by decide +kernel : decode mL_law.2.1 1890 = .ok (.iconst 0, 1)) (by decide) (?_ : XW _ _ _ _ _ _ _ 1891 _ _)
      refine xi_lald (by decide +kernel : decode mL_law.2.1 1891 = .ok (.laload, 1)) rfl (by omega) (by unfold vp_in; decide) (?_ : XW _ _ _ _ _ _ _ 1892 _ [.long (xL h6 99 0)])
      refine xi_lload (by decide +kernel : decode mL_law.2.1 1892 = .ok (.lload 6, 2)) rfl (?_ : XW _ _ _ _ _ _ _ 1894 _ _)
      refine xi_lcmp (by decide +kernel : decode mL_law.2.1 1894 = .ok (.lcmp, 1)) (?_ : XW _ _ _ _ _ _ _ 1895 _ _)
      refine xi_if_eq (by decide +kernel : decode mL_law.2.1 1895 = .ok (.ifCond .eq 5, 3)) (by decide) (fun c => (?_ : XW _ _ _ _ _ _ _ 1900 _ _)) (fun c => (?_ : XW _ _ _ _ _ _ _ 1898 _ _))
      · replace vc := vc.1 c
        refine xi_goto (by decide +kernel : decode mL_law.2.1 1900 = .ok (.goto 492, 3)) (by decide) (?_ : XW _ _ _ _ _ _ _ 2392 _ _)
        refine xw_drop 5 (ls' := [some (.ref 3000), some (.ref 0), some (.ref 56), some (.ref 99), some (.int x4), none, some (.long r5), none]) rfl ?_
        refine xw_drop 6 (ls' := [some (.ref 3000), some (.ref 0), some (.ref 56), some (.ref 99), some (.int x4), none, none, none]) rfl ?_
        refine xw_b (b' := B) (bs' := S) (by omega) (by omega) ?_
        exact vc
      · replace vc := vc.2 c
        refine xi_iconst (v := 0) (by decide +kernel : decode mL_law.2.1 1898 = .ok (.iconst 0, 1)) (by decide) (?_ : XW _ _ _ _ _ _ _ 1899 _ _)
        exact vc.elim
  · replace vc := vc.2 c
    refine xi_iconst (v := 0) (by decide +kernel : decode mL_law.2.1 1882 = .ok (.iconst 0, 1)) (by decide) (?_ : XW _ _ _ _ _ _ _ 1883 _ _)
    exact vc.elim

set_option maxRecDepth 20000 in
theorem v_L_law_1903 {h : XH} {Q : Option Value → XH → Prop} {X : String → XH → Prop} (xs : Nat → Int32) (L B S : Nat)  (x4 : Int32)
    (vc : ∃ Q1, XSpec mX10_worn 4 0 0 100 100 [.ref 0] h Q1 xno ∧ ∀ v h7, Q1 v h7 → ∃ r7 : Int32, v = some (.int r7) ∧ (∃ Q1, XSpec mX11_worn 3 0 0 100 100 [.ref 56] h7 Q1 xno ∧ ∀ v h8, Q1 v h8 → xL h8 99 0 = xL h7 99 0 → ∃ r8 : Int32, v = some (.int r8) ∧ ((r7 = r8 → XW room_1 mL_law (xEL xs L) 100 B S h8 2392 [some (.ref 3000), some (.ref 0), some (.ref 56), some (.ref 99), some (.int x4), none, none, none] []) ∧ (¬ r7 = r8 → False)))) :
    XW room_1 mL_law (xEL xs L) 100 (B + 4) (S + 24) h 1903 [some (.ref 3000), some (.ref 0), some (.ref 56), some (.ref 99), some (.int x4), none, none, none] [] := by
  refine xi_aload_n (by decide +kernel : decode mL_law.2.1 1903 = .ok (.aload_n 1, 1)) rfl rfl (?_ : XW _ _ _ _ _ _ _ 1904 _ _)
  obtain ⟨Q1, sp, vc⟩ := vc
  refine xi_callV (b := B + 4) (bs := S + 24) (As := []) (st := []) (by decide +kernel : decode mL_law.2.1 1904 = .ok (.invokevirtual 212, 3)) kL_212 rfl rfl (by omega) rfl sp (by decide) (by decide) (Nat.le_of_ble_eq_true rfl) (by omega) (fun v9 h7 hq9 => ?_)
  obtain ⟨r7, e9, vc⟩ := vc v9 h7 hq9
  subst e9
  show XW _ _ _ _ _ _ _ 1907 _ [.int r7]
  refine xi_aload_n (by decide +kernel : decode mL_law.2.1 1907 = .ok (.aload_n 2, 1)) rfl rfl (?_ : XW _ _ _ _ _ _ _ 1908 _ _)
  obtain ⟨Q1, sp, vc⟩ := vc
  refine xi_callVg (b := B + 4) (bs := S + 24) (As := []) (st := [.int r7]) (by decide +kernel : decode mL_law.2.1 1908 = .ok (.invokevirtual 215, 3)) kL_215 rfl rfl (by omega) rfl sp (by decide) (by decide) (Nat.le_of_ble_eq_true rfl) (by omega) (fun v9 h8 hq9 hx9 => ?_)
  obtain ⟨r8, e9, vc⟩ := vc v9 h8 hq9 hx9
  subst e9
  show XW _ _ _ _ _ _ _ 1911 _ [.int r8, .int r7]
  refine xi_icmp_eq (by decide +kernel : decode mL_law.2.1 1911 = .ok (.if_icmp .eq 481, 3)) (by decide) (fun c => (?_ : XW _ _ _ _ _ _ _ 2392 _ _)) (fun c => (?_ : XW _ _ _ _ _ _ _ 1914 _ _))
  · replace vc := vc.1 c
    refine xw_b (b' := B) (bs' := S) (by omega) (by omega) ?_
    exact vc
  · replace vc := vc.2 c
    refine xi_iconst (v := 0) (by decide +kernel : decode mL_law.2.1 1914 = .ok (.iconst 0, 1)) (by decide) (?_ : XW _ _ _ _ _ _ _ 1915 _ _)
    exact vc.elim

set_option maxRecDepth 20000 in
theorem v_L_law_1916 {h : XH} {Q : Option Value → XH → Prop} {X : String → XH → Prop} (xs : Nat → Int32) (L B S : Nat)  (x4 : Int32)
    (vc : (vp_in (x4 + 1) L) ∧ (∃ Q1, XSpec mX10_note 2 0 0 100 100 [.ref 0, .int (xs (x4 + 1).toNatClampNeg)] h Q1 xno ∧ ∀ v h9, Q1 v h9 → ∃ r9 : Int32, v = some (.int r9) ∧ ((vp_in (x4 + 1) L) ∧ (∃ Q1, XSpec mX11_note 2 0 0 100 100 [.ref 56, .int (xs (x4 + 1).toNatClampNeg)] h9 Q1 xno ∧ ∀ v h10, Q1 v h10 → xL h10 99 0 = xL h9 99 0 → ∃ r10 : Int32, v = some (.int r10) ∧ ((r9 = r10 → XW room_1 mL_law (xEL xs L) 100 B S h10 2392 [some (.ref 3000), some (.ref 0), some (.ref 56), some (.ref 99), some (.int x4), none, none, none] []) ∧ (¬ r9 = r10 → False)))))) :
    XW room_1 mL_law (xEL xs L) 100 (B + 4) (S + 24) h 1916 [some (.ref 3000), some (.ref 0), some (.ref 56), some (.ref 99), some (.int x4), none, none, none] [] := by
  refine xi_aload_n (by decide +kernel : decode mL_law.2.1 1916 = .ok (.aload_n 1, 1)) rfl rfl (?_ : XW _ _ _ _ _ _ _ 1917 _ _)
  refine xi_aload_n (by decide +kernel : decode mL_law.2.1 1917 = .ok (.aload_n 0, 1)) rfl rfl (?_ : XW _ _ _ _ _ _ _ 1918 _ _)
  refine xi_iload (by decide +kernel : decode mL_law.2.1 1918 = .ok (.iload 4, 2)) rfl (?_ : XW _ _ _ _ _ _ _ 1920 _ _)
  refine xi_iconst (v := 1) (by decide +kernel : decode mL_law.2.1 1920 = .ok (.iconst 1, 1)) (by decide) (?_ : XW _ _ _ _ _ _ _ 1921 _ _)
  refine xi_iadd (by decide +kernel : decode mL_law.2.1 1921 = .ok (.iadd, 1)) (?_ : XW _ _ _ _ _ _ _ 1922 _ _)
  obtain ⟨s1, vc⟩ := vc
  refine xi_sldS (by decide +kernel : decode mL_law.2.1 1922 = .ok (.iaload, 1)) s1 (?_ : XW _ _ _ _ _ _ _ 1923 _ _)
  obtain ⟨Q1, sp, vc⟩ := vc
  refine xi_callV (b := B + 4) (bs := S + 24) (As := [.int (xs (x4 + 1).toNatClampNeg)]) (st := []) (by decide +kernel : decode mL_law.2.1 1923 = .ok (.invokevirtual 216, 3)) kL_216 rfl rfl (by omega) rfl sp (by decide) (by decide) (Nat.le_of_ble_eq_true rfl) (by omega) (fun v9 h9 hq9 => ?_)
  obtain ⟨r9, e9, vc⟩ := vc v9 h9 hq9
  subst e9
  show XW _ _ _ _ _ _ _ 1926 _ [.int r9]
  refine xi_aload_n (by decide +kernel : decode mL_law.2.1 1926 = .ok (.aload_n 2, 1)) rfl rfl (?_ : XW _ _ _ _ _ _ _ 1927 _ _)
  refine xi_aload_n (by decide +kernel : decode mL_law.2.1 1927 = .ok (.aload_n 0, 1)) rfl rfl (?_ : XW _ _ _ _ _ _ _ 1928 _ _)
  refine xi_iload (by decide +kernel : decode mL_law.2.1 1928 = .ok (.iload 4, 2)) rfl (?_ : XW _ _ _ _ _ _ _ 1930 _ _)
  refine xi_iconst (v := 1) (by decide +kernel : decode mL_law.2.1 1930 = .ok (.iconst 1, 1)) (by decide) (?_ : XW _ _ _ _ _ _ _ 1931 _ _)
  refine xi_iadd (by decide +kernel : decode mL_law.2.1 1931 = .ok (.iadd, 1)) (?_ : XW _ _ _ _ _ _ _ 1932 _ _)
  obtain ⟨s1, vc⟩ := vc
  refine xi_sldS (by decide +kernel : decode mL_law.2.1 1932 = .ok (.iaload, 1)) s1 (?_ : XW _ _ _ _ _ _ _ 1933 _ _)
  obtain ⟨Q1, sp, vc⟩ := vc
  refine xi_callVg (b := B + 4) (bs := S + 24) (As := [.int (xs (x4 + 1).toNatClampNeg)]) (st := [.int r9]) (by decide +kernel : decode mL_law.2.1 1933 = .ok (.invokevirtual 219, 3)) kL_219 rfl rfl (by omega) rfl sp (by decide) (by decide) (Nat.le_of_ble_eq_true rfl) (by omega) (fun v9 h10 hq9 hx9 => ?_)
  obtain ⟨r10, e9, vc⟩ := vc v9 h10 hq9 hx9
  subst e9
  show XW _ _ _ _ _ _ _ 1936 _ [.int r10, .int r9]
  refine xi_icmp_eq (by decide +kernel : decode mL_law.2.1 1936 = .ok (.if_icmp .eq 456, 3)) (by decide) (fun c => (?_ : XW _ _ _ _ _ _ _ 2392 _ _)) (fun c => (?_ : XW _ _ _ _ _ _ _ 1939 _ _))
  · replace vc := vc.1 c
    refine xw_b (b' := B) (bs' := S) (by omega) (by omega) ?_
    exact vc
  · replace vc := vc.2 c
    refine xi_iconst (v := 0) (by decide +kernel : decode mL_law.2.1 1939 = .ok (.iconst 0, 1)) (by decide) (?_ : XW _ _ _ _ _ _ _ 1940 _ _)
    exact vc.elim

set_option maxRecDepth 20000 in
theorem v_L_law_1941 {h : XH} {Q : Option Value → XH → Prop} {X : String → XH → Prop} (xs : Nat → Int32) (L B S : Nat)  (x4 : Int32)
    (vc : ∃ Q1, XSpec mX10_forget 1 0 0 100 100 [.ref 0] h Q1 xno ∧ ∀ v h11, Q1 v h11 → ∃ r11 : Int32, v = some (.int r11) ∧ (∃ Q1, XSpec mX11_forget 1 0 0 100 100 [.ref 56] h11 Q1 xno ∧ ∀ v h12, Q1 v h12 → xL h12 99 0 = xL h11 99 0 → ∃ r12 : Int32, v = some (.int r12) ∧ ((r11 = r12 → XW room_1 mL_law (xEL xs L) 100 B S h12 2392 [some (.ref 3000), some (.ref 0), some (.ref 56), some (.ref 99), some (.int x4), none, none, none] []) ∧ (¬ r11 = r12 → False)))) :
    XW room_1 mL_law (xEL xs L) 100 (B + 4) (S + 24) h 1941 [some (.ref 3000), some (.ref 0), some (.ref 56), some (.ref 99), some (.int x4), none, none, none] [] := by
  refine xi_aload_n (by decide +kernel : decode mL_law.2.1 1941 = .ok (.aload_n 1, 1)) rfl rfl (?_ : XW _ _ _ _ _ _ _ 1942 _ _)
  obtain ⟨Q1, sp, vc⟩ := vc
  refine xi_callV (b := B + 4) (bs := S + 24) (As := []) (st := []) (by decide +kernel : decode mL_law.2.1 1942 = .ok (.invokevirtual 220, 3)) kL_220 rfl rfl (by omega) rfl sp (by decide) (by decide) (Nat.le_of_ble_eq_true rfl) (by omega) (fun v9 h11 hq9 => ?_)
  obtain ⟨r11, e9, vc⟩ := vc v9 h11 hq9
  subst e9
  show XW _ _ _ _ _ _ _ 1945 _ [.int r11]
  refine xi_aload_n (by decide +kernel : decode mL_law.2.1 1945 = .ok (.aload_n 2, 1)) rfl rfl (?_ : XW _ _ _ _ _ _ _ 1946 _ _)
  obtain ⟨Q1, sp, vc⟩ := vc
  refine xi_callVg (b := B + 4) (bs := S + 24) (As := []) (st := [.int r11]) (by decide +kernel : decode mL_law.2.1 1946 = .ok (.invokevirtual 223, 3)) kL_223 rfl rfl (by omega) rfl sp (by decide) (by decide) (Nat.le_of_ble_eq_true rfl) (by omega) (fun v9 h12 hq9 hx9 => ?_)
  obtain ⟨r12, e9, vc⟩ := vc v9 h12 hq9 hx9
  subst e9
  show XW _ _ _ _ _ _ _ 1949 _ [.int r12, .int r11]
  refine xi_icmp_eq (by decide +kernel : decode mL_law.2.1 1949 = .ok (.if_icmp .eq 443, 3)) (by decide) (fun c => (?_ : XW _ _ _ _ _ _ _ 2392 _ _)) (fun c => (?_ : XW _ _ _ _ _ _ _ 1952 _ _))
  · replace vc := vc.1 c
    refine xw_b (b' := B) (bs' := S) (by omega) (by omega) ?_
    exact vc
  · replace vc := vc.2 c
    refine xi_iconst (v := 0) (by decide +kernel : decode mL_law.2.1 1952 = .ok (.iconst 0, 1)) (by decide) (?_ : XW _ _ _ _ _ _ _ 1953 _ _)
    exact vc.elim

