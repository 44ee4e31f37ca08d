/-! THE LAW: its walk, part 7 -/
set_option maxRecDepth 20000 in
theorem v_L_law_1954 {h : XH} {Q : Option Value → XH → Prop} {X : String → XH → Prop} (xs : Nat → Int32) (L B S : Nat)  (x4 : Int32)
    (vc : ∃ Q1, XSpec mX10_cannot 4 0 0 100 100 [.ref 0] h Q1 xno ∧ ∀ v h1, Q1 v h1 → ∃ r1 : Int32, v = some (.int r1) ∧ (∃ Q1, XSpec mX11_cannot 6 0 0 100 100 [.ref 56] h1 Q1 xno ∧ ∀ v h2, Q1 v h2 → xL h2 99 0 = xL h1 99 0 → ∃ r2 : Int32, v = some (.int r2) ∧ ((r1 = r2 → XW room_1 mL_law (xEL xs L) 100 B S h2 2392 [some (.ref 3000), some (.ref 0), some (.ref 56), some (.ref 99), some (.int x4), none, none, none] []) ∧ (¬ r1 = r2 → False)))) :
    XW room_1 mL_law (xEL xs L) 100 (B + 4) (S + 24) h 1954 [some (.ref 3000), some (.ref 0), some (.ref 56), some (.ref 99), some (.int x4), none, none, none] [] := by
  refine xi_aload_n (by decide +kernel : decode mL_law.2.1 1954 = .ok (.aload_n 1, 1)) rfl rfl (?_ : XW _ _ _ _ _ _ _ 1955 _ _)
  obtain ⟨Q1, sp, vc⟩ := vc
  refine xi_callV (b := B + 4) (bs := S + 24) (As := []) (st := []) (by decide +kernel : decode mL_law.2.1 1955 = .ok (.invokevirtual 224, 3)) kL_224 rfl rfl (by omega) rfl sp (by decide) (by decide) (Nat.le_of_ble_eq_true rfl) (by omega) (fun v9 h1 hq9 => ?_)
  obtain ⟨r1, e9, vc⟩ := vc v9 h1 hq9
  subst e9
  show XW _ _ _ _ _ _ _ 1958 _ [.int r1]
  refine xi_aload_n (by decide +kernel : decode mL_law.2.1 1958 = .ok (.aload_n 2, 1)) rfl rfl (?_ : XW _ _ _ _ _ _ _ 1959 _ _)
  obtain ⟨Q1, sp, vc⟩ := vc
  refine xi_callVg (b := B + 4) (bs := S + 24) (As := []) (st := [.int r1]) (by decide +kernel : decode mL_law.2.1 1959 = .ok (.invokevirtual 227, 3)) kL_227 rfl rfl (by omega) rfl sp (by decide) (by decide) (Nat.le_of_ble_eq_true rfl) (by omega) (fun v9 h2 hq9 hx9 => ?_)
  obtain ⟨r2, e9, vc⟩ := vc v9 h2 hq9 hx9
  subst e9
  show XW _ _ _ _ _ _ _ 1962 _ [.int r2, .int r1]
  refine xi_icmp_eq (by decide +kernel : decode mL_law.2.1 1962 = .ok (.if_icmp .eq 430, 3)) (by decide) (fun c => (?_ : XW _ _ _ _ _ _ _ 2392 _ _)) (fun c => (?_ : XW _ _ _ _ _ _ _ 1965 _ _))
  · replace vc := vc.1 c
    refine xw_b (b' := B) (bs' := S) (by omega) (by omega) ?_
    exact vc
  · replace vc := vc.2 c
    refine xi_iconst (v := 0) (by decide +kernel : decode mL_law.2.1 1965 = .ok (.iconst 0, 1)) (by decide) (?_ : XW _ _ _ _ _ _ _ 1966 _ _)
    exact vc.elim

set_option maxRecDepth 20000 in
theorem v_L_law_1967 {h : XH} {Q : Option Value → XH → Prop} {X : String → XH → Prop} (xs : Nat → Int32) (L B S : Nat)  (x4 : Int32)
    (vc : ∃ Q1, XSpec mX10_fits 5 0 0 100 100 [.ref 0] h Q1 xno ∧ ∀ v h3, Q1 v h3 → ∃ r3 : Int64, v = some (.long r3) ∧ (∃ Q1, XSpec mX11_fits 6 0 0 100 100 [.ref 56] h3 Q1 xno ∧ ∀ v h4, Q1 v h4 → xL h4 99 0 = xL h3 99 0 → ∃ r4 : Int64, v = some (.long r4) ∧ (((lg_cmp r3 r4) = 0 → XW room_1 mL_law (xEL xs L) 100 B S h4 2392 [some (.ref 3000), some (.ref 0), some (.ref 56), some (.ref 99), some (.int x4), none, none, none] []) ∧ (¬ (lg_cmp r3 r4) = 0 → False)))) :
    XW room_1 mL_law (xEL xs L) 100 (B + 4) (S + 24) h 1967 [some (.ref 3000), some (.ref 0), some (.ref 56), some (.ref 99), some (.int x4), none, none, none] [] := by
  refine xi_aload_n (by decide +kernel : decode mL_law.2.1 1967 = .ok (.aload_n 1, 1)) rfl rfl (?_ : XW _ _ _ _ _ _ _ 1968 _ _)
  obtain ⟨Q1, sp, vc⟩ := vc
  refine xi_callV (b := B + 4) (bs := S + 24) (As := []) (st := []) (by decide +kernel : decode mL_law.2.1 1968 = .ok (.invokevirtual 228, 3)) kL_228 rfl rfl (by omega) rfl sp (by decide) (by decide) (Nat.le_of_ble_eq_true rfl) (by omega) (fun v9 h3 hq9 => ?_)
  obtain ⟨r3, e9, vc⟩ := vc v9 h3 hq9
  subst e9
  show XW _ _ _ _ _ _ _ 1971 _ [.long r3]
  refine xi_aload_n (by decide +kernel : decode mL_law.2.1 1971 = .ok (.aload_n 2, 1)) rfl rfl (?_ : XW _ _ _ _ _ _ _ 1972 _ _)
  obtain ⟨Q1, sp, vc⟩ := vc
  refine xi_callVg (b := B + 4) (bs := S + 24) (As := []) (st := [.long r3]) (by decide +kernel : decode mL_law.2.1 1972 = .ok (.invokevirtual 232, 3)) kL_232 rfl rfl (by omega) rfl sp (by decide) (by decide) (Nat.le_of_ble_eq_true rfl) (by omega) (fun v9 h4 hq9 hx9 => ?_)
  obtain ⟨r4, e9, vc⟩ := vc v9 h4 hq9 hx9
  subst e9
  show XW _ _ _ _ _ _ _ 1975 _ [.long r4, .long r3]
  refine xi_lcmp (by decide +kernel : decode mL_law.2.1 1975 = .ok (.lcmp, 1)) (?_ : XW _ _ _ _ _ _ _ 1976 _ _)
  refine xi_if_eq (by decide +kernel : decode mL_law.2.1 1976 = .ok (.ifCond .eq 416, 3)) (by decide) (fun c => (?_ : XW _ _ _ _ _ _ _ 2392 _ _)) (fun c => (?_ : XW _ _ _ _ _ _ _ 1979 _ _))
  · replace vc := vc.1 c
    refine xw_b (b' := B) (bs' := S) (by omega) (by omega) ?_
    exact vc
  · replace vc := vc.2 c
    refine xi_iconst (v := 0) (by decide +kernel : decode mL_law.2.1 1979 = .ok (.iconst 0, 1)) (by decide) (?_ : XW _ _ _ _ _ _ _ 1980 _ _)
    exact vc.elim

set_option maxRecDepth 20000 in
theorem v_L_law_1981 {h : XH} {Q : Option Value → XH → Prop} {X : String → XH → Prop} (xs : Nat → Int32) (L B S : Nat)  (x4 : Int32)
    (vc : ∃ Q1, XSpec mX10_less 4 0 0 100 100 [.ref 0] h Q1 xno ∧ ∀ v h5, Q1 v h5 → ∃ r5 : Int32, v = some (.int r5) ∧ (∃ Q1, XSpec mX11_less 6 0 0 100 100 [.ref 56] h5 Q1 xno ∧ ∀ v h6, Q1 v h6 → xL h6 99 0 = xL h5 99 0 → ∃ r6 : Int32, v = some (.int r6) ∧ ((r5 = r6 → XW room_1 mL_law (xEL xs L) 100 B S h6 2392 [some (.ref 3000), some (.ref 0), some (.ref 56), some (.ref 99), some (.int x4), none, none, none] []) ∧ (¬ r5 = r6 → False)))) :
    XW room_1 mL_law (xEL xs L) 100 (B + 4) (S + 24) h 1981 [some (.ref 3000), some (.ref 0), some (.ref 56), some (.ref 99), some (.int x4), none, none, none] [] := by
  refine xi_aload_n (by decide +kernel : decode mL_law.2.1 1981 = .ok (.aload_n 1, 1)) rfl rfl (?_ : XW _ _ _ _ _ _ _ 1982 _ _)
  obtain ⟨Q1, sp, vc⟩ := vc
  refine xi_callV (b := B + 4) (bs := S + 24) (As := []) (st := []) (by decide +kernel : decode mL_law.2.1 1982 = .ok (.invokevirtual 233, 3)) kL_233 rfl rfl (by omega) rfl sp (by decide) (by decide) (Nat.le_of_ble_eq_true rfl) (by omega) (fun v9 h5 hq9 => ?_)
  obtain ⟨r5, e9, vc⟩ := vc v9 h5 hq9
  subst e9
  show XW _ _ _ _ _ _ _ 1985 _ [.int r5]
  refine xi_aload_n (by decide +kernel : decode mL_law.2.1 1985 = .ok (.aload_n 2, 1)) rfl rfl (?_ : XW _ _ _ _ _ _ _ 1986 _ _)
  obtain ⟨Q1, sp, vc⟩ := vc
  refine xi_callVg (b := B + 4) (bs := S + 24) (As := []) (st := [.int r5]) (by decide +kernel : decode mL_law.2.1 1986 = .ok (.invokevirtual 236, 3)) kL_236 rfl rfl (by omega) rfl sp (by decide) (by decide) (Nat.le_of_ble_eq_true rfl) (by omega) (fun v9 h6 hq9 hx9 => ?_)
  obtain ⟨r6, e9, vc⟩ := vc v9 h6 hq9 hx9
  subst e9
  show XW _ _ _ _ _ _ _ 1989 _ [.int r6, .int r5]
  refine xi_icmp_eq (by decide +kernel : decode mL_law.2.1 1989 = .ok (.if_icmp .eq 403, 3)) (by decide) (fun c => (?_ : XW _ _ _ _ _ _ _ 2392 _ _)) (fun c => (?_ : XW _ _ _ _ _ _ _ 1992 _ _))
  · replace vc := vc.1 c
    refine xw_b (b' := B) (bs' := S) (by omega) (by omega) ?_
    exact vc
  · replace vc := vc.2 c
    refine xi_iconst (v := 0) (by decide +kernel : decode mL_law.2.1 1992 = .ok (.iconst 0, 1)) (by decide) (?_ : XW _ _ _ _ _ _ _ 1993 _ _)
    exact vc.elim

set_option maxRecDepth 20000 in
theorem v_L_law_1994 {h : XH} {Q : Option Value → XH → Prop} {X : String → XH → Prop} (xs : Nat → Int32) (L B S : Nat)  (x4 : Int32)
    (vc : (vp_in (x4 + 1) L) ∧ ((vp_in (x4 + 2) L) ∧ ((vp_in (x4 + 3) L) ∧ (∃ Q1, XSpecH mL_draw 8 1 6 100 100 [.ref 0, .int (xs (x4 + 1).toNatClampNeg), .int (xs (x4 + 2).toNatClampNeg), .int (xs (x4 + 3).toNatClampNeg), .ref 99] h Q1 ∧ ∀ v h7, Q1 v h7 → ∃ r7 : Int32, v = some (.int r7) ∧ ((vp_in (x4 + 1) L) ∧ ((vp_in (x4 + 2) L) ∧ ((vp_in (x4 + 3) L) ∧ (∃ Q1, XSpec mX11_draw 3 0 0 100 100 [.ref 56, .int (xs (x4 + 1).toNatClampNeg), .int (xs (x4 + 2).toNatClampNeg), .int (xs (x4 + 3).toNatClampNeg)] h7 Q1 xno ∧ ∀ v h8, Q1 v h8 → xL h8 99 0 = xL h7 99 0 → ∃ r8 : Int32, v = some (.int r8) ∧ (∃ Q1, XSpec mX11_thrown 1 0 0 100 100 [.ref 56] h8 Q1 xno ∧ ∀ v h9, Q1 v h9 → xL h9 99 0 = xL h8 99 0 → ∃ r9 : Int32, v = some (.int r9) ∧ ((r9 = r7 → (¬ r7 = 0 → XW room_1 mL_law (xEL xs L) 100 B S h9 2392 [some (.ref 3000), some (.ref 0), some (.ref 56), some (.ref 99), some (.int x4), none, none, none] []) ∧ (r7 = 0 → ((lg_cmp (xL h9 99 0) (Int32.toInt64 r8)) = 0 → XW room_1 mL_law (xEL xs L) 100 B S h9 2392 [some (.ref 3000), some (.ref 0), some (.ref 56), some (.ref 99), some (.int x4), none, none, none] []) ∧ (¬ (lg_cmp (xL h9 99 0) (Int32.toInt64 r8)) = 0 → False))) ∧ (¬ r9 = r7 → False))))))))))) :
    XW room_1 mL_law (xEL xs L) 100 (B + 4) (S + 24) h 1994 [some (.ref 3000), some (.ref 0), some (.ref 56), some (.ref 99), some (.int x4), none, none, none] [] := by
  refine xi_aload_n (by decide +kernel : decode mL_law.2.1 1994 = .ok (.aload_n 1, 1)) rfl rfl (?_ : XW _ _ _ _ _ _ _ 1995 _ _)
  refine xi_aload_n (by decide +kernel : decode mL_law.2.1 1995 = .ok (.aload_n 0, 1)) rfl rfl (?_ : XW _ _ _ _ _ _ _ 1996 _ _)
  refine xi_iload (by decide +kernel : decode mL_law.2.1 1996 = .ok (.iload 4, 2)) rfl (?_ : XW _ _ _ _ _ _ _ 1998 _ _)
  refine xi_iconst (v := 1) (by decide +kernel : decode mL_law.2.1 1998 = .ok (.iconst 1, 1)) (by decide) (?_ : XW _ _ _ _ _ _ _ 1999 _ _)
  refine xi_iadd (by decide +kernel : decode mL_law.2.1 1999 = .ok (.iadd, 1)) (?_ : XW _ _ _ _ _ _ _ 2000 _ _)
  obtain ⟨s1, vc⟩ := vc
  refine xi_sldS (by decide +kernel : decode mL_law.2.1 2000 = .ok (.iaload, 1)) s1 (?_ : XW _ _ _ _ _ _ _ 2001 _ _)
  refine xi_aload_n (by decide +kernel : decode mL_law.2.1 2001 = .ok (.aload_n 0, 1)) rfl rfl (?_ : XW _ _ _ _ _ _ _ 2002 _ _)
  refine xi_iload (by decide +kernel : decode mL_law.2.1 2002 = .ok (.iload 4, 2)) rfl (?_ : XW _ _ _ _ _ _ _ 2004 _ _)
  refine xi_iconst (v := 2) (by decide +kernel : decode mL_law.2.1 2004 = .ok (.iconst 2, 1)) (by decide) (?_ : XW _ _ _ _ _ _ _ 2005 _ _)
  refine xi_iadd (by decide +kernel : decode mL_law.2.1 2005 = .ok (.iadd, 1)) (?_ : XW _ _ _ _ _ _ _ 2006 _ _)
  obtain ⟨s1, vc⟩ := vc
  refine xi_sldS (by decide +kernel : decode mL_law.2.1 2006 = .ok (.iaload, 1)) s1 (?_ : XW _ _ _ _ _ _ _ 2007 _ _)
  refine xi_aload_n (by decide +kernel : decode mL_law.2.1 2007 = .ok (.aload_n 0, 1)) rfl rfl (?_ : XW _ _ _ _ _ _ _ 2008 _ _)
  refine xi_iload (by decide +kernel : decode mL_law.2.1 2008 = .ok (.iload 4, 2)) rfl (?_ : XW _ _ _ _ _ _ _ 2010 _ _)
  refine xi_iconst (v := 3) (by decide +kernel : decode mL_law.2.1 2010 = .ok (.iconst 3, 1)) (by decide) (?_ : XW _ _ _ _ _ _ _ 2011 _ _)
  refine xi_iadd (by decide +kernel : decode mL_law.2.1 2011 = .ok (.iadd, 1)) (?_ : XW _ _ _ _ _ _ _ 2012 _ _)
  obtain ⟨s1, vc⟩ := vc
  refine xi_sldS (by decide +kernel : decode mL_law.2.1 2012 = .ok (.iaload, 1)) s1 (?_ : XW _ _ _ _ _ _ _ 2013 _ _)
  refine xi_aload_n (by decide +kernel : decode mL_law.2.1 2013 = .ok (.aload_n 3, 1)) rfl rfl (?_ : XW _ _ _ _ _ _ _ 2014 _ _)
  obtain ⟨Q1, sp, vc⟩ := vc
  refine xi_callSH (b := B + 3) (bs := S + 18) (As := [.ref 0, .int (xs (x4 + 1).toNatClampNeg), .int (xs (x4 + 2).toNatClampNeg), .int (xs (x4 + 3).toNatClampNeg), .ref 99]) (st := []) (by decide +kernel : decode mL_law.2.1 2014 = .ok (.invokestatic 237, 3)) kL_237 rfl rfl sp (by decide) (by decide) (Nat.le_of_ble_eq_true rfl) (by omega) (fun v9 h7 hq9 => ?_)
  obtain ⟨r7, e9, vc⟩ := vc v9 h7 hq9
  subst e9
  show XW _ _ _ _ _ _ _ 2017 _ [.int r7]
  refine xi_istore (ls' := [some (.ref 3000), some (.ref 0), some (.ref 56), some (.ref 99), some (.int x4), some (.int r7), none, none]) (by decide +kernel : decode mL_law.2.1 2017 = .ok (.istore 5, 2)) (by decide) rfl (?_ : XW _ _ _ _ _ _ _ 2019 _ _)
  refine xi_aload_n (by decide +kernel : decode mL_law.2.1 2019 = .ok (.aload_n 2, 1)) rfl rfl (?_ : XW _ _ _ _ _ _ _ 2020 _ _)
  refine xi_aload_n (by decide +kernel : decode mL_law.2.1 2020 = .ok (.aload_n 0, 1)) rfl rfl (?_ : XW _ _ _ _ _ _ _ 2021 _ _)
  refine xi_iload (by decide +kernel : decode mL_law.2.1 2021 = .ok (.iload 4, 2)) rfl (?_ : XW _ _ _ _ _ _ _ 2023 _ _)
  refine xi_iconst (v := 1) (by decide +kernel : decode mL_law.2.1 2023 = .ok (.iconst 1, 1)) (by decide) (?_ : XW _ _ _ _ _ _ _ 2024 _ _)
  refine xi_iadd (by decide +kernel : decode mL_law.2.1 2024 = .ok (.iadd, 1)) (?_ : XW _ _ _ _ _ _ _ 2025 _ _)
  obtain ⟨s1, vc⟩ := vc
  refine xi_sldS (by decide +kernel : decode mL_law.2.1 2025 = .ok (.iaload, 1)) s1 (?_ : XW _ _ _ _ _ _ _ 2026 _ _)
  refine xi_aload_n (by decide +kernel : decode mL_law.2.1 2026 = .ok (.aload_n 0, 1)) rfl rfl (?_ : XW _ _ _ _ _ _ _ 2027 _ _)
  refine xi_iload (by decide +kernel : decode mL_law.2.1 2027 = .ok (.iload 4, 2)) rfl (?_ : XW _ _ _ _ _ _ _ 2029 _ _)
  refine xi_iconst (v := 2) (by decide +kernel : decode mL_law.2.1 2029 = .ok (.iconst 2, 1)) (by decide) (?_ : XW _ _ _ _ _ _ _ 2030 _ _)
  refine xi_iadd (by decide +kernel : decode mL_law.2.1 2030 = .ok (.iadd, 1)) (?_ : XW _ _ _ _ _ _ _ 2031 _ _)
  obtain ⟨s1, vc⟩ := vc
  refine xi_sldS (by decide +kernel : decode mL_law.2.1 2031 = .ok (.iaload, 1)) s1 (?_ : XW _ _ _ _ _ _ _ 2032 _ _)
  refine xi_aload_n (by decide +kernel : decode mL_law.2.1 2032 = .ok (.aload_n 0, 1)) rfl rfl (?_ : XW _ _ _ _ _ _ _ 2033 _ _)
  refine xi_iload (by decide +kernel : decode mL_law.2.1 2033 = .ok (.iload 4, 2)) rfl (?_ : XW _ _ _ _ _ _ _ 2035 _ _)
  refine xi_iconst (v := 3) (by decide +kernel : decode mL_law.2.1 2035 = .ok (.iconst 3, 1)) (by decide) (?_ : XW _ _ _ _ _ _ _ 2036 _ _)
  refine xi_iadd (by decide +kernel : decode mL_law.2.1 2036 = .ok (.iadd, 1)) (?_ : XW _ _ _ _ _ _ _ 2037 _ _)
  obtain ⟨s1, vc⟩ := vc
  refine xi_sldS (by decide +kernel : decode mL_law.2.1 2037 = .ok (.iaload, 1)) s1 (?_ : XW _ _ _ _ _ _ _ 2038 _ _)
  obtain ⟨Q1, sp, vc⟩ := vc
  refine xi_callVg (b := B + 3) (bs := S + 18) (As := [.int (xs (x4 + 1).toNatClampNeg), .int (xs (x4 + 2).toNatClampNeg), .int (xs (x4 + 3).toNatClampNeg)]) (st := []) (by decide +kernel : decode mL_law.2.1 2038 = .ok (.invokevirtual 239, 3)) kL_239 rfl rfl (by omega) rfl sp (by decide) (by decide) (Nat.le_of_ble_eq_true rfl) (by omega) (fun v9 h8 hq9 hx9 => ?_)
  obtain ⟨r8, e9, vc⟩ := vc v9 h8 hq9 hx9
  subst e9
  show XW _ _ _ _ _ _ _ 2041 _ [.int r8]
  refine xi_istore (ls' := [some (.ref 3000), some (.ref 0), some (.ref 56), some (.ref 99), some (.int x4), some (.int r7), some (.int r8), none]) (by decide +kernel : decode mL_law.2.1 2041 = .ok (.istore 6, 2)) (by decide) rfl (?_ : XW _ _ _ _ _ _ _ 2043 _ _)
  refine xi_aload_n (by decide +kernel : decode mL_law.2.1 2043 = .ok (.aload_n 2, 1)) rfl rfl (?_ : XW _ _ _ _ _ _ _ 2044 _ _)
  obtain ⟨Q1, sp, vc⟩ := vc
  refine xi_callVg (b := B + 3) (bs := S + 18) (As := []) (st := []) (by decide +kernel : decode mL_law.2.1 2044 = .ok (.invokevirtual 125, 3)) kL_125 rfl rfl (by omega) rfl sp (by decide) (by decide) (Nat.le_of_ble_eq_true rfl) (by omega) (fun v9 h9 hq9 hx9 => ?_)
  obtain ⟨r9, e9, vc⟩ := vc v9 h9 hq9 hx9
  subst e9
  show XW _ _ _ _ _ _ _ 2047 _ [.int r9]
  refine xi_iload (by decide +kernel : decode mL_law.2.1 2047 = .ok (.iload 5, 2)) rfl (?_ : XW _ _ _ _ _ _ _ 2049 _ _)
  refine xi_icmp_eq (by decide +kernel : decode mL_law.2.1 2049 = .ok (.if_icmp .eq 5, 3)) (by decide) (fun c => (?_ : XW _ _ _ _ _ _ _ 2054 _ _)) (fun c => (?_ : XW _ _ _ _ _ _ _ 2052 _ _))
  · replace vc := vc.1 c
    refine xi_iload (by decide +kernel : decode mL_law.2.1 2054 = .ok (.iload 5, 2)) rfl (?_ : XW _ _ _ _ _ _ _ 2056 _ _)
    refine xi_if_ne (by decide +kernel : decode mL_law.2.1 2056 = .ok (.ifCond .ne 15, 3)) (by decide) (fun c => (?_ : XW _ _ _ _ _ _ _ 2071 _ _)) (fun c => (?_ : XW _ _ _ _ _ _ _ 2059 _ _))
    · replace vc := vc.1 c
      refine xi_goto (by decide +kernel : decode mL_law.2.1 2071 = .ok (.goto 321, 3)) (by decide) (?_ : XW _ _ _ _ _ _ _ 2392 _ _)
      refine xw_drop 5 (ls' := [some (.ref 3000), some (.ref 0), some (.ref 56), some (.ref 99), some (.int x4), none, some (.int r8), none]) rfl ?_
      refine xw_drop 6 (ls' := [some (.ref 3000), some (.ref 0), some (.ref 56), some (.ref 99), some (.int x4), none, none, none]) rfl ?_
      refine xw_b (b' := B) (bs' := S) (by omega) (by omega) ?_
      exact vc
    · replace vc := vc.2 c
      refine xi_aload_n (by decide +kernel : decode mL_law.2.1 2059 = .ok (.aload_n 3, 1)) rfl rfl (?_ : XW _ _ _ _ _ _ _ 2060 _ _)
      refine xi_iconst (v := 0) (by decide +kernel : decode mL_law.2.1 2060 = .ok (.iconst 0, 1)) (by decide) (?_ : XW _ _ _ _ _ _ _ 2061 _ _)
      refine xi_lald (by decide +kernel : decode mL_law.2.1 2061 = .ok (.laload, 1)) rfl (by omega) (by unfold vp_in; decide) (?_ : XW _ _ _ _ _ _ _ 2062 _ [.long (xL h9 99 0)])
      refine xi_iload (by decide +kernel : decode mL_law.2.1 2062 = .ok (.iload 6, 2)) rfl (?_ : XW _ _ _ _ _ _ _ 2064 _ _)
      refine xi_i2l (by decide +kernel : decode mL_law.2.1 2064 = .ok (.i2l, 1)) (?_ : XW _ _ _ _ _ _ _ 2065 _ _)
      refine xi_lcmp (by decide +kernel : decode mL_law.2.1 2065 = .ok (.lcmp, 1)) (?_ : XW _ _ _ _ _ _ _ 2066 _ _)
      refine xi_if_eq (by decide +kernel : decode mL_law.2.1 2066 = .ok (.ifCond .eq 5, 3)) (by decide) (fun c => (?_ : XW _ _ _ _ _ _ _ 2071 _ _)) (fun c => (?_ : XW _ _ _ _ _ _ _ 2069 _ _))
      · replace vc := vc.1 c
        refine xi_goto (by decide +kernel : decode mL_law.2.1 2071 = .ok (.goto 321, 3)) (by decide) (?_ : XW _ _ _ _ _ _ _ 2392 _ _)
        refine xw_drop 5 (ls' := [some (.ref 3000), some (.ref 0), some (.ref 56), some (.ref 99), some (.int x4), none, some (.int r8), none]) rfl ?_
        refine xw_drop 6 (ls' := [some (.ref 3000), some (.ref 0), some (.ref 56), some (.ref 99), some (.int x4), none, none, none]) rfl ?_
        refine xw_b (b' := B) (bs' := S) (by omega) (by omega) ?_
        exact vc
      · replace vc := vc.2 c
        refine xi_iconst (v := 0) (by decide +kernel : decode mL_law.2.1 2069 = .ok (.iconst 0, 1)) (by decide) (?_ : XW _ _ _ _ _ _ _ 2070 _ _)
        exact vc.elim
  · replace vc := vc.2 c
    refine xi_iconst (v := 0) (by decide +kernel : decode mL_law.2.1 2052 = .ok (.iconst 0, 1)) (by decide) (?_ : XW _ _ _ _ _ _ _ 2053 _ _)
    exact vc.elim

set_option maxRecDepth 20000 in
theorem v_L_law_2074 {h : XH} {Q : Option Value → XH → Prop} {X : String → XH → Prop} (xs : Nat → Int32) (L B S : Nat)  (x4 : Int32)
    (vc : (vp_in (x4 + 1) L) ∧ ((vp_in (x4 + 2) L) ∧ (∃ Q1, XSpecH mL_ended 9 2 12 100 100 [.ref 0, .int (xs (x4 + 1).toNatClampNeg), .int (xs (x4 + 2).toNatClampNeg), .ref 99] h Q1 ∧ ∀ v h10, Q1 v h10 → ∃ r10 : Int32, v = some (.int r10) ∧ ((vp_in (x4 + 1) L) ∧ ((vp_in (x4 + 2) L) ∧ (∃ Q1, XSpec mX11_ended 5 0 0 100 100 [.ref 56, .int (xs (x4 + 1).toNatClampNeg), .int (xs (x4 + 2).toNatClampNeg)] h10 Q1 xno ∧ ∀ v h11, Q1 v h11 → xL h11 99 0 = xL h10 99 0 → ∃ r11 : Int64, v = some (.long r11) ∧ (∃ Q1, XSpec mX11_thrown 1 0 0 100 100 [.ref 56] h11 Q1 xno ∧ ∀ v h12, Q1 v h12 → xL h12 99 0 = xL h11 99 0 → ∃ r12 : Int32, v = some (.int r12) ∧ ((r12 = r10 → (¬ r10 = 0 → XW room_1 mL_law (xEL xs L) 100 B S h12 2392 [some (.ref 3000), some (.ref 0), some (.ref 56), some (.ref 99), some (.int x4), none, none, none] []) ∧ (r10 = 0 → ((lg_cmp (xL h12 99 0) r11) = 0 → XW room_1 mL_law (xEL xs L) 100 B S h12 2392 [some (.ref 3000), some (.ref 0), some (.ref 56), some (.ref 99), some (.int x4), none, none, none] []) ∧ (¬ (lg_cmp (xL h12 99 0) r11) = 0 → False))) ∧ (¬ r12 = r10 → False))))))))) :
    XW room_1 mL_law (xEL xs L) 100 (B + 4) (S + 24) h 2074 [some (.ref 3000), some (.ref 0), some (.ref 56), some (.ref 99), some (.int x4), none, none, none] [] := by
  refine xi_aload_n (by decide +kernel : decode mL_law.2.1 2074 = .ok (.aload_n 1, 1)) rfl rfl (?_ : XW _ _ _ _ _ _ _ 2075 _ _)
  refine xi_aload_n (by decide +kernel : decode mL_law.2.1 2075 = .ok (.aload_n 0, 1)) rfl rfl (?_ : XW _ _ _ _ _ _ _ 2076 _ _)
  refine xi_iload (by decide +kernel : decode mL_law.2.1 2076 = .ok (.iload 4, 2)) rfl (?_ : XW _ _ _ _ _ _ _ 2078 _ _)
  refine xi_iconst (v := 1) (by decide +kernel : decode mL_law.2.1 2078 = .ok (.iconst 1, 1)) (by decide) (?_ : XW _ _ _ _ _ _ _ 2079 _ _)
  refine xi_iadd (by decide +kernel : decode mL_law.2.1 2079 = .ok (.iadd, 1)) (?_ : XW _ _ _ _ _ _ _ 2080 _ _)
  obtain ⟨s1, vc⟩ := vc
  refine xi_sldS (by decide +kernel : decode mL_law.2.1 2080 = .ok (.iaload, 1)) s1 (?_ : XW _ _ _ _ _ _ _ 2081 _ _)
  refine xi_aload_n (by decide +kernel : decode mL_law.2.1 2081 = .ok (.aload_n 0, 1)) rfl rfl (?_ : XW _ _ _ _ _ _ _ 2082 _ _)
  refine xi_iload (by decide +kernel : decode mL_law.2.1 2082 = .ok (.iload 4, 2)) rfl (?_ : XW _ _ _ _ _ _ _ 2084 _ _)
  refine xi_iconst (v := 2) (by decide +kernel : decode mL_law.2.1 2084 = .ok (.iconst 2, 1)) (by decide) (?_ : XW _ _ _ _ _ _ _ 2085 _ _)
  refine xi_iadd (by decide +kernel : decode mL_law.2.1 2085 = .ok (.iadd, 1)) (?_ : XW _ _ _ _ _ _ _ 2086 _ _)
  obtain ⟨s1, vc⟩ := vc
  refine xi_sldS (by decide +kernel : decode mL_law.2.1 2086 = .ok (.iaload, 1)) s1 (?_ : XW _ _ _ _ _ _ _ 2087 _ _)
  refine xi_aload_n (by decide +kernel : decode mL_law.2.1 2087 = .ok (.aload_n 3, 1)) rfl rfl (?_ : XW _ _ _ _ _ _ _ 2088 _ _)
  obtain ⟨Q1, sp, vc⟩ := vc
  refine xi_callSH (b := B + 2) (bs := S + 12) (As := [.ref 0, .int (xs (x4 + 1).toNatClampNeg), .int (xs (x4 + 2).toNatClampNeg), .ref 99]) (st := []) (by decide +kernel : decode mL_law.2.1 2088 = .ok (.invokestatic 240, 3)) kL_240 rfl rfl sp (by decide) (by decide) (Nat.le_of_ble_eq_true rfl) (by omega) (fun v9 h10 hq9 => ?_)
  obtain ⟨r10, e9, vc⟩ := vc v9 h10 hq9
  subst e9
  show XW _ _ _ _ _ _ _ 2091 _ [.int r10]
  refine xi_istore (ls' := [some (.ref 3000), some (.ref 0), some (.ref 56), some (.ref 99), some (.int x4), some (.int r10), none, none]) (by decide +kernel : decode mL_law.2.1 2091 = .ok (.istore 5, 2)) (by decide) rfl (?_ : XW _ _ _ _ _ _ _ 2093 _ _)
  refine xi_aload_n (by decide +kernel : decode mL_law.2.1 2093 = .ok (.aload_n 2, 1)) rfl rfl (?_ : XW _ _ _ _ _ _ _ 2094 _ _)
  refine xi_aload_n (by decide +kernel : decode mL_law.2.1 2094 = .ok (.aload_n 0, 1)) rfl rfl (?_ : XW _ _ _ _ _ _ _ 2095 _ _)
  refine xi_iload (by decide +kernel : decode mL_law.2.1 2095 = .ok (.iload 4, 2)) rfl (?_ : XW _ _ _ _ _ _ _ 2097 _ _)
  refine xi_iconst (v := 1) (by decide +kernel : decode mL_law.2.1 2097 = .ok (.iconst 1, 1)) (by decide) (?_ : XW _ _ _ _ _ _ _ 2098 _ _)
  refine xi_iadd (by decide +kernel : decode mL_law.2.1 2098 = .ok (.iadd, 1)) (?_ : XW _ _ _ _ _ _ _ 2099 _ _)
  obtain ⟨s1, vc⟩ := vc
  refine xi_sldS (by decide +kernel : decode mL_law.2.1 2099 = .ok (.iaload, 1)) s1 (?_ : XW _ _ _ _ _ _ _ 2100 _ _)
  refine xi_aload_n (by decide +kernel : decode mL_law.2.1 2100 = .ok (.aload_n 0, 1)) rfl rfl (?_ : XW _ _ _ _ _ _ _ 2101 _ _)
  refine xi_iload (by decide +kernel : decode mL_law.2.1 2101 = .ok (.iload 4, 2)) rfl (?_ : XW _ _ _ _ _ _ _ 2103 _ _)
  refine xi_iconst (v := 2) (by decide +kernel : decode mL_law.2.1 2103 = .ok (.iconst 2, 1)) (by decide) (?_ : XW _ _ _ _ _ _ _ 2104 _ _)
  refine xi_iadd (by decide +kernel : decode mL_law.2.1 2104 = .ok (.iadd, 1)) (?_ : XW _ _ _ _ _ _ _ 2105 _ _)
  obtain ⟨s1, vc⟩ := vc
  refine xi_sldS (by decide +kernel : decode mL_law.2.1 2105 = .ok (.iaload, 1)) s1 (?_ : XW _ _ _ _ _ _ _ 2106 _ _)
  obtain ⟨Q1, sp, vc⟩ := vc
  refine xi_callVg (b := B + 2) (bs := S + 12) (As := [.int (xs (x4 + 1).toNatClampNeg), .int (xs (x4 + 2).toNatClampNeg)]) (st := []) (by decide +kernel : decode mL_law.2.1 2106 = .ok (.invokevirtual 242, 3)) kL_242 rfl rfl (by omega) rfl sp (by decide) (by decide) (Nat.le_of_ble_eq_true rfl) (by omega) (fun v9 h11 hq9 hx9 => ?_)
  obtain ⟨r11, e9, vc⟩ := vc v9 h11 hq9 hx9
  subst e9
  show XW _ _ _ _ _ _ _ 2109 _ [.long r11]
  refine xi_lstore (ls' := [some (.ref 3000), some (.ref 0), some (.ref 56), some (.ref 99), some (.int x4), some (.int r10), some (.long r11), none]) (by decide +kernel : decode mL_law.2.1 2109 = .ok (.lstore 6, 2)) (by decide) rfl (?_ : XW _ _ _ _ _ _ _ 2111 _ _)
  refine xi_aload_n (by decide +kernel : decode mL_law.2.1 2111 = .ok (.aload_n 2, 1)) rfl rfl (?_ : XW _ _ _ _ _ _ _ 2112 _ _)
  obtain ⟨Q1, sp, vc⟩ := vc
  refine xi_callVg (b := B + 2) (bs := S + 12) (As := []) (st := []) (by decide +kernel : decode mL_law.2.1 2112 = .ok (.invokevirtual 125, 3)) kL_125 rfl rfl (by omega) rfl sp (by decide) (by decide) (Nat.le_of_ble_eq_true rfl) (by omega) (fun v9 h12 hq9 hx9 => ?_)
  obtain ⟨r12, e9, vc⟩ := vc v9 h12 hq9 hx9
  subst e9
  show XW _ _ _ _ _ _ _ 2115 _ [.int r12]
  refine xi_iload (by decide +kernel : decode mL_law.2.1 2115 = .ok (.iload 5, 2)) rfl (?_ : XW _ _ _ _ _ _ _ 2117 _ _)
  refine xi_icmp_eq (by decide +kernel : decode mL_law.2.1 2117 = .ok (.if_icmp .eq 5, 3)) (by decide) (fun c => (?_ : XW _ _ _ _ _ _ _ 2122 _ _)) (fun c => (?_ : XW _ _ _ _ _ _ _ 2120 _ _))
  · replace vc := vc.1 c
    refine xi_iload (by decide +kernel : decode mL_law.2.1 2122 = .ok (.iload 5, 2)) rfl (?_ : XW _ _ _ _ _ _ _ 2124 _ _)
    refine xi_if_ne (by decide +kernel : decode mL_law.2.1 2124 = .ok (.ifCond .ne 14, 3)) (by decide) (fun c => (?_ : XW _ _ _ _ _ _ _ 2138 _ _)) (fun c => (?_ : XW _ _ _ _ _ _ _ 2127 _ _))
    · replace vc := vc.1 c
      refine xi_goto (by decide +kernel : decode mL_law.2.1 2138 = .ok (.goto 254, 3)) (by decide) (?_ : XW _ _ _ _ _ _ _ 2392 _ _)
      refine xw_drop 5 (ls' := [some (.ref 3000), some (.ref 0), some (.ref 56), some (.ref 99), some (.int x4), none, some (.long r11), none]) rfl ?_
      refine xw_drop 6 (ls' := [some (.ref 3000), some (.ref 0), some (.ref 56), some (.ref 99), some (.int x4), none, none, none]) rfl ?_
      refine xw_b (b' := B) (bs' := S) (by omega) (by omega) ?_
      exact vc
    · replace vc := vc.2 c
      refine xi_aload_n (by decide +kernel : decode mL_law.2.1 2127 = .ok (.aload_n 3, 1)) rfl rfl (?_ : XW _ _ _ _ _ _ _ 2128 _ _)
      refine xi_iconst (v := 0) (by decide +kernel : decode mL_law.2.1 2128 = .ok (.iconst 0, 1)) (by decide) (?_ : XW _ _ _ _ _ _ _ 2129 _ _)
      refine xi_lald (by decide +kernel : decode mL_law.2.1 2129 = .ok (.laload, 1)) rfl (by omega) (by unfold vp_in; decide) (?_ : XW _ _ _ _ _ _ _ 2130 _ [.long (xL h12 99 0)])
      refine xi_lload (by decide +kernel : decode mL_law.2.1 2130 = .ok (.lload 6, 2)) rfl (?_ : XW _ _ _ _ _ _ _ 2132 _ _)
      refine xi_lcmp (by decide +kernel : decode mL_law.2.1 2132 = .ok (.lcmp, 1)) (?_ : XW _ _ _ _ _ _ _ 2133 _ _)
      refine xi_if_eq (by decide +kernel : decode mL_law.2.1 2133 = .ok (.ifCond .eq 5, 3)) (by decide) (fun c => (?_ : XW _ _ _ _ _ _ _ 2138 _ _)) (fun c => (?_ : XW _ _ _ _ _ _ _ 2136 _ _))
      · replace vc := vc.1 c
        refine xi_goto (by decide +kernel : decode mL_law.2.1 2138 = .ok (.goto 254, 3)) (by decide) (?_ : XW _ _ _ _ _ _ _ 2392 _ _)
        refine xw_drop 5 (ls' := [some (.ref 3000), some (.ref 0), some (.ref 56), some (.ref 99), some (.int x4), none, some (.long r11), none]) rfl ?_
        refine xw_drop 6 (ls' := [some (.ref 3000), some (.ref 0), some (.ref 56), some (.ref 99), some (.int x4), none, none, none]) rfl ?_
        refine xw_b (b' := B) (bs' := S) (by omega) (by omega) ?_
        exact vc
      · replace vc := vc.2 c
        refine xi_iconst (v := 0) (by decide +kernel : decode mL_law.2.1 2136 = .ok (.iconst 0, 1)) (by decide) (?_ : XW _ _ _ _ _ _ _ 2137 _ _)
        exact vc.elim
  · replace vc := vc.2 c
    refine xi_iconst (v := 0) (by decide +kernel : decode mL_law.2.1 2120 = .ok (.iconst 0, 1)) (by decide) (?_ : XW _ _ _ _ _ _ _ 2121 _ _)
    exact vc.elim

