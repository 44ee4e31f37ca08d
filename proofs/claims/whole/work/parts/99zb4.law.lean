/-! THE LAW: its walk, part 4 -/
set_option maxRecDepth 20000 in
theorem v_L_law_1049 {h : XH} {Q : Option Value → XH → Prop} {X : String → XH → Prop} (xs : Nat → Int32) (L B S : Nat)  (x4 : Int32)
    (vc : (vp_in (x4 + 1) L) ∧ (∃ Q1, XSpecH mL_round 9 1 6 100 100 [.ref 0, .int (xs (x4 + 1).toNatClampNeg), .ref 99] h Q1 ∧ ∀ v h1, Q1 v h1 → ∃ r1 : Int32, v = some (.int r1) ∧ ((vp_in (x4 + 1) L) ∧ (∃ Q1, XSpec mX11_round 6 0 0 100 100 [.ref 56, .int (xs (x4 + 1).toNatClampNeg)] h1 Q1 xno ∧ ∀ v h2, Q1 v h2 → xL h2 99 0 = xL h1 99 0 → ∃ r2 : Int32, v = some (.int r2) ∧ (∃ Q1, XSpec mX11_thrown 1 0 0 100 100 [.ref 56] h2 Q1 xno ∧ ∀ v h3, Q1 v h3 → xL h3 99 0 = xL h2 99 0 → ∃ r3 : Int32, v = some (.int r3) ∧ ((r3 = r1 → (¬ r1 = 0 → XW room_1 mL_law (xEL xs L) 100 B S h3 2392 [some (.ref 3000), some (.ref 0), some (.ref 56), some (.ref 99), some (.int x4), none, none, none] []) ∧ (r1 = 0 → ((lg_cmp (xL h3 99 0) (Int32.toInt64 r2)) = 0 → XW room_1 mL_law (xEL xs L) 100 B S h3 2392 [some (.ref 3000), some (.ref 0), some (.ref 56), some (.ref 99), some (.int x4), none, none, none] []) ∧ (¬ (lg_cmp (xL h3 99 0) (Int32.toInt64 r2)) = 0 → False))) ∧ (¬ r3 = r1 → False))))))) :
    XW room_1 mL_law (xEL xs L) 100 (B + 4) (S + 24) h 1049 [some (.ref 3000), some (.ref 0), some (.ref 56), some (.ref 99), some (.int x4), none, none, none] [] := by
  refine xi_aload_n (by decide +kernel : decode mL_law.2.1 1049 = .ok (.aload_n 1, 1)) rfl rfl (?_ : XW _ _ _ _ _ _ _ 1050 _ _)
  refine xi_aload_n (by decide +kernel : decode mL_law.2.1 1050 = .ok (.aload_n 0, 1)) rfl rfl (?_ : XW _ _ _ _ _ _ _ 1051 _ _)
  refine xi_iload (by decide +kernel : decode mL_law.2.1 1051 = .ok (.iload 4, 2)) rfl (?_ : XW _ _ _ _ _ _ _ 1053 _ _)
  refine xi_iconst (v := 1) (by decide +kernel : decode mL_law.2.1 1053 = .ok (.iconst 1, 1)) (by decide) (?_ : XW _ _ _ _ _ _ _ 1054 _ _)
  refine xi_iadd (by decide +kernel : decode mL_law.2.1 1054 = .ok (.iadd, 1)) (?_ : XW _ _ _ _ _ _ _ 1055 _ _)
  obtain ⟨s1, vc⟩ := vc
  refine xi_sldS (by decide +kernel : decode mL_law.2.1 1055 = .ok (.iaload, 1)) s1 (?_ : XW _ _ _ _ _ _ _ 1056 _ _)
  refine xi_aload_n (by decide +kernel : decode mL_law.2.1 1056 = .ok (.aload_n 3, 1)) rfl rfl (?_ : XW _ _ _ _ _ _ _ 1057 _ _)
  obtain ⟨Q1, sp, vc⟩ := vc
  refine xi_callSH (b := B + 3) (bs := S + 18) (As := [.ref 0, .int (xs (x4 + 1).toNatClampNeg), .ref 99]) (st := []) (by decide +kernel : decode mL_law.2.1 1057 = .ok (.invokestatic 171, 3)) kL_171 rfl rfl sp (by decide) (by decide) (Nat.le_of_ble_eq_true rfl) (by omega) (fun v9 h1 hq9 => ?_)
  obtain ⟨r1, e9, vc⟩ := vc v9 h1 hq9
  subst e9
  show XW _ _ _ _ _ _ _ 1060 _ [.int r1]
  refine xi_istore (ls' := [some (.ref 3000), some (.ref 0), some (.ref 56), some (.ref 99), some (.int x4), some (.int r1), none, none]) (by decide +kernel : decode mL_law.2.1 1060 = .ok (.istore 5, 2)) (by decide) rfl (?_ : XW _ _ _ _ _ _ _ 1062 _ _)
  refine xi_aload_n (by decide +kernel : decode mL_law.2.1 1062 = .ok (.aload_n 2, 1)) rfl rfl (?_ : XW _ _ _ _ _ _ _ 1063 _ _)
  refine xi_aload_n (by decide +kernel : decode mL_law.2.1 1063 = .ok (.aload_n 0, 1)) rfl rfl (?_ : XW _ _ _ _ _ _ _ 1064 _ _)
  refine xi_iload (by decide +kernel : decode mL_law.2.1 1064 = .ok (.iload 4, 2)) rfl (?_ : XW _ _ _ _ _ _ _ 1066 _ _)
  refine xi_iconst (v := 1) (by decide +kernel : decode mL_law.2.1 1066 = .ok (.iconst 1, 1)) (by decide) (?_ : XW _ _ _ _ _ _ _ 1067 _ _)
  refine xi_iadd (by decide +kernel : decode mL_law.2.1 1067 = .ok (.iadd, 1)) (?_ : XW _ _ _ _ _ _ _ 1068 _ _)
  obtain ⟨s1, vc⟩ := vc
  refine xi_sldS (by decide +kernel : decode mL_law.2.1 1068 = .ok (.iaload, 1)) s1 (?_ : XW _ _ _ _ _ _ _ 1069 _ _)
  obtain ⟨Q1, sp, vc⟩ := vc
  refine xi_callVg (b := B + 3) (bs := S + 18) (As := [.int (xs (x4 + 1).toNatClampNeg)]) (st := []) (by decide +kernel : decode mL_law.2.1 1069 = .ok (.invokevirtual 173, 3)) kL_173 rfl rfl (by omega) rfl sp (by decide) (by decide) (Nat.le_of_ble_eq_true rfl) (by omega) (fun v9 h2 hq9 hx9 => ?_)
  obtain ⟨r2, e9, vc⟩ := vc v9 h2 hq9 hx9
  subst e9
  show XW _ _ _ _ _ _ _ 1072 _ [.int r2]
  refine xi_istore (ls' := [some (.ref 3000), some (.ref 0), some (.ref 56), some (.ref 99), some (.int x4), some (.int r1), some (.int r2), none]) (by decide +kernel : decode mL_law.2.1 1072 = .ok (.istore 6, 2)) (by decide) rfl (?_ : XW _ _ _ _ _ _ _ 1074 _ _)
  refine xi_aload_n (by decide +kernel : decode mL_law.2.1 1074 = .ok (.aload_n 2, 1)) rfl rfl (?_ : XW _ _ _ _ _ _ _ 1075 _ _)
  obtain ⟨Q1, sp, vc⟩ := vc
  refine xi_callVg (b := B + 3) (bs := S + 18) (As := []) (st := []) (by decide +kernel : decode mL_law.2.1 1075 = .ok (.invokevirtual 125, 3)) kL_125 rfl rfl (by omega) rfl sp (by decide) (by decide) (Nat.le_of_ble_eq_true rfl) (by omega) (fun v9 h3 hq9 hx9 => ?_)
  obtain ⟨r3, e9, vc⟩ := vc v9 h3 hq9 hx9
  subst e9
  show XW _ _ _ _ _ _ _ 1078 _ [.int r3]
  refine xi_iload (by decide +kernel : decode mL_law.2.1 1078 = .ok (.iload 5, 2)) rfl (?_ : XW _ _ _ _ _ _ _ 1080 _ _)
  refine xi_icmp_eq (by decide +kernel : decode mL_law.2.1 1080 = .ok (.if_icmp .eq 5, 3)) (by decide) (fun c => (?_ : XW _ _ _ _ _ _ _ 1085 _ _)) (fun c => (?_ : XW _ _ _ _ _ _ _ 1083 _ _))
  · replace vc := vc.1 c
    refine xi_iload (by decide +kernel : decode mL_law.2.1 1085 = .ok (.iload 5, 2)) rfl (?_ : XW _ _ _ _ _ _ _ 1087 _ _)
    refine xi_if_ne (by decide +kernel : decode mL_law.2.1 1087 = .ok (.ifCond .ne 15, 3)) (by decide) (fun c => (?_ : XW _ _ _ _ _ _ _ 1102 _ _)) (fun c => (?_ : XW _ _ _ _ _ _ _ 1090 _ _))
    · replace vc := vc.1 c
      refine xi_goto (by decide +kernel : decode mL_law.2.1 1102 = .ok (.goto 1290, 3)) (by decide) (?_ : XW _ _ _ _ _ _ _ 2392 _ _)
      refine xw_drop 5 (ls' := [some (.ref 3000), some (.ref 0), some (.ref 56), some (.ref 99), some (.int x4), none, some (.int r2), none]) rfl ?_
      refine xw_drop 6 (ls' := [some (.ref 3000), some (.ref 0), some (.ref 56), some (.ref 99), some (.int x4), none, none, none]) rfl ?_
      refine xw_b (b' := B) (bs' := S) (by omega) (by omega) ?_
      exact vc
    · replace vc := vc.2 c
      refine xi_aload_n (by decide +kernel : decode mL_law.2.1 1090 = .ok (.aload_n 3, 1)) rfl rfl (?_ : XW _ _ _ _ _ _ _ 1091 _ _)
      refine xi_iconst (v := 0) (by decide +kernel : decode mL_law.2.1 1091 = .ok (.iconst 0, 1)) (by decide) (?_ : XW _ _ _ _ _ _ _ 1092 _ _)
      refine xi_lald (by decide +kernel : decode mL_law.2.1 1092 = .ok (.laload, 1)) rfl (by omega) (by unfold vp_in; decide) (?_ : XW _ _ _ _ _ _ _ 1093 _ [.long (xL h3 99 0)])
      refine xi_iload (by decide +kernel : decode mL_law.2.1 1093 = .ok (.iload 6, 2)) rfl (?_ : XW _ _ _ _ _ _ _ 1095 _ _)
      refine xi_i2l (by decide +kernel : decode mL_law.2.1 1095 = .ok (.i2l, 1)) (?_ : XW _ _ _ _ _ _ _ 1096 _ _)
      refine xi_lcmp (by decide +kernel : decode mL_law.2.1 1096 = .ok (.lcmp, 1)) (?_ : XW _ _ _ _ _ _ _ 1097 _ _)
      refine xi_if_eq (by decide +kernel : decode mL_law.2.1 1097 = .ok (.ifCond .eq 5, 3)) (by decide) (fun c => (?_ : XW _ _ _ _ _ _ _ 1102 _ _)) (fun c => (?_ : XW _ _ _ _ _ _ _ 1100 _ _))
      · replace vc := vc.1 c
        refine xi_goto (by decide +kernel : decode mL_law.2.1 1102 = .ok (.goto 1290, 3)) (by decide) (?_ : XW _ _ _ _ _ _ _ 2392 _ _)
        refine xw_drop 5 (ls' := [some (.ref 3000), some (.ref 0), some (.ref 56), some (.ref 99), some (.int x4), none, some (.int r2), none]) rfl ?_
        refine xw_drop 6 (ls' := [some (.ref 3000), some (.ref 0), some (.ref 56), some (.ref 99), some (.int x4), none, none, none]) rfl ?_
        refine xw_b (b' := B) (bs' := S) (by omega) (by omega) ?_
        exact vc
      · replace vc := vc.2 c
        refine xi_iconst (v := 0) (by decide +kernel : decode mL_law.2.1 1100 = .ok (.iconst 0, 1)) (by decide) (?_ : XW _ _ _ _ _ _ _ 1101 _ _)
        exact vc.elim
  · replace vc := vc.2 c
    refine xi_iconst (v := 0) (by decide +kernel : decode mL_law.2.1 1083 = .ok (.iconst 0, 1)) (by decide) (?_ : XW _ _ _ _ _ _ _ 1084 _ _)
    exact vc.elim

set_option maxRecDepth 20000 in
theorem v_L_law_1105 {h : XH} {Q : Option Value → XH → Prop} {X : String → XH → Prop} (xs : Nat → Int32) (L B S : Nat)  (x4 : Int32)
    (vc : (vp_in (x4 + 1) L) ∧ ((vp_in (x4 + 2) L) ∧ ((vp_in (x4 + 3) L) ∧ (∃ Q1, XSpecH mL_grains 9 3 18 100 100 [.ref 0, .int (xs (x4 + 1).toNatClampNeg), .int (xs (x4 + 2).toNatClampNeg), .int (xs (x4 + 3).toNatClampNeg), .ref 99] h Q1 ∧ ∀ v h4, Q1 v h4 → ∃ r4 : Int32, v = some (.int r4) ∧ ((vp_in (x4 + 1) L) ∧ ((vp_in (x4 + 2) L) ∧ ((vp_in (x4 + 3) L) ∧ (∃ Q1, XSpec mX11_grains 6 0 0 100 100 [.ref 56, .int (xs (x4 + 1).toNatClampNeg), .int (xs (x4 + 2).toNatClampNeg), .int (xs (x4 + 3).toNatClampNeg)] h4 Q1 xno ∧ ∀ v h5, Q1 v h5 → xL h5 99 0 = xL h4 99 0 → ∃ r5 : Int64, v = some (.long r5) ∧ (∃ Q1, XSpec mX11_thrown 1 0 0 100 100 [.ref 56] h5 Q1 xno ∧ ∀ v h6, Q1 v h6 → xL h6 99 0 = xL h5 99 0 → ∃ r6 : Int32, v = some (.int r6) ∧ ((r6 = r4 → (¬ r4 = 0 → XW room_1 mL_law (xEL xs L) 100 B S h6 2392 [some (.ref 3000), some (.ref 0), some (.ref 56), some (.ref 99), some (.int x4), none, none, none] []) ∧ (r4 = 0 → ((lg_cmp (xL h6 99 0) r5) = 0 → XW room_1 mL_law (xEL xs L) 100 B S h6 2392 [some (.ref 3000), some (.ref 0), some (.ref 56), some (.ref 99), some (.int x4), none, none, none] []) ∧ (¬ (lg_cmp (xL h6 99 0) r5) = 0 → False))) ∧ (¬ r6 = r4 → False))))))))))) :
    XW room_1 mL_law (xEL xs L) 100 (B + 4) (S + 24) h 1105 [some (.ref 3000), some (.ref 0), some (.ref 56), some (.ref 99), some (.int x4), none, none, none] [] := by
  refine xi_aload_n (by decide +kernel : decode mL_law.2.1 1105 = .ok (.aload_n 1, 1)) rfl rfl (?_ : XW _ _ _ _ _ _ _ 1106 _ _)
  refine xi_aload_n (by decide +kernel : decode mL_law.2.1 1106 = .ok (.aload_n 0, 1)) rfl rfl (?_ : XW _ _ _ _ _ _ _ 1107 _ _)
  refine xi_iload (by decide +kernel : decode mL_law.2.1 1107 = .ok (.iload 4, 2)) rfl (?_ : XW _ _ _ _ _ _ _ 1109 _ _)
  refine xi_iconst (v := 1) (by decide +kernel : decode mL_law.2.1 1109 = .ok (.iconst 1, 1)) (by decide) (?_ : XW _ _ _ _ _ _ _ 1110 _ _)
  refine xi_iadd (by decide +kernel : decode mL_law.2.1 1110 = .ok (.iadd, 1)) (?_ : XW _ _ _ _ _ _ _ 1111 _ _)
  obtain ⟨s1, vc⟩ := vc
  refine xi_sldS (by decide +kernel : decode mL_law.2.1 1111 = .ok (.iaload, 1)) s1 (?_ : XW _ _ _ _ _ _ _ 1112 _ _)
  refine xi_aload_n (by decide +kernel : decode mL_law.2.1 1112 = .ok (.aload_n 0, 1)) rfl rfl (?_ : XW _ _ _ _ _ _ _ 1113 _ _)
  refine xi_iload (by decide +kernel : decode mL_law.2.1 1113 = .ok (.iload 4, 2)) rfl (?_ : XW _ _ _ _ _ _ _ 1115 _ _)
  refine xi_iconst (v := 2) (by decide +kernel : decode mL_law.2.1 1115 = .ok (.iconst 2, 1)) (by decide) (?_ : XW _ _ _ _ _ _ _ 1116 _ _)
  refine xi_iadd (by decide +kernel : decode mL_law.2.1 1116 = .ok (.iadd, 1)) (?_ : XW _ _ _ _ _ _ _ 1117 _ _)
  obtain ⟨s1, vc⟩ := vc
  refine xi_sldS (by decide +kernel : decode mL_law.2.1 1117 = .ok (.iaload, 1)) s1 (?_ : XW _ _ _ _ _ _ _ 1118 _ _)
  refine xi_aload_n (by decide +kernel : decode mL_law.2.1 1118 = .ok (.aload_n 0, 1)) rfl rfl (?_ : XW _ _ _ _ _ _ _ 1119 _ _)
  refine xi_iload (by decide +kernel : decode mL_law.2.1 1119 = .ok (.iload 4, 2)) rfl (?_ : XW _ _ _ _ _ _ _ 1121 _ _)
  refine xi_iconst (v := 3) (by decide +kernel : decode mL_law.2.1 1121 = .ok (.iconst 3, 1)) (by decide) (?_ : XW _ _ _ _ _ _ _ 1122 _ _)
  refine xi_iadd (by decide +kernel : decode mL_law.2.1 1122 = .ok (.iadd, 1)) (?_ : XW _ _ _ _ _ _ _ 1123 _ _)
  obtain ⟨s1, vc⟩ := vc
  refine xi_sldS (by decide +kernel : decode mL_law.2.1 1123 = .ok (.iaload, 1)) s1 (?_ : XW _ _ _ _ _ _ _ 1124 _ _)
  refine xi_aload_n (by decide +kernel : decode mL_law.2.1 1124 = .ok (.aload_n 3, 1)) rfl rfl (?_ : XW _ _ _ _ _ _ _ 1125 _ _)
  obtain ⟨Q1, sp, vc⟩ := vc
  refine xi_callSH (b := B + 1) (bs := S + 6) (As := [.ref 0, .int (xs (x4 + 1).toNatClampNeg), .int (xs (x4 + 2).toNatClampNeg), .int (xs (x4 + 3).toNatClampNeg), .ref 99]) (st := []) (by decide +kernel : decode mL_law.2.1 1125 = .ok (.invokestatic 174, 3)) kL_174 rfl rfl sp (by decide) (by decide) (Nat.le_of_ble_eq_true rfl) (by omega) (fun v9 h4 hq9 => ?_)
  obtain ⟨r4, e9, vc⟩ := vc v9 h4 hq9
  subst e9
  show XW _ _ _ _ _ _ _ 1128 _ [.int r4]
  refine xi_istore (ls' := [some (.ref 3000), some (.ref 0), some (.ref 56), some (.ref 99), some (.int x4), some (.int r4), none, none]) (by decide +kernel : decode mL_law.2.1 1128 = .ok (.istore 5, 2)) (by decide) rfl (?_ : XW _ _ _ _ _ _ _ 1130 _ _)
  refine xi_aload_n (by decide +kernel : decode mL_law.2.1 1130 = .ok (.aload_n 2, 1)) rfl rfl (?_ : XW _ _ _ _ _ _ _ 1131 _ _)
  refine xi_aload_n (by decide +kernel : decode mL_law.2.1 1131 = .ok (.aload_n 0, 1)) rfl rfl (?_ : XW _ _ _ _ _ _ _ 1132 _ _)
  refine xi_iload (by decide +kernel : decode mL_law.2.1 1132 = .ok (.iload 4, 2)) rfl (?_ : XW _ _ _ _ _ _ _ 1134 _ _)
  refine xi_iconst (v := 1) (by decide +kernel : decode mL_law.2.1 1134 = .ok (.iconst 1, 1)) (by decide) (?_ : XW _ _ _ _ _ _ _ 1135 _ _)
  refine xi_iadd (by decide +kernel : decode mL_law.2.1 1135 = .ok (.iadd, 1)) (?_ : XW _ _ _ _ _ _ _ 1136 _ _)
  obtain ⟨s1, vc⟩ := vc
  refine xi_sldS (by decide +kernel : decode mL_law.2.1 1136 = .ok (.iaload, 1)) s1 (?_ : XW _ _ _ _ _ _ _ 1137 _ _)
  refine xi_aload_n (by decide +kernel : decode mL_law.2.1 1137 = .ok (.aload_n 0, 1)) rfl rfl (?_ : XW _ _ _ _ _ _ _ 1138 _ _)
  refine xi_iload (by decide +kernel : decode mL_law.2.1 1138 = .ok (.iload 4, 2)) rfl (?_ : XW _ _ _ _ _ _ _ 1140 _ _)
  refine xi_iconst (v := 2) (by decide +kernel : decode mL_law.2.1 1140 = .ok (.iconst 2, 1)) (by decide) (?_ : XW _ _ _ _ _ _ _ 1141 _ _)
  refine xi_iadd (by decide +kernel : decode mL_law.2.1 1141 = .ok (.iadd, 1)) (?_ : XW _ _ _ _ _ _ _ 1142 _ _)
  obtain ⟨s1, vc⟩ := vc
  refine xi_sldS (by decide +kernel : decode mL_law.2.1 1142 = .ok (.iaload, 1)) s1 (?_ : XW _ _ _ _ _ _ _ 1143 _ _)
  refine xi_aload_n (by decide +kernel : decode mL_law.2.1 1143 = .ok (.aload_n 0, 1)) rfl rfl (?_ : XW _ _ _ _ _ _ _ 1144 _ _)
  refine xi_iload (by decide +kernel : decode mL_law.2.1 1144 = .ok (.iload 4, 2)) rfl (?_ : XW _ _ _ _ _ _ _ 1146 _ _)
  refine xi_iconst (v := 3) (by decide +kernel : decode mL_law.2.1 1146 = .ok (.iconst 3, 1)) (by decide) (?_ : XW _ _ _ _ _ _ _ 1147 _ _)
  refine xi_iadd (by decide +kernel : decode mL_law.2.1 1147 = .ok (.iadd, 1)) (?_ : XW _ _ _ _ _ _ _ 1148 _ _)
  obtain ⟨s1, vc⟩ := vc
  refine xi_sldS (by decide +kernel : decode mL_law.2.1 1148 = .ok (.iaload, 1)) s1 (?_ : XW _ _ _ _ _ _ _ 1149 _ _)
  obtain ⟨Q1, sp, vc⟩ := vc
  refine xi_callVg (b := B + 1) (bs := S + 6) (As := [.int (xs (x4 + 1).toNatClampNeg), .int (xs (x4 + 2).toNatClampNeg), .int (xs (x4 + 3).toNatClampNeg)]) (st := []) (by decide +kernel : decode mL_law.2.1 1149 = .ok (.invokevirtual 177, 3)) kL_177 rfl rfl (by omega) rfl sp (by decide) (by decide) (Nat.le_of_ble_eq_true rfl) (by omega) (fun v9 h5 hq9 hx9 => ?_)
  obtain ⟨r5, e9, vc⟩ := vc v9 h5 hq9 hx9
  subst e9
  show XW _ _ _ _ _ _ _ 1152 _ [.long r5]
  refine xi_lstore (ls' := [some (.ref 3000), some (.ref 0), some (.ref 56), some (.ref 99), some (.int x4), some (.int r4), some (.long r5), none]) (by decide +kernel : decode mL_law.2.1 1152 = .ok (.lstore 6, 2)) (by decide) rfl (?_ : XW _ _ _ _ _ _ _ 1154 _ _)
  refine xi_aload_n (by decide +kernel : decode mL_law.2.1 1154 = .ok (.aload_n 2, 1)) rfl rfl (?_ : XW _ _ _ _ _ _ _ 1155 _ _)
  obtain ⟨Q1, sp, vc⟩ := vc
  refine xi_callVg (b := B + 1) (bs := S + 6) (As := []) (st := []) (by decide +kernel : decode mL_law.2.1 1155 = .ok (.invokevirtual 125, 3)) kL_125 rfl rfl (by omega) rfl sp (by decide) (by decide) (Nat.le_of_ble_eq_true rfl) (by omega) (fun v9 h6 hq9 hx9 => ?_)
  obtain ⟨r6, e9, vc⟩ := vc v9 h6 hq9 hx9
  subst e9
  show XW _ _ _ _ _ _ _ 1158 _ [.int r6]
  refine xi_iload (by decide +kernel : decode mL_law.2.1 1158 = .ok (.iload 5, 2)) rfl (?_ : XW _ _ _ _ _ _ _ 1160 _ _)
  refine xi_icmp_eq (by decide +kernel : decode mL_law.2.1 1160 = .ok (.if_icmp .eq 5, 3)) (by decide) (fun c => (?_ : XW _ _ _ _ _ _ _ 1165 _ _)) (fun c => (?_ : XW _ _ _ _ _ _ _ 1163 _ _))
  · replace vc := vc.1 c
    refine xi_iload (by decide +kernel : decode mL_law.2.1 1165 = .ok (.iload 5, 2)) rfl (?_ : XW _ _ _ _ _ _ _ 1167 _ _)
    refine xi_if_ne (by decide +kernel : decode mL_law.2.1 1167 = .ok (.ifCond .ne 14, 3)) (by decide) (fun c => (?_ : XW _ _ _ _ _ _ _ 1181 _ _)) (fun c => (?_ : XW _ _ _ _ _ _ _ 1170 _ _))
    · replace vc := vc.1 c
      refine xi_goto (by decide +kernel : decode mL_law.2.1 1181 = .ok (.goto 1211, 3)) (by decide) (?_ : XW _ _ _ _ _ _ _ 2392 _ _)
      refine xw_drop 5 (ls' := [some (.ref 3000), some (.ref 0), some (.ref 56), some (.ref 99), some (.int x4), none, some (.long r5), none]) rfl ?_
      refine xw_drop 6 (ls' := [some (.ref 3000), some (.ref 0), some (.ref 56), some (.ref 99), some (.int x4), none, none, none]) rfl ?_
      refine xw_b (b' := B) (bs' := S) (by omega) (by omega) ?_
      exact vc
    · replace vc := vc.2 c
      refine xi_aload_n (by decide +kernel : decode mL_law.2.1 1170 = .ok (.aload_n 3, 1)) rfl rfl (?_ : XW _ _ _ _ _ _ _ 1171 _ _)
      refine xi_iconst (v := 0) (by decide +kernel : decode mL_law.2.1 1171 = .ok (.iconst 0, 1)) (by decide) (?_ : XW _ _ _ _ _ _ _ 1172 _ _)
      refine xi_lald (by decide +kernel : decode mL_law.2.1 1172 = .ok (.laload, 1)) rfl (by omega) (by unfold vp_in; decide) (?_ : XW _ _ _ _ _ _ _ 1173 _ [.long (xL h6 99 0)])
      refine xi_lload (by decide +kernel : decode mL_law.2.1 1173 = .ok (.lload 6, 2)) rfl (?_ : XW _ _ _ _ _ _ _ 1175 _ _)
      refine xi_lcmp (by decide +kernel : decode mL_law.2.1 1175 = .ok (.lcmp, 1)) (?_ : XW _ _ _ _ _ _ _ 1176 _ _)
      refine xi_if_eq (by decide +kernel : decode mL_law.2.1 1176 = .ok (.ifCond .eq 5, 3)) (by decide) (fun c => (?_ : XW _ _ _ _ _ _ _ 1181 _ _)) (fun c => (?_ : XW _ _ _ _ _ _ _ 1179 _ _))
      · replace vc := vc.1 c
        refine xi_goto (by decide +kernel : decode mL_law.2.1 1181 = .ok (.goto 1211, 3)) (by decide) (?_ : XW _ _ _ _ _ _ _ 2392 _ _)
        refine xw_drop 5 (ls' := [some (.ref 3000), some (.ref 0), some (.ref 56), some (.ref 99), some (.int x4), none, some (.long r5), none]) rfl ?_
        refine xw_drop 6 (ls' := [some (.ref 3000), some (.ref 0), some (.ref 56), some (.ref 99), some (.int x4), none, none, none]) rfl ?_
        refine xw_b (b' := B) (bs' := S) (by omega) (by omega) ?_
        exact vc
      · replace vc := vc.2 c
        refine xi_iconst (v := 0) (by decide +kernel : decode mL_law.2.1 1179 = .ok (.iconst 0, 1)) (by decide) (?_ : XW _ _ _ _ _ _ _ 1180 _ _)
        exact vc.elim
  · replace vc := vc.2 c
    refine xi_iconst (v := 0) (by decide +kernel : decode mL_law.2.1 1163 = .ok (.iconst 0, 1)) (by decide) (?_ : XW _ _ _ _ _ _ _ 1164 _ _)
    exact vc.elim

set_option maxRecDepth 20000 in
theorem v_L_law_1184 {h : XH} {Q : Option Value → XH → Prop} {X : String → XH → Prop} (xs : Nat → Int32) (L B S : Nat)  (x4 : Int32)
    (vc : (vp_in (x4 + 1) L) ∧ ((vp_in (x4 + 2) L) ∧ ((vp_in (x4 + 3) L) ∧ (∃ Q1, XSpecH mL_stood 9 3 18 100 100 [.ref 0, .int (xs (x4 + 1).toNatClampNeg), .int (xs (x4 + 2).toNatClampNeg), .int (xs (x4 + 3).toNatClampNeg), .ref 99] h Q1 ∧ ∀ v h7, Q1 v h7 → ∃ r7 : Int32, v = some (.int r7) ∧ ((vp_in (x4 + 1) L) ∧ ((vp_in (x4 + 2) L) ∧ ((vp_in (x4 + 3) L) ∧ (∃ Q1, XSpec mX11_stood 6 0 0 100 100 [.ref 56, .int (xs (x4 + 1).toNatClampNeg), .int (xs (x4 + 2).toNatClampNeg), .int (xs (x4 + 3).toNatClampNeg)] h7 Q1 xno ∧ ∀ v h8, Q1 v h8 → xL h8 99 0 = xL h7 99 0 → ∃ r8 : Int64, v = some (.long r8) ∧ (∃ Q1, XSpec mX11_thrown 1 0 0 100 100 [.ref 56] h8 Q1 xno ∧ ∀ v h9, Q1 v h9 → xL h9 99 0 = xL h8 99 0 → ∃ r9 : Int32, v = some (.int r9) ∧ ((r9 = r7 → (¬ r7 = 0 → XW room_1 mL_law (xEL xs L) 100 B S h9 2392 [some (.ref 3000), some (.ref 0), some (.ref 56), some (.ref 99), some (.int x4), none, none, none] []) ∧ (r7 = 0 → ((lg_cmp (xL h9 99 0) r8) = 0 → XW room_1 mL_law (xEL xs L) 100 B S h9 2392 [some (.ref 3000), some (.ref 0), some (.ref 56), some (.ref 99), some (.int x4), none, none, none] []) ∧ (¬ (lg_cmp (xL h9 99 0) r8) = 0 → False))) ∧ (¬ r9 = r7 → False))))))))))) :
    XW room_1 mL_law (xEL xs L) 100 (B + 4) (S + 24) h 1184 [some (.ref 3000), some (.ref 0), some (.ref 56), some (.ref 99), some (.int x4), none, none, none] [] := by
  refine xi_aload_n (by decide +kernel : decode mL_law.2.1 1184 = .ok (.aload_n 1, 1)) rfl rfl (?_ : XW _ _ _ _ _ _ _ 1185 _ _)
  refine xi_aload_n (by decide +kernel : decode mL_law.2.1 1185 = .ok (.aload_n 0, 1)) rfl rfl (?_ : XW _ _ _ _ _ _ _ 1186 _ _)
  refine xi_iload (by decide +kernel : decode mL_law.2.1 1186 = .ok (.iload 4, 2)) rfl (?_ : XW _ _ _ _ _ _ _ 1188 _ _)
  refine xi_iconst (v := 1) (by decide +kernel : decode mL_law.2.1 1188 = .ok (.iconst 1, 1)) (by decide) (?_ : XW _ _ _ _ _ _ _ 1189 _ _)
  refine xi_iadd (by decide +kernel : decode mL_law.2.1 1189 = .ok (.iadd, 1)) (?_ : XW _ _ _ _ _ _ _ 1190 _ _)
  obtain ⟨s1, vc⟩ := vc
  refine xi_sldS (by decide +kernel : decode mL_law.2.1 1190 = .ok (.iaload, 1)) s1 (?_ : XW _ _ _ _ _ _ _ 1191 _ _)
  refine xi_aload_n (by decide +kernel : decode mL_law.2.1 1191 = .ok (.aload_n 0, 1)) rfl rfl (?_ : XW _ _ _ _ _ _ _ 1192 _ _)
  refine xi_iload (by decide +kernel : decode mL_law.2.1 1192 = .ok (.iload 4, 2)) rfl (?_ : XW _ _ _ _ _ _ _ 1194 _ _)
  refine xi_iconst (v := 2) (by decide +kernel : decode mL_law.2.1 1194 = .ok (.iconst 2, 1)) (by decide) (?_ : XW _ _ _ _ _ _ _ 1195 _ _)
  refine xi_iadd (by decide +kernel : decode mL_law.2.1 1195 = .ok (.iadd, 1)) (?_ : XW _ _ _ _ _ _ _ 1196 _ _)
  obtain ⟨s1, vc⟩ := vc
  refine xi_sldS (by decide +kernel : decode mL_law.2.1 1196 = .ok (.iaload, 1)) s1 (?_ : XW _ _ _ _ _ _ _ 1197 _ _)
  refine xi_aload_n (by decide +kernel : decode mL_law.2.1 1197 = .ok (.aload_n 0, 1)) rfl rfl (?_ : XW _ _ _ _ _ _ _ 1198 _ _)
  refine xi_iload (by decide +kernel : decode mL_law.2.1 1198 = .ok (.iload 4, 2)) rfl (?_ : XW _ _ _ _ _ _ _ 1200 _ _)
  refine xi_iconst (v := 3) (by decide +kernel : decode mL_law.2.1 1200 = .ok (.iconst 3, 1)) (by decide) (?_ : XW _ _ _ _ _ _ _ 1201 _ _)
  refine xi_iadd (by decide +kernel : decode mL_law.2.1 1201 = .ok (.iadd, 1)) (?_ : XW _ _ _ _ _ _ _ 1202 _ _)
  obtain ⟨s1, vc⟩ := vc
  refine xi_sldS (by decide +kernel : decode mL_law.2.1 1202 = .ok (.iaload, 1)) s1 (?_ : XW _ _ _ _ _ _ _ 1203 _ _)
  refine xi_aload_n (by decide +kernel : decode mL_law.2.1 1203 = .ok (.aload_n 3, 1)) rfl rfl (?_ : XW _ _ _ _ _ _ _ 1204 _ _)
  obtain ⟨Q1, sp, vc⟩ := vc
  refine xi_callSH (b := B + 1) (bs := S + 6) (As := [.ref 0, .int (xs (x4 + 1).toNatClampNeg), .int (xs (x4 + 2).toNatClampNeg), .int (xs (x4 + 3).toNatClampNeg), .ref 99]) (st := []) (by decide +kernel : decode mL_law.2.1 1204 = .ok (.invokestatic 178, 3)) kL_178 rfl rfl sp (by decide) (by decide) (Nat.le_of_ble_eq_true rfl) (by omega) (fun v9 h7 hq9 => ?_)
  obtain ⟨r7, e9, vc⟩ := vc v9 h7 hq9
  subst e9
  show XW _ _ _ _ _ _ _ 1207 _ [.int r7]
  refine xi_istore (ls' := [some (.ref 3000), some (.ref 0), some (.ref 56), some (.ref 99), some (.int x4), some (.int r7), none, none]) (by decide +kernel : decode mL_law.2.1 1207 = .ok (.istore 5, 2)) (by decide) rfl (?_ : XW _ _ _ _ _ _ _ 1209 _ _)
  refine xi_aload_n (by decide +kernel : decode mL_law.2.1 1209 = .ok (.aload_n 2, 1)) rfl rfl (?_ : XW _ _ _ _ _ _ _ 1210 _ _)
  refine xi_aload_n (by decide +kernel : decode mL_law.2.1 1210 = .ok (.aload_n 0, 1)) rfl rfl (?_ : XW _ _ _ _ _ _ _ 1211 _ _)
  refine xi_iload (by decide +kernel : decode mL_law.2.1 1211 = .ok (.iload 4, 2)) rfl (?_ : XW _ _ _ _ _ _ _ 1213 _ _)
  refine xi_iconst (v := 1) (by decide +kernel : decode mL_law.2.1 1213 = .ok (.iconst 1, 1)) (by decide) (?_ : XW _ _ _ _ _ _ _ 1214 _ _)
  refine xi_iadd (by decide +kernel : decode mL_law.2.1 1214 = .ok (.iadd, 1)) (?_ : XW _ _ _ _ _ _ _ 1215 _ _)
  obtain ⟨s1, vc⟩ := vc
  refine xi_sldS (by decide +kernel : decode mL_law.2.1 1215 = .ok (.iaload, 1)) s1 (?_ : XW _ _ _ _ _ _ _ 1216 _ _)
  refine xi_aload_n (by decide +kernel : decode mL_law.2.1 1216 = .ok (.aload_n 0, 1)) rfl rfl (?_ : XW _ _ _ _ _ _ _ 1217 _ _)
  refine xi_iload (by decide +kernel : decode mL_law.2.1 1217 = .ok (.iload 4, 2)) rfl (?_ : XW _ _ _ _ _ _ _ 1219 _ _)
  refine xi_iconst (v := 2) (by decide +kernel : decode mL_law.2.1 1219 = .ok (.iconst 2, 1)) (by decide) (?_ : XW _ _ _ _ _ _ _ 1220 _ _)
  refine xi_iadd (by decide +kernel : decode mL_law.2.1 1220 = .ok (.iadd, 1)) (?_ : XW _ _ _ _ _ _ _ 1221 _ _)
  obtain ⟨s1, vc⟩ := vc
  refine xi_sldS (by decide +kernel : decode mL_law.2.1 1221 = .ok (.iaload, 1)) s1 (?_ : XW _ _ _ _ _ _ _ 1222 _ _)
  refine xi_aload_n (by decide +kernel : decode mL_law.2.1 1222 = .ok (.aload_n 0, 1)) rfl rfl (?_ : XW _ _ _ _ _ _ _ 1223 _ _)
  refine xi_iload (by decide +kernel : decode mL_law.2.1 1223 = .ok (.iload 4, 2)) rfl (?_ : XW _ _ _ _ _ _ _ 1225 _ _)
  refine xi_iconst (v := 3) (by decide +kernel : decode mL_law.2.1 1225 = .ok (.iconst 3, 1)) (by decide) (?_ : XW _ _ _ _ _ _ _ 1226 _ _)
  refine xi_iadd (by decide +kernel : decode mL_law.2.1 1226 = .ok (.iadd, 1)) (?_ : XW _ _ _ _ _ _ _ 1227 _ _)
  obtain ⟨s1, vc⟩ := vc
  refine xi_sldS (by decide +kernel : decode mL_law.2.1 1227 = .ok (.iaload, 1)) s1 (?_ : XW _ _ _ _ _ _ _ 1228 _ _)
  obtain ⟨Q1, sp, vc⟩ := vc
  refine xi_callVg (b := B + 1) (bs := S + 6) (As := [.int (xs (x4 + 1).toNatClampNeg), .int (xs (x4 + 2).toNatClampNeg), .int (xs (x4 + 3).toNatClampNeg)]) (st := []) (by decide +kernel : decode mL_law.2.1 1228 = .ok (.invokevirtual 180, 3)) kL_180 rfl rfl (by omega) rfl sp (by decide) (by decide) (Nat.le_of_ble_eq_true rfl) (by omega) (fun v9 h8 hq9 hx9 => ?_)
  obtain ⟨r8, e9, vc⟩ := vc v9 h8 hq9 hx9
  subst e9
  show XW _ _ _ _ _ _ _ 1231 _ [.long r8]
  refine xi_lstore (ls' := [some (.ref 3000), some (.ref 0), some (.ref 56), some (.ref 99), some (.int x4), some (.int r7), some (.long r8), none]) (by decide +kernel : decode mL_law.2.1 1231 = .ok (.lstore 6, 2)) (by decide) rfl (?_ : XW _ _ _ _ _ _ _ 1233 _ _)
  refine xi_aload_n (by decide +kernel : decode mL_law.2.1 1233 = .ok (.aload_n 2, 1)) rfl rfl (?_ : XW _ _ _ _ _ _ _ 1234 _ _)
  obtain ⟨Q1, sp, vc⟩ := vc
  refine xi_callVg (b := B + 1) (bs := S + 6) (As := []) (st := []) (by decide +kernel : decode mL_law.2.1 1234 = .ok (.invokevirtual 125, 3)) kL_125 rfl rfl (by omega) rfl sp (by decide) (by decide) (Nat.le_of_ble_eq_true rfl) (by omega) (fun v9 h9 hq9 hx9 => ?_)
  obtain ⟨r9, e9, vc⟩ := vc v9 h9 hq9 hx9
  subst e9
  show XW _ _ _ _ _ _ _ 1237 _ [.int r9]
  refine xi_iload (by decide +kernel : decode mL_law.2.1 1237 = .ok (.iload 5, 2)) rfl (?_ : XW _ _ _ _ _ _ _ 1239 _ _)
  refine xi_icmp_eq (by decide +kernel : decode mL_law.2.1 1239 = .ok (.if_icmp .eq 5, 3)) (by decide) (fun c => (?_ : XW _ _ _ _ _ _ _ 1244 _ _)) (fun c => (?_ : XW _ _ _ _ _ _ _ 1242 _ _))
  · replace vc := vc.1 c
    refine xi_iload (by decide +kernel : decode mL_law.2.1 1244 = .ok (.iload 5, 2)) rfl (?_ : XW _ _ _ _ _ _ _ 1246 _ _)
    refine xi_if_ne (by decide +kernel : decode mL_law.2.1 1246 = .ok (.ifCond .ne 14, 3)) (by decide) (fun c => (?_ : XW _ _ _ _ _ _ _ 1260 _ _)) (fun c => (?_ : XW _ _ _ _ _ _ _ 1249 _ _))
    · replace vc := vc.1 c
      refine xi_goto (by decide +kernel : decode mL_law.2.1 1260 = .ok (.goto 1132, 3)) (by decide) (?_ : XW _ _ _ _ _ _ _ 2392 _ _)
      refine xw_drop 5 (ls' := [some (.ref 3000), some (.ref 0), some (.ref 56), some (.ref 99), some (.int x4), none, some (.long r8), none]) rfl ?_
      refine xw_drop 6 (ls' := [some (.ref 3000), some (.ref 0), some (.ref 56), some (.ref 99), some (.int x4), none, none, none]) rfl ?_
      refine xw_b (b' := B) (bs' := S) (by omega) (by omega) ?_
      exact vc
    · replace vc := vc.2 c
      refine xi_aload_n (by decide +kernel : decode mL_law.2.1 1249 = .ok (.aload_n 3, 1)) rfl rfl (?_ : XW _ _ _ _ _ _ _ 1250 _ _)
      refine xi_iconst (v := 0) (by decide +kernel : decode mL_law.2.1 1250 = .ok (.iconst 0, 1)) (by decide) (?_ : XW _ _ _ _ _ _ _ 1251 _ _)
      refine xi_lald (by decide +kernel : decode mL_law.2.1 1251 = .ok (.laload, 1)) rfl (by omega) (by unfold vp_in; decide) (?_ : XW _ _ _ _ _ _ _ 1252 _ [.long (xL h9 99 0)])
      refine xi_lload (by decide +kernel : decode mL_law.2.1 1252 = .ok (.lload 6, 2)) rfl (?_ : XW _ _ _ _ _ _ _ 1254 _ _)
      refine xi_lcmp (by decide +kernel : decode mL_law.2.1 1254 = .ok (.lcmp, 1)) (?_ : XW _ _ _ _ _ _ _ 1255 _ _)
      refine xi_if_eq (by decide +kernel : decode mL_law.2.1 1255 = .ok (.ifCond .eq 5, 3)) (by decide) (fun c => (?_ : XW _ _ _ _ _ _ _ 1260 _ _)) (fun c => (?_ : XW _ _ _ _ _ _ _ 1258 _ _))
      · replace vc := vc.1 c
        refine xi_goto (by decide +kernel : decode mL_law.2.1 1260 = .ok (.goto 1132, 3)) (by decide) (?_ : XW _ _ _ _ _ _ _ 2392 _ _)
        refine xw_drop 5 (ls' := [some (.ref 3000), some (.ref 0), some (.ref 56), some (.ref 99), some (.int x4), none, some (.long r8), none]) rfl ?_
        refine xw_drop 6 (ls' := [some (.ref 3000), some (.ref 0), some (.ref 56), some (.ref 99), some (.int x4), none, none, none]) rfl ?_
        refine xw_b (b' := B) (bs' := S) (by omega) (by omega) ?_
        exact vc
      · replace vc := vc.2 c
        refine xi_iconst (v := 0) (by decide +kernel : decode mL_law.2.1 1258 = .ok (.iconst 0, 1)) (by decide) (?_ : XW _ _ _ _ _ _ _ 1259 _ _)
        exact vc.elim
  · replace vc := vc.2 c
    refine xi_iconst (v := 0) (by decide +kernel : decode mL_law.2.1 1242 = .ok (.iconst 0, 1)) (by decide) (?_ : XW _ _ _ _ _ _ _ 1243 _ _)
    exact vc.elim

set_option maxRecDepth 20000 in
theorem v_L_law_1263 {h : XH} {Q : Option Value → XH → Prop} {X : String → XH → Prop} (xs : Nat → Int32) (L B S : Nat)  (x4 : Int32)
    (vc : (vp_in (x4 + 1) L) ∧ (∃ Q1, XSpecH mL_half 9 1 6 100 100 [.ref 0, .int (xs (x4 + 1).toNatClampNeg), .ref 99] h Q1 ∧ ∀ v h10, Q1 v h10 → ∃ r10 : Int32, v = some (.int r10) ∧ ((vp_in (x4 + 1) L) ∧ (∃ Q1, XSpec mX11_half 6 0 0 100 100 [.ref 56, .int (xs (x4 + 1).toNatClampNeg)] h10 Q1 xno ∧ ∀ v h11, Q1 v h11 → xL h11 99 0 = xL h10 99 0 → ∃ r11 : Int32, v = some (.int r11) ∧ (∃ Q1, XSpec mX11_thrown 1 0 0 100 100 [.ref 56] h11 Q1 xno ∧ ∀ v h12, Q1 v h12 → xL h12 99 0 = xL h11 99 0 → ∃ r12 : Int32, v = some (.int r12) ∧ ((r12 = r10 → (¬ r10 = 0 → XW room_1 mL_law (xEL xs L) 100 B S h12 2392 [some (.ref 3000), some (.ref 0), some (.ref 56), some (.ref 99), some (.int x4), none, none, none] []) ∧ (r10 = 0 → ((lg_cmp (xL h12 99 0) (Int32.toInt64 r11)) = 0 → XW room_1 mL_law (xEL xs L) 100 B S h12 2392 [some (.ref 3000), some (.ref 0), some (.ref 56), some (.ref 99), some (.int x4), none, none, none] []) ∧ (¬ (lg_cmp (xL h12 99 0) (Int32.toInt64 r11)) = 0 → False))) ∧ (¬ r12 = r10 → False))))))) :
    XW room_1 mL_law (xEL xs L) 100 (B + 4) (S + 24) h 1263 [some (.ref 3000), some (.ref 0), some (.ref 56), some (.ref 99), some (.int x4), none, none, none] [] := by
  refine xi_aload_n (by decide +kernel : decode mL_law.2.1 1263 = .ok (.aload_n 1, 1)) rfl rfl (?_ : XW _ _ _ _ _ _ _ 1264 _ _)
  refine xi_aload_n (by decide +kernel : decode mL_law.2.1 1264 = .ok (.aload_n 0, 1)) rfl rfl (?_ : XW _ _ _ _ _ _ _ 1265 _ _)
  refine xi_iload (by decide +kernel : decode mL_law.2.1 1265 = .ok (.iload 4, 2)) rfl (?_ : XW _ _ _ _ _ _ _ 1267 _ _)
  refine xi_iconst (v := 1) (by decide +kernel : decode mL_law.2.1 1267 = .ok (.iconst 1, 1)) (by decide) (?_ : XW _ _ _ _ _ _ _ 1268 _ _)
  refine xi_iadd (by decide +kernel : decode mL_law.2.1 1268 = .ok (.iadd, 1)) (?_ : XW _ _ _ _ _ _ _ 1269 _ _)
  obtain ⟨s1, vc⟩ := vc
  refine xi_sldS (by decide +kernel : decode mL_law.2.1 1269 = .ok (.iaload, 1)) s1 (?_ : XW _ _ _ _ _ _ _ 1270 _ _)
  refine xi_aload_n (by decide +kernel : decode mL_law.2.1 1270 = .ok (.aload_n 3, 1)) rfl rfl (?_ : XW _ _ _ _ _ _ _ 1271 _ _)
  obtain ⟨Q1, sp, vc⟩ := vc
  refine xi_callSH (b := B + 3) (bs := S + 18) (As := [.ref 0, .int (xs (x4 + 1).toNatClampNeg), .ref 99]) (st := []) (by decide +kernel : decode mL_law.2.1 1271 = .ok (.invokestatic 181, 3)) kL_181 rfl rfl sp (by decide) (by decide) (Nat.le_of_ble_eq_true rfl) (by omega) (fun v9 h10 hq9 => ?_)
  obtain ⟨r10, e9, vc⟩ := vc v9 h10 hq9
  subst e9
  show XW _ _ _ _ _ _ _ 1274 _ [.int r10]
  refine xi_istore (ls' := [some (.ref 3000), some (.ref 0), some (.ref 56), some (.ref 99), some (.int x4), some (.int r10), none, none]) (by decide +kernel : decode mL_law.2.1 1274 = .ok (.istore 5, 2)) (by decide) rfl (?_ : XW _ _ _ _ _ _ _ 1276 _ _)
  refine xi_aload_n (by decide +kernel : decode mL_law.2.1 1276 = .ok (.aload_n 2, 1)) rfl rfl (?_ : XW _ _ _ _ _ _ _ 1277 _ _)
  refine xi_aload_n (by decide +kernel : decode mL_law.2.1 1277 = .ok (.aload_n 0, 1)) rfl rfl (?_ : XW _ _ _ _ _ _ _ 1278 _ _)
  refine xi_iload (by decide +kernel : decode mL_law.2.1 1278 = .ok (.iload 4, 2)) rfl (?_ : XW _ _ _ _ _ _ _ 1280 _ _)
  refine xi_iconst (v := 1) (by decide +kernel : decode mL_law.2.1 1280 = .ok (.iconst 1, 1)) (by decide) (?_ : XW _ _ _ _ _ _ _ 1281 _ _)
  refine xi_iadd (by decide +kernel : decode mL_law.2.1 1281 = .ok (.iadd, 1)) (?_ : XW _ _ _ _ _ _ _ 1282 _ _)
  obtain ⟨s1, vc⟩ := vc
  refine xi_sldS (by decide +kernel : decode mL_law.2.1 1282 = .ok (.iaload, 1)) s1 (?_ : XW _ _ _ _ _ _ _ 1283 _ _)
  obtain ⟨Q1, sp, vc⟩ := vc
  refine xi_callVg (b := B + 3) (bs := S + 18) (As := [.int (xs (x4 + 1).toNatClampNeg)]) (st := []) (by decide +kernel : decode mL_law.2.1 1283 = .ok (.invokevirtual 183, 3)) kL_183 rfl rfl (by omega) rfl sp (by decide) (by decide) (Nat.le_of_ble_eq_true rfl) (by omega) (fun v9 h11 hq9 hx9 => ?_)
  obtain ⟨r11, e9, vc⟩ := vc v9 h11 hq9 hx9
  subst e9
  show XW _ _ _ _ _ _ _ 1286 _ [.int r11]
  refine xi_istore (ls' := [some (.ref 3000), some (.ref 0), some (.ref 56), some (.ref 99), some (.int x4), some (.int r10), some (.int r11), none]) (by decide +kernel : decode mL_law.2.1 1286 = .ok (.istore 6, 2)) (by decide) rfl (?_ : XW _ _ _ _ _ _ _ 1288 _ _)
  refine xi_aload_n (by decide +kernel : decode mL_law.2.1 1288 = .ok (.aload_n 2, 1)) rfl rfl (?_ : XW _ _ _ _ _ _ _ 1289 _ _)
  obtain ⟨Q1, sp, vc⟩ := vc
  refine xi_callVg (b := B + 3) (bs := S + 18) (As := []) (st := []) (by decide +kernel : decode mL_law.2.1 1289 = .ok (.invokevirtual 125, 3)) kL_125 rfl rfl (by omega) rfl sp (by decide) (by decide) (Nat.le_of_ble_eq_true rfl) (by omega) (fun v9 h12 hq9 hx9 => ?_)
  obtain ⟨r12, e9, vc⟩ := vc v9 h12 hq9 hx9
  subst e9
  show XW _ _ _ _ _ _ _ 1292 _ [.int r12]
  refine xi_iload (by decide +kernel : decode mL_law.2.1 1292 = .ok (.iload 5, 2)) rfl (?_ : XW _ _ _ _ _ _ _ 1294 _ _)
  refine xi_icmp_eq (by decide +kernel : decode mL_law.2.1 1294 = .ok (.if_icmp .eq 5, 3)) (by decide) (fun c => (?_ : XW _ _ _ _ _ _ _ 1299 _ _)) (fun c => (?_ : XW _ _ _ _ _ _ _ 1297 _ _))
  · replace vc := vc.1 c
    refine xi_iload (by decide +kernel : decode mL_law.2.1 1299 = .ok (.iload 5, 2)) rfl (?_ : XW _ _ _ _ _ _ _ 1301 _ _)
    refine xi_if_ne (by decide +kernel : decode mL_law.2.1 1301 = .ok (.ifCond .ne 15, 3)) (by decide) (fun c => (?_ : XW _ _ _ _ _ _ _ 1316 _ _)) (fun c => (?_ : XW _ _ _ _ _ _ _ 1304 _ _))
    · replace vc := vc.1 c
      refine xi_goto (by decide +kernel : decode mL_law.2.1 1316 = .ok (.goto 1076, 3)) (by decide) (?_ : XW _ _ _ _ _ _ _ 2392 _ _)
      refine xw_drop 5 (ls' := [some (.ref 3000), some (.ref 0), some (.ref 56), some (.ref 99), some (.int x4), none, some (.int r11), none]) rfl ?_
      refine xw_drop 6 (ls' := [some (.ref 3000), some (.ref 0), some (.ref 56), some (.ref 99), some (.int x4), none, none, none]) rfl ?_
      refine xw_b (b' := B) (bs' := S) (by omega) (by omega) ?_
      exact vc
    · replace vc := vc.2 c
      refine xi_aload_n (by decide +kernel : decode mL_law.2.1 1304 = .ok (.aload_n 3, 1)) rfl rfl (?_ : XW _ _ _ _ _ _ _ 1305 _ _)
      refine xi_iconst (v := 0) (by decide +kernel : decode mL_law.2.1 1305 = .ok (.iconst 0, 1)) (by decide) (?_ : XW _ _ _ _ _ _ _ 1306 _ _)
      refine xi_lald (by decide +kernel : decode mL_law.2.1 1306 = .ok (.laload, 1)) rfl (by omega) (by unfold vp_in; decide) (?_ : XW _ _ _ _ _ _ _ 1307 _ [.long (xL h12 99 0)])
      refine xi_iload (by decide +kernel : decode mL_law.2.1 1307 = .ok (.iload 6, 2)) rfl (?_ : XW _ _ _ _ _ _ _ 1309 _ _)
      refine xi_i2l (by decide +kernel : decode mL_law.2.1 1309 = .ok (.i2l, 1)) (?_ : XW _ _ _ _ _ _ _ 1310 _ _)
      refine xi_lcmp (by decide +kernel : decode mL_law.2.1 1310 = .ok (.lcmp, 1)) (?_ : XW _ _ _ _ _ _ _ 1311 _ _)
      refine xi_if_eq (by decide +kernel : decode mL_law.2.1 1311 = .ok (.ifCond .eq 5, 3)) (by decide) (fun c => (?_ : XW _ _ _ _ _ _ _ 1316 _ _)) (fun c => (?_ : XW _ _ _ _ _ _ _ 1314 _ _))
      · replace vc := vc.1 c
        refine xi_goto (by decide +kernel : decode mL_law.2.1 1316 = .ok (.goto 1076, 3)) (by decide) (?_ : XW _ _ _ _ _ _ _ 2392 _ _)
        refine xw_drop 5 (ls' := [some (.ref 3000), some (.ref 0), some (.ref 56), some (.ref 99), some (.int x4), none, some (.int r11), none]) rfl ?_
        refine xw_drop 6 (ls' := [some (.ref 3000), some (.ref 0), some (.ref 56), some (.ref 99), some (.int x4), none, none, none]) rfl ?_
        refine xw_b (b' := B) (bs' := S) (by omega) (by omega) ?_
        exact vc
      · replace vc := vc.2 c
        refine xi_iconst (v := 0) (by decide +kernel : decode mL_law.2.1 1314 = .ok (.iconst 0, 1)) (by decide) (?_ : XW _ _ _ _ _ _ _ 1315 _ _)
        exact vc.elim
  · replace vc := vc.2 c
    refine xi_iconst (v := 0) (by decide +kernel : decode mL_law.2.1 1297 = .ok (.iconst 0, 1)) (by decide) (?_ : XW _ _ _ _ _ _ _ 1298 _ _)
    exact vc.elim

set_option maxRecDepth 20000 in
theorem v_L_law_1319 {h : XH} {Q : Option Value → XH → Prop} {X : String → XH → Prop} (xs : Nat → Int32) (L B S : Nat)  (x4 : Int32)
    (vc : (vp_in (x4 + 1) L) ∧ ((vp_in (x4 + 2) L) ∧ ((vp_in (x4 + 3) L) ∧ ((vp_in (x4 + 4) L) ∧ (∃ Q1, XSpecH mL_first 9 4 24 100 100 [.ref 0, .int (xs (x4 + 1).toNatClampNeg), .int (xs (x4 + 2).toNatClampNeg), .int (xs (x4 + 3).toNatClampNeg), .int (xs (x4 + 4).toNatClampNeg), .ref 99] h Q1 ∧ ∀ v h13, Q1 v h13 → ∃ r13 : Int32, v = some (.int r13) ∧ ((vp_in (x4 + 1) L) ∧ ((vp_in (x4 + 2) L) ∧ ((vp_in (x4 + 3) L) ∧ ((vp_in (x4 + 4) L) ∧ (∃ Q1, XSpec mX11_first 6 0 0 100 100 [.ref 56, .int (xs (x4 + 1).toNatClampNeg), .int (xs (x4 + 2).toNatClampNeg), .int (xs (x4 + 3).toNatClampNeg), .int (xs (x4 + 4).toNatClampNeg)] h13 Q1 xno ∧ ∀ v h14, Q1 v h14 → xL h14 99 0 = xL h13 99 0 → ∃ r14 : Int64, v = some (.long r14) ∧ (∃ Q1, XSpec mX11_thrown 1 0 0 100 100 [.ref 56] h14 Q1 xno ∧ ∀ v h15, Q1 v h15 → xL h15 99 0 = xL h14 99 0 → ∃ r15 : Int32, v = some (.int r15) ∧ ((r15 = r13 → (¬ r13 = 0 → XW room_1 mL_law (xEL xs L) 100 B S h15 2392 [some (.ref 3000), some (.ref 0), some (.ref 56), some (.ref 99), some (.int x4), none, none, none] []) ∧ (r13 = 0 → ((lg_cmp (xL h15 99 0) r14) = 0 → XW room_1 mL_law (xEL xs L) 100 B S h15 2392 [some (.ref 3000), some (.ref 0), some (.ref 56), some (.ref 99), some (.int x4), none, none, none] []) ∧ (¬ (lg_cmp (xL h15 99 0) r14) = 0 → False))) ∧ (¬ r15 = r13 → False))))))))))))) :
    XW room_1 mL_law (xEL xs L) 100 (B + 4) (S + 24) h 1319 [some (.ref 3000), some (.ref 0), some (.ref 56), some (.ref 99), some (.int x4), none, none, none] [] := by
  refine xi_aload_n (by decide +kernel : decode mL_law.2.1 1319 = .ok (.aload_n 1, 1)) rfl rfl (?_ : XW _ _ _ _ _ _ _ 1320 _ _)
  refine xi_aload_n (by decide +kernel : decode mL_law.2.1 1320 = .ok (.aload_n 0, 1)) rfl rfl (?_ : XW _ _ _ _ _ _ _ 1321 _ _)
  refine xi_iload (by decide +kernel : decode mL_law.2.1 1321 = .ok (.iload 4, 2)) rfl (?_ : XW _ _ _ _ _ _ _ 1323 _ _)
  refine xi_iconst (v := 1) (by decide +kernel : decode mL_law.2.1 1323 = .ok (.iconst 1, 1)) (by decide) (?_ : XW _ _ _ _ _ _ _ 1324 _ _)
  refine xi_iadd (by decide +kernel : decode mL_law.2.1 1324 = .ok (.iadd, 1)) (?_ : XW _ _ _ _ _ _ _ 1325 _ _)
  obtain ⟨s1, vc⟩ := vc
  refine xi_sldS (by decide +kernel : decode mL_law.2.1 1325 = .ok (.iaload, 1)) s1 (?_ : XW _ _ _ _ _ _ _ 1326 _ _)
  refine xi_aload_n (by decide +kernel : decode mL_law.2.1 1326 = .ok (.aload_n 0, 1)) rfl rfl (?_ : XW _ _ _ _ _ _ _ 1327 _ _)
  refine xi_iload (by decide +kernel : decode mL_law.2.1 1327 = .ok (.iload 4, 2)) rfl (?_ : XW _ _ _ _ _ _ _ 1329 _ _)
  refine xi_iconst (v := 2) (by decide +kernel : decode mL_law.2.1 1329 = .ok (.iconst 2, 1)) (by decide) (?_ : XW _ _ _ _ _ _ _ 1330 _ _)
  refine xi_iadd (by decide +kernel : decode mL_law.2.1 1330 = .ok (.iadd, 1)) (?_ : XW _ _ _ _ _ _ _ 1331 _ _)
  obtain ⟨s1, vc⟩ := vc
  refine xi_sldS (by decide +kernel : decode mL_law.2.1 1331 = .ok (.iaload, 1)) s1 (?_ : XW _ _ _ _ _ _ _ 1332 _ _)
  refine xi_aload_n (by decide +kernel : decode mL_law.2.1 1332 = .ok (.aload_n 0, 1)) rfl rfl (?_ : XW _ _ _ _ _ _ _ 1333 _ _)
  refine xi_iload (by decide +kernel : decode mL_law.2.1 1333 = .ok (.iload 4, 2)) rfl (?_ : XW _ _ _ _ _ _ _ 1335 _ _)
  refine xi_iconst (v := 3) (by decide +kernel : decode mL_law.2.1 1335 = .ok (.iconst 3, 1)) (by decide) (?_ : XW _ _ _ _ _ _ _ 1336 _ _)
  refine xi_iadd (by decide +kernel : decode mL_law.2.1 1336 = .ok (.iadd, 1)) (?_ : XW _ _ _ _ _ _ _ 1337 _ _)
  obtain ⟨s1, vc⟩ := vc
  refine xi_sldS (by decide +kernel : decode mL_law.2.1 1337 = .ok (.iaload, 1)) s1 (?_ : XW _ _ _ _ _ _ _ 1338 _ _)
  refine xi_aload_n (by decide +kernel : decode mL_law.2.1 1338 = .ok (.aload_n 0, 1)) rfl rfl (?_ : XW _ _ _ _ _ _ _ 1339 _ _)
  refine xi_iload (by decide +kernel : decode mL_law.2.1 1339 = .ok (.iload 4, 2)) rfl (?_ : XW _ _ _ _ _ _ _ 1341 _ _)
  refine xi_iconst (v := 4) (by decide +kernel : decode mL_law.2.1 1341 = .ok (.iconst 4, 1)) (by decide) (?_ : XW _ _ _ _ _ _ _ 1342 _ _)
  refine xi_iadd (by decide +kernel : decode mL_law.2.1 1342 = .ok (.iadd, 1)) (?_ : XW _ _ _ _ _ _ _ 1343 _ _)
  obtain ⟨s1, vc⟩ := vc
  refine xi_sldS (by decide +kernel : decode mL_law.2.1 1343 = .ok (.iaload, 1)) s1 (?_ : XW _ _ _ _ _ _ _ 1344 _ _)
  refine xi_aload_n (by decide +kernel : decode mL_law.2.1 1344 = .ok (.aload_n 3, 1)) rfl rfl (?_ : XW _ _ _ _ _ _ _ 1345 _ _)
  obtain ⟨Q1, sp, vc⟩ := vc
  refine xi_callSH (b := B + 0) (bs := S + 0) (As := [.ref 0, .int (xs (x4 + 1).toNatClampNeg), .int (xs (x4 + 2).toNatClampNeg), .int (xs (x4 + 3).toNatClampNeg), .int (xs (x4 + 4).toNatClampNeg), .ref 99]) (st := []) (by decide +kernel : decode mL_law.2.1 1345 = .ok (.invokestatic 184, 3)) kL_184 rfl rfl sp (by decide) (by decide) (Nat.le_of_ble_eq_true rfl) (by omega) (fun v9 h13 hq9 => ?_)
  obtain ⟨r13, e9, vc⟩ := vc v9 h13 hq9
  subst e9
  show XW _ _ _ _ _ _ _ 1348 _ [.int r13]
  refine xi_istore (ls' := [some (.ref 3000), some (.ref 0), some (.ref 56), some (.ref 99), some (.int x4), some (.int r13), none, none]) (by decide +kernel : decode mL_law.2.1 1348 = .ok (.istore 5, 2)) (by decide) rfl (?_ : XW _ _ _ _ _ _ _ 1350 _ _)
  refine xi_aload_n (by decide +kernel : decode mL_law.2.1 1350 = .ok (.aload_n 2, 1)) rfl rfl (?_ : XW _ _ _ _ _ _ _ 1351 _ _)
  refine xi_aload_n (by decide +kernel : decode mL_law.2.1 1351 = .ok (.aload_n 0, 1)) rfl rfl (?_ : XW _ _ _ _ _ _ _ 1352 _ _)
  refine xi_iload (by decide +kernel : decode mL_law.2.1 1352 = .ok (.iload 4, 2)) rfl (?_ : XW _ _ _ _ _ _ _ 1354 _ _)
  refine xi_iconst (v := 1) (by decide +kernel : decode mL_law.2.1 1354 = .ok (.iconst 1, 1)) (by decide) (?_ : XW _ _ _ _ _ _ _ 1355 _ _)
  refine xi_iadd (by decide +kernel : decode mL_law.2.1 1355 = .ok (.iadd, 1)) (?_ : XW _ _ _ _ _ _ _ 1356 _ _)
  obtain ⟨s1, vc⟩ := vc
  refine xi_sldS (by decide +kernel : decode mL_law.2.1 1356 = .ok (.iaload, 1)) s1 (?_ : XW _ _ _ _ _ _ _ 1357 _ _)
  refine xi_aload_n (by decide +kernel : decode mL_law.2.1 1357 = .ok (.aload_n 0, 1)) rfl rfl (?_ : XW _ _ _ _ _ _ _ 1358 _ _)
  refine xi_iload (by decide +kernel : decode mL_law.2.1 1358 = .ok (.iload 4, 2)) rfl (?_ : XW _ _ _ _ _ _ _ 1360 _ _)
  refine xi_iconst (v := 2) (by decide +kernel : decode mL_law.2.1 1360 = .ok (.iconst 2, 1)) (by decide) (?_ : XW _ _ _ _ _ _ _ 1361 _ _)
  refine xi_iadd (by decide +kernel : decode mL_law.2.1 1361 = .ok (.iadd, 1)) (?_ : XW _ _ _ _ _ _ _ 1362 _ _)
  obtain ⟨s1, vc⟩ := vc
  refine xi_sldS (by decide +kernel : decode mL_law.2.1 1362 = .ok (.iaload, 1)) s1 (?_ : XW _ _ _ _ _ _ _ 1363 _ _)
  refine xi_aload_n (by decide +kernel : decode mL_law.2.1 1363 = .ok (.aload_n 0, 1)) rfl rfl (?_ : XW _ _ _ _ _ _ _ 1364 _ _)
  refine xi_iload (by decide +kernel : decode mL_law.2.1 1364 = .ok (.iload 4, 2)) rfl (?_ : XW _ _ _ _ _ _ _ 1366 _ _)
  refine xi_iconst (v := 3) (by decide +kernel : decode mL_law.2.1 1366 = .ok (.iconst 3, 1)) (by decide) (?_ : XW _ _ _ _ _ _ _ 1367 _ _)
  refine xi_iadd (by decide +kernel : decode mL_law.2.1 1367 = .ok (.iadd, 1)) (?_ : XW _ _ _ _ _ _ _ 1368 _ _)
  obtain ⟨s1, vc⟩ := vc
  refine xi_sldS (by decide +kernel : decode mL_law.2.1 1368 = .ok (.iaload, 1)) s1 (?_ : XW _ _ _ _ _ _ _ 1369 _ _)
  refine xi_aload_n (by decide +kernel : decode mL_law.2.1 1369 = .ok (.aload_n 0, 1)) rfl rfl (?_ : XW _ _ _ _ _ _ _ 1370 _ _)
  refine xi_iload (by decide +kernel : decode mL_law.2.1 1370 = .ok (.iload 4, 2)) rfl (?_ : XW _ _ _ _ _ _ _ 1372 _ _)
  refine xi_iconst (v := 4) (by decide +kernel : decode mL_law.2.1 1372 = .ok (.iconst 4, 1)) (by decide) (?_ : XW _ _ _ _ _ _ _ 1373 _ _)
  refine xi_iadd (by decide +kernel : decode mL_law.2.1 1373 = .ok (.iadd, 1)) (?_ : XW _ _ _ _ _ _ _ 1374 _ _)
  obtain ⟨s1, vc⟩ := vc
  refine xi_sldS (by decide +kernel : decode mL_law.2.1 1374 = .ok (.iaload, 1)) s1 (?_ : XW _ _ _ _ _ _ _ 1375 _ _)
  obtain ⟨Q1, sp, vc⟩ := vc
  refine xi_callVg (b := B + 0) (bs := S + 0) (As := [.int (xs (x4 + 1).toNatClampNeg), .int (xs (x4 + 2).toNatClampNeg), .int (xs (x4 + 3).toNatClampNeg), .int (xs (x4 + 4).toNatClampNeg)]) (st := []) (by decide +kernel : decode mL_law.2.1 1375 = .ok (.invokevirtual 187, 3)) kL_187 rfl rfl (by omega) rfl sp (by decide) (by decide) (Nat.le_of_ble_eq_true rfl) (by omega) (fun v9 h14 hq9 hx9 => ?_)
  obtain ⟨r14, e9, vc⟩ := vc v9 h14 hq9 hx9
  subst e9
  show XW _ _ _ _ _ _ _ 1378 _ [.long r14]
  refine xi_lstore (ls' := [some (.ref 3000), some (.ref 0), some (.ref 56), some (.ref 99), some (.int x4), some (.int r13), some (.long r14), none]) (by decide +kernel : decode mL_law.2.1 1378 = .ok (.lstore 6, 2)) (by decide) rfl (?_ : XW _ _ _ _ _ _ _ 1380 _ _)
  refine xi_aload_n (by decide +kernel : decode mL_law.2.1 1380 = .ok (.aload_n 2, 1)) rfl rfl (?_ : XW _ _ _ _ _ _ _ 1381 _ _)
  obtain ⟨Q1, sp, vc⟩ := vc
  refine xi_callVg (b := B + 0) (bs := S + 0) (As := []) (st := []) (by decide +kernel : decode mL_law.2.1 1381 = .ok (.invokevirtual 125, 3)) kL_125 rfl rfl (by omega) rfl sp (by decide) (by decide) (Nat.le_of_ble_eq_true rfl) (by omega) (fun v9 h15 hq9 hx9 => ?_)
  obtain ⟨r15, e9, vc⟩ := vc v9 h15 hq9 hx9
  subst e9
  show XW _ _ _ _ _ _ _ 1384 _ [.int r15]
  refine xi_iload (by decide +kernel : decode mL_law.2.1 1384 = .ok (.iload 5, 2)) rfl (?_ : XW _ _ _ _ _ _ _ 1386 _ _)
  refine xi_icmp_eq (by decide +kernel : decode mL_law.2.1 1386 = .ok (.if_icmp .eq 5, 3)) (by decide) (fun c => (?_ : XW _ _ _ _ _ _ _ 1391 _ _)) (fun c => (?_ : XW _ _ _ _ _ _ _ 1389 _ _))
  · replace vc := vc.1 c
    refine xi_iload (by decide +kernel : decode mL_law.2.1 1391 = .ok (.iload 5, 2)) rfl (?_ : XW _ _ _ _ _ _ _ 1393 _ _)
    refine xi_if_ne (by decide +kernel : decode mL_law.2.1 1393 = .ok (.ifCond .ne 14, 3)) (by decide) (fun c => (?_ : XW _ _ _ _ _ _ _ 1407 _ _)) (fun c => (?_ : XW _ _ _ _ _ _ _ 1396 _ _))
    · replace vc := vc.1 c
      refine xi_goto (by decide +kernel : decode mL_law.2.1 1407 = .ok (.goto 985, 3)) (by decide) (?_ : XW _ _ _ _ _ _ _ 2392 _ _)
      refine xw_drop 5 (ls' := [some (.ref 3000), some (.ref 0), some (.ref 56), some (.ref 99), some (.int x4), none, some (.long r14), none]) rfl ?_
      refine xw_drop 6 (ls' := [some (.ref 3000), some (.ref 0), some (.ref 56), some (.ref 99), some (.int x4), none, none, none]) rfl ?_
      refine xw_b (b' := B) (bs' := S) (by omega) (by omega) ?_
      exact vc
    · replace vc := vc.2 c
      refine xi_aload_n (by decide +kernel : decode mL_law.2.1 1396 = .ok (.aload_n 3, 1)) rfl rfl (?_ : XW _ _ _ _ _ _ _ 1397 _ _)
      refine xi_iconst (v := 0) (by decide +kernel : decode mL_law.2.1 1397 = .ok (.iconst 0, 1)) (by decide) (?_ : XW _ _ _ _ _ _ _ 1398 _ _)
      refine xi_lald (by decide +kernel : decode mL_law.2.1 1398 = .ok (.laload, 1)) rfl (by omega) (by unfold vp_in; decide) (?_ : XW _ _ _ _ _ _ _ 1399 _ [.long (xL h15 99 0)])
      refine xi_lload (by decide +kernel : decode mL_law.2.1 1399 = .ok (.lload 6, 2)) rfl (?_ : XW _ _ _ _ _ _ _ 1401 _ _)
      refine xi_lcmp (by decide +kernel : decode mL_law.2.1 1401 = .ok (.lcmp, 1)) (?_ : XW _ _ _ _ _ _ _ 1402 _ _)
      refine xi_if_eq (by decide +kernel : decode mL_law.2.1 1402 = .ok (.ifCond .eq 5, 3)) (by decide) (fun c => (?_ : XW _ _ _ _ _ _ _ 1407 _ _)) (fun c => (?_ : XW _ _ _ _ _ _ _ 1405 _ _))
      · replace vc := vc.1 c
        refine xi_goto (by decide +kernel : decode mL_law.2.1 1407 = .ok (.goto 985, 3)) (by decide) (?_ : XW _ _ _ _ _ _ _ 2392 _ _)
        refine xw_drop 5 (ls' := [some (.ref 3000), some (.ref 0), some (.ref 56), some (.ref 99), some (.int x4), none, some (.long r14), none]) rfl ?_
        refine xw_drop 6 (ls' := [some (.ref 3000), some (.ref 0), some (.ref 56), some (.ref 99), some (.int x4), none, none, none]) rfl ?_
        refine xw_b (b' := B) (bs' := S) (by omega) (by omega) ?_
        exact vc
      · replace vc := vc.2 c
        refine xi_iconst (v := 0) (by decide +kernel : decode mL_law.2.1 1405 = .ok (.iconst 0, 1)) (by decide) (?_ : XW _ _ _ _ _ _ _ 1406 _ _)
        exact vc.elim
  · replace vc := vc.2 c
    refine xi_iconst (v := 0) (by decide +kernel : decode mL_law.2.1 1389 = .ok (.iconst 0, 1)) (by decide) (?_ : XW _ _ _ _ _ _ _ 1390 _ _)
    exact vc.elim

