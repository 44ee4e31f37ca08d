/-! THE LAW: its walk, part 1 -/
set_option maxRecDepth 20000 in
theorem v_L_law_216 {h : XH} {Q : Option Value → XH → Prop} {X : String → XH → Prop} (xs : Nat → Int32) (L B S : Nat)  (x4 : Int32)
    (vc : (vp_in (x4 + 1) L) ∧ ((vp_in (x4 + 2) L) ∧ ((vp_in (x4 + 3) L) ∧ ((vp_in (x4 + 4) L) ∧ ((vp_in (x4 + 5) L) ∧ (∃ Q1, XSpec mX10_feed 2 0 0 100 100 [.ref 0, .int (xs (x4 + 1).toNatClampNeg), .int (xs (x4 + 2).toNatClampNeg), .int (xs (x4 + 3).toNatClampNeg), .int (xs (x4 + 4).toNatClampNeg), .int (xs (x4 + 5).toNatClampNeg)] h Q1 xno ∧ ∀ v h1, Q1 v h1 → ∃ r1 : Int32, v = some (.int r1) ∧ ((vp_in (x4 + 1) L) ∧ ((vp_in (x4 + 2) L) ∧ ((vp_in (x4 + 3) L) ∧ ((vp_in (x4 + 4) L) ∧ ((vp_in (x4 + 5) L) ∧ (∃ Q1, XSpec mX11_feed 1 0 0 100 100 [.ref 56, .int (xs (x4 + 1).toNatClampNeg), .int (xs (x4 + 2).toNatClampNeg), .int (xs (x4 + 3).toNatClampNeg), .int (xs (x4 + 4).toNatClampNeg), .int (xs (x4 + 5).toNatClampNeg)] h1 Q1 xno ∧ ∀ v h2, Q1 v h2 → xL h2 99 0 = xL h1 99 0 → ∃ r2 : Int32, v = some (.int r2) ∧ ((r1 = r2 → XW room_1 mL_law (xEL xs L) 100 B S h2 2392 [some (.ref 3000), some (.ref 0), some (.ref 56), some (.ref 99), some (.int x4), none, none, none] []) ∧ (¬ r1 = r2 → False)))))))))))))) :
    XW room_1 mL_law (xEL xs L) 100 (B + 4) (S + 24) h 216 [some (.ref 3000), some (.ref 0), some (.ref 56), some (.ref 99), some (.int x4), none, none, none] [] := by
  refine xi_aload_n (by decide +kernel : decode mL_law.2.1 216 = .ok (.aload_n 1, 1)) rfl rfl (?_ : XW _ _ _ _ _ _ _ 217 _ _)
  refine xi_aload_n (by decide +kernel : decode mL_law.2.1 217 = .ok (.aload_n 0, 1)) rfl rfl (?_ : XW _ _ _ _ _ _ _ 218 _ _)
  refine xi_iload (by decide +kernel : decode mL_law.2.1 218 = .ok (.iload 4, 2)) rfl (?_ : XW _ _ _ _ _ _ _ 220 _ _)
  refine xi_iconst (v := 1) (by decide +kernel : decode mL_law.2.1 220 = .ok (.iconst 1, 1)) (by decide) (?_ : XW _ _ _ _ _ _ _ 221 _ _)
  refine xi_iadd (by decide +kernel : decode mL_law.2.1 221 = .ok (.iadd, 1)) (?_ : XW _ _ _ _ _ _ _ 222 _ _)
  obtain ⟨s1, vc⟩ := vc
  refine xi_sldS (by decide +kernel : decode mL_law.2.1 222 = .ok (.iaload, 1)) s1 (?_ : XW _ _ _ _ _ _ _ 223 _ _)
  refine xi_aload_n (by decide +kernel : decode mL_law.2.1 223 = .ok (.aload_n 0, 1)) rfl rfl (?_ : XW _ _ _ _ _ _ _ 224 _ _)
  refine xi_iload (by decide +kernel : decode mL_law.2.1 224 = .ok (.iload 4, 2)) rfl (?_ : XW _ _ _ _ _ _ _ 226 _ _)
  refine xi_iconst (v := 2) (by decide +kernel : decode mL_law.2.1 226 = .ok (.iconst 2, 1)) (by decide) (?_ : XW _ _ _ _ _ _ _ 227 _ _)
  refine xi_iadd (by decide +kernel : decode mL_law.2.1 227 = .ok (.iadd, 1)) (?_ : XW _ _ _ _ _ _ _ 228 _ _)
  obtain ⟨s1, vc⟩ := vc
  refine xi_sldS (by decide +kernel : decode mL_law.2.1 228 = .ok (.iaload, 1)) s1 (?_ : XW _ _ _ _ _ _ _ 229 _ _)
  refine xi_aload_n (by decide +kernel : decode mL_law.2.1 229 = .ok (.aload_n 0, 1)) rfl rfl (?_ : XW _ _ _ _ _ _ _ 230 _ _)
  refine xi_iload (by decide +kernel : decode mL_law.2.1 230 = .ok (.iload 4, 2)) rfl (?_ : XW _ _ _ _ _ _ _ 232 _ _)
  refine xi_iconst (v := 3) (by decide +kernel : decode mL_law.2.1 232 = .ok (.iconst 3, 1)) (by decide) (?_ : XW _ _ _ _ _ _ _ 233 _ _)
  refine xi_iadd (by decide +kernel : decode mL_law.2.1 233 = .ok (.iadd, 1)) (?_ : XW _ _ _ _ _ _ _ 234 _ _)
  obtain ⟨s1, vc⟩ := vc
  refine xi_sldS (by decide +kernel : decode mL_law.2.1 234 = .ok (.iaload, 1)) s1 (?_ : XW _ _ _ _ _ _ _ 235 _ _)
  refine xi_aload_n (by decide +kernel : decode mL_law.2.1 235 = .ok (.aload_n 0, 1)) rfl rfl (?_ : XW _ _ _ _ _ _ _ 236 _ _)
  refine xi_iload (by decide +kernel : decode mL_law.2.1 236 = .ok (.iload 4, 2)) rfl (?_ : XW _ _ _ _ _ _ _ 238 _ _)
  refine xi_iconst (v := 4) (by decide +kernel : decode mL_law.2.1 238 = .ok (.iconst 4, 1)) (by decide) (?_ : XW _ _ _ _ _ _ _ 239 _ _)
  refine xi_iadd (by decide +kernel : decode mL_law.2.1 239 = .ok (.iadd, 1)) (?_ : XW _ _ _ _ _ _ _ 240 _ _)
  obtain ⟨s1, vc⟩ := vc
  refine xi_sldS (by decide +kernel : decode mL_law.2.1 240 = .ok (.iaload, 1)) s1 (?_ : XW _ _ _ _ _ _ _ 241 _ _)
  refine xi_aload_n (by decide +kernel : decode mL_law.2.1 241 = .ok (.aload_n 0, 1)) rfl rfl (?_ : XW _ _ _ _ _ _ _ 242 _ _)
  refine xi_iload (by decide +kernel : decode mL_law.2.1 242 = .ok (.iload 4, 2)) rfl (?_ : XW _ _ _ _ _ _ _ 244 _ _)
  refine xi_iconst (v := 5) (by decide +kernel : decode mL_law.2.1 244 = .ok (.iconst 5, 1)) (by decide) (?_ : XW _ _ _ _ _ _ _ 245 _ _)
  refine xi_iadd (by decide +kernel : decode mL_law.2.1 245 = .ok (.iadd, 1)) (?_ : XW _ _ _ _ _ _ _ 246 _ _)
  obtain ⟨s1, vc⟩ := vc
  refine xi_sldS (by decide +kernel : decode mL_law.2.1 246 = .ok (.iaload, 1)) s1 (?_ : XW _ _ _ _ _ _ _ 247 _ _)
  obtain ⟨Q1, sp, vc⟩ := vc
  refine xi_callV (b := B + 4) (bs := S + 24) (As := [.int (xs (x4 + 1).toNatClampNeg), .int (xs (x4 + 2).toNatClampNeg), .int (xs (x4 + 3).toNatClampNeg), .int (xs (x4 + 4).toNatClampNeg), .int (xs (x4 + 5).toNatClampNeg)]) (st := []) (by decide +kernel : decode mL_law.2.1 247 = .ok (.invokevirtual 114, 3)) kL_114 rfl rfl (by omega) rfl sp (by decide) (by decide) (Nat.le_of_ble_eq_true rfl) (by omega) (fun v9 h1 hq9 => ?_)
  obtain ⟨r1, e9, vc⟩ := vc v9 h1 hq9
  subst e9
  show XW _ _ _ _ _ _ _ 250 _ [.int r1]
  refine xi_aload_n (by decide +kernel : decode mL_law.2.1 250 = .ok (.aload_n 2, 1)) rfl rfl (?_ : XW _ _ _ _ _ _ _ 251 _ _)
  refine xi_aload_n (by decide +kernel : decode mL_law.2.1 251 = .ok (.aload_n 0, 1)) rfl rfl (?_ : XW _ _ _ _ _ _ _ 252 _ _)
  refine xi_iload (by decide +kernel : decode mL_law.2.1 252 = .ok (.iload 4, 2)) rfl (?_ : XW _ _ _ _ _ _ _ 254 _ _)
  refine xi_iconst (v := 1) (by decide +kernel : decode mL_law.2.1 254 = .ok (.iconst 1, 1)) (by decide) (?_ : XW _ _ _ _ _ _ _ 255 _ _)
  refine xi_iadd (by decide +kernel : decode mL_law.2.1 255 = .ok (.iadd, 1)) (?_ : XW _ _ _ _ _ _ _ 256 _ _)
  obtain ⟨s1, vc⟩ := vc
  refine xi_sldS (by decide +kernel : decode mL_law.2.1 256 = .ok (.iaload, 1)) s1 (?_ : XW _ _ _ _ _ _ _ 257 _ _)
  refine xi_aload_n (by decide +kernel : decode mL_law.2.1 257 = .ok (.aload_n 0, 1)) rfl rfl (?_ : XW _ _ _ _ _ _ _ 258 _ _)
  refine xi_iload (by decide +kernel : decode mL_law.2.1 258 = .ok (.iload 4, 2)) rfl (?_ : XW _ _ _ _ _ _ _ 260 _ _)
  refine xi_iconst (v := 2) (by decide +kernel : decode mL_law.2.1 260 = .ok (.iconst 2, 1)) (by decide) (?_ : XW _ _ _ _ _ _ _ 261 _ _)
  refine xi_iadd (by decide +kernel : decode mL_law.2.1 261 = .ok (.iadd, 1)) (?_ : XW _ _ _ _ _ _ _ 262 _ _)
  obtain ⟨s1, vc⟩ := vc
  refine xi_sldS (by decide +kernel : decode mL_law.2.1 262 = .ok (.iaload, 1)) s1 (?_ : XW _ _ _ _ _ _ _ 263 _ _)
  refine xi_aload_n (by decide +kernel : decode mL_law.2.1 263 = .ok (.aload_n 0, 1)) rfl rfl (?_ : XW _ _ _ _ _ _ _ 264 _ _)
  refine xi_iload (by decide +kernel : decode mL_law.2.1 264 = .ok (.iload 4, 2)) rfl (?_ : XW _ _ _ _ _ _ _ 266 _ _)
  refine xi_iconst (v := 3) (by decide +kernel : decode mL_law.2.1 266 = .ok (.iconst 3, 1)) (by decide) (?_ : XW _ _ _ _ _ _ _ 267 _ _)
  refine xi_iadd (by decide +kernel : decode mL_law.2.1 267 = .ok (.iadd, 1)) (?_ : XW _ _ _ _ _ _ _ 268 _ _)
  obtain ⟨s1, vc⟩ := vc
  refine xi_sldS (by decide +kernel : decode mL_law.2.1 268 = .ok (.iaload, 1)) s1 (?_ : XW _ _ _ _ _ _ _ 269 _ _)
  refine xi_aload_n (by decide +kernel : decode mL_law.2.1 269 = .ok (.aload_n 0, 1)) rfl rfl (?_ : XW _ _ _ _ _ _ _ 270 _ _)
  refine xi_iload (by decide +kernel : decode mL_law.2.1 270 = .ok (.iload 4, 2)) rfl (?_ : XW _ _ _ _ _ _ _ 272 _ _)
  refine xi_iconst (v := 4) (by decide +kernel : decode mL_law.2.1 272 = .ok (.iconst 4, 1)) (by decide) (?_ : XW _ _ _ _ _ _ _ 273 _ _)
  refine xi_iadd (by decide +kernel : decode mL_law.2.1 273 = .ok (.iadd, 1)) (?_ : XW _ _ _ _ _ _ _ 274 _ _)
  obtain ⟨s1, vc⟩ := vc
  refine xi_sldS (by decide +kernel : decode mL_law.2.1 274 = .ok (.iaload, 1)) s1 (?_ : XW _ _ _ _ _ _ _ 275 _ _)
  refine xi_aload_n (by decide +kernel : decode mL_law.2.1 275 = .ok (.aload_n 0, 1)) rfl rfl (?_ : XW _ _ _ _ _ _ _ 276 _ _)
  refine xi_iload (by decide +kernel : decode mL_law.2.1 276 = .ok (.iload 4, 2)) rfl (?_ : XW _ _ _ _ _ _ _ 278 _ _)
  refine xi_iconst (v := 5) (by decide +kernel : decode mL_law.2.1 278 = .ok (.iconst 5, 1)) (by decide) (?_ : XW _ _ _ _ _ _ _ 279 _ _)
  refine xi_iadd (by decide +kernel : decode mL_law.2.1 279 = .ok (.iadd, 1)) (?_ : XW _ _ _ _ _ _ _ 280 _ _)
  obtain ⟨s1, vc⟩ := vc
  refine xi_sldS (by decide +kernel : decode mL_law.2.1 280 = .ok (.iaload, 1)) s1 (?_ : XW _ _ _ _ _ _ _ 281 _ _)
  obtain ⟨Q1, sp, vc⟩ := vc
  refine xi_callVg (b := B + 4) (bs := S + 24) (As := [.int (xs (x4 + 1).toNatClampNeg), .int (xs (x4 + 2).toNatClampNeg), .int (xs (x4 + 3).toNatClampNeg), .int (xs (x4 + 4).toNatClampNeg), .int (xs (x4 + 5).toNatClampNeg)]) (st := [.int r1]) (by decide +kernel : decode mL_law.2.1 281 = .ok (.invokevirtual 118, 3)) kL_118 rfl rfl (by omega) rfl sp (by decide) (by decide) (Nat.le_of_ble_eq_true rfl) (by omega) (fun v9 h2 hq9 hx9 => ?_)
  obtain ⟨r2, e9, vc⟩ := vc v9 h2 hq9 hx9
  subst e9
  show XW _ _ _ _ _ _ _ 284 _ [.int r2, .int r1]
  refine xi_icmp_eq (by decide +kernel : decode mL_law.2.1 284 = .ok (.if_icmp .eq 2108, 3)) (by decide) (fun c => (?_ : XW _ _ _ _ _ _ _ 2392 _ _)) (fun c => (?_ : XW _ _ _ _ _ _ _ 287 _ _))
  · replace vc := vc.1 c
    refine xw_b (b' := B) (bs' := S) (by omega) (by omega) ?_
    exact vc
  · replace vc := vc.2 c
    refine xi_iconst (v := 0) (by decide +kernel : decode mL_law.2.1 287 = .ok (.iconst 0, 1)) (by decide) (?_ : XW _ _ _ _ _ _ _ 288 _ _)
    exact vc.elim

set_option maxRecDepth 20000 in
theorem v_L_law_289 {h : XH} {Q : Option Value → XH → Prop} {X : String → XH → Prop} (xs : Nat → Int32) (L B S : Nat)  (x4 : Int32)
    (vc : (vp_in (x4 + 1) L) ∧ (∃ Q1, XSpecH mL_board 84 1 6 100 100 [.ref 0, .int (xs (x4 + 1).toNatClampNeg), .ref 99] h Q1 ∧ ∀ v h3, Q1 v h3 → ∃ r3 : Int32, v = some (.int r3) ∧ ((vp_in (x4 + 1) L) ∧ (∃ Q1, XSpec mX11_board 63 0 0 100 100 [.ref 56, .int (xs (x4 + 1).toNatClampNeg)] h3 Q1 xno ∧ ∀ v h4, Q1 v h4 → xL h4 99 0 = xL h3 99 0 → ∃ r4 : Int32, v = some (.int r4) ∧ (∃ Q1, XSpec mX11_thrown 1 0 0 100 100 [.ref 56] h4 Q1 xno ∧ ∀ v h5, Q1 v h5 → xL h5 99 0 = xL h4 99 0 → ∃ r5 : Int32, v = some (.int r5) ∧ ((r5 = r3 → (¬ r3 = 0 → XW room_1 mL_law (xEL xs L) 100 B S h5 2392 [some (.ref 3000), some (.ref 0), some (.ref 56), some (.ref 99), some (.int x4), none, none, none] []) ∧ (r3 = 0 → ((lg_cmp (xL h5 99 0) (Int32.toInt64 r4)) = 0 → XW room_1 mL_law (xEL xs L) 100 B S h5 2392 [some (.ref 3000), some (.ref 0), some (.ref 56), some (.ref 99), some (.int x4), none, none, none] []) ∧ (¬ (lg_cmp (xL h5 99 0) (Int32.toInt64 r4)) = 0 → False))) ∧ (¬ r5 = r3 → False))))))) :
    XW room_1 mL_law (xEL xs L) 100 (B + 4) (S + 24) h 289 [some (.ref 3000), some (.ref 0), some (.ref 56), some (.ref 99), some (.int x4), none, none, none] [] := by
  refine xi_aload_n (by decide +kernel : decode mL_law.2.1 289 = .ok (.aload_n 1, 1)) rfl rfl (?_ : XW _ _ _ _ _ _ _ 290 _ _)
  refine xi_aload_n (by decide +kernel : decode mL_law.2.1 290 = .ok (.aload_n 0, 1)) rfl rfl (?_ : XW _ _ _ _ _ _ _ 291 _ _)
  refine xi_iload (by decide +kernel : decode mL_law.2.1 291 = .ok (.iload 4, 2)) rfl (?_ : XW _ _ _ _ _ _ _ 293 _ _)
  refine xi_iconst (v := 1) (by decide +kernel : decode mL_law.2.1 293 = .ok (.iconst 1, 1)) (by decide) (?_ : XW _ _ _ _ _ _ _ 294 _ _)
  refine xi_iadd (by decide +kernel : decode mL_law.2.1 294 = .ok (.iadd, 1)) (?_ : XW _ _ _ _ _ _ _ 295 _ _)
  obtain ⟨s1, vc⟩ := vc
  refine xi_sldS (by decide +kernel : decode mL_law.2.1 295 = .ok (.iaload, 1)) s1 (?_ : XW _ _ _ _ _ _ _ 296 _ _)
  refine xi_aload_n (by decide +kernel : decode mL_law.2.1 296 = .ok (.aload_n 3, 1)) rfl rfl (?_ : XW _ _ _ _ _ _ _ 297 _ _)
  obtain ⟨Q1, sp, vc⟩ := vc
  refine xi_callSH (b := B + 3) (bs := S + 18) (As := [.ref 0, .int (xs (x4 + 1).toNatClampNeg), .ref 99]) (st := []) (by decide +kernel : decode mL_law.2.1 297 = .ok (.invokestatic 119, 3)) kL_119 rfl rfl sp (by decide) (by decide) (Nat.le_of_ble_eq_true rfl) (by omega) (fun v9 h3 hq9 => ?_)
  obtain ⟨r3, e9, vc⟩ := vc v9 h3 hq9
  subst e9
  show XW _ _ _ _ _ _ _ 300 _ [.int r3]
  refine xi_istore (ls' := [some (.ref 3000), some (.ref 0), some (.ref 56), some (.ref 99), some (.int x4), some (.int r3), none, none]) (by decide +kernel : decode mL_law.2.1 300 = .ok (.istore 5, 2)) (by decide) rfl (?_ : XW _ _ _ _ _ _ _ 302 _ _)
  refine xi_aload_n (by decide +kernel : decode mL_law.2.1 302 = .ok (.aload_n 2, 1)) rfl rfl (?_ : XW _ _ _ _ _ _ _ 303 _ _)
  refine xi_aload_n (by decide +kernel : decode mL_law.2.1 303 = .ok (.aload_n 0, 1)) rfl rfl (?_ : XW _ _ _ _ _ _ _ 304 _ _)
  refine xi_iload (by decide +kernel : decode mL_law.2.1 304 = .ok (.iload 4, 2)) rfl (?_ : XW _ _ _ _ _ _ _ 306 _ _)
  refine xi_iconst (v := 1) (by decide +kernel : decode mL_law.2.1 306 = .ok (.iconst 1, 1)) (by decide) (?_ : XW _ _ _ _ _ _ _ 307 _ _)
  refine xi_iadd (by decide +kernel : decode mL_law.2.1 307 = .ok (.iadd, 1)) (?_ : XW _ _ _ _ _ _ _ 308 _ _)
  obtain ⟨s1, vc⟩ := vc
  refine xi_sldS (by decide +kernel : decode mL_law.2.1 308 = .ok (.iaload, 1)) s1 (?_ : XW _ _ _ _ _ _ _ 309 _ _)
  obtain ⟨Q1, sp, vc⟩ := vc
  refine xi_callVg (b := B + 3) (bs := S + 18) (As := [.int (xs (x4 + 1).toNatClampNeg)]) (st := []) (by decide +kernel : decode mL_law.2.1 309 = .ok (.invokevirtual 124, 3)) kL_124 rfl rfl (by omega) rfl sp (by decide) (by decide) (Nat.le_of_ble_eq_true rfl) (by omega) (fun v9 h4 hq9 hx9 => ?_)
  obtain ⟨r4, e9, vc⟩ := vc v9 h4 hq9 hx9
  subst e9
  show XW _ _ _ _ _ _ _ 312 _ [.int r4]
  refine xi_istore (ls' := [some (.ref 3000), some (.ref 0), some (.ref 56), some (.ref 99), some (.int x4), some (.int r3), some (.int r4), none]) (by decide +kernel : decode mL_law.2.1 312 = .ok (.istore 6, 2)) (by decide) rfl (?_ : XW _ _ _ _ _ _ _ 314 _ _)
  refine xi_aload_n (by decide +kernel : decode mL_law.2.1 314 = .ok (.aload_n 2, 1)) rfl rfl (?_ : XW _ _ _ _ _ _ _ 315 _ _)
  obtain ⟨Q1, sp, vc⟩ := vc
  refine xi_callVg (b := B + 3) (bs := S + 18) (As := []) (st := []) (by decide +kernel : decode mL_law.2.1 315 = .ok (.invokevirtual 125, 3)) kL_125 rfl rfl (by omega) rfl sp (by decide) (by decide) (Nat.le_of_ble_eq_true rfl) (by omega) (fun v9 h5 hq9 hx9 => ?_)
  obtain ⟨r5, e9, vc⟩ := vc v9 h5 hq9 hx9
  subst e9
  show XW _ _ _ _ _ _ _ 318 _ [.int r5]
  refine xi_iload (by decide +kernel : decode mL_law.2.1 318 = .ok (.iload 5, 2)) rfl (?_ : XW _ _ _ _ _ _ _ 320 _ _)
  refine xi_icmp_eq (by decide +kernel : decode mL_law.2.1 320 = .ok (.if_icmp .eq 5, 3)) (by decide) (fun c => (?_ : XW _ _ _ _ _ _ _ 325 _ _)) (fun c => (?_ : XW _ _ _ _ _ _ _ 323 _ _))
  · replace vc := vc.1 c
    refine xi_iload (by decide +kernel : decode mL_law.2.1 325 = .ok (.iload 5, 2)) rfl (?_ : XW _ _ _ _ _ _ _ 327 _ _)
    refine xi_if_ne (by decide +kernel : decode mL_law.2.1 327 = .ok (.ifCond .ne 15, 3)) (by decide) (fun c => (?_ : XW _ _ _ _ _ _ _ 342 _ _)) (fun c => (?_ : XW _ _ _ _ _ _ _ 330 _ _))
    · replace vc := vc.1 c
      refine xi_goto (by decide +kernel : decode mL_law.2.1 342 = .ok (.goto 2050, 3)) (by decide) (?_ : XW _ _ _ _ _ _ _ 2392 _ _)
      refine xw_drop 5 (ls' := [some (.ref 3000), some (.ref 0), some (.ref 56), some (.ref 99), some (.int x4), none, some (.int r4), none]) rfl ?_
      refine xw_drop 6 (ls' := [some (.ref 3000), some (.ref 0), some (.ref 56), some (.ref 99), some (.int x4), none, none, none]) rfl ?_
      refine xw_b (b' := B) (bs' := S) (by omega) (by omega) ?_
      exact vc
    · replace vc := vc.2 c
      refine xi_aload_n (by decide +kernel : decode mL_law.2.1 330 = .ok (.aload_n 3, 1)) rfl rfl (?_ : XW _ _ _ _ _ _ _ 331 _ _)
      refine xi_iconst (v := 0) (by decide +kernel : decode mL_law.2.1 331 = .ok (.iconst 0, 1)) (by decide) (?_ : XW _ _ _ _ _ _ _ 332 _ _)
      refine xi_lald (by decide +kernel : decode mL_law.2.1 332 = .ok (.laload, 1)) rfl (by omega) (by unfold vp_in; decide) (?_ : XW _ _ _ _ _ _ _ 333 _ [.long (xL h5 99 0)])
      refine xi_iload (by decide +kernel : decode mL_law.2.1 333 = .ok (.iload 6, 2)) rfl (?_ : XW _ _ _ _ _ _ _ 335 _ _)
      refine xi_i2l (by decide +kernel : decode mL_law.2.1 335 = .ok (.i2l, 1)) (?_ : XW _ _ _ _ _ _ _ 336 _ _)
      refine xi_lcmp (by decide +kernel : decode mL_law.2.1 336 = .ok (.lcmp, 1)) (?_ : XW _ _ _ _ _ _ _ 337 _ _)
      refine xi_if_eq (by decide +kernel : decode mL_law.2.1 337 = .ok (.ifCond .eq 5, 3)) (by decide) (fun c => (?_ : XW _ _ _ _ _ _ _ 342 _ _)) (fun c => (?_ : XW _ _ _ _ _ _ _ 340 _ _))
      · replace vc := vc.1 c
        refine xi_goto (by decide +kernel : decode mL_law.2.1 342 = .ok (.goto 2050, 3)) (by decide) (?_ : XW _ _ _ _ _ _ _ 2392 _ _)
        refine xw_drop 5 (ls' := [some (.ref 3000), some (.ref 0), some (.ref 56), some (.ref 99), some (.int x4), none, some (.int r4), none]) rfl ?_
        refine xw_drop 6 (ls' := [some (.ref 3000), some (.ref 0), some (.ref 56), some (.ref 99), some (.int x4), none, none, none]) rfl ?_
        refine xw_b (b' := B) (bs' := S) (by omega) (by omega) ?_
        exact vc
      · replace vc := vc.2 c
        refine xi_iconst (v := 0) (by decide +kernel : decode mL_law.2.1 340 = .ok (.iconst 0, 1)) (by decide) (?_ : XW _ _ _ _ _ _ _ 341 _ _)
        exact vc.elim
  · replace vc := vc.2 c
    refine xi_iconst (v := 0) (by decide +kernel : decode mL_law.2.1 323 = .ok (.iconst 0, 1)) (by decide) (?_ : XW _ _ _ _ _ _ _ 324 _ _)
    exact vc.elim

set_option maxRecDepth 20000 in
theorem v_L_law_345 {h : XH} {Q : Option Value → XH → Prop} {X : String → XH → Prop} (xs : Nat → Int32) (L B S : Nat)  (x4 : Int32)
    (vc : ∃ Q1, XSpec mX10_fault 1 0 0 100 100 [.ref 0] h Q1 xno ∧ ∀ v h6, Q1 v h6 → ∃ r6 : Int32, v = some (.int r6) ∧ (∃ Q1, XSpec mX11_fault 1 0 0 100 100 [.ref 56] h6 Q1 xno ∧ ∀ v h7, Q1 v h7 → xL h7 99 0 = xL h6 99 0 → ∃ r7 : Int32, v = some (.int r7) ∧ ((r6 = r7 → XW room_1 mL_law (xEL xs L) 100 B S h7 2392 [some (.ref 3000), some (.ref 0), some (.ref 56), some (.ref 99), some (.int x4), none, none, none] []) ∧ (¬ r6 = r7 → False)))) :
    XW room_1 mL_law (xEL xs L) 100 (B + 4) (S + 24) h 345 [some (.ref 3000), some (.ref 0), some (.ref 56), some (.ref 99), some (.int x4), none, none, none] [] := by
  refine xi_aload_n (by decide +kernel : decode mL_law.2.1 345 = .ok (.aload_n 1, 1)) rfl rfl (?_ : XW _ _ _ _ _ _ _ 346 _ _)
  obtain ⟨Q1, sp, vc⟩ := vc
  refine xi_callV (b := B + 4) (bs := S + 24) (As := []) (st := []) (by decide +kernel : decode mL_law.2.1 346 = .ok (.invokevirtual 129, 3)) kL_129 rfl rfl (by omega) rfl sp (by decide) (by decide) (Nat.le_of_ble_eq_true rfl) (by omega) (fun v9 h6 hq9 => ?_)
  obtain ⟨r6, e9, vc⟩ := vc v9 h6 hq9
  subst e9
  show XW _ _ _ _ _ _ _ 349 _ [.int r6]
  refine xi_aload_n (by decide +kernel : decode mL_law.2.1 349 = .ok (.aload_n 2, 1)) rfl rfl (?_ : XW _ _ _ _ _ _ _ 350 _ _)
  obtain ⟨Q1, sp, vc⟩ := vc
  refine xi_callVg (b := B + 4) (bs := S + 24) (As := []) (st := [.int r6]) (by decide +kernel : decode mL_law.2.1 350 = .ok (.invokevirtual 132, 3)) kL_132 rfl rfl (by omega) rfl sp (by decide) (by decide) (Nat.le_of_ble_eq_true rfl) (by omega) (fun v9 h7 hq9 hx9 => ?_)
  obtain ⟨r7, e9, vc⟩ := vc v9 h7 hq9 hx9
  subst e9
  show XW _ _ _ _ _ _ _ 353 _ [.int r7, .int r6]
  refine xi_icmp_eq (by decide +kernel : decode mL_law.2.1 353 = .ok (.if_icmp .eq 2039, 3)) (by decide) (fun c => (?_ : XW _ _ _ _ _ _ _ 2392 _ _)) (fun c => (?_ : XW _ _ _ _ _ _ _ 356 _ _))
  · replace vc := vc.1 c
    refine xw_b (b' := B) (bs' := S) (by omega) (by omega) ?_
    exact vc
  · replace vc := vc.2 c
    refine xi_iconst (v := 0) (by decide +kernel : decode mL_law.2.1 356 = .ok (.iconst 0, 1)) (by decide) (?_ : XW _ _ _ _ _ _ _ 357 _ _)
    exact vc.elim

set_option maxRecDepth 20000 in
theorem v_L_law_358 {h : XH} {Q : Option Value → XH → Prop} {X : String → XH → Prop} (xs : Nat → Int32) (L B S : Nat)  (x4 : Int32)
    (vc : (vp_in (x4 + 1) L) ∧ (∃ Q1, XSpecH mL_count 8 1 6 100 100 [.ref 0, .int (xs (x4 + 1).toNatClampNeg), .ref 99] h Q1 ∧ ∀ v h8, Q1 v h8 → ∃ r8 : Int32, v = some (.int r8) ∧ ((vp_in (x4 + 1) L) ∧ (∃ Q1, XSpec mX11_count 2 0 0 100 100 [.ref 56, .int (xs (x4 + 1).toNatClampNeg)] h8 Q1 xno ∧ ∀ v h9, Q1 v h9 → xL h9 99 0 = xL h8 99 0 → ∃ r9 : Int32, v = some (.int r9) ∧ (∃ Q1, XSpec mX11_thrown 1 0 0 100 100 [.ref 56] h9 Q1 xno ∧ ∀ v h10, Q1 v h10 → xL h10 99 0 = xL h9 99 0 → ∃ r10 : Int32, v = some (.int r10) ∧ ((r10 = r8 → (¬ r8 = 0 → XW room_1 mL_law (xEL xs L) 100 B S h10 2392 [some (.ref 3000), some (.ref 0), some (.ref 56), some (.ref 99), some (.int x4), none, none, none] []) ∧ (r8 = 0 → ((lg_cmp (xL h10 99 0) (Int32.toInt64 r9)) = 0 → XW room_1 mL_law (xEL xs L) 100 B S h10 2392 [some (.ref 3000), some (.ref 0), some (.ref 56), some (.ref 99), some (.int x4), none, none, none] []) ∧ (¬ (lg_cmp (xL h10 99 0) (Int32.toInt64 r9)) = 0 → False))) ∧ (¬ r10 = r8 → False))))))) :
    XW room_1 mL_law (xEL xs L) 100 (B + 4) (S + 24) h 358 [some (.ref 3000), some (.ref 0), some (.ref 56), some (.ref 99), some (.int x4), none, none, none] [] := by
  refine xi_aload_n (by decide +kernel : decode mL_law.2.1 358 = .ok (.aload_n 1, 1)) rfl rfl (?_ : XW _ _ _ _ _ _ _ 359 _ _)
  refine xi_aload_n (by decide +kernel : decode mL_law.2.1 359 = .ok (.aload_n 0, 1)) rfl rfl (?_ : XW _ _ _ _ _ _ _ 360 _ _)
  refine xi_iload (by decide +kernel : decode mL_law.2.1 360 = .ok (.iload 4, 2)) rfl (?_ : XW _ _ _ _ _ _ _ 362 _ _)
  refine xi_iconst (v := 1) (by decide +kernel : decode mL_law.2.1 362 = .ok (.iconst 1, 1)) (by decide) (?_ : XW _ _ _ _ _ _ _ 363 _ _)
  refine xi_iadd (by decide +kernel : decode mL_law.2.1 363 = .ok (.iadd, 1)) (?_ : XW _ _ _ _ _ _ _ 364 _ _)
  obtain ⟨s1, vc⟩ := vc
  refine xi_sldS (by decide +kernel : decode mL_law.2.1 364 = .ok (.iaload, 1)) s1 (?_ : XW _ _ _ _ _ _ _ 365 _ _)
  refine xi_aload_n (by decide +kernel : decode mL_law.2.1 365 = .ok (.aload_n 3, 1)) rfl rfl (?_ : XW _ _ _ _ _ _ _ 366 _ _)
  obtain ⟨Q1, sp, vc⟩ := vc
  refine xi_callSH (b := B + 3) (bs := S + 18) (As := [.ref 0, .int (xs (x4 + 1).toNatClampNeg), .ref 99]) (st := []) (by decide +kernel : decode mL_law.2.1 366 = .ok (.invokestatic 133, 3)) kL_133 rfl rfl sp (by decide) (by decide) (Nat.le_of_ble_eq_true rfl) (by omega) (fun v9 h8 hq9 => ?_)
  obtain ⟨r8, e9, vc⟩ := vc v9 h8 hq9
  subst e9
  show XW _ _ _ _ _ _ _ 369 _ [.int r8]
  refine xi_istore (ls' := [some (.ref 3000), some (.ref 0), some (.ref 56), some (.ref 99), some (.int x4), some (.int r8), none, none]) (by decide +kernel : decode mL_law.2.1 369 = .ok (.istore 5, 2)) (by decide) rfl (?_ : XW _ _ _ _ _ _ _ 371 _ _)
  refine xi_aload_n (by decide +kernel : decode mL_law.2.1 371 = .ok (.aload_n 2, 1)) rfl rfl (?_ : XW _ _ _ _ _ _ _ 372 _ _)
  refine xi_aload_n (by decide +kernel : decode mL_law.2.1 372 = .ok (.aload_n 0, 1)) rfl rfl (?_ : XW _ _ _ _ _ _ _ 373 _ _)
  refine xi_iload (by decide +kernel : decode mL_law.2.1 373 = .ok (.iload 4, 2)) rfl (?_ : XW _ _ _ _ _ _ _ 375 _ _)
  refine xi_iconst (v := 1) (by decide +kernel : decode mL_law.2.1 375 = .ok (.iconst 1, 1)) (by decide) (?_ : XW _ _ _ _ _ _ _ 376 _ _)
  refine xi_iadd (by decide +kernel : decode mL_law.2.1 376 = .ok (.iadd, 1)) (?_ : XW _ _ _ _ _ _ _ 377 _ _)
  obtain ⟨s1, vc⟩ := vc
  refine xi_sldS (by decide +kernel : decode mL_law.2.1 377 = .ok (.iaload, 1)) s1 (?_ : XW _ _ _ _ _ _ _ 378 _ _)
  obtain ⟨Q1, sp, vc⟩ := vc
  refine xi_callVg (b := B + 3) (bs := S + 18) (As := [.int (xs (x4 + 1).toNatClampNeg)]) (st := []) (by decide +kernel : decode mL_law.2.1 378 = .ok (.invokevirtual 135, 3)) kL_135 rfl rfl (by omega) rfl sp (by decide) (by decide) (Nat.le_of_ble_eq_true rfl) (by omega) (fun v9 h9 hq9 hx9 => ?_)
  obtain ⟨r9, e9, vc⟩ := vc v9 h9 hq9 hx9
  subst e9
  show XW _ _ _ _ _ _ _ 381 _ [.int r9]
  refine xi_istore (ls' := [some (.ref 3000), some (.ref 0), some (.ref 56), some (.ref 99), some (.int x4), some (.int r8), some (.int r9), none]) (by decide +kernel : decode mL_law.2.1 381 = .ok (.istore 6, 2)) (by decide) rfl (?_ : XW _ _ _ _ _ _ _ 383 _ _)
  refine xi_aload_n (by decide +kernel : decode mL_law.2.1 383 = .ok (.aload_n 2, 1)) rfl rfl (?_ : XW _ _ _ _ _ _ _ 384 _ _)
  obtain ⟨Q1, sp, vc⟩ := vc
  refine xi_callVg (b := B + 3) (bs := S + 18) (As := []) (st := []) (by decide +kernel : decode mL_law.2.1 384 = .ok (.invokevirtual 125, 3)) kL_125 rfl rfl (by omega) rfl sp (by decide) (by decide) (Nat.le_of_ble_eq_true rfl) (by omega) (fun v9 h10 hq9 hx9 => ?_)
  obtain ⟨r10, e9, vc⟩ := vc v9 h10 hq9 hx9
  subst e9
  show XW _ _ _ _ _ _ _ 387 _ [.int r10]
  refine xi_iload (by decide +kernel : decode mL_law.2.1 387 = .ok (.iload 5, 2)) rfl (?_ : XW _ _ _ _ _ _ _ 389 _ _)
  refine xi_icmp_eq (by decide +kernel : decode mL_law.2.1 389 = .ok (.if_icmp .eq 5, 3)) (by decide) (fun c => (?_ : XW _ _ _ _ _ _ _ 394 _ _)) (fun c => (?_ : XW _ _ _ _ _ _ _ 392 _ _))
  · replace vc := vc.1 c
    refine xi_iload (by decide +kernel : decode mL_law.2.1 394 = .ok (.iload 5, 2)) rfl (?_ : XW _ _ _ _ _ _ _ 396 _ _)
    refine xi_if_ne (by decide +kernel : decode mL_law.2.1 396 = .ok (.ifCond .ne 15, 3)) (by decide) (fun c => (?_ : XW _ _ _ _ _ _ _ 411 _ _)) (fun c => (?_ : XW _ _ _ _ _ _ _ 399 _ _))
    · replace vc := vc.1 c
      refine xi_goto (by decide +kernel : decode mL_law.2.1 411 = .ok (.goto 1981, 3)) (by decide) (?_ : XW _ _ _ _ _ _ _ 2392 _ _)
      refine xw_drop 5 (ls' := [some (.ref 3000), some (.ref 0), some (.ref 56), some (.ref 99), some (.int x4), none, some (.int r9), none]) rfl ?_
      refine xw_drop 6 (ls' := [some (.ref 3000), some (.ref 0), some (.ref 56), some (.ref 99), some (.int x4), none, none, none]) rfl ?_
      refine xw_b (b' := B) (bs' := S) (by omega) (by omega) ?_
      exact vc
    · replace vc := vc.2 c
      refine xi_aload_n (by decide +kernel : decode mL_law.2.1 399 = .ok (.aload_n 3, 1)) rfl rfl (?_ : XW _ _ _ _ _ _ _ 400 _ _)
      refine xi_iconst (v := 0) (by decide +kernel : decode mL_law.2.1 400 = .ok (.iconst 0, 1)) (by decide) (?_ : XW _ _ _ _ _ _ _ 401 _ _)
      refine xi_lald (by decide +kernel : decode mL_law.2.1 401 = .ok (.laload, 1)) rfl (by omega) (by unfold vp_in; decide) (?_ : XW _ _ _ _ _ _ _ 402 _ [.long (xL h10 99 0)])
      refine xi_iload (by decide +kernel : decode mL_law.2.1 402 = .ok (.iload 6, 2)) rfl (?_ : XW _ _ _ _ _ _ _ 404 _ _)
      refine xi_i2l (by decide +kernel : decode mL_law.2.1 404 = .ok (.i2l, 1)) (?_ : XW _ _ _ _ _ _ _ 405 _ _)
      refine xi_lcmp (by decide +kernel : decode mL_law.2.1 405 = .ok (.lcmp, 1)) (?_ : XW _ _ _ _ _ _ _ 406 _ _)
      refine xi_if_eq (by decide +kernel : decode mL_law.2.1 406 = .ok (.ifCond .eq 5, 3)) (by decide) (fun c => (?_ : XW _ _ _ _ _ _ _ 411 _ _)) (fun c => (?_ : XW _ _ _ _ _ _ _ 409 _ _))
      · replace vc := vc.1 c
        refine xi_goto (by decide +kernel : decode mL_law.2.1 411 = .ok (.goto 1981, 3)) (by decide) (?_ : XW _ _ _ _ _ _ _ 2392 _ _)
        refine xw_drop 5 (ls' := [some (.ref 3000), some (.ref 0), some (.ref 56), some (.ref 99), some (.int x4), none, some (.int r9), none]) rfl ?_
        refine xw_drop 6 (ls' := [some (.ref 3000), some (.ref 0), some (.ref 56), some (.ref 99), some (.int x4), none, none, none]) rfl ?_
        refine xw_b (b' := B) (bs' := S) (by omega) (by omega) ?_
        exact vc
      · replace vc := vc.2 c
        refine xi_iconst (v := 0) (by decide +kernel : decode mL_law.2.1 409 = .ok (.iconst 0, 1)) (by decide) (?_ : XW _ _ _ _ _ _ _ 410 _ _)
        exact vc.elim
  · replace vc := vc.2 c
    refine xi_iconst (v := 0) (by decide +kernel : decode mL_law.2.1 392 = .ok (.iconst 0, 1)) (by decide) (?_ : XW _ _ _ _ _ _ _ 393 _ _)
    exact vc.elim

set_option maxRecDepth 20000 in
theorem v_L_law_414 {h : XH} {Q : Option Value → XH → Prop} {X : String → XH → Prop} (xs : Nat → Int32) (L B S : Nat)  (x4 : Int32)
    (vc : (vp_in (x4 + 1) L) ∧ ((vp_in (x4 + 2) L) ∧ (∃ Q1, XSpecH mL_exit 9 2 12 100 100 [.ref 0, .int (xs (x4 + 1).toNatClampNeg), .int (xs (x4 + 2).toNatClampNeg), .ref 99] h Q1 ∧ ∀ v h11, Q1 v h11 → ∃ r11 : Int32, v = some (.int r11) ∧ ((vp_in (x4 + 1) L) ∧ ((vp_in (x4 + 2) L) ∧ (∃ Q1, XSpec mX11_exit 2 0 0 100 100 [.ref 56, .int (xs (x4 + 1).toNatClampNeg), .int (xs (x4 + 2).toNatClampNeg)] h11 Q1 xno ∧ ∀ v h12, Q1 v h12 → xL h12 99 0 = xL h11 99 0 → ∃ r12 : Int32, v = some (.int r12) ∧ (∃ Q1, XSpec mX11_thrown 1 0 0 100 100 [.ref 56] h12 Q1 xno ∧ ∀ v h13, Q1 v h13 → xL h13 99 0 = xL h12 99 0 → ∃ r13 : Int32, v = some (.int r13) ∧ ((r13 = r11 → (¬ r11 = 0 → XW room_1 mL_law (xEL xs L) 100 B S h13 2392 [some (.ref 3000), some (.ref 0), some (.ref 56), some (.ref 99), some (.int x4), none, none, none] []) ∧ (r11 = 0 → ((lg_cmp (xL h13 99 0) (Int32.toInt64 r12)) = 0 → XW room_1 mL_law (xEL xs L) 100 B S h13 2392 [some (.ref 3000), some (.ref 0), some (.ref 56), some (.ref 99), some (.int x4), none, none, none] []) ∧ (¬ (lg_cmp (xL h13 99 0) (Int32.toInt64 r12)) = 0 → False))) ∧ (¬ r13 = r11 → False))))))))) :
    XW room_1 mL_law (xEL xs L) 100 (B + 4) (S + 24) h 414 [some (.ref 3000), some (.ref 0), some (.ref 56), some (.ref 99), some (.int x4), none, none, none] [] := by
  refine xi_aload_n (by decide +kernel : decode mL_law.2.1 414 = .ok (.aload_n 1, 1)) rfl rfl (?_ : XW _ _ _ _ _ _ _ 415 _ _)
  refine xi_aload_n (by decide +kernel : decode mL_law.2.1 415 = .ok (.aload_n 0, 1)) rfl rfl (?_ : XW _ _ _ _ _ _ _ 416 _ _)
  refine xi_iload (by decide +kernel : decode mL_law.2.1 416 = .ok (.iload 4, 2)) rfl (?_ : XW _ _ _ _ _ _ _ 418 _ _)
  refine xi_iconst (v := 1) (by decide +kernel : decode mL_law.2.1 418 = .ok (.iconst 1, 1)) (by decide) (?_ : XW _ _ _ _ _ _ _ 419 _ _)
  refine xi_iadd (by decide +kernel : decode mL_law.2.1 419 = .ok (.iadd, 1)) (?_ : XW _ _ _ _ _ _ _ 420 _ _)
  obtain ⟨s1, vc⟩ := vc
  refine xi_sldS (by decide +kernel : decode mL_law.2.1 420 = .ok (.iaload, 1)) s1 (?_ : XW _ _ _ _ _ _ _ 421 _ _)
  refine xi_aload_n (by decide +kernel : decode mL_law.2.1 421 = .ok (.aload_n 0, 1)) rfl rfl (?_ : XW _ _ _ _ _ _ _ 422 _ _)
  refine xi_iload (by decide +kernel : decode mL_law.2.1 422 = .ok (.iload 4, 2)) rfl (?_ : XW _ _ _ _ _ _ _ 424 _ _)
  refine xi_iconst (v := 2) (by decide +kernel : decode mL_law.2.1 424 = .ok (.iconst 2, 1)) (by decide) (?_ : XW _ _ _ _ _ _ _ 425 _ _)
  refine xi_iadd (by decide +kernel : decode mL_law.2.1 425 = .ok (.iadd, 1)) (?_ : XW _ _ _ _ _ _ _ 426 _ _)
  obtain ⟨s1, vc⟩ := vc
  refine xi_sldS (by decide +kernel : decode mL_law.2.1 426 = .ok (.iaload, 1)) s1 (?_ : XW _ _ _ _ _ _ _ 427 _ _)
  refine xi_aload_n (by decide +kernel : decode mL_law.2.1 427 = .ok (.aload_n 3, 1)) rfl rfl (?_ : XW _ _ _ _ _ _ _ 428 _ _)
  obtain ⟨Q1, sp, vc⟩ := vc
  refine xi_callSH (b := B + 2) (bs := S + 12) (As := [.ref 0, .int (xs (x4 + 1).toNatClampNeg), .int (xs (x4 + 2).toNatClampNeg), .ref 99]) (st := []) (by decide +kernel : decode mL_law.2.1 428 = .ok (.invokestatic 136, 3)) kL_136 rfl rfl sp (by decide) (by decide) (Nat.le_of_ble_eq_true rfl) (by omega) (fun v9 h11 hq9 => ?_)
  obtain ⟨r11, e9, vc⟩ := vc v9 h11 hq9
  subst e9
  show XW _ _ _ _ _ _ _ 431 _ [.int r11]
  refine xi_istore (ls' := [some (.ref 3000), some (.ref 0), some (.ref 56), some (.ref 99), some (.int x4), some (.int r11), none, none]) (by decide +kernel : decode mL_law.2.1 431 = .ok (.istore 5, 2)) (by decide) rfl (?_ : XW _ _ _ _ _ _ _ 433 _ _)
  refine xi_aload_n (by decide +kernel : decode mL_law.2.1 433 = .ok (.aload_n 2, 1)) rfl rfl (?_ : XW _ _ _ _ _ _ _ 434 _ _)
  refine xi_aload_n (by decide +kernel : decode mL_law.2.1 434 = .ok (.aload_n 0, 1)) rfl rfl (?_ : XW _ _ _ _ _ _ _ 435 _ _)
  refine xi_iload (by decide +kernel : decode mL_law.2.1 435 = .ok (.iload 4, 2)) rfl (?_ : XW _ _ _ _ _ _ _ 437 _ _)
  refine xi_iconst (v := 1) (by decide +kernel : decode mL_law.2.1 437 = .ok (.iconst 1, 1)) (by decide) (?_ : XW _ _ _ _ _ _ _ 438 _ _)
  refine xi_iadd (by decide +kernel : decode mL_law.2.1 438 = .ok (.iadd, 1)) (?_ : XW _ _ _ _ _ _ _ 439 _ _)
  obtain ⟨s1, vc⟩ := vc
  refine xi_sldS (by decide +kernel : decode mL_law.2.1 439 = .ok (.iaload, 1)) s1 (?_ : XW _ _ _ _ _ _ _ 440 _ _)
  refine xi_aload_n (by decide +kernel : decode mL_law.2.1 440 = .ok (.aload_n 0, 1)) rfl rfl (?_ : XW _ _ _ _ _ _ _ 441 _ _)
  refine xi_iload (by decide +kernel : decode mL_law.2.1 441 = .ok (.iload 4, 2)) rfl (?_ : XW _ _ _ _ _ _ _ 443 _ _)
  refine xi_iconst (v := 2) (by decide +kernel : decode mL_law.2.1 443 = .ok (.iconst 2, 1)) (by decide) (?_ : XW _ _ _ _ _ _ _ 444 _ _)
  refine xi_iadd (by decide +kernel : decode mL_law.2.1 444 = .ok (.iadd, 1)) (?_ : XW _ _ _ _ _ _ _ 445 _ _)
  obtain ⟨s1, vc⟩ := vc
  refine xi_sldS (by decide +kernel : decode mL_law.2.1 445 = .ok (.iaload, 1)) s1 (?_ : XW _ _ _ _ _ _ _ 446 _ _)
  obtain ⟨Q1, sp, vc⟩ := vc
  refine xi_callVg (b := B + 2) (bs := S + 12) (As := [.int (xs (x4 + 1).toNatClampNeg), .int (xs (x4 + 2).toNatClampNeg)]) (st := []) (by decide +kernel : decode mL_law.2.1 446 = .ok (.invokevirtual 139, 3)) kL_139 rfl rfl (by omega) rfl sp (by decide) (by decide) (Nat.le_of_ble_eq_true rfl) (by omega) (fun v9 h12 hq9 hx9 => ?_)
  obtain ⟨r12, e9, vc⟩ := vc v9 h12 hq9 hx9
  subst e9
  show XW _ _ _ _ _ _ _ 449 _ [.int r12]
  refine xi_istore (ls' := [some (.ref 3000), some (.ref 0), some (.ref 56), some (.ref 99), some (.int x4), some (.int r11), some (.int r12), none]) (by decide +kernel : decode mL_law.2.1 449 = .ok (.istore 6, 2)) (by decide) rfl (?_ : XW _ _ _ _ _ _ _ 451 _ _)
  refine xi_aload_n (by decide +kernel : decode mL_law.2.1 451 = .ok (.aload_n 2, 1)) rfl rfl (?_ : XW _ _ _ _ _ _ _ 452 _ _)
  obtain ⟨Q1, sp, vc⟩ := vc
  refine xi_callVg (b := B + 2) (bs := S + 12) (As := []) (st := []) (by decide +kernel : decode mL_law.2.1 452 = .ok (.invokevirtual 125, 3)) kL_125 rfl rfl (by omega) rfl sp (by decide) (by decide) (Nat.le_of_ble_eq_true rfl) (by omega) (fun v9 h13 hq9 hx9 => ?_)
  obtain ⟨r13, e9, vc⟩ := vc v9 h13 hq9 hx9
  subst e9
  show XW _ _ _ _ _ _ _ 455 _ [.int r13]
  refine xi_iload (by decide +kernel : decode mL_law.2.1 455 = .ok (.iload 5, 2)) rfl (?_ : XW _ _ _ _ _ _ _ 457 _ _)
  refine xi_icmp_eq (by decide +kernel : decode mL_law.2.1 457 = .ok (.if_icmp .eq 5, 3)) (by decide) (fun c => (?_ : XW _ _ _ _ _ _ _ 462 _ _)) (fun c => (?_ : XW _ _ _ _ _ _ _ 460 _ _))
  · replace vc := vc.1 c
    refine xi_iload (by decide +kernel : decode mL_law.2.1 462 = .ok (.iload 5, 2)) rfl (?_ : XW _ _ _ _ _ _ _ 464 _ _)
    refine xi_if_ne (by decide +kernel : decode mL_law.2.1 464 = .ok (.ifCond .ne 15, 3)) (by decide) (fun c => (?_ : XW _ _ _ _ _ _ _ 479 _ _)) (fun c => (?_ : XW _ _ _ _ _ _ _ 467 _ _))
    · replace vc := vc.1 c
      refine xi_goto (by decide +kernel : decode mL_law.2.1 479 = .ok (.goto 1913, 3)) (by decide) (?_ : XW _ _ _ _ _ _ _ 2392 _ _)
      refine xw_drop 5 (ls' := [some (.ref 3000), some (.ref 0), some (.ref 56), some (.ref 99), some (.int x4), none, some (.int r12), none]) rfl ?_
      refine xw_drop 6 (ls' := [some (.ref 3000), some (.ref 0), some (.ref 56), some (.ref 99), some (.int x4), none, none, none]) rfl ?_
      refine xw_b (b' := B) (bs' := S) (by omega) (by omega) ?_
      exact vc
    · replace vc := vc.2 c
      refine xi_aload_n (by decide +kernel : decode mL_law.2.1 467 = .ok (.aload_n 3, 1)) rfl rfl (?_ : XW _ _ _ _ _ _ _ 468 _ _)
      refine xi_iconst (v := 0) (by decide +kernel : decode mL_law.2.1 468 = .ok (.iconst 0, 1)) (by decide) (?_ : XW _ _ _ _ _ _ _ 469 _ _)
      refine xi_lald (by decide +kernel : decode mL_law.2.1 469 = .ok (.laload, 1)) rfl (by omega) (by unfold vp_in; decide) (?_ : XW _ _ _ _ _ _ _ 470 _ [.long (xL h13 99 0)])
      refine xi_iload (by decide +kernel : decode mL_law.2.1 470 = .ok (.iload 6, 2)) rfl (?_ : XW _ _ _ _ _ _ _ 472 _ _)
      refine xi_i2l (by decide +kernel : decode mL_law.2.1 472 = .ok (.i2l, 1)) (?_ : XW _ _ _ _ _ _ _ 473 _ _)
      refine xi_lcmp (by decide +kernel : decode mL_law.2.1 473 = .ok (.lcmp, 1)) (?_ : XW _ _ _ _ _ _ _ 474 _ _)
      refine xi_if_eq (by decide +kernel : decode mL_law.2.1 474 = .ok (.ifCond .eq 5, 3)) (by decide) (fun c => (?_ : XW _ _ _ _ _ _ _ 479 _ _)) (fun c => (?_ : XW _ _ _ _ _ _ _ 477 _ _))
      · replace vc := vc.1 c
        refine xi_goto (by decide +kernel : decode mL_law.2.1 479 = .ok (.goto 1913, 3)) (by decide) (?_ : XW _ _ _ _ _ _ _ 2392 _ _)
        refine xw_drop 5 (ls' := [some (.ref 3000), some (.ref 0), some (.ref 56), some (.ref 99), some (.int x4), none, some (.int r12), none]) rfl ?_
        refine xw_drop 6 (ls' := [some (.ref 3000), some (.ref 0), some (.ref 56), some (.ref 99), some (.int x4), none, none, none]) rfl ?_
        refine xw_b (b' := B) (bs' := S) (by omega) (by omega) ?_
        exact vc
      · replace vc := vc.2 c
        refine xi_iconst (v := 0) (by decide +kernel : decode mL_law.2.1 477 = .ok (.iconst 0, 1)) (by decide) (?_ : XW _ _ _ _ _ _ _ 478 _ _)
        exact vc.elim
  · replace vc := vc.2 c
    refine xi_iconst (v := 0) (by decide +kernel : decode mL_law.2.1 460 = .ok (.iconst 0, 1)) (by decide) (?_ : XW _ _ _ _ _ _ _ 461 _ _)
    exact vc.elim

set_option maxRecDepth 20000 in
theorem v_L_law_23 {h : XH} {Q : Option Value → XH → Prop} {X : String → XH → Prop} (xs : Nat → Int32) (L B S : Nat)  (x4 : Int32)
    (vc : (((nI L) - 6) < x4 → XW room_1 mL_law (xEL xs L) 100 (B + 4) (S + 24) h 2398 [none, none, none, none, none, none, none, none] []) ∧ (¬ ((nI L) - 6) < x4 → (vp_in x4 L) ∧ ((((xs x4.toNatClampNeg) &&& 63) = 0 → XW room_1 mL_law (xEL xs L) 100 (B + 4) (S + 24) h 216 [some (.ref 3000), some (.ref 0), some (.ref 56), some (.ref 99), some (.int x4), none, none, none] []) ∧ (((xs x4.toNatClampNeg) &&& 63) = 1 → XW room_1 mL_law (xEL xs L) 100 (B + 4) (S + 24) h 289 [some (.ref 3000), some (.ref 0), some (.ref 56), some (.ref 99), some (.int x4), none, none, none] []) ∧ (((xs x4.toNatClampNeg) &&& 63) = 2 → XW room_1 mL_law (xEL xs L) 100 (B + 4) (S + 24) h 345 [some (.ref 3000), some (.ref 0), some (.ref 56), some (.ref 99), some (.int x4), none, none, none] []) ∧ (((xs x4.toNatClampNeg) &&& 63) = 3 → XW room_1 mL_law (xEL xs L) 100 (B + 4) (S + 24) h 358 [some (.ref 3000), some (.ref 0), some (.ref 56), some (.ref 99), some (.int x4), none, none, none] []) ∧ (((xs x4.toNatClampNeg) &&& 63) = 4 → XW room_1 mL_law (xEL xs L) 100 (B + 4) (S + 24) h 414 [some (.ref 3000), some (.ref 0), some (.ref 56), some (.ref 99), some (.int x4), none, none, none] []) ∧ (((xs x4.toNatClampNeg) &&& 63) = 5 → XW room_1 mL_law (xEL xs L) 100 (B + 4) (S + 24) h 482 [some (.ref 3000), some (.ref 0), some (.ref 56), some (.ref 99), some (.int x4), none, none, none] []) ∧ (((xs x4.toNatClampNeg) &&& 63) = 6 → XW room_1 mL_law (xEL xs L) 100 (B + 4) (S + 24) h 550 [some (.ref 3000), some (.ref 0), some (.ref 56), some (.ref 99), some (.int x4), none, none, none] []) ∧ (((xs x4.toNatClampNeg) &&& 63) = 7 → XW room_1 mL_law (xEL xs L) 100 (B + 4) (S + 24) h 606 [some (.ref 3000), some (.ref 0), some (.ref 56), some (.ref 99), some (.int x4), none, none, none] []) ∧ (((xs x4.toNatClampNeg) &&& 63) = 8 → XW room_1 mL_law (xEL xs L) 100 (B + 4) (S + 24) h 674 [some (.ref 3000), some (.ref 0), some (.ref 56), some (.ref 99), some (.int x4), none, none, none] []) ∧ (((xs x4.toNatClampNeg) &&& 63) = 9 → XW room_1 mL_law (xEL xs L) 100 (B + 4) (S + 24) h 687 [some (.ref 3000), some (.ref 0), some (.ref 56), some (.ref 99), some (.int x4), none, none, none] []) ∧ (((xs x4.toNatClampNeg) &&& 63) = 10 → XW room_1 mL_law (xEL xs L) 100 (B + 4) (S + 24) h 743 [some (.ref 3000), some (.ref 0), some (.ref 56), some (.ref 99), some (.int x4), none, none, none] []) ∧ (((xs x4.toNatClampNeg) &&& 63) = 11 → XW room_1 mL_law (xEL xs L) 100 (B + 4) (S + 24) h 811 [some (.ref 3000), some (.ref 0), some (.ref 56), some (.ref 99), some (.int x4), none, none, none] []) ∧ (((xs x4.toNatClampNeg) &&& 63) = 12 → XW room_1 mL_law (xEL xs L) 100 (B + 4) (S + 24) h 867 [some (.ref 3000), some (.ref 0), some (.ref 56), some (.ref 99), some (.int x4), none, none, none] []) ∧ (((xs x4.toNatClampNeg) &&& 63) = 13 → XW room_1 mL_law (xEL xs L) 100 (B + 4) (S + 24) h 923 [some (.ref 3000), some (.ref 0), some (.ref 56), some (.ref 99), some (.int x4), none, none, none] []) ∧ (((xs x4.toNatClampNeg) &&& 63) = 14 → XW room_1 mL_law (xEL xs L) 100 (B + 4) (S + 24) h 986 [some (.ref 3000), some (.ref 0), some (.ref 56), some (.ref 99), some (.int x4), none, none, none] []) ∧ (((xs x4.toNatClampNeg) &&& 63) = 15 → XW room_1 mL_law (xEL xs L) 100 (B + 4) (S + 24) h 1049 [some (.ref 3000), some (.ref 0), some (.ref 56), some (.ref 99), some (.int x4), none, none, none] []) ∧ (((xs x4.toNatClampNeg) &&& 63) = 16 → XW room_1 mL_law (xEL xs L) 100 (B + 4) (S + 24) h 1105 [some (.ref 3000), some (.ref 0), some (.ref 56), some (.ref 99), some (.int x4), none, none, none] []) ∧ (((xs x4.toNatClampNeg) &&& 63) = 17 → XW room_1 mL_law (xEL xs L) 100 (B + 4) (S + 24) h 1184 [some (.ref 3000), some (.ref 0), some (.ref 56), some (.ref 99), some (.int x4), none, none, none] []) ∧ (((xs x4.toNatClampNeg) &&& 63) = 18 → XW room_1 mL_law (xEL xs L) 100 (B + 4) (S + 24) h 1263 [some (.ref 3000), some (.ref 0), some (.ref 56), some (.ref 99), some (.int x4), none, none, none] []) ∧ (((xs x4.toNatClampNeg) &&& 63) = 19 → XW room_1 mL_law (xEL xs L) 100 (B + 4) (S + 24) h 1319 [some (.ref 3000), some (.ref 0), some (.ref 56), some (.ref 99), some (.int x4), none, none, none] []) ∧ (((xs x4.toNatClampNeg) &&& 63) = 20 → XW room_1 mL_law (xEL xs L) 100 (B + 4) (S + 24) h 1410 [some (.ref 3000), some (.ref 0), some (.ref 56), some (.ref 99), some (.int x4), none, none, none] []) ∧ (((xs x4.toNatClampNeg) &&& 63) = 21 → XW room_1 mL_law (xEL xs L) 100 (B + 4) (S + 24) h 1477 [some (.ref 3000), some (.ref 0), some (.ref 56), some (.ref 99), some (.int x4), none, none, none] []) ∧ (((xs x4.toNatClampNeg) &&& 63) = 22 → XW room_1 mL_law (xEL xs L) 100 (B + 4) (S + 24) h 1533 [some (.ref 3000), some (.ref 0), some (.ref 56), some (.ref 99), some (.int x4), none, none, none] []) ∧ (((xs x4.toNatClampNeg) &&& 63) = 23 → XW room_1 mL_law (xEL xs L) 100 (B + 4) (S + 24) h 1633 [some (.ref 3000), some (.ref 0), some (.ref 56), some (.ref 99), some (.int x4), none, none, none] []) ∧ (((xs x4.toNatClampNeg) &&& 63) = 24 → XW room_1 mL_law (xEL xs L) 100 (B + 4) (S + 24) h 1700 [some (.ref 3000), some (.ref 0), some (.ref 56), some (.ref 99), some (.int x4), none, none, none] []) ∧ (((xs x4.toNatClampNeg) &&& 63) = 25 → XW room_1 mL_law (xEL xs L) 100 (B + 4) (S + 24) h 1792 [some (.ref 3000), some (.ref 0), some (.ref 56), some (.ref 99), some (.int x4), none, none, none] []) ∧ (((xs x4.toNatClampNeg) &&& 63) = 26 → XW room_1 mL_law (xEL xs L) 100 (B + 4) (S + 24) h 1848 [some (.ref 3000), some (.ref 0), some (.ref 56), some (.ref 99), some (.int x4), none, none, none] []) ∧ (((xs x4.toNatClampNeg) &&& 63) = 27 → XW room_1 mL_law (xEL xs L) 100 (B + 4) (S + 24) h 1903 [some (.ref 3000), some (.ref 0), some (.ref 56), some (.ref 99), some (.int x4), none, none, none] []) ∧ (((xs x4.toNatClampNeg) &&& 63) = 28 → XW room_1 mL_law (xEL xs L) 100 (B + 4) (S + 24) h 1916 [some (.ref 3000), some (.ref 0), some (.ref 56), some (.ref 99), some (.int x4), none, none, none] []) ∧ (((xs x4.toNatClampNeg) &&& 63) = 29 → XW room_1 mL_law (xEL xs L) 100 (B + 4) (S + 24) h 1941 [some (.ref 3000), some (.ref 0), some (.ref 56), some (.ref 99), some (.int x4), none, none, none] []) ∧ (((xs x4.toNatClampNeg) &&& 63) = 30 → XW room_1 mL_law (xEL xs L) 100 (B + 4) (S + 24) h 1954 [some (.ref 3000), some (.ref 0), some (.ref 56), some (.ref 99), some (.int x4), none, none, none] []) ∧ (((xs x4.toNatClampNeg) &&& 63) = 31 → XW room_1 mL_law (xEL xs L) 100 (B + 4) (S + 24) h 1967 [some (.ref 3000), some (.ref 0), some (.ref 56), some (.ref 99), some (.int x4), none, none, none] []) ∧ (((xs x4.toNatClampNeg) &&& 63) = 32 → XW room_1 mL_law (xEL xs L) 100 (B + 4) (S + 24) h 1981 [some (.ref 3000), some (.ref 0), some (.ref 56), some (.ref 99), some (.int x4), none, none, none] []) ∧ (((xs x4.toNatClampNeg) &&& 63) = 33 → XW room_1 mL_law (xEL xs L) 100 (B + 4) (S + 24) h 1994 [some (.ref 3000), some (.ref 0), some (.ref 56), some (.ref 99), some (.int x4), none, none, none] []) ∧ (((xs x4.toNatClampNeg) &&& 63) = 34 → XW room_1 mL_law (xEL xs L) 100 (B + 4) (S + 24) h 2074 [some (.ref 3000), some (.ref 0), some (.ref 56), some (.ref 99), some (.int x4), none, none, none] []) ∧ (((xs x4.toNatClampNeg) &&& 63) = 35 → XW room_1 mL_law (xEL xs L) 100 (B + 4) (S + 24) h 2141 [some (.ref 3000), some (.ref 0), some (.ref 56), some (.ref 99), some (.int x4), none, none, none] []) ∧ (((xs x4.toNatClampNeg) &&& 63) = 36 → XW room_1 mL_law (xEL xs L) 100 (B + 4) (S + 24) h 2220 [some (.ref 3000), some (.ref 0), some (.ref 56), some (.ref 99), some (.int x4), none, none, none] []) ∧ (((xs x4.toNatClampNeg) &&& 63) = 37 → XW room_1 mL_law (xEL xs L) 100 (B + 4) (S + 24) h 2312 [some (.ref 3000), some (.ref 0), some (.ref 56), some (.ref 99), some (.int x4), none, none, none] []) ∧ (((xs x4.toNatClampNeg) &&& 63) = 38 → XW room_1 mL_law (xEL xs L) 100 (B + 4) (S + 24) h 2368 [some (.ref 3000), some (.ref 0), some (.ref 56), some (.ref 99), some (.int x4), none, none, none] []) ∧ (((xs x4.toNatClampNeg) &&& 63) = 39 → XW room_1 mL_law (xEL xs L) 100 (B + 4) (S + 24) h 2379 [some (.ref 3000), some (.ref 0), some (.ref 56), some (.ref 99), some (.int x4), none, none, none] []) ∧ ((((xs x4.toNatClampNeg) &&& 63).toInt < 0 ∨ 39 < ((xs x4.toNatClampNeg) &&& 63).toInt) → XW room_1 mL_law (xEL xs L) 100 B S h 2392 [some (.ref 3000), some (.ref 0), some (.ref 56), some (.ref 99), some (.int x4), none, none, none] [])))) :
    XW room_1 mL_law (xEL xs L) 100 (B + 4) (S + 24) h 23 [some (.ref 3000), some (.ref 0), some (.ref 56), some (.ref 99), some (.int x4), none, none, none] [] := by
  refine xi_iload (by decide +kernel : decode mL_law.2.1 23 = .ok (.iload 4, 2)) rfl (?_ : XW _ _ _ _ _ _ _ 25 _ _)
  refine xi_aload_n (by decide +kernel : decode mL_law.2.1 25 = .ok (.aload_n 0, 1)) rfl rfl (?_ : XW _ _ _ _ _ _ _ 26 _ _)
  refine xi_slenS (v := nI L) (by decide +kernel : decode mL_law.2.1 26 = .ok (.arraylength, 1)) rfl (?_ : XW _ _ _ _ _ _ _ 27 _ _)
  refine xi_bipush (v := 6) (by decide +kernel : decode mL_law.2.1 27 = .ok (.bipush 6, 2)) (by decide) (?_ : XW _ _ _ _ _ _ _ 29 _ _)
  refine xi_isub (by decide +kernel : decode mL_law.2.1 29 = .ok (.isub, 1)) (?_ : XW _ _ _ _ _ _ _ 30 _ _)
  refine xi_icmp_gt (by decide +kernel : decode mL_law.2.1 30 = .ok (.if_icmp .gt 2368, 3)) (by decide) (fun c => (?_ : XW _ _ _ _ _ _ _ 2398 _ _)) (fun c => (?_ : XW _ _ _ _ _ _ _ 33 _ _))
  · replace vc := vc.1 c
    refine xw_drop 0 (ls' := [none, some (.ref 0), some (.ref 56), some (.ref 99), some (.int x4), none, none, none]) rfl ?_
    refine xw_drop 1 (ls' := [none, none, some (.ref 56), some (.ref 99), some (.int x4), none, none, none]) rfl ?_
    refine xw_drop 2 (ls' := [none, none, none, some (.ref 99), some (.int x4), none, none, none]) rfl ?_
    refine xw_drop 3 (ls' := [none, none, none, none, some (.int x4), none, none, none]) rfl ?_
    refine xw_drop 4 (ls' := [none, none, none, none, none, none, none, none]) rfl ?_
    exact vc
  · replace vc := vc.2 c
    refine xi_aload_n (by decide +kernel : decode mL_law.2.1 33 = .ok (.aload_n 0, 1)) rfl rfl (?_ : XW _ _ _ _ _ _ _ 34 _ _)
    refine xi_iload (by decide +kernel : decode mL_law.2.1 34 = .ok (.iload 4, 2)) rfl (?_ : XW _ _ _ _ _ _ _ 36 _ _)
    obtain ⟨s1, vc⟩ := vc
    refine xi_sldS (by decide +kernel : decode mL_law.2.1 36 = .ok (.iaload, 1)) s1 (?_ : XW _ _ _ _ _ _ _ 37 _ _)
    refine xi_bipush (v := 63) (by decide +kernel : decode mL_law.2.1 37 = .ok (.bipush 63, 2)) (by decide) (?_ : XW _ _ _ _ _ _ _ 39 _ _)
    refine xi_iand (by decide +kernel : decode mL_law.2.1 39 = .ok (.iand, 1)) (?_ : XW _ _ _ _ _ _ _ 40 _ _)
    by_cases c9 : ((xs x4.toNatClampNeg) &&& 63).toInt < 0 ∨ 39 < ((xs x4.toNatClampNeg) &&& 63).toInt
    · replace vc := vc.2.2.2.2.2.2.2.2.2.2.2.2.2.2.2.2.2.2.2.2.2.2.2.2.2.2.2.2.2.2.2.2.2.2.2.2.2.2.2.2 c9
      refine xi_tableOut (by decide +kernel : decode mL_law.2.1 40 = .ok (.tableswitch 2352 0 39 #[176, 249, 305, 318, 374, 442, 510, 566, 634, 647, 703, 771, 827, 883, 946, 1009, 1065, 1144, 1223, 1279, 1370, 1437, 1493, 1593, 1660, 1752, 1808, 1863, 1876, 1901, 1914, 1927, 1941, 1954, 2034, 2101, 2180, 2272, 2328, 2339], 176)) c9 (by decide) (?_ : XW _ _ _ _ _ _ _ 2392 _ _)
      refine xw_b (b' := B) (bs' := S) (by omega) (by omega) ?_
      exact vc
    · have c8 := x_tabcases (lo := 0) (hi := 39) (by omega) (by omega) c9
      obtain ⟨j, hj, c7⟩ := c8
      have hj2 : j < 40 := by omega
      by_cases e0 : j = 0
      · subst e0
        have c6 : ((xs x4.toNatClampNeg) &&& 63) = 0 := c7.trans (by decide)
        replace vc := vc.1 c6
        refine xi_tableIn (off := 176) (by decide +kernel : decode mL_law.2.1 40 = .ok (.tableswitch 2352 0 39 #[176, 249, 305, 318, 374, 442, 510, 566, 634, 647, 703, 771, 827, 883, 946, 1009, 1065, 1144, 1223, 1279, 1370, 1437, 1493, 1593, 1660, 1752, 1808, 1863, 1876, 1901, 1914, 1927, 1941, 1954, 2034, 2101, 2180, 2272, 2328, 2339], 176)) (by omega) (by omega) (by rw [c6]; decide) (by decide) (?_ : XW _ _ _ _ _ _ _ 216 _ _)
        exact vc
      by_cases e1 : j = 1
      · subst e1
        have c6 : ((xs x4.toNatClampNeg) &&& 63) = 1 := c7.trans (by decide)
        replace vc := vc.2.1 c6
        refine xi_tableIn (off := 249) (by decide +kernel : decode mL_law.2.1 40 = .ok (.tableswitch 2352 0 39 #[176, 249, 305, 318, 374, 442, 510, 566, 634, 647, 703, 771, 827, 883, 946, 1009, 1065, 1144, 1223, 1279, 1370, 1437, 1493, 1593, 1660, 1752, 1808, 1863, 1876, 1901, 1914, 1927, 1941, 1954, 2034, 2101, 2180, 2272, 2328, 2339], 176)) (by omega) (by omega) (by rw [c6]; decide) (by decide) (?_ : XW _ _ _ _ _ _ _ 289 _ _)
        exact vc
      by_cases e2 : j = 2
      · subst e2
        have c6 : ((xs x4.toNatClampNeg) &&& 63) = 2 := c7.trans (by decide)
        replace vc := vc.2.2.1 c6
        refine xi_tableIn (off := 305) (by decide +kernel : decode mL_law.2.1 40 = .ok (.tableswitch 2352 0 39 #[176, 249, 305, 318, 374, 442, 510, 566, 634, 647, 703, 771, 827, 883, 946, 1009, 1065, 1144, 1223, 1279, 1370, 1437, 1493, 1593, 1660, 1752, 1808, 1863, 1876, 1901, 1914, 1927, 1941, 1954, 2034, 2101, 2180, 2272, 2328, 2339], 176)) (by omega) (by omega) (by rw [c6]; decide) (by decide) (?_ : XW _ _ _ _ _ _ _ 345 _ _)
        exact vc
      by_cases e3 : j = 3
      · subst e3
        have c6 : ((xs x4.toNatClampNeg) &&& 63) = 3 := c7.trans (by decide)
        replace vc := vc.2.2.2.1 c6
        refine xi_tableIn (off := 318) (by decide +kernel : decode mL_law.2.1 40 = .ok (.tableswitch 2352 0 39 #[176, 249, 305, 318, 374, 442, 510, 566, 634, 647, 703, 771, 827, 883, 946, 1009, 1065, 1144, 1223, 1279, 1370, 1437, 1493, 1593, 1660, 1752, 1808, 1863, 1876, 1901, 1914, 1927, 1941, 1954, 2034, 2101, 2180, 2272, 2328, 2339], 176)) (by omega) (by omega) (by rw [c6]; decide) (by decide) (?_ : XW _ _ _ _ _ _ _ 358 _ _)
        exact vc
      by_cases e4 : j = 4
      · subst e4
        have c6 : ((xs x4.toNatClampNeg) &&& 63) = 4 := c7.trans (by decide)
        replace vc := vc.2.2.2.2.1 c6
        refine xi_tableIn (off := 374) (by decide +kernel : decode mL_law.2.1 40 = .ok (.tableswitch 2352 0 39 #[176, 249, 305, 318, 374, 442, 510, 566, 634, 647, 703, 771, 827, 883, 946, 1009, 1065, 1144, 1223, 1279, 1370, 1437, 1493, 1593, 1660, 1752, 1808, 1863, 1876, 1901, 1914, 1927, 1941, 1954, 2034, 2101, 2180, 2272, 2328, 2339], 176)) (by omega) (by omega) (by rw [c6]; decide) (by decide) (?_ : XW _ _ _ _ _ _ _ 414 _ _)
        exact vc
      by_cases e5 : j = 5
      · subst e5
        have c6 : ((xs x4.toNatClampNeg) &&& 63) = 5 := c7.trans (by decide)
        replace vc := vc.2.2.2.2.2.1 c6
        refine xi_tableIn (off := 442) (by decide +kernel : decode mL_law.2.1 40 = .ok (.tableswitch 2352 0 39 #[176, 249, 305, 318, 374, 442, 510, 566, 634, 647, 703, 771, 827, 883, 946, 1009, 1065, 1144, 1223, 1279, 1370, 1437, 1493, 1593, 1660, 1752, 1808, 1863, 1876, 1901, 1914, 1927, 1941, 1954, 2034, 2101, 2180, 2272, 2328, 2339], 176)) (by omega) (by omega) (by rw [c6]; decide) (by decide) (?_ : XW _ _ _ _ _ _ _ 482 _ _)
        exact vc
      by_cases e6 : j = 6
      · subst e6
        have c6 : ((xs x4.toNatClampNeg) &&& 63) = 6 := c7.trans (by decide)
        replace vc := vc.2.2.2.2.2.2.1 c6
        refine xi_tableIn (off := 510) (by decide +kernel : decode mL_law.2.1 40 = .ok (.tableswitch 2352 0 39 #[176, 249, 305, 318, 374, 442, 510, 566, 634, 647, 703, 771, 827, 883, 946, 1009, 1065, 1144, 1223, 1279, 1370, 1437, 1493, 1593, 1660, 1752, 1808, 1863, 1876, 1901, 1914, 1927, 1941, 1954, 2034, 2101, 2180, 2272, 2328, 2339], 176)) (by omega) (by omega) (by rw [c6]; decide) (by decide) (?_ : XW _ _ _ _ _ _ _ 550 _ _)
        exact vc
      by_cases e7 : j = 7
      · subst e7
        have c6 : ((xs x4.toNatClampNeg) &&& 63) = 7 := c7.trans (by decide)
        replace vc := vc.2.2.2.2.2.2.2.1 c6
        refine xi_tableIn (off := 566) (by decide +kernel : decode mL_law.2.1 40 = .ok (.tableswitch 2352 0 39 #[176, 249, 305, 318, 374, 442, 510, 566, 634, 647, 703, 771, 827, 883, 946, 1009, 1065, 1144, 1223, 1279, 1370, 1437, 1493, 1593, 1660, 1752, 1808, 1863, 1876, 1901, 1914, 1927, 1941, 1954, 2034, 2101, 2180, 2272, 2328, 2339], 176)) (by omega) (by omega) (by rw [c6]; decide) (by decide) (?_ : XW _ _ _ _ _ _ _ 606 _ _)
        exact vc
      by_cases e8 : j = 8
      · subst e8
        have c6 : ((xs x4.toNatClampNeg) &&& 63) = 8 := c7.trans (by decide)
        replace vc := vc.2.2.2.2.2.2.2.2.1 c6
        refine xi_tableIn (off := 634) (by decide +kernel : decode mL_law.2.1 40 = .ok (.tableswitch 2352 0 39 #[176, 249, 305, 318, 374, 442, 510, 566, 634, 647, 703, 771, 827, 883, 946, 1009, 1065, 1144, 1223, 1279, 1370, 1437, 1493, 1593, 1660, 1752, 1808, 1863, 1876, 1901, 1914, 1927, 1941, 1954, 2034, 2101, 2180, 2272, 2328, 2339], 176)) (by omega) (by omega) (by rw [c6]; decide) (by decide) (?_ : XW _ _ _ _ _ _ _ 674 _ _)
        exact vc
      by_cases e9 : j = 9
      · subst e9
        have c6 : ((xs x4.toNatClampNeg) &&& 63) = 9 := c7.trans (by decide)
        replace vc := vc.2.2.2.2.2.2.2.2.2.1 c6
        refine xi_tableIn (off := 647) (by decide +kernel : decode mL_law.2.1 40 = .ok (.tableswitch 2352 0 39 #[176, 249, 305, 318, 374, 442, 510, 566, 634, 647, 703, 771, 827, 883, 946, 1009, 1065, 1144, 1223, 1279, 1370, 1437, 1493, 1593, 1660, 1752, 1808, 1863, 1876, 1901, 1914, 1927, 1941, 1954, 2034, 2101, 2180, 2272, 2328, 2339], 176)) (by omega) (by omega) (by rw [c6]; decide) (by decide) (?_ : XW _ _ _ _ _ _ _ 687 _ _)
        exact vc
      by_cases e10 : j = 10
      · subst e10
        have c6 : ((xs x4.toNatClampNeg) &&& 63) = 10 := c7.trans (by decide)
        replace vc := vc.2.2.2.2.2.2.2.2.2.2.1 c6
        refine xi_tableIn (off := 703) (by decide +kernel : decode mL_law.2.1 40 = .ok (.tableswitch 2352 0 39 #[176, 249, 305, 318, 374, 442, 510, 566, 634, 647, 703, 771, 827, 883, 946, 1009, 1065, 1144, 1223, 1279, 1370, 1437, 1493, 1593, 1660, 1752, 1808, 1863, 1876, 1901, 1914, 1927, 1941, 1954, 2034, 2101, 2180, 2272, 2328, 2339], 176)) (by omega) (by omega) (by rw [c6]; decide) (by decide) (?_ : XW _ _ _ _ _ _ _ 743 _ _)
        exact vc
      by_cases e11 : j = 11
      · subst e11
        have c6 : ((xs x4.toNatClampNeg) &&& 63) = 11 := c7.trans (by decide)
        replace vc := vc.2.2.2.2.2.2.2.2.2.2.2.1 c6
        refine xi_tableIn (off := 771) (by decide +kernel : decode mL_law.2.1 40 = .ok (.tableswitch 2352 0 39 #[176, 249, 305, 318, 374, 442, 510, 566, 634, 647, 703, 771, 827, 883, 946, 1009, 1065, 1144, 1223, 1279, 1370, 1437, 1493, 1593, 1660, 1752, 1808, 1863, 1876, 1901, 1914, 1927, 1941, 1954, 2034, 2101, 2180, 2272, 2328, 2339], 176)) (by omega) (by omega) (by rw [c6]; decide) (by decide) (?_ : XW _ _ _ _ _ _ _ 811 _ _)
        exact vc
      by_cases e12 : j = 12
      · subst e12
        have c6 : ((xs x4.toNatClampNeg) &&& 63) = 12 := c7.trans (by decide)
        replace vc := vc.2.2.2.2.2.2.2.2.2.2.2.2.1 c6
        refine xi_tableIn (off := 827) (by decide +kernel : decode mL_law.2.1 40 = .ok (.tableswitch 2352 0 39 #[176, 249, 305, 318, 374, 442, 510, 566, 634, 647, 703, 771, 827, 883, 946, 1009, 1065, 1144, 1223, 1279, 1370, 1437, 1493, 1593, 1660, 1752, 1808, 1863, 1876, 1901, 1914, 1927, 1941, 1954, 2034, 2101, 2180, 2272, 2328, 2339], 176)) (by omega) (by omega) (by rw [c6]; decide) (by decide) (?_ : XW _ _ _ _ _ _ _ 867 _ _)
        exact vc
      by_cases e13 : j = 13
      · subst e13
        have c6 : ((xs x4.toNatClampNeg) &&& 63) = 13 := c7.trans (by decide)
        replace vc := vc.2.2.2.2.2.2.2.2.2.2.2.2.2.1 c6
        refine xi_tableIn (off := 883) (by decide +kernel : decode mL_law.2.1 40 = .ok (.tableswitch 2352 0 39 #[176, 249, 305, 318, 374, 442, 510, 566, 634, 647, 703, 771, 827, 883, 946, 1009, 1065, 1144, 1223, 1279, 1370, 1437, 1493, 1593, 1660, 1752, 1808, 1863, 1876, 1901, 1914, 1927, 1941, 1954, 2034, 2101, 2180, 2272, 2328, 2339], 176)) (by omega) (by omega) (by rw [c6]; decide) (by decide) (?_ : XW _ _ _ _ _ _ _ 923 _ _)
        exact vc
      by_cases e14 : j = 14
      · subst e14
        have c6 : ((xs x4.toNatClampNeg) &&& 63) = 14 := c7.trans (by decide)
        replace vc := vc.2.2.2.2.2.2.2.2.2.2.2.2.2.2.1 c6
        refine xi_tableIn (off := 946) (by decide +kernel : decode mL_law.2.1 40 = .ok (.tableswitch 2352 0 39 #[176, 249, 305, 318, 374, 442, 510, 566, 634, 647, 703, 771, 827, 883, 946, 1009, 1065, 1144, 1223, 1279, 1370, 1437, 1493, 1593, 1660, 1752, 1808, 1863, 1876, 1901, 1914, 1927, 1941, 1954, 2034, 2101, 2180, 2272, 2328, 2339], 176)) (by omega) (by omega) (by rw [c6]; decide) (by decide) (?_ : XW _ _ _ _ _ _ _ 986 _ _)
        exact vc
      by_cases e15 : j = 15
      · subst e15
        have c6 : ((xs x4.toNatClampNeg) &&& 63) = 15 := c7.trans (by decide)
        replace vc := vc.2.2.2.2.2.2.2.2.2.2.2.2.2.2.2.1 c6
        refine xi_tableIn (off := 1009) (by decide +kernel : decode mL_law.2.1 40 = .ok (.tableswitch 2352 0 39 #[176, 249, 305, 318, 374, 442, 510, 566, 634, 647, 703, 771, 827, 883, 946, 1009, 1065, 1144, 1223, 1279, 1370, 1437, 1493, 1593, 1660, 1752, 1808, 1863, 1876, 1901, 1914, 1927, 1941, 1954, 2034, 2101, 2180, 2272, 2328, 2339], 176)) (by omega) (by omega) (by rw [c6]; decide) (by decide) (?_ : XW _ _ _ _ _ _ _ 1049 _ _)
        exact vc
      by_cases e16 : j = 16
      · subst e16
        have c6 : ((xs x4.toNatClampNeg) &&& 63) = 16 := c7.trans (by decide)
        replace vc := vc.2.2.2.2.2.2.2.2.2.2.2.2.2.2.2.2.1 c6
        refine xi_tableIn (off := 1065) (by decide +kernel : decode mL_law.2.1 40 = .ok (.tableswitch 2352 0 39 #[176, 249, 305, 318, 374, 442, 510, 566, 634, 647, 703, 771, 827, 883, 946, 1009, 1065, 1144, 1223, 1279, 1370, 1437, 1493, 1593, 1660, 1752, 1808, 1863, 1876, 1901, 1914, 1927, 1941, 1954, 2034, 2101, 2180, 2272, 2328, 2339], 176)) (by omega) (by omega) (by rw [c6]; decide) (by decide) (?_ : XW _ _ _ _ _ _ _ 1105 _ _)
        exact vc
      by_cases e17 : j = 17
      · subst e17
        have c6 : ((xs x4.toNatClampNeg) &&& 63) = 17 := c7.trans (by decide)
        replace vc := vc.2.2.2.2.2.2.2.2.2.2.2.2.2.2.2.2.2.1 c6
        refine xi_tableIn (off := 1144) (by decide +kernel : decode mL_law.2.1 40 = .ok (.tableswitch 2352 0 39 #[176, 249, 305, 318, 374, 442, 510, 566, 634, 647, 703, 771, 827, 883, 946, 1009, 1065, 1144, 1223, 1279, 1370, 1437, 1493, 1593, 1660, 1752, 1808, 1863, 1876, 1901, 1914, 1927, 1941, 1954, 2034, 2101, 2180, 2272, 2328, 2339], 176)) (by omega) (by omega) (by rw [c6]; decide) (by decide) (?_ : XW _ _ _ _ _ _ _ 1184 _ _)
        exact vc
      by_cases e18 : j = 18
      · subst e18
        have c6 : ((xs x4.toNatClampNeg) &&& 63) = 18 := c7.trans (by decide)
        replace vc := vc.2.2.2.2.2.2.2.2.2.2.2.2.2.2.2.2.2.2.1 c6
        refine xi_tableIn (off := 1223) (by decide +kernel : decode mL_law.2.1 40 = .ok (.tableswitch 2352 0 39 #[176, 249, 305, 318, 374, 442, 510, 566, 634, 647, 703, 771, 827, 883, 946, 1009, 1065, 1144, 1223, 1279, 1370, 1437, 1493, 1593, 1660, 1752, 1808, 1863, 1876, 1901, 1914, 1927, 1941, 1954, 2034, 2101, 2180, 2272, 2328, 2339], 176)) (by omega) (by omega) (by rw [c6]; decide) (by decide) (?_ : XW _ _ _ _ _ _ _ 1263 _ _)
        exact vc
      by_cases e19 : j = 19
      · subst e19
        have c6 : ((xs x4.toNatClampNeg) &&& 63) = 19 := c7.trans (by decide)
        replace vc := vc.2.2.2.2.2.2.2.2.2.2.2.2.2.2.2.2.2.2.2.1 c6
        refine xi_tableIn (off := 1279) (by decide +kernel : decode mL_law.2.1 40 = .ok (.tableswitch 2352 0 39 #[176, 249, 305, 318, 374, 442, 510, 566, 634, 647, 703, 771, 827, 883, 946, 1009, 1065, 1144, 1223, 1279, 1370, 1437, 1493, 1593, 1660, 1752, 1808, 1863, 1876, 1901, 1914, 1927, 1941, 1954, 2034, 2101, 2180, 2272, 2328, 2339], 176)) (by omega) (by omega) (by rw [c6]; decide) (by decide) (?_ : XW _ _ _ _ _ _ _ 1319 _ _)
        exact vc
      by_cases e20 : j = 20
      · subst e20
        have c6 : ((xs x4.toNatClampNeg) &&& 63) = 20 := c7.trans (by decide)
        replace vc := vc.2.2.2.2.2.2.2.2.2.2.2.2.2.2.2.2.2.2.2.2.1 c6
        refine xi_tableIn (off := 1370) (by decide +kernel : decode mL_law.2.1 40 = .ok (.tableswitch 2352 0 39 #[176, 249, 305, 318, 374, 442, 510, 566, 634, 647, 703, 771, 827, 883, 946, 1009, 1065, 1144, 1223, 1279, 1370, 1437, 1493, 1593, 1660, 1752, 1808, 1863, 1876, 1901, 1914, 1927, 1941, 1954, 2034, 2101, 2180, 2272, 2328, 2339], 176)) (by omega) (by omega) (by rw [c6]; decide) (by decide) (?_ : XW _ _ _ _ _ _ _ 1410 _ _)
        exact vc
      by_cases e21 : j = 21
      · subst e21
        have c6 : ((xs x4.toNatClampNeg) &&& 63) = 21 := c7.trans (by decide)
        replace vc := vc.2.2.2.2.2.2.2.2.2.2.2.2.2.2.2.2.2.2.2.2.2.1 c6
        refine xi_tableIn (off := 1437) (by decide +kernel : decode mL_law.2.1 40 = .ok (.tableswitch 2352 0 39 #[176, 249, 305, 318, 374, 442, 510, 566, 634, 647, 703, 771, 827, 883, 946, 1009, 1065, 1144, 1223, 1279, 1370, 1437, 1493, 1593, 1660, 1752, 1808, 1863, 1876, 1901, 1914, 1927, 1941, 1954, 2034, 2101, 2180, 2272, 2328, 2339], 176)) (by omega) (by omega) (by rw [c6]; decide) (by decide) (?_ : XW _ _ _ _ _ _ _ 1477 _ _)
        exact vc
      by_cases e22 : j = 22
      · subst e22
        have c6 : ((xs x4.toNatClampNeg) &&& 63) = 22 := c7.trans (by decide)
        replace vc := vc.2.2.2.2.2.2.2.2.2.2.2.2.2.2.2.2.2.2.2.2.2.2.1 c6
        refine xi_tableIn (off := 1493) (by decide +kernel : decode mL_law.2.1 40 = .ok (.tableswitch 2352 0 39 #[176, 249, 305, 318, 374, 442, 510, 566, 634, 647, 703, 771, 827, 883, 946, 1009, 1065, 1144, 1223, 1279, 1370, 1437, 1493, 1593, 1660, 1752, 1808, 1863, 1876, 1901, 1914, 1927, 1941, 1954, 2034, 2101, 2180, 2272, 2328, 2339], 176)) (by omega) (by omega) (by rw [c6]; decide) (by decide) (?_ : XW _ _ _ _ _ _ _ 1533 _ _)
        exact vc
      by_cases e23 : j = 23
      · subst e23
        have c6 : ((xs x4.toNatClampNeg) &&& 63) = 23 := c7.trans (by decide)
        replace vc := vc.2.2.2.2.2.2.2.2.2.2.2.2.2.2.2.2.2.2.2.2.2.2.2.1 c6
        refine xi_tableIn (off := 1593) (by decide +kernel : decode mL_law.2.1 40 = .ok (.tableswitch 2352 0 39 #[176, 249, 305, 318, 374, 442, 510, 566, 634, 647, 703, 771, 827, 883, 946, 1009, 1065, 1144, 1223, 1279, 1370, 1437, 1493, 1593, 1660, 1752, 1808, 1863, 1876, 1901, 1914, 1927, 1941, 1954, 2034, 2101, 2180, 2272, 2328, 2339], 176)) (by omega) (by omega) (by rw [c6]; decide) (by decide) (?_ : XW _ _ _ _ _ _ _ 1633 _ _)
        exact vc
      by_cases e24 : j = 24
      · subst e24
        have c6 : ((xs x4.toNatClampNeg) &&& 63) = 24 := c7.trans (by decide)
        replace vc := vc.2.2.2.2.2.2.2.2.2.2.2.2.2.2.2.2.2.2.2.2.2.2.2.2.1 c6
        refine xi_tableIn (off := 1660) (by decide +kernel : decode mL_law.2.1 40 = .ok (.tableswitch 2352 0 39 #[176, 249, 305, 318, 374, 442, 510, 566, 634, 647, 703, 771, 827, 883, 946, 1009, 1065, 1144, 1223, 1279, 1370, 1437, 1493, 1593, 1660, 1752, 1808, 1863, 1876, 1901, 1914, 1927, 1941, 1954, 2034, 2101, 2180, 2272, 2328, 2339], 176)) (by omega) (by omega) (by rw [c6]; decide) (by decide) (?_ : XW _ _ _ _ _ _ _ 1700 _ _)
        exact vc
      by_cases e25 : j = 25
      · subst e25
        have c6 : ((xs x4.toNatClampNeg) &&& 63) = 25 := c7.trans (by decide)
        replace vc := vc.2.2.2.2.2.2.2.2.2.2.2.2.2.2.2.2.2.2.2.2.2.2.2.2.2.1 c6
        refine xi_tableIn (off := 1752) (by decide +kernel : decode mL_law.2.1 40 = .ok (.tableswitch 2352 0 39 #[176, 249, 305, 318, 374, 442, 510, 566, 634, 647, 703, 771, 827, 883, 946, 1009, 1065, 1144, 1223, 1279, 1370, 1437, 1493, 1593, 1660, 1752, 1808, 1863, 1876, 1901, 1914, 1927, 1941, 1954, 2034, 2101, 2180, 2272, 2328, 2339], 176)) (by omega) (by omega) (by rw [c6]; decide) (by decide) (?_ : XW _ _ _ _ _ _ _ 1792 _ _)
        exact vc
      by_cases e26 : j = 26
      · subst e26
        have c6 : ((xs x4.toNatClampNeg) &&& 63) = 26 := c7.trans (by decide)
        replace vc := vc.2.2.2.2.2.2.2.2.2.2.2.2.2.2.2.2.2.2.2.2.2.2.2.2.2.2.1 c6
        refine xi_tableIn (off := 1808) (by decide +kernel : decode mL_law.2.1 40 = .ok (.tableswitch 2352 0 39 #[176, 249, 305, 318, 374, 442, 510, 566, 634, 647, 703, 771, 827, 883, 946, 1009, 1065, 1144, 1223, 1279, 1370, 1437, 1493, 1593, 1660, 1752, 1808, 1863, 1876, 1901, 1914, 1927, 1941, 1954, 2034, 2101, 2180, 2272, 2328, 2339], 176)) (by omega) (by omega) (by rw [c6]; decide) (by decide) (?_ : XW _ _ _ _ _ _ _ 1848 _ _)
        exact vc
      by_cases e27 : j = 27
      · subst e27
        have c6 : ((xs x4.toNatClampNeg) &&& 63) = 27 := c7.trans (by decide)
        replace vc := vc.2.2.2.2.2.2.2.2.2.2.2.2.2.2.2.2.2.2.2.2.2.2.2.2.2.2.2.1 c6
        refine xi_tableIn (off := 1863) (by decide +kernel : decode mL_law.2.1 40 = .ok (.tableswitch 2352 0 39 #[176, 249, 305, 318, 374, 442, 510, 566, 634, 647, 703, 771, 827, 883, 946, 1009, 1065, 1144, 1223, 1279, 1370, 1437, 1493, 1593, 1660, 1752, 1808, 1863, 1876, 1901, 1914, 1927, 1941, 1954, 2034, 2101, 2180, 2272, 2328, 2339], 176)) (by omega) (by omega) (by rw [c6]; decide) (by decide) (?_ : XW _ _ _ _ _ _ _ 1903 _ _)
        exact vc
      by_cases e28 : j = 28
      · subst e28
        have c6 : ((xs x4.toNatClampNeg) &&& 63) = 28 := c7.trans (by decide)
        replace vc := vc.2.2.2.2.2.2.2.2.2.2.2.2.2.2.2.2.2.2.2.2.2.2.2.2.2.2.2.2.1 c6
        refine xi_tableIn (off := 1876) (by decide +kernel : decode mL_law.2.1 40 = .ok (.tableswitch 2352 0 39 #[176, 249, 305, 318, 374, 442, 510, 566, 634, 647, 703, 771, 827, 883, 946, 1009, 1065, 1144, 1223, 1279, 1370, 1437, 1493, 1593, 1660, 1752, 1808, 1863, 1876, 1901, 1914, 1927, 1941, 1954, 2034, 2101, 2180, 2272, 2328, 2339], 176)) (by omega) (by omega) (by rw [c6]; decide) (by decide) (?_ : XW _ _ _ _ _ _ _ 1916 _ _)
        exact vc
      by_cases e29 : j = 29
      · subst e29
        have c6 : ((xs x4.toNatClampNeg) &&& 63) = 29 := c7.trans (by decide)
        replace vc := vc.2.2.2.2.2.2.2.2.2.2.2.2.2.2.2.2.2.2.2.2.2.2.2.2.2.2.2.2.2.1 c6
        refine xi_tableIn (off := 1901) (by decide +kernel : decode mL_law.2.1 40 = .ok (.tableswitch 2352 0 39 #[176, 249, 305, 318, 374, 442, 510, 566, 634, 647, 703, 771, 827, 883, 946, 1009, 1065, 1144, 1223, 1279, 1370, 1437, 1493, 1593, 1660, 1752, 1808, 1863, 1876, 1901, 1914, 1927, 1941, 1954, 2034, 2101, 2180, 2272, 2328, 2339], 176)) (by omega) (by omega) (by rw [c6]; decide) (by decide) (?_ : XW _ _ _ _ _ _ _ 1941 _ _)
        exact vc
      by_cases e30 : j = 30
      · subst e30
        have c6 : ((xs x4.toNatClampNeg) &&& 63) = 30 := c7.trans (by decide)
        replace vc := vc.2.2.2.2.2.2.2.2.2.2.2.2.2.2.2.2.2.2.2.2.2.2.2.2.2.2.2.2.2.2.1 c6
        refine xi_tableIn (off := 1914) (by decide +kernel : decode mL_law.2.1 40 = .ok (.tableswitch 2352 0 39 #[176, 249, 305, 318, 374, 442, 510, 566, 634, 647, 703, 771, 827, 883, 946, 1009, 1065, 1144, 1223, 1279, 1370, 1437, 1493, 1593, 1660, 1752, 1808, 1863, 1876, 1901, 1914, 1927, 1941, 1954, 2034, 2101, 2180, 2272, 2328, 2339], 176)) (by omega) (by omega) (by rw [c6]; decide) (by decide) (?_ : XW _ _ _ _ _ _ _ 1954 _ _)
        exact vc
      by_cases e31 : j = 31
      · subst e31
        have c6 : ((xs x4.toNatClampNeg) &&& 63) = 31 := c7.trans (by decide)
        replace vc := vc.2.2.2.2.2.2.2.2.2.2.2.2.2.2.2.2.2.2.2.2.2.2.2.2.2.2.2.2.2.2.2.1 c6
        refine xi_tableIn (off := 1927) (by decide +kernel : decode mL_law.2.1 40 = .ok (.tableswitch 2352 0 39 #[176, 249, 305, 318, 374, 442, 510, 566, 634, 647, 703, 771, 827, 883, 946, 1009, 1065, 1144, 1223, 1279, 1370, 1437, 1493, 1593, 1660, 1752, 1808, 1863, 1876, 1901, 1914, 1927, 1941, 1954, 2034, 2101, 2180, 2272, 2328, 2339], 176)) (by omega) (by omega) (by rw [c6]; decide) (by decide) (?_ : XW _ _ _ _ _ _ _ 1967 _ _)
        exact vc
      by_cases e32 : j = 32
      · subst e32
        have c6 : ((xs x4.toNatClampNeg) &&& 63) = 32 := c7.trans (by decide)
        replace vc := vc.2.2.2.2.2.2.2.2.2.2.2.2.2.2.2.2.2.2.2.2.2.2.2.2.2.2.2.2.2.2.2.2.1 c6
        refine xi_tableIn (off := 1941) (by decide +kernel : decode mL_law.2.1 40 = .ok (.tableswitch 2352 0 39 #[176, 249, 305, 318, 374, 442, 510, 566, 634, 647, 703, 771, 827, 883, 946, 1009, 1065, 1144, 1223, 1279, 1370, 1437, 1493, 1593, 1660, 1752, 1808, 1863, 1876, 1901, 1914, 1927, 1941, 1954, 2034, 2101, 2180, 2272, 2328, 2339], 176)) (by omega) (by omega) (by rw [c6]; decide) (by decide) (?_ : XW _ _ _ _ _ _ _ 1981 _ _)
        exact vc
      by_cases e33 : j = 33
      · subst e33
        have c6 : ((xs x4.toNatClampNeg) &&& 63) = 33 := c7.trans (by decide)
        replace vc := vc.2.2.2.2.2.2.2.2.2.2.2.2.2.2.2.2.2.2.2.2.2.2.2.2.2.2.2.2.2.2.2.2.2.1 c6
        refine xi_tableIn (off := 1954) (by decide +kernel : decode mL_law.2.1 40 = .ok (.tableswitch 2352 0 39 #[176, 249, 305, 318, 374, 442, 510, 566, 634, 647, 703, 771, 827, 883, 946, 1009, 1065, 1144, 1223, 1279, 1370, 1437, 1493, 1593, 1660, 1752, 1808, 1863, 1876, 1901, 1914, 1927, 1941, 1954, 2034, 2101, 2180, 2272, 2328, 2339], 176)) (by omega) (by omega) (by rw [c6]; decide) (by decide) (?_ : XW _ _ _ _ _ _ _ 1994 _ _)
        exact vc
      by_cases e34 : j = 34
      · subst e34
        have c6 : ((xs x4.toNatClampNeg) &&& 63) = 34 := c7.trans (by decide)
        replace vc := vc.2.2.2.2.2.2.2.2.2.2.2.2.2.2.2.2.2.2.2.2.2.2.2.2.2.2.2.2.2.2.2.2.2.2.1 c6
        refine xi_tableIn (off := 2034) (by decide +kernel : decode mL_law.2.1 40 = .ok (.tableswitch 2352 0 39 #[176, 249, 305, 318, 374, 442, 510, 566, 634, 647, 703, 771, 827, 883, 946, 1009, 1065, 1144, 1223, 1279, 1370, 1437, 1493, 1593, 1660, 1752, 1808, 1863, 1876, 1901, 1914, 1927, 1941, 1954, 2034, 2101, 2180, 2272, 2328, 2339], 176)) (by omega) (by omega) (by rw [c6]; decide) (by decide) (?_ : XW _ _ _ _ _ _ _ 2074 _ _)
        exact vc
      by_cases e35 : j = 35
      · subst e35
        have c6 : ((xs x4.toNatClampNeg) &&& 63) = 35 := c7.trans (by decide)
        replace vc := vc.2.2.2.2.2.2.2.2.2.2.2.2.2.2.2.2.2.2.2.2.2.2.2.2.2.2.2.2.2.2.2.2.2.2.2.1 c6
        refine xi_tableIn (off := 2101) (by decide +kernel : decode mL_law.2.1 40 = .ok (.tableswitch 2352 0 39 #[176, 249, 305, 318, 374, 442, 510, 566, 634, 647, 703, 771, 827, 883, 946, 1009, 1065, 1144, 1223, 1279, 1370, 1437, 1493, 1593, 1660, 1752, 1808, 1863, 1876, 1901, 1914, 1927, 1941, 1954, 2034, 2101, 2180, 2272, 2328, 2339], 176)) (by omega) (by omega) (by rw [c6]; decide) (by decide) (?_ : XW _ _ _ _ _ _ _ 2141 _ _)
        exact vc
      by_cases e36 : j = 36
      · subst e36
        have c6 : ((xs x4.toNatClampNeg) &&& 63) = 36 := c7.trans (by decide)
        replace vc := vc.2.2.2.2.2.2.2.2.2.2.2.2.2.2.2.2.2.2.2.2.2.2.2.2.2.2.2.2.2.2.2.2.2.2.2.2.1 c6
        refine xi_tableIn (off := 2180) (by decide +kernel : decode mL_law.2.1 40 = .ok (.tableswitch 2352 0 39 #[176, 249, 305, 318, 374, 442, 510, 566, 634, 647, 703, 771, 827, 883, 946, 1009, 1065, 1144, 1223, 1279, 1370, 1437, 1493, 1593, 1660, 1752, 1808, 1863, 1876, 1901, 1914, 1927, 1941, 1954, 2034, 2101, 2180, 2272, 2328, 2339], 176)) (by omega) (by omega) (by rw [c6]; decide) (by decide) (?_ : XW _ _ _ _ _ _ _ 2220 _ _)
        exact vc
      by_cases e37 : j = 37
      · subst e37
        have c6 : ((xs x4.toNatClampNeg) &&& 63) = 37 := c7.trans (by decide)
        replace vc := vc.2.2.2.2.2.2.2.2.2.2.2.2.2.2.2.2.2.2.2.2.2.2.2.2.2.2.2.2.2.2.2.2.2.2.2.2.2.1 c6
        refine xi_tableIn (off := 2272) (by decide +kernel : decode mL_law.2.1 40 = .ok (.tableswitch 2352 0 39 #[176, 249, 305, 318, 374, 442, 510, 566, 634, 647, 703, 771, 827, 883, 946, 1009, 1065, 1144, 1223, 1279, 1370, 1437, 1493, 1593, 1660, 1752, 1808, 1863, 1876, 1901, 1914, 1927, 1941, 1954, 2034, 2101, 2180, 2272, 2328, 2339], 176)) (by omega) (by omega) (by rw [c6]; decide) (by decide) (?_ : XW _ _ _ _ _ _ _ 2312 _ _)
        exact vc
      by_cases e38 : j = 38
      · subst e38
        have c6 : ((xs x4.toNatClampNeg) &&& 63) = 38 := c7.trans (by decide)
        replace vc := vc.2.2.2.2.2.2.2.2.2.2.2.2.2.2.2.2.2.2.2.2.2.2.2.2.2.2.2.2.2.2.2.2.2.2.2.2.2.2.1 c6
        refine xi_tableIn (off := 2328) (by decide +kernel : decode mL_law.2.1 40 = .ok (.tableswitch 2352 0 39 #[176, 249, 305, 318, 374, 442, 510, 566, 634, 647, 703, 771, 827, 883, 946, 1009, 1065, 1144, 1223, 1279, 1370, 1437, 1493, 1593, 1660, 1752, 1808, 1863, 1876, 1901, 1914, 1927, 1941, 1954, 2034, 2101, 2180, 2272, 2328, 2339], 176)) (by omega) (by omega) (by rw [c6]; decide) (by decide) (?_ : XW _ _ _ _ _ _ _ 2368 _ _)
        exact vc
      by_cases e39 : j = 39
      · subst e39
        have c6 : ((xs x4.toNatClampNeg) &&& 63) = 39 := c7.trans (by decide)
        replace vc := vc.2.2.2.2.2.2.2.2.2.2.2.2.2.2.2.2.2.2.2.2.2.2.2.2.2.2.2.2.2.2.2.2.2.2.2.2.2.2.2.1 c6
        refine xi_tableIn (off := 2339) (by decide +kernel : decode mL_law.2.1 40 = .ok (.tableswitch 2352 0 39 #[176, 249, 305, 318, 374, 442, 510, 566, 634, 647, 703, 771, 827, 883, 946, 1009, 1065, 1144, 1223, 1279, 1370, 1437, 1493, 1593, 1660, 1752, 1808, 1863, 1876, 1901, 1914, 1927, 1941, 1954, 2034, 2101, 2180, 2272, 2328, 2339], 176)) (by omega) (by omega) (by rw [c6]; decide) (by decide) (?_ : XW _ _ _ _ _ _ _ 2379 _ _)
        exact vc
      omega

set_option maxRecDepth 20000 in
theorem v_L_law_2392 {h : XH} {Q : Option Value → XH → Prop} {X : String → XH → Prop} (xs : Nat → Int32) (L B S : Nat)  (x4 : Int32)
    (vc : XW room_1 mL_law (xEL xs L) 100 B S h 23 [some (.ref 3000), some (.ref 0), some (.ref 56), some (.ref 99), some (.int (x4 + 6)), none, none, none] []) :
    XW room_1 mL_law (xEL xs L) 100 B S h 2392 [some (.ref 3000), some (.ref 0), some (.ref 56), some (.ref 99), some (.int x4), none, none, none] [] := by
  refine xi_iinc (v := x4 + 6) (ls' := [some (.ref 3000), some (.ref 0), some (.ref 56), some (.ref 99), some (.int (x4 + 6)), none, none, none]) (by decide +kernel : decode mL_law.2.1 2392 = .ok (.iinc 4 6, 3)) rfl rfl (by decide) rfl (?_ : XW _ _ _ _ _ _ _ 2395 _ _)
  refine xi_goto (by decide +kernel : decode mL_law.2.1 2395 = .ok (.goto (-2372), 3)) (by decide) (?_ : XW _ _ _ _ _ _ _ 23 _ _)
  exact vc

