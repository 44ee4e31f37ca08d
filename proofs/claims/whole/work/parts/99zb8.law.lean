/-! THE LAW: its walk, part 8 -/
set_option maxRecDepth 20000 in
theorem v_L_law_2141 {h : XH} {Q : Option Value → XH → Prop} {X : String → XH → Prop} (xs : Nat → Int32) (L B S : Nat)  (x4 : Int32)
    (vc : (vp_in (x4 + 1) L) ∧ ((vp_in (x4 + 2) L) ∧ ((vp_in (x4 + 3) L) ∧ (∃ Q1, XSpecH mL_together 9 3 18 100 100 [.ref 0, .int (xs (x4 + 1).toNatClampNeg), .int (xs (x4 + 2).toNatClampNeg), .int (xs (x4 + 3).toNatClampNeg), .ref 99] h Q1 ∧ ∀ v h1, Q1 v h1 → ∃ r1 : Int32, v = some (.int r1) ∧ ((vp_in (x4 + 1) L) ∧ ((vp_in (x4 + 2) L) ∧ ((vp_in (x4 + 3) L) ∧ (∃ Q1, XSpec mX11_together 6 0 0 100 100 [.ref 56, .int (xs (x4 + 1).toNatClampNeg), .int (xs (x4 + 2).toNatClampNeg), .int (xs (x4 + 3).toNatClampNeg)] h1 Q1 xno ∧ ∀ v h2, Q1 v h2 → xL h2 99 0 = xL h1 99 0 → ∃ r2 : Int64, v = some (.long r2) ∧ (∃ Q1, XSpec mX11_thrown 1 0 0 100 100 [.ref 56] h2 Q1 xno ∧ ∀ v h3, Q1 v h3 → xL h3 99 0 = xL h2 99 0 → ∃ r3 : Int32, v = some (.int r3) ∧ ((r3 = r1 → (¬ r1 = 0 → XW room_1 mL_law (xEL xs L) 100 B S h3 2392 [some (.ref 3000), some (.ref 0), some (.ref 56), some (.ref 99), some (.int x4), none, none, none] []) ∧ (r1 = 0 → ((lg_cmp (xL h3 99 0) r2) = 0 → XW room_1 mL_law (xEL xs L) 100 B S h3 2392 [some (.ref 3000), some (.ref 0), some (.ref 56), some (.ref 99), some (.int x4), none, none, none] []) ∧ (¬ (lg_cmp (xL h3 99 0) r2) = 0 → False))) ∧ (¬ r3 = r1 → False))))))))))) :
    XW room_1 mL_law (xEL xs L) 100 (B + 4) (S + 24) h 2141 [some (.ref 3000), some (.ref 0), some (.ref 56), some (.ref 99), some (.int x4), none, none, none] [] := by
  refine xi_aload_n (by decide +kernel : decode mL_law.2.1 2141 = .ok (.aload_n 1, 1)) rfl rfl (?_ : XW _ _ _ _ _ _ _ 2142 _ _)
  refine xi_aload_n (by decide +kernel : decode mL_law.2.1 2142 = .ok (.aload_n 0, 1)) rfl rfl (?_ : XW _ _ _ _ _ _ _ 2143 _ _)
  refine xi_iload (by decide +kernel : decode mL_law.2.1 2143 = .ok (.iload 4, 2)) rfl (?_ : XW _ _ _ _ _ _ _ 2145 _ _)
  refine xi_iconst (v := 1) (by decide +kernel : decode mL_law.2.1 2145 = .ok (.iconst 1, 1)) (by decide) (?_ : XW _ _ _ _ _ _ _ 2146 _ _)
  refine xi_iadd (by decide +kernel : decode mL_law.2.1 2146 = .ok (.iadd, 1)) (?_ : XW _ _ _ _ _ _ _ 2147 _ _)
  obtain ⟨s1, vc⟩ := vc
  refine xi_sldS (by decide +kernel : decode mL_law.2.1 2147 = .ok (.iaload, 1)) s1 (?_ : XW _ _ _ _ _ _ _ 2148 _ _)
  refine xi_aload_n (by decide +kernel : decode mL_law.2.1 2148 = .ok (.aload_n 0, 1)) rfl rfl (?_ : XW _ _ _ _ _ _ _ 2149 _ _)
  refine xi_iload (by decide +kernel : decode mL_law.2.1 2149 = .ok (.iload 4, 2)) rfl (?_ : XW _ _ _ _ _ _ _ 2151 _ _)
  refine xi_iconst (v := 2) (by decide +kernel : decode mL_law.2.1 2151 = .ok (.iconst 2, 1)) (by decide) (?_ : XW _ _ _ _ _ _ _ 2152 _ _)
  refine xi_iadd (by decide +kernel : decode mL_law.2.1 2152 = .ok (.iadd, 1)) (?_ : XW _ _ _ _ _ _ _ 2153 _ _)
  obtain ⟨s1, vc⟩ := vc
  refine xi_sldS (by decide +kernel : decode mL_law.2.1 2153 = .ok (.iaload, 1)) s1 (?_ : XW _ _ _ _ _ _ _ 2154 _ _)
  refine xi_aload_n (by decide +kernel : decode mL_law.2.1 2154 = .ok (.aload_n 0, 1)) rfl rfl (?_ : XW _ _ _ _ _ _ _ 2155 _ _)
  refine xi_iload (by decide +kernel : decode mL_law.2.1 2155 = .ok (.iload 4, 2)) rfl (?_ : XW _ _ _ _ _ _ _ 2157 _ _)
  refine xi_iconst (v := 3) (by decide +kernel : decode mL_law.2.1 2157 = .ok (.iconst 3, 1)) (by decide) (?_ : XW _ _ _ _ _ _ _ 2158 _ _)
  refine xi_iadd (by decide +kernel : decode mL_law.2.1 2158 = .ok (.iadd, 1)) (?_ : XW _ _ _ _ _ _ _ 2159 _ _)
  obtain ⟨s1, vc⟩ := vc
  refine xi_sldS (by decide +kernel : decode mL_law.2.1 2159 = .ok (.iaload, 1)) s1 (?_ : XW _ _ _ _ _ _ _ 2160 _ _)
  refine xi_aload_n (by decide +kernel : decode mL_law.2.1 2160 = .ok (.aload_n 3, 1)) rfl rfl (?_ : XW _ _ _ _ _ _ _ 2161 _ _)
  obtain ⟨Q1, sp, vc⟩ := vc
  refine xi_callSH (b := B + 1) (bs := S + 6) (As := [.ref 0, .int (xs (x4 + 1).toNatClampNeg), .int (xs (x4 + 2).toNatClampNeg), .int (xs (x4 + 3).toNatClampNeg), .ref 99]) (st := []) (by decide +kernel : decode mL_law.2.1 2161 = .ok (.invokestatic 243, 3)) kL_243 rfl rfl sp (by decide) (by decide) (Nat.le_of_ble_eq_true rfl) (by omega) (fun v9 h1 hq9 => ?_)
  obtain ⟨r1, e9, vc⟩ := vc v9 h1 hq9
  subst e9
  show XW _ _ _ _ _ _ _ 2164 _ [.int r1]
  refine xi_istore (ls' := [some (.ref 3000), some (.ref 0), some (.ref 56), some (.ref 99), some (.int x4), some (.int r1), none, none]) (by decide +kernel : decode mL_law.2.1 2164 = .ok (.istore 5, 2)) (by decide) rfl (?_ : XW _ _ _ _ _ _ _ 2166 _ _)
  refine xi_aload_n (by decide +kernel : decode mL_law.2.1 2166 = .ok (.aload_n 2, 1)) rfl rfl (?_ : XW _ _ _ _ _ _ _ 2167 _ _)
  refine xi_aload_n (by decide +kernel : decode mL_law.2.1 2167 = .ok (.aload_n 0, 1)) rfl rfl (?_ : XW _ _ _ _ _ _ _ 2168 _ _)
  refine xi_iload (by decide +kernel : decode mL_law.2.1 2168 = .ok (.iload 4, 2)) rfl (?_ : XW _ _ _ _ _ _ _ 2170 _ _)
  refine xi_iconst (v := 1) (by decide +kernel : decode mL_law.2.1 2170 = .ok (.iconst 1, 1)) (by decide) (?_ : XW _ _ _ _ _ _ _ 2171 _ _)
  refine xi_iadd (by decide +kernel : decode mL_law.2.1 2171 = .ok (.iadd, 1)) (?_ : XW _ _ _ _ _ _ _ 2172 _ _)
  obtain ⟨s1, vc⟩ := vc
  refine xi_sldS (by decide +kernel : decode mL_law.2.1 2172 = .ok (.iaload, 1)) s1 (?_ : XW _ _ _ _ _ _ _ 2173 _ _)
  refine xi_aload_n (by decide +kernel : decode mL_law.2.1 2173 = .ok (.aload_n 0, 1)) rfl rfl (?_ : XW _ _ _ _ _ _ _ 2174 _ _)
  refine xi_iload (by decide +kernel : decode mL_law.2.1 2174 = .ok (.iload 4, 2)) rfl (?_ : XW _ _ _ _ _ _ _ 2176 _ _)
  refine xi_iconst (v := 2) (by decide +kernel : decode mL_law.2.1 2176 = .ok (.iconst 2, 1)) (by decide) (?_ : XW _ _ _ _ _ _ _ 2177 _ _)
  refine xi_iadd (by decide +kernel : decode mL_law.2.1 2177 = .ok (.iadd, 1)) (?_ : XW _ _ _ _ _ _ _ 2178 _ _)
  obtain ⟨s1, vc⟩ := vc
  refine xi_sldS (by decide +kernel : decode mL_law.2.1 2178 = .ok (.iaload, 1)) s1 (?_ : XW _ _ _ _ _ _ _ 2179 _ _)
  refine xi_aload_n (by decide +kernel : decode mL_law.2.1 2179 = .ok (.aload_n 0, 1)) rfl rfl (?_ : XW _ _ _ _ _ _ _ 2180 _ _)
  refine xi_iload (by decide +kernel : decode mL_law.2.1 2180 = .ok (.iload 4, 2)) rfl (?_ : XW _ _ _ _ _ _ _ 2182 _ _)
  refine xi_iconst (v := 3) (by decide +kernel : decode mL_law.2.1 2182 = .ok (.iconst 3, 1)) (by decide) (?_ : XW _ _ _ _ _ _ _ 2183 _ _)
  refine xi_iadd (by decide +kernel : decode mL_law.2.1 2183 = .ok (.iadd, 1)) (?_ : XW _ _ _ _ _ _ _ 2184 _ _)
  obtain ⟨s1, vc⟩ := vc
  refine xi_sldS (by decide +kernel : decode mL_law.2.1 2184 = .ok (.iaload, 1)) s1 (?_ : XW _ _ _ _ _ _ _ 2185 _ _)
  obtain ⟨Q1, sp, vc⟩ := vc
  refine xi_callVg (b := B + 1) (bs := S + 6) (As := [.int (xs (x4 + 1).toNatClampNeg), .int (xs (x4 + 2).toNatClampNeg), .int (xs (x4 + 3).toNatClampNeg)]) (st := []) (by decide +kernel : decode mL_law.2.1 2185 = .ok (.invokevirtual 245, 3)) kL_245 rfl rfl (by omega) rfl sp (by decide) (by decide) (Nat.le_of_ble_eq_true rfl) (by omega) (fun v9 h2 hq9 hx9 => ?_)
  obtain ⟨r2, e9, vc⟩ := vc v9 h2 hq9 hx9
  subst e9
  show XW _ _ _ _ _ _ _ 2188 _ [.long r2]
  refine xi_lstore (ls' := [some (.ref 3000), some (.ref 0), some (.ref 56), some (.ref 99), some (.int x4), some (.int r1), some (.long r2), none]) (by decide +kernel : decode mL_law.2.1 2188 = .ok (.lstore 6, 2)) (by decide) rfl (?_ : XW _ _ _ _ _ _ _ 2190 _ _)
  refine xi_aload_n (by decide +kernel : decode mL_law.2.1 2190 = .ok (.aload_n 2, 1)) rfl rfl (?_ : XW _ _ _ _ _ _ _ 2191 _ _)
  obtain ⟨Q1, sp, vc⟩ := vc
  refine xi_callVg (b := B + 1) (bs := S + 6) (As := []) (st := []) (by decide +kernel : decode mL_law.2.1 2191 = .ok (.invokevirtual 125, 3)) kL_125 rfl rfl (by omega) rfl sp (by decide) (by decide) (Nat.le_of_ble_eq_true rfl) (by omega) (fun v9 h3 hq9 hx9 => ?_)
  obtain ⟨r3, e9, vc⟩ := vc v9 h3 hq9 hx9
  subst e9
  show XW _ _ _ _ _ _ _ 2194 _ [.int r3]
  refine xi_iload (by decide +kernel : decode mL_law.2.1 2194 = .ok (.iload 5, 2)) rfl (?_ : XW _ _ _ _ _ _ _ 2196 _ _)
  refine xi_icmp_eq (by decide +kernel : decode mL_law.2.1 2196 = .ok (.if_icmp .eq 5, 3)) (by decide) (fun c => (?_ : XW _ _ _ _ _ _ _ 2201 _ _)) (fun c => (?_ : XW _ _ _ _ _ _ _ 2199 _ _))
  · replace vc := vc.1 c
    refine xi_iload (by decide +kernel : decode mL_law.2.1 2201 = .ok (.iload 5, 2)) rfl (?_ : XW _ _ _ _ _ _ _ 2203 _ _)
    refine xi_if_ne (by decide +kernel : decode mL_law.2.1 2203 = .ok (.ifCond .ne 14, 3)) (by decide) (fun c => (?_ : XW _ _ _ _ _ _ _ 2217 _ _)) (fun c => (?_ : XW _ _ _ _ _ _ _ 2206 _ _))
    · replace vc := vc.1 c
      refine xi_goto (by decide +kernel : decode mL_law.2.1 2217 = .ok (.goto 175, 3)) (by decide) (?_ : XW _ _ _ _ _ _ _ 2392 _ _)
      refine xw_drop 5 (ls' := [some (.ref 3000), some (.ref 0), some (.ref 56), some (.ref 99), some (.int x4), none, some (.long r2), none]) rfl ?_
      refine xw_drop 6 (ls' := [some (.ref 3000), some (.ref 0), some (.ref 56), some (.ref 99), some (.int x4), none, none, none]) rfl ?_
      refine xw_b (b' := B) (bs' := S) (by omega) (by omega) ?_
      exact vc
    · replace vc := vc.2 c
      refine xi_aload_n (by decide +kernel : decode mL_law.2.1 2206 = .ok (.aload_n 3, 1)) rfl rfl (?_ : XW _ _ _ _ _ _ _ 2207 _ _)
      refine xi_iconst (v := 0) (by decide +kernel : decode mL_law.2.1 2207 = .ok (.iconst 0, 1)) (by decide) (?_ : XW _ _ _ _ _ _ _ 2208 _ _)
      refine xi_lald (by decide +kernel : decode mL_law.2.1 2208 = .ok (.laload, 1)) rfl (by omega) (by unfold vp_in; decide) (?_ : XW _ _ _ _ _ _ _ 2209 _ [.long (xL h3 99 0)])
      refine xi_lload (by decide +kernel : decode mL_law.2.1 2209 = .ok (.lload 6, 2)) rfl (?_ : XW _ _ _ _ _ _ _ 2211 _ _)
      refine xi_lcmp (by decide +kernel : decode mL_law.2.1 2211 = .ok (.lcmp, 1)) (?_ : XW _ _ _ _ _ _ _ 2212 _ _)
      refine xi_if_eq (by decide +kernel : decode mL_law.2.1 2212 = .ok (.ifCond .eq 5, 3)) (by decide) (fun c => (?_ : XW _ _ _ _ _ _ _ 2217 _ _)) (fun c => (?_ : XW _ _ _ _ _ _ _ 2215 _ _))
      · replace vc := vc.1 c
        refine xi_goto (by decide +kernel : decode mL_law.2.1 2217 = .ok (.goto 175, 3)) (by decide) (?_ : XW _ _ _ _ _ _ _ 2392 _ _)
        refine xw_drop 5 (ls' := [some (.ref 3000), some (.ref 0), some (.ref 56), some (.ref 99), some (.int x4), none, some (.long r2), none]) rfl ?_
        refine xw_drop 6 (ls' := [some (.ref 3000), some (.ref 0), some (.ref 56), some (.ref 99), some (.int x4), none, none, none]) rfl ?_
        refine xw_b (b' := B) (bs' := S) (by omega) (by omega) ?_
        exact vc
      · replace vc := vc.2 c
        refine xi_iconst (v := 0) (by decide +kernel : decode mL_law.2.1 2215 = .ok (.iconst 0, 1)) (by decide) (?_ : XW _ _ _ _ _ _ _ 2216 _ _)
        exact vc.elim
  · replace vc := vc.2 c
    refine xi_iconst (v := 0) (by decide +kernel : decode mL_law.2.1 2199 = .ok (.iconst 0, 1)) (by decide) (?_ : XW _ _ _ _ _ _ _ 2200 _ _)
    exact vc.elim

set_option maxRecDepth 20000 in
theorem v_L_law_2220 {h : XH} {Q : Option Value → XH → Prop} {X : String → XH → Prop} (xs : Nat → Int32) (L B S : Nat)  (x4 : Int32)
    (vc : (vp_in (x4 + 1) L) ∧ ((vp_in (x4 + 2) L) ∧ ((vp_in (x4 + 3) L) ∧ ((vp_in (x4 + 4) L) ∧ (∃ Q1, XSpecH mL_whom 9 4 24 100 100 [.ref 0, .int (xs (x4 + 1).toNatClampNeg), .int (xs (x4 + 2).toNatClampNeg), .int (xs (x4 + 3).toNatClampNeg), .int (xs (x4 + 4).toNatClampNeg), .ref 99] h Q1 ∧ ∀ v h4, Q1 v h4 → ∃ r4 : Int32, v = some (.int r4) ∧ ((vp_in (x4 + 1) L) ∧ ((vp_in (x4 + 2) L) ∧ ((vp_in (x4 + 3) L) ∧ ((vp_in (x4 + 4) L) ∧ (∃ Q1, XSpec mX11_whom 6 0 0 100 100 [.ref 56, .int (xs (x4 + 1).toNatClampNeg), .int (xs (x4 + 2).toNatClampNeg), .int (xs (x4 + 3).toNatClampNeg), .int (xs (x4 + 4).toNatClampNeg)] h4 Q1 xno ∧ ∀ v h5, Q1 v h5 → xL h5 99 0 = xL h4 99 0 → ∃ r5 : Int32, v = some (.int r5) ∧ (∃ Q1, XSpec mX11_thrown 1 0 0 100 100 [.ref 56] h5 Q1 xno ∧ ∀ v h6, Q1 v h6 → xL h6 99 0 = xL h5 99 0 → ∃ r6 : Int32, v = some (.int r6) ∧ ((r6 = r4 → (¬ r4 = 0 → XW room_1 mL_law (xEL xs L) 100 B S h6 2392 [some (.ref 3000), some (.ref 0), some (.ref 56), some (.ref 99), some (.int x4), none, none, none] []) ∧ (r4 = 0 → ((lg_cmp (xL h6 99 0) (Int32.toInt64 r5)) = 0 → XW room_1 mL_law (xEL xs L) 100 B S h6 2392 [some (.ref 3000), some (.ref 0), some (.ref 56), some (.ref 99), some (.int x4), none, none, none] []) ∧ (¬ (lg_cmp (xL h6 99 0) (Int32.toInt64 r5)) = 0 → False))) ∧ (¬ r6 = r4 → False))))))))))))) :
    XW room_1 mL_law (xEL xs L) 100 (B + 4) (S + 24) h 2220 [some (.ref 3000), some (.ref 0), some (.ref 56), some (.ref 99), some (.int x4), none, none, none] [] := by
  refine xi_aload_n (by decide +kernel : decode mL_law.2.1 2220 = .ok (.aload_n 1, 1)) rfl rfl (?_ : XW _ _ _ _ _ _ _ 2221 _ _)
  refine xi_aload_n (by decide +kernel : decode mL_law.2.1 2221 = .ok (.aload_n 0, 1)) rfl rfl (?_ : XW _ _ _ _ _ _ _ 2222 _ _)
  refine xi_iload (by decide +kernel : decode mL_law.2.1 2222 = .ok (.iload 4, 2)) rfl (?_ : XW _ _ _ _ _ _ _ 2224 _ _)
  refine xi_iconst (v := 1) (by decide +kernel : decode mL_law.2.1 2224 = .ok (.iconst 1, 1)) (by decide) (?_ : XW _ _ _ _ _ _ _ 2225 _ _)
  refine xi_iadd (by decide +kernel : decode mL_law.2.1 2225 = .ok (.iadd, 1)) (?_ : XW _ _ _ _ _ _ _ 2226 _ _)
  obtain ⟨s1, vc⟩ := vc
  refine xi_sldS (by decide +kernel : decode mL_law.2.1 2226 = .ok (.iaload, 1)) s1 (?_ : XW _ _ _ _ _ _ _ 2227 _ _)
  refine xi_aload_n (by decide +kernel : decode mL_law.2.1 2227 = .ok (.aload_n 0, 1)) rfl rfl (?_ : XW _ _ _ _ _ _ _ 2228 _ _)
  refine xi_iload (by decide +kernel : decode mL_law.2.1 2228 = .ok (.iload 4, 2)) rfl (?_ : XW _ _ _ _ _ _ _ 2230 _ _)
  refine xi_iconst (v := 2) (by decide +kernel : decode mL_law.2.1 2230 = .ok (.iconst 2, 1)) (by decide) (?_ : XW _ _ _ _ _ _ _ 2231 _ _)
  refine xi_iadd (by decide +kernel : decode mL_law.2.1 2231 = .ok (.iadd, 1)) (?_ : XW _ _ _ _ _ _ _ 2232 _ _)
  obtain ⟨s1, vc⟩ := vc
  refine xi_sldS (by decide +kernel : decode mL_law.2.1 2232 = .ok (.iaload, 1)) s1 (?_ : XW _ _ _ _ _ _ _ 2233 _ _)
  refine xi_aload_n (by decide +kernel : decode mL_law.2.1 2233 = .ok (.aload_n 0, 1)) rfl rfl (?_ : XW _ _ _ _ _ _ _ 2234 _ _)
  refine xi_iload (by decide +kernel : decode mL_law.2.1 2234 = .ok (.iload 4, 2)) rfl (?_ : XW _ _ _ _ _ _ _ 2236 _ _)
  refine xi_iconst (v := 3) (by decide +kernel : decode mL_law.2.1 2236 = .ok (.iconst 3, 1)) (by decide) (?_ : XW _ _ _ _ _ _ _ 2237 _ _)
  refine xi_iadd (by decide +kernel : decode mL_law.2.1 2237 = .ok (.iadd, 1)) (?_ : XW _ _ _ _ _ _ _ 2238 _ _)
  obtain ⟨s1, vc⟩ := vc
  refine xi_sldS (by decide +kernel : decode mL_law.2.1 2238 = .ok (.iaload, 1)) s1 (?_ : XW _ _ _ _ _ _ _ 2239 _ _)
  refine xi_aload_n (by decide +kernel : decode mL_law.2.1 2239 = .ok (.aload_n 0, 1)) rfl rfl (?_ : XW _ _ _ _ _ _ _ 2240 _ _)
  refine xi_iload (by decide +kernel : decode mL_law.2.1 2240 = .ok (.iload 4, 2)) rfl (?_ : XW _ _ _ _ _ _ _ 2242 _ _)
  refine xi_iconst (v := 4) (by decide +kernel : decode mL_law.2.1 2242 = .ok (.iconst 4, 1)) (by decide) (?_ : XW _ _ _ _ _ _ _ 2243 _ _)
  refine xi_iadd (by decide +kernel : decode mL_law.2.1 2243 = .ok (.iadd, 1)) (?_ : XW _ _ _ _ _ _ _ 2244 _ _)
  obtain ⟨s1, vc⟩ := vc
  refine xi_sldS (by decide +kernel : decode mL_law.2.1 2244 = .ok (.iaload, 1)) s1 (?_ : XW _ _ _ _ _ _ _ 2245 _ _)
  refine xi_aload_n (by decide +kernel : decode mL_law.2.1 2245 = .ok (.aload_n 3, 1)) rfl rfl (?_ : XW _ _ _ _ _ _ _ 2246 _ _)
  obtain ⟨Q1, sp, vc⟩ := vc
  refine xi_callSH (b := B + 0) (bs := S + 0) (As := [.ref 0, .int (xs (x4 + 1).toNatClampNeg), .int (xs (x4 + 2).toNatClampNeg), .int (xs (x4 + 3).toNatClampNeg), .int (xs (x4 + 4).toNatClampNeg), .ref 99]) (st := []) (by decide +kernel : decode mL_law.2.1 2246 = .ok (.invokestatic 246, 3)) kL_246 rfl rfl sp (by decide) (by decide) (Nat.le_of_ble_eq_true rfl) (by omega) (fun v9 h4 hq9 => ?_)
  obtain ⟨r4, e9, vc⟩ := vc v9 h4 hq9
  subst e9
  show XW _ _ _ _ _ _ _ 2249 _ [.int r4]
  refine xi_istore (ls' := [some (.ref 3000), some (.ref 0), some (.ref 56), some (.ref 99), some (.int x4), some (.int r4), none, none]) (by decide +kernel : decode mL_law.2.1 2249 = .ok (.istore 5, 2)) (by decide) rfl (?_ : XW _ _ _ _ _ _ _ 2251 _ _)
  refine xi_aload_n (by decide +kernel : decode mL_law.2.1 2251 = .ok (.aload_n 2, 1)) rfl rfl (?_ : XW _ _ _ _ _ _ _ 2252 _ _)
  refine xi_aload_n (by decide +kernel : decode mL_law.2.1 2252 = .ok (.aload_n 0, 1)) rfl rfl (?_ : XW _ _ _ _ _ _ _ 2253 _ _)
  refine xi_iload (by decide +kernel : decode mL_law.2.1 2253 = .ok (.iload 4, 2)) rfl (?_ : XW _ _ _ _ _ _ _ 2255 _ _)
  refine xi_iconst (v := 1) (by decide +kernel : decode mL_law.2.1 2255 = .ok (.iconst 1, 1)) (by decide) (?_ : XW _ _ _ _ _ _ _ 2256 _ _)
  refine xi_iadd (by decide +kernel : decode mL_law.2.1 2256 = .ok (.iadd, 1)) (?_ : XW _ _ _ _ _ _ _ 2257 _ _)
  obtain ⟨s1, vc⟩ := vc
  refine xi_sldS (by decide +kernel : decode mL_law.2.1 2257 = .ok (.iaload, 1)) s1 (?_ : XW _ _ _ _ _ _ _ 2258 _ _)
  refine xi_aload_n (by decide +kernel : decode mL_law.2.1 2258 = .ok (.aload_n 0, 1)) rfl rfl (?_ : XW _ _ _ _ _ _ _ 2259 _ _)
  refine xi_iload (by decide +kernel : decode mL_law.2.1 2259 = .ok (.iload 4, 2)) rfl (?_ : XW _ _ _ _ _ _ _ 2261 _ _)
  refine xi_iconst (v := 2) (by decide +kernel : decode mL_law.2.1 2261 = .ok (.iconst 2, 1)) (by decide) (?_ : XW _ _ _ _ _ _ _ 2262 _ _)
  refine xi_iadd (by decide +kernel : decode mL_law.2.1 2262 = .ok (.iadd, 1)) (?_ : XW _ _ _ _ _ _ _ 2263 _ _)
  obtain ⟨s1, vc⟩ := vc
  refine xi_sldS (by decide +kernel : decode mL_law.2.1 2263 = .ok (.iaload, 1)) s1 (?_ : XW _ _ _ _ _ _ _ 2264 _ _)
  refine xi_aload_n (by decide +kernel : decode mL_law.2.1 2264 = .ok (.aload_n 0, 1)) rfl rfl (?_ : XW _ _ _ _ _ _ _ 2265 _ _)
  refine xi_iload (by decide +kernel : decode mL_law.2.1 2265 = .ok (.iload 4, 2)) rfl (?_ : XW _ _ _ _ _ _ _ 2267 _ _)
  refine xi_iconst (v := 3) (by decide +kernel : decode mL_law.2.1 2267 = .ok (.iconst 3, 1)) (by decide) (?_ : XW _ _ _ _ _ _ _ 2268 _ _)
  refine xi_iadd (by decide +kernel : decode mL_law.2.1 2268 = .ok (.iadd, 1)) (?_ : XW _ _ _ _ _ _ _ 2269 _ _)
  obtain ⟨s1, vc⟩ := vc
  refine xi_sldS (by decide +kernel : decode mL_law.2.1 2269 = .ok (.iaload, 1)) s1 (?_ : XW _ _ _ _ _ _ _ 2270 _ _)
  refine xi_aload_n (by decide +kernel : decode mL_law.2.1 2270 = .ok (.aload_n 0, 1)) rfl rfl (?_ : XW _ _ _ _ _ _ _ 2271 _ _)
  refine xi_iload (by decide +kernel : decode mL_law.2.1 2271 = .ok (.iload 4, 2)) rfl (?_ : XW _ _ _ _ _ _ _ 2273 _ _)
  refine xi_iconst (v := 4) (by decide +kernel : decode mL_law.2.1 2273 = .ok (.iconst 4, 1)) (by decide) (?_ : XW _ _ _ _ _ _ _ 2274 _ _)
  refine xi_iadd (by decide +kernel : decode mL_law.2.1 2274 = .ok (.iadd, 1)) (?_ : XW _ _ _ _ _ _ _ 2275 _ _)
  obtain ⟨s1, vc⟩ := vc
  refine xi_sldS (by decide +kernel : decode mL_law.2.1 2275 = .ok (.iaload, 1)) s1 (?_ : XW _ _ _ _ _ _ _ 2276 _ _)
  obtain ⟨Q1, sp, vc⟩ := vc
  refine xi_callVg (b := B + 0) (bs := S + 0) (As := [.int (xs (x4 + 1).toNatClampNeg), .int (xs (x4 + 2).toNatClampNeg), .int (xs (x4 + 3).toNatClampNeg), .int (xs (x4 + 4).toNatClampNeg)]) (st := []) (by decide +kernel : decode mL_law.2.1 2276 = .ok (.invokevirtual 248, 3)) kL_248 rfl rfl (by omega) rfl sp (by decide) (by decide) (Nat.le_of_ble_eq_true rfl) (by omega) (fun v9 h5 hq9 hx9 => ?_)
  obtain ⟨r5, e9, vc⟩ := vc v9 h5 hq9 hx9
  subst e9
  show XW _ _ _ _ _ _ _ 2279 _ [.int r5]
  refine xi_istore (ls' := [some (.ref 3000), some (.ref 0), some (.ref 56), some (.ref 99), some (.int x4), some (.int r4), some (.int r5), none]) (by decide +kernel : decode mL_law.2.1 2279 = .ok (.istore 6, 2)) (by decide) rfl (?_ : XW _ _ _ _ _ _ _ 2281 _ _)
  refine xi_aload_n (by decide +kernel : decode mL_law.2.1 2281 = .ok (.aload_n 2, 1)) rfl rfl (?_ : XW _ _ _ _ _ _ _ 2282 _ _)
  obtain ⟨Q1, sp, vc⟩ := vc
  refine xi_callVg (b := B + 0) (bs := S + 0) (As := []) (st := []) (by decide +kernel : decode mL_law.2.1 2282 = .ok (.invokevirtual 125, 3)) kL_125 rfl rfl (by omega) rfl sp (by decide) (by decide) (Nat.le_of_ble_eq_true rfl) (by omega) (fun v9 h6 hq9 hx9 => ?_)
  obtain ⟨r6, e9, vc⟩ := vc v9 h6 hq9 hx9
  subst e9
  show XW _ _ _ _ _ _ _ 2285 _ [.int r6]
  refine xi_iload (by decide +kernel : decode mL_law.2.1 2285 = .ok (.iload 5, 2)) rfl (?_ : XW _ _ _ _ _ _ _ 2287 _ _)
  refine xi_icmp_eq (by decide +kernel : decode mL_law.2.1 2287 = .ok (.if_icmp .eq 5, 3)) (by decide) (fun c => (?_ : XW _ _ _ _ _ _ _ 2292 _ _)) (fun c => (?_ : XW _ _ _ _ _ _ _ 2290 _ _))
  · replace vc := vc.1 c
    refine xi_iload (by decide +kernel : decode mL_law.2.1 2292 = .ok (.iload 5, 2)) rfl (?_ : XW _ _ _ _ _ _ _ 2294 _ _)
    refine xi_if_ne (by decide +kernel : decode mL_law.2.1 2294 = .ok (.ifCond .ne 15, 3)) (by decide) (fun c => (?_ : XW _ _ _ _ _ _ _ 2309 _ _)) (fun c => (?_ : XW _ _ _ _ _ _ _ 2297 _ _))
    · replace vc := vc.1 c
      refine xi_goto (by decide +kernel : decode mL_law.2.1 2309 = .ok (.goto 83, 3)) (by decide) (?_ : XW _ _ _ _ _ _ _ 2392 _ _)
      refine xw_drop 5 (ls' := [some (.ref 3000), some (.ref 0), some (.ref 56), some (.ref 99), some (.int x4), none, some (.int r5), none]) rfl ?_
      refine xw_drop 6 (ls' := [some (.ref 3000), some (.ref 0), some (.ref 56), some (.ref 99), some (.int x4), none, none, none]) rfl ?_
      refine xw_b (b' := B) (bs' := S) (by omega) (by omega) ?_
      exact vc
    · replace vc := vc.2 c
      refine xi_aload_n (by decide +kernel : decode mL_law.2.1 2297 = .ok (.aload_n 3, 1)) rfl rfl (?_ : XW _ _ _ _ _ _ _ 2298 _ _)
      refine xi_iconst (v := 0) (by decide +kernel : decode mL_law.2.1 2298 = .ok (.iconst 0, 1)) (by decide) (?_ : XW _ _ _ _ _ _ _ 2299 _ _)
      refine xi_lald (by decide +kernel : decode mL_law.2.1 2299 = .ok (.laload, 1)) rfl (by omega) (by unfold vp_in; decide) (?_ : XW _ _ _ _ _ _ _ 2300 _ [.long (xL h6 99 0)])
      refine xi_iload (by decide +kernel : decode mL_law.2.1 2300 = .ok (.iload 6, 2)) rfl (?_ : XW _ _ _ _ _ _ _ 2302 _ _)
      refine xi_i2l (by decide +kernel : decode mL_law.2.1 2302 = .ok (.i2l, 1)) (?_ : XW _ _ _ _ _ _ _ 2303 _ _)
      refine xi_lcmp (by decide +kernel : decode mL_law.2.1 2303 = .ok (.lcmp, 1)) (?_ : XW _ _ _ _ _ _ _ 2304 _ _)
      refine xi_if_eq (by decide +kernel : decode mL_law.2.1 2304 = .ok (.ifCond .eq 5, 3)) (by decide) (fun c => (?_ : XW _ _ _ _ _ _ _ 2309 _ _)) (fun c => (?_ : XW _ _ _ _ _ _ _ 2307 _ _))
      · replace vc := vc.1 c
        refine xi_goto (by decide +kernel : decode mL_law.2.1 2309 = .ok (.goto 83, 3)) (by decide) (?_ : XW _ _ _ _ _ _ _ 2392 _ _)
        refine xw_drop 5 (ls' := [some (.ref 3000), some (.ref 0), some (.ref 56), some (.ref 99), some (.int x4), none, some (.int r5), none]) rfl ?_
        refine xw_drop 6 (ls' := [some (.ref 3000), some (.ref 0), some (.ref 56), some (.ref 99), some (.int x4), none, none, none]) rfl ?_
        refine xw_b (b' := B) (bs' := S) (by omega) (by omega) ?_
        exact vc
      · replace vc := vc.2 c
        refine xi_iconst (v := 0) (by decide +kernel : decode mL_law.2.1 2307 = .ok (.iconst 0, 1)) (by decide) (?_ : XW _ _ _ _ _ _ _ 2308 _ _)
        exact vc.elim
  · replace vc := vc.2 c
    refine xi_iconst (v := 0) (by decide +kernel : decode mL_law.2.1 2290 = .ok (.iconst 0, 1)) (by decide) (?_ : XW _ _ _ _ _ _ _ 2291 _ _)
    exact vc.elim

set_option maxRecDepth 20000 in
theorem v_L_law_2312 {h : XH} {Q : Option Value → XH → Prop} {X : String → XH → Prop} (xs : Nat → Int32) (L B S : Nat)  (x4 : Int32)
    (vc : (vp_in (x4 + 1) L) ∧ (∃ Q1, XSpecH mL_written 16 1 6 100 100 [.ref 0, .int (xs (x4 + 1).toNatClampNeg), .ref 99] h Q1 ∧ ∀ v h7, Q1 v h7 → ∃ r7 : Int32, v = some (.int r7) ∧ ((vp_in (x4 + 1) L) ∧ (∃ Q1, XSpec mX11_written 15 0 0 100 100 [.ref 56, .int (xs (x4 + 1).toNatClampNeg)] h7 Q1 xno ∧ ∀ v h8, Q1 v h8 → xL h8 99 0 = xL h7 99 0 → ∃ r8 : Int32, v = some (.int r8) ∧ (∃ Q1, XSpec mX11_thrown 1 0 0 100 100 [.ref 56] h8 Q1 xno ∧ ∀ v h9, Q1 v h9 → xL h9 99 0 = xL h8 99 0 → ∃ r9 : Int32, v = some (.int r9) ∧ ((r9 = r7 → (¬ r7 = 0 → XW room_1 mL_law (xEL xs L) 100 B S h9 2392 [some (.ref 3000), some (.ref 0), some (.ref 56), some (.ref 99), some (.int x4), none, none, none] []) ∧ (r7 = 0 → ((lg_cmp (xL h9 99 0) (Int32.toInt64 r8)) = 0 → XW room_1 mL_law (xEL xs L) 100 B S h9 2392 [some (.ref 3000), some (.ref 0), some (.ref 56), some (.ref 99), some (.int x4), none, none, none] []) ∧ (¬ (lg_cmp (xL h9 99 0) (Int32.toInt64 r8)) = 0 → False))) ∧ (¬ r9 = r7 → False))))))) :
    XW room_1 mL_law (xEL xs L) 100 (B + 4) (S + 24) h 2312 [some (.ref 3000), some (.ref 0), some (.ref 56), some (.ref 99), some (.int x4), none, none, none] [] := by
  refine xi_aload_n (by decide +kernel : decode mL_law.2.1 2312 = .ok (.aload_n 1, 1)) rfl rfl (?_ : XW _ _ _ _ _ _ _ 2313 _ _)
  refine xi_aload_n (by decide +kernel : decode mL_law.2.1 2313 = .ok (.aload_n 0, 1)) rfl rfl (?_ : XW _ _ _ _ _ _ _ 2314 _ _)
  refine xi_iload (by decide +kernel : decode mL_law.2.1 2314 = .ok (.iload 4, 2)) rfl (?_ : XW _ _ _ _ _ _ _ 2316 _ _)
  refine xi_iconst (v := 1) (by decide +kernel : decode mL_law.2.1 2316 = .ok (.iconst 1, 1)) (by decide) (?_ : XW _ _ _ _ _ _ _ 2317 _ _)
  refine xi_iadd (by decide +kernel : decode mL_law.2.1 2317 = .ok (.iadd, 1)) (?_ : XW _ _ _ _ _ _ _ 2318 _ _)
  obtain ⟨s1, vc⟩ := vc
  refine xi_sldS (by decide +kernel : decode mL_law.2.1 2318 = .ok (.iaload, 1)) s1 (?_ : XW _ _ _ _ _ _ _ 2319 _ _)
  refine xi_aload_n (by decide +kernel : decode mL_law.2.1 2319 = .ok (.aload_n 3, 1)) rfl rfl (?_ : XW _ _ _ _ _ _ _ 2320 _ _)
  obtain ⟨Q1, sp, vc⟩ := vc
  refine xi_callSH (b := B + 3) (bs := S + 18) (As := [.ref 0, .int (xs (x4 + 1).toNatClampNeg), .ref 99]) (st := []) (by decide +kernel : decode mL_law.2.1 2320 = .ok (.invokestatic 249, 3)) kL_249 rfl rfl sp (by decide) (by decide) (Nat.le_of_ble_eq_true rfl) (by omega) (fun v9 h7 hq9 => ?_)
  obtain ⟨r7, e9, vc⟩ := vc v9 h7 hq9
  subst e9
  show XW _ _ _ _ _ _ _ 2323 _ [.int r7]
  refine xi_istore (ls' := [some (.ref 3000), some (.ref 0), some (.ref 56), some (.ref 99), some (.int x4), some (.int r7), none, none]) (by decide +kernel : decode mL_law.2.1 2323 = .ok (.istore 5, 2)) (by decide) rfl (?_ : XW _ _ _ _ _ _ _ 2325 _ _)
  refine xi_aload_n (by decide +kernel : decode mL_law.2.1 2325 = .ok (.aload_n 2, 1)) rfl rfl (?_ : XW _ _ _ _ _ _ _ 2326 _ _)
  refine xi_aload_n (by decide +kernel : decode mL_law.2.1 2326 = .ok (.aload_n 0, 1)) rfl rfl (?_ : XW _ _ _ _ _ _ _ 2327 _ _)
  refine xi_iload (by decide +kernel : decode mL_law.2.1 2327 = .ok (.iload 4, 2)) rfl (?_ : XW _ _ _ _ _ _ _ 2329 _ _)
  refine xi_iconst (v := 1) (by decide +kernel : decode mL_law.2.1 2329 = .ok (.iconst 1, 1)) (by decide) (?_ : XW _ _ _ _ _ _ _ 2330 _ _)
  refine xi_iadd (by decide +kernel : decode mL_law.2.1 2330 = .ok (.iadd, 1)) (?_ : XW _ _ _ _ _ _ _ 2331 _ _)
  obtain ⟨s1, vc⟩ := vc
  refine xi_sldS (by decide +kernel : decode mL_law.2.1 2331 = .ok (.iaload, 1)) s1 (?_ : XW _ _ _ _ _ _ _ 2332 _ _)
  obtain ⟨Q1, sp, vc⟩ := vc
  refine xi_callVg (b := B + 3) (bs := S + 18) (As := [.int (xs (x4 + 1).toNatClampNeg)]) (st := []) (by decide +kernel : decode mL_law.2.1 2332 = .ok (.invokevirtual 251, 3)) kL_251 rfl rfl (by omega) rfl sp (by decide) (by decide) (Nat.le_of_ble_eq_true rfl) (by omega) (fun v9 h8 hq9 hx9 => ?_)
  obtain ⟨r8, e9, vc⟩ := vc v9 h8 hq9 hx9
  subst e9
  show XW _ _ _ _ _ _ _ 2335 _ [.int r8]
  refine xi_istore (ls' := [some (.ref 3000), some (.ref 0), some (.ref 56), some (.ref 99), some (.int x4), some (.int r7), some (.int r8), none]) (by decide +kernel : decode mL_law.2.1 2335 = .ok (.istore 6, 2)) (by decide) rfl (?_ : XW _ _ _ _ _ _ _ 2337 _ _)
  refine xi_aload_n (by decide +kernel : decode mL_law.2.1 2337 = .ok (.aload_n 2, 1)) rfl rfl (?_ : XW _ _ _ _ _ _ _ 2338 _ _)
  obtain ⟨Q1, sp, vc⟩ := vc
  refine xi_callVg (b := B + 3) (bs := S + 18) (As := []) (st := []) (by decide +kernel : decode mL_law.2.1 2338 = .ok (.invokevirtual 125, 3)) kL_125 rfl rfl (by omega) rfl sp (by decide) (by decide) (Nat.le_of_ble_eq_true rfl) (by omega) (fun v9 h9 hq9 hx9 => ?_)
  obtain ⟨r9, e9, vc⟩ := vc v9 h9 hq9 hx9
  subst e9
  show XW _ _ _ _ _ _ _ 2341 _ [.int r9]
  refine xi_iload (by decide +kernel : decode mL_law.2.1 2341 = .ok (.iload 5, 2)) rfl (?_ : XW _ _ _ _ _ _ _ 2343 _ _)
  refine xi_icmp_eq (by decide +kernel : decode mL_law.2.1 2343 = .ok (.if_icmp .eq 5, 3)) (by decide) (fun c => (?_ : XW _ _ _ _ _ _ _ 2348 _ _)) (fun c => (?_ : XW _ _ _ _ _ _ _ 2346 _ _))
  · replace vc := vc.1 c
    refine xi_iload (by decide +kernel : decode mL_law.2.1 2348 = .ok (.iload 5, 2)) rfl (?_ : XW _ _ _ _ _ _ _ 2350 _ _)
    refine xi_if_ne (by decide +kernel : decode mL_law.2.1 2350 = .ok (.ifCond .ne 15, 3)) (by decide) (fun c => (?_ : XW _ _ _ _ _ _ _ 2365 _ _)) (fun c => (?_ : XW _ _ _ _ _ _ _ 2353 _ _))
    · replace vc := vc.1 c
      refine xi_goto (by decide +kernel : decode mL_law.2.1 2365 = .ok (.goto 27, 3)) (by decide) (?_ : XW _ _ _ _ _ _ _ 2392 _ _)
      refine xw_drop 5 (ls' := [some (.ref 3000), some (.ref 0), some (.ref 56), some (.ref 99), some (.int x4), none, some (.int r8), none]) rfl ?_
      refine xw_drop 6 (ls' := [some (.ref 3000), some (.ref 0), some (.ref 56), some (.ref 99), some (.int x4), none, none, none]) rfl ?_
      refine xw_b (b' := B) (bs' := S) (by omega) (by omega) ?_
      exact vc
    · replace vc := vc.2 c
      refine xi_aload_n (by decide +kernel : decode mL_law.2.1 2353 = .ok (.aload_n 3, 1)) rfl rfl (?_ : XW _ _ _ _ _ _ _ 2354 _ _)
      refine xi_iconst (v := 0) (by decide +kernel : decode mL_law.2.1 2354 = .ok (.iconst 0, 1)) (by decide) (?_ : XW _ _ _ _ _ _ _ 2355 _ _)
      refine xi_lald (by decide +kernel : decode mL_law.2.1 2355 = .ok (.laload, 1)) rfl (by omega) (by unfold vp_in; decide) (?_ : XW _ _ _ _ _ _ _ 2356 _ [.long (xL h9 99 0)])
      refine xi_iload (by decide +kernel : decode mL_law.2.1 2356 = .ok (.iload 6, 2)) rfl (?_ : XW _ _ _ _ _ _ _ 2358 _ _)
      refine xi_i2l (by decide +kernel : decode mL_law.2.1 2358 = .ok (.i2l, 1)) (?_ : XW _ _ _ _ _ _ _ 2359 _ _)
      refine xi_lcmp (by decide +kernel : decode mL_law.2.1 2359 = .ok (.lcmp, 1)) (?_ : XW _ _ _ _ _ _ _ 2360 _ _)
      refine xi_if_eq (by decide +kernel : decode mL_law.2.1 2360 = .ok (.ifCond .eq 5, 3)) (by decide) (fun c => (?_ : XW _ _ _ _ _ _ _ 2365 _ _)) (fun c => (?_ : XW _ _ _ _ _ _ _ 2363 _ _))
      · replace vc := vc.1 c
        refine xi_goto (by decide +kernel : decode mL_law.2.1 2365 = .ok (.goto 27, 3)) (by decide) (?_ : XW _ _ _ _ _ _ _ 2392 _ _)
        refine xw_drop 5 (ls' := [some (.ref 3000), some (.ref 0), some (.ref 56), some (.ref 99), some (.int x4), none, some (.int r8), none]) rfl ?_
        refine xw_drop 6 (ls' := [some (.ref 3000), some (.ref 0), some (.ref 56), some (.ref 99), some (.int x4), none, none, none]) rfl ?_
        refine xw_b (b' := B) (bs' := S) (by omega) (by omega) ?_
        exact vc
      · replace vc := vc.2 c
        refine xi_iconst (v := 0) (by decide +kernel : decode mL_law.2.1 2363 = .ok (.iconst 0, 1)) (by decide) (?_ : XW _ _ _ _ _ _ _ 2364 _ _)
        exact vc.elim
  · replace vc := vc.2 c
    refine xi_iconst (v := 0) (by decide +kernel : decode mL_law.2.1 2346 = .ok (.iconst 0, 1)) (by decide) (?_ : XW _ _ _ _ _ _ _ 2347 _ _)
    exact vc.elim

set_option maxRecDepth 20000 in
theorem v_L_law_2368 {h : XH} {Q : Option Value → XH → Prop} {X : String → XH → Prop} (xs : Nat → Int32) (L B S : Nat)  (x4 : Int32)
    (vc : ∃ Q1, XSpec mX10_image 2 0 0 100 100 [.ref 0] h Q1 xno ∧ ∀ v h10, Q1 v h10 → v = none ∧ (∃ Q1, XSpec mX11_image 2 0 0 100 100 [.ref 56] h10 Q1 xno ∧ ∀ v h11, Q1 v h11 → xL h11 99 0 = xL h10 99 0 → v = none ∧ (XW room_1 mL_law (xEL xs L) 100 B S h11 2392 [some (.ref 3000), some (.ref 0), some (.ref 56), some (.ref 99), some (.int x4), none, none, none] []))) :
    XW room_1 mL_law (xEL xs L) 100 (B + 4) (S + 24) h 2368 [some (.ref 3000), some (.ref 0), some (.ref 56), some (.ref 99), some (.int x4), none, none, none] [] := by
  refine xi_aload_n (by decide +kernel : decode mL_law.2.1 2368 = .ok (.aload_n 1, 1)) rfl rfl (?_ : XW _ _ _ _ _ _ _ 2369 _ _)
  obtain ⟨Q1, sp, vc⟩ := vc
  refine xi_callV (b := B + 4) (bs := S + 24) (As := []) (st := []) (by decide +kernel : decode mL_law.2.1 2369 = .ok (.invokevirtual 252, 3)) kL_252 rfl rfl (by omega) rfl sp (by decide) (by decide) (Nat.le_of_ble_eq_true rfl) (by omega) (fun v9 h10 hq9 => ?_)
  obtain ⟨e9, vc⟩ := vc v9 h10 hq9
  subst e9
  show XW _ _ _ _ _ _ _ 2372 _ []
  refine xi_aload_n (by decide +kernel : decode mL_law.2.1 2372 = .ok (.aload_n 2, 1)) rfl rfl (?_ : XW _ _ _ _ _ _ _ 2373 _ _)
  obtain ⟨Q1, sp, vc⟩ := vc
  refine xi_callVg (b := B + 4) (bs := S + 24) (As := []) (st := []) (by decide +kernel : decode mL_law.2.1 2373 = .ok (.invokevirtual 255, 3)) kL_255 rfl rfl (by omega) rfl sp (by decide) (by decide) (Nat.le_of_ble_eq_true rfl) (by omega) (fun v9 h11 hq9 hx9 => ?_)
  obtain ⟨e9, vc⟩ := vc v9 h11 hq9 hx9
  subst e9
  show XW _ _ _ _ _ _ _ 2376 _ []
  refine xi_goto (by decide +kernel : decode mL_law.2.1 2376 = .ok (.goto 16, 3)) (by decide) (?_ : XW _ _ _ _ _ _ _ 2392 _ _)
  refine xw_b (b' := B) (bs' := S) (by omega) (by omega) ?_
  exact vc

set_option maxRecDepth 20000 in
theorem v_L_law_2379 {h : XH} {Q : Option Value → XH → Prop} {X : String → XH → Prop} (xs : Nat → Int32) (L B S : Nat)  (x4 : Int32)
    (vc : ∃ Q1, XSpec mX10_restore 2 0 0 100 100 [.ref 0] h Q1 xno ∧ ∀ v h12, Q1 v h12 → ∃ r12 : Int32, v = some (.int r12) ∧ (∃ Q1, XSpec mX11_restore 2 0 0 100 100 [.ref 56] h12 Q1 xno ∧ ∀ v h13, Q1 v h13 → xL h13 99 0 = xL h12 99 0 → ∃ r13 : Int32, v = some (.int r13) ∧ ((r12 = r13 → XW room_1 mL_law (xEL xs L) 100 B S h13 2392 [some (.ref 3000), some (.ref 0), some (.ref 56), some (.ref 99), some (.int x4), none, none, none] []) ∧ (¬ r12 = r13 → False)))) :
    XW room_1 mL_law (xEL xs L) 100 (B + 4) (S + 24) h 2379 [some (.ref 3000), some (.ref 0), some (.ref 56), some (.ref 99), some (.int x4), none, none, none] [] := by
  refine xi_aload_n (by decide +kernel : decode mL_law.2.1 2379 = .ok (.aload_n 1, 1)) rfl rfl (?_ : XW _ _ _ _ _ _ _ 2380 _ _)
  obtain ⟨Q1, sp, vc⟩ := vc
  refine xi_callV (b := B + 4) (bs := S + 24) (As := []) (st := []) (by decide +kernel : decode mL_law.2.1 2380 = .ok (.invokevirtual 256, 3)) kL_256 rfl rfl (by omega) rfl sp (by decide) (by decide) (Nat.le_of_ble_eq_true rfl) (by omega) (fun v9 h12 hq9 => ?_)
  obtain ⟨r12, e9, vc⟩ := vc v9 h12 hq9
  subst e9
  show XW _ _ _ _ _ _ _ 2383 _ [.int r12]
  refine xi_aload_n (by decide +kernel : decode mL_law.2.1 2383 = .ok (.aload_n 2, 1)) rfl rfl (?_ : XW _ _ _ _ _ _ _ 2384 _ _)
  obtain ⟨Q1, sp, vc⟩ := vc
  refine xi_callVg (b := B + 4) (bs := S + 24) (As := []) (st := [.int r12]) (by decide +kernel : decode mL_law.2.1 2384 = .ok (.invokevirtual 260, 3)) kL_260 rfl rfl (by omega) rfl sp (by decide) (by decide) (Nat.le_of_ble_eq_true rfl) (by omega) (fun v9 h13 hq9 hx9 => ?_)
  obtain ⟨r13, e9, vc⟩ := vc v9 h13 hq9 hx9
  subst e9
  show XW _ _ _ _ _ _ _ 2387 _ [.int r13, .int r12]
  refine xi_icmp_eq (by decide +kernel : decode mL_law.2.1 2387 = .ok (.if_icmp .eq 5, 3)) (by decide) (fun c => (?_ : XW _ _ _ _ _ _ _ 2392 _ _)) (fun c => (?_ : XW _ _ _ _ _ _ _ 2390 _ _))
  · replace vc := vc.1 c
    refine xw_b (b' := B) (bs' := S) (by omega) (by omega) ?_
    exact vc
  · replace vc := vc.2 c
    refine xi_iconst (v := 0) (by decide +kernel : decode mL_law.2.1 2390 = .ok (.iconst 0, 1)) (by decide) (?_ : XW _ _ _ _ _ _ _ 2391 _ _)
    exact vc.elim

