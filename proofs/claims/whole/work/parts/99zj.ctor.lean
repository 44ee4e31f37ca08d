/-! MADE ANEW: the constructors -/
def hZ : XH := (fun _ _ => 0, fun _ _ => 0, fun _ _ => none)
theorem qO_X0 : Cond.methodLink RX0 3 Lib.objectInit ∈ gtbl := gt_1 45 rfl rfl
set_option maxRecDepth 20000 in
theorem s_X0_init {n a : Nat} (hs : SH a = .inr 0) (s0 : SH n = .inl (.char, 1000)) (s1 : SH (n + 1) = .inl (.int, 500)) (s2 : SH (n + 2) = .inl (.int, 64)) (ha : a < n) (hn : n + 3 ≤ 55) (h : XH) : XSpec mX0_init 1 3 1564 n (n + 3) [.ref a] h (xq none (hrun [oP a 5 (some (n + 2)), oN (n + 2), oP a 4 (some (n + 1)), oN (n + 1), oP a 2 (some n), oN n] h)) xno := by
  refine XSpec.of rfl (by decide) (Nat.le_of_ble_eq_true rfl) rfl (xh_0 (?_ : XW _ _ _ _ _ _ _ 0 _ _))
  refine xi_aload_n (by decide +kernel : decode mX0_init.2.1 0 = .ok (.aload_n 0, 1)) rfl rfl (?_ : XW _ _ _ n _ _ _ 1 _ _)
  refine xi_objI (by decide +kernel : decode mX0_init.2.1 1 = .ok (.invokespecial 3, 3)) qO_X0 (by decide) (by decide) (by decide) (?_ : XW _ _ _ n _ _ _ 4 _ _)
  refine xi_aload_n (by decide +kernel : decode mX0_init.2.1 4 = .ok (.aload_n 0, 1)) rfl rfl (?_ : XW _ _ _ n _ _ _ 5 _ _)
  refine xi_sipush (v := 1000) (by decide +kernel : decode mX0_init.2.1 5 = .ok (.sipush 1000, 3)) (by decide) (?_ : XW _ _ _ n _ _ _ 8 _ _)
  refine xo_newa (N := 1000) (ty := .char) (b := 2) (bs := 564) (by decide +kernel : decode mX0_init.2.1 8 = .ok (.newarray .char, 2)) cA_char rfl (Or.inl rfl) s0 (by omega) (by decide) (by decide) (?_ : XW _ _ _ (n + 1) _ _ _ 10 _ _)
  refine xo_putF (by decide +kernel : decode mX0_init.2.1 10 = .ok (.putfield 9, 3)) fX0_9 rfl rfl hs (by omega) rfl (?_ : XW _ _ _ (n + 1) _ _ _ 13 _ _)
  refine xi_aload_n (by decide +kernel : decode mX0_init.2.1 13 = .ok (.aload_n 0, 1)) rfl rfl (?_ : XW _ _ _ (n + 1) _ _ _ 14 _ _)
  refine xi_sipush (v := 500) (by decide +kernel : decode mX0_init.2.1 14 = .ok (.sipush 500, 3)) (by decide) (?_ : XW _ _ _ (n + 1) _ _ _ 17 _ _)
  refine xo_newa (N := 500) (ty := .int) (b := 1) (bs := 64) (by decide +kernel : decode mX0_init.2.1 17 = .ok (.newarray .int, 2)) cA_int rfl (Or.inl rfl) s1 (by omega) (by decide) (by decide) (?_ : XW _ _ _ (n + 2) _ _ _ 19 _ _)
  refine xo_putF (by decide +kernel : decode mX0_init.2.1 19 = .ok (.putfield 15, 3)) fX0_15 rfl rfl hs (by omega) rfl (?_ : XW _ _ _ (n + 2) _ _ _ 22 _ _)
  refine xi_aload_n (by decide +kernel : decode mX0_init.2.1 22 = .ok (.aload_n 0, 1)) rfl rfl (?_ : XW _ _ _ (n + 2) _ _ _ 23 _ _)
  refine xi_bipush (v := 64) (by decide +kernel : decode mX0_init.2.1 23 = .ok (.bipush 64, 2)) (by decide) (?_ : XW _ _ _ (n + 2) _ _ _ 25 _ _)
  refine xo_newa (N := 64) (ty := .int) (b := 0) (bs := 0) (by decide +kernel : decode mX0_init.2.1 25 = .ok (.newarray .int, 2)) cA_int rfl (Or.inl rfl) s2 (by omega) (by decide) (by decide) (?_ : XW _ _ _ (n + 3) _ _ _ 27 _ _)
  refine xo_putF (by decide +kernel : decode mX0_init.2.1 27 = .ok (.putfield 19, 3)) fX0_19 rfl rfl hs (by omega) rfl (?_ : XW _ _ _ (n + 3) _ _ _ 30 _ _)
  exact xi_vret (by decide +kernel : decode mX0_init.2.1 30 = .ok (.return_, 1)) rfl ⟨rfl, rfl⟩
theorem qO_X3 : Cond.methodLink RX3 3 Lib.objectInit ∈ gtbl := gt_1 214 rfl rfl
set_option maxRecDepth 20000 in
theorem s_X3_init {n a : Nat} (hs : SH a = .inr 3) (s0 : SH n = .inl (.int, 101)) (s1 : SH (n + 1) = .inl (.int, 707)) (s2 : SH (n + 2) = .inl (.int, 707)) (ha : a < n) (hn : n + 3 ≤ 55) (h : XH) : XSpec mX3_init 1 3 1515 n (n + 3) [.ref a] h (xq none (hrun [oP a 2 (some (n + 2)), oN (n + 2), oP a 1 (some (n + 1)), oN (n + 1), oP a 0 (some n), oN n] h)) xno := by
  refine XSpec.of rfl (by decide) (Nat.le_of_ble_eq_true rfl) rfl (xh_0 (?_ : XW _ _ _ _ _ _ _ 0 _ _))
  refine xi_aload_n (by decide +kernel : decode mX3_init.2.1 0 = .ok (.aload_n 0, 1)) rfl rfl (?_ : XW _ _ _ n _ _ _ 1 _ _)
  refine xi_objI (by decide +kernel : decode mX3_init.2.1 1 = .ok (.invokespecial 3, 3)) qO_X3 (by decide) (by decide) (by decide) (?_ : XW _ _ _ n _ _ _ 4 _ _)
  refine xi_aload_n (by decide +kernel : decode mX3_init.2.1 4 = .ok (.aload_n 0, 1)) rfl rfl (?_ : XW _ _ _ n _ _ _ 5 _ _)
  refine xi_bipush (v := 101) (by decide +kernel : decode mX3_init.2.1 5 = .ok (.bipush 101, 2)) (by decide) (?_ : XW _ _ _ n _ _ _ 7 _ _)
  refine xo_newa (N := 101) (ty := .int) (b := 2) (bs := 1414) (by decide +kernel : decode mX3_init.2.1 7 = .ok (.newarray .int, 2)) cA_int rfl (Or.inl rfl) s0 (by omega) (by decide) (by decide) (?_ : XW _ _ _ (n + 1) _ _ _ 9 _ _)
  refine xo_putF (by decide +kernel : decode mX3_init.2.1 9 = .ok (.putfield 9, 3)) fX3_9 rfl rfl hs (by omega) rfl (?_ : XW _ _ _ (n + 1) _ _ _ 12 _ _)
  refine xi_aload_n (by decide +kernel : decode mX3_init.2.1 12 = .ok (.aload_n 0, 1)) rfl rfl (?_ : XW _ _ _ (n + 1) _ _ _ 13 _ _)
  refine xi_sipush (v := 707) (by decide +kernel : decode mX3_init.2.1 13 = .ok (.sipush 707, 3)) (by decide) (?_ : XW _ _ _ (n + 1) _ _ _ 16 _ _)
  refine xo_newa (N := 707) (ty := .int) (b := 1) (bs := 707) (by decide +kernel : decode mX3_init.2.1 16 = .ok (.newarray .int, 2)) cA_int rfl (Or.inl rfl) s1 (by omega) (by decide) (by decide) (?_ : XW _ _ _ (n + 2) _ _ _ 18 _ _)
  refine xo_putF (by decide +kernel : decode mX3_init.2.1 18 = .ok (.putfield 15, 3)) fX3_15 rfl rfl hs (by omega) rfl (?_ : XW _ _ _ (n + 2) _ _ _ 21 _ _)
  refine xi_aload_n (by decide +kernel : decode mX3_init.2.1 21 = .ok (.aload_n 0, 1)) rfl rfl (?_ : XW _ _ _ (n + 2) _ _ _ 22 _ _)
  refine xi_sipush (v := 707) (by decide +kernel : decode mX3_init.2.1 22 = .ok (.sipush 707, 3)) (by decide) (?_ : XW _ _ _ (n + 2) _ _ _ 25 _ _)
  refine xo_newa (N := 707) (ty := .int) (b := 0) (bs := 0) (by decide +kernel : decode mX3_init.2.1 25 = .ok (.newarray .int, 2)) cA_int rfl (Or.inl rfl) s2 (by omega) (by decide) (by decide) (?_ : XW _ _ _ (n + 3) _ _ _ 27 _ _)
  refine xo_putF (by decide +kernel : decode mX3_init.2.1 27 = .ok (.putfield 18, 3)) fX3_18 rfl rfl hs (by omega) rfl (?_ : XW _ _ _ (n + 3) _ _ _ 30 _ _)
  exact xi_vret (by decide +kernel : decode mX3_init.2.1 30 = .ok (.return_, 1)) rfl ⟨rfl, rfl⟩
theorem qO_X7 : Cond.methodLink RX7 3 Lib.objectInit ∈ gtbl := gt_1 231 rfl rfl
set_option maxRecDepth 20000 in
theorem s_X7_init {n a : Nat} (hs : SH a = .inr 7) (s0 : SH n = .inl (.int, 4)) (s1 : SH (n + 1) = .inl (.int, 1000)) (s2 : SH (n + 2) = .inl (.int, 40)) (s3 : SH (n + 3) = .inl (.int, 3)) (ha : a < n) (hn : n + 4 ≤ 55) (h : XH) : XSpec mX7_init 1 4 1047 n (n + 4) [.ref a] h (xq none (hrun [oP a 7 (some (n + 3)), oN (n + 3), oP a 6 (some (n + 2)), oN (n + 2), oP a 5 (some (n + 1)), oN (n + 1), oP a 4 (some n), oN n] h)) xno := by
  refine XSpec.of rfl (by decide) (Nat.le_of_ble_eq_true rfl) rfl (xh_0 (?_ : XW _ _ _ _ _ _ _ 0 _ _))
  refine xi_aload_n (by decide +kernel : decode mX7_init.2.1 0 = .ok (.aload_n 0, 1)) rfl rfl (?_ : XW _ _ _ n _ _ _ 1 _ _)
  refine xi_objI (by decide +kernel : decode mX7_init.2.1 1 = .ok (.invokespecial 3, 3)) qO_X7 (by decide) (by decide) (by decide) (?_ : XW _ _ _ n _ _ _ 4 _ _)
  refine xi_aload_n (by decide +kernel : decode mX7_init.2.1 4 = .ok (.aload_n 0, 1)) rfl rfl (?_ : XW _ _ _ n _ _ _ 5 _ _)
  refine xi_iconst (v := 4) (by decide +kernel : decode mX7_init.2.1 5 = .ok (.iconst 4, 1)) (by decide) (?_ : XW _ _ _ n _ _ _ 6 _ _)
  refine xo_newa (N := 4) (ty := .int) (b := 3) (bs := 1043) (by decide +kernel : decode mX7_init.2.1 6 = .ok (.newarray .int, 2)) cA_int rfl (Or.inl rfl) s0 (by omega) (by decide) (by decide) (?_ : XW _ _ _ (n + 1) _ _ _ 8 _ _)
  refine xo_putF (by decide +kernel : decode mX7_init.2.1 8 = .ok (.putfield 9, 3)) fX7_9 rfl rfl hs (by omega) rfl (?_ : XW _ _ _ (n + 1) _ _ _ 11 _ _)
  refine xi_aload_n (by decide +kernel : decode mX7_init.2.1 11 = .ok (.aload_n 0, 1)) rfl rfl (?_ : XW _ _ _ (n + 1) _ _ _ 12 _ _)
  refine xi_sipush (v := 1000) (by decide +kernel : decode mX7_init.2.1 12 = .ok (.sipush 1000, 3)) (by decide) (?_ : XW _ _ _ (n + 1) _ _ _ 15 _ _)
  refine xo_newa (N := 1000) (ty := .int) (b := 2) (bs := 43) (by decide +kernel : decode mX7_init.2.1 15 = .ok (.newarray .int, 2)) cA_int rfl (Or.inl rfl) s1 (by omega) (by decide) (by decide) (?_ : XW _ _ _ (n + 2) _ _ _ 17 _ _)
  refine xo_putF (by decide +kernel : decode mX7_init.2.1 17 = .ok (.putfield 15, 3)) fX7_15 rfl rfl hs (by omega) rfl (?_ : XW _ _ _ (n + 2) _ _ _ 20 _ _)
  refine xi_aload_n (by decide +kernel : decode mX7_init.2.1 20 = .ok (.aload_n 0, 1)) rfl rfl (?_ : XW _ _ _ (n + 2) _ _ _ 21 _ _)
  refine xi_bipush (v := 40) (by decide +kernel : decode mX7_init.2.1 21 = .ok (.bipush 40, 2)) (by decide) (?_ : XW _ _ _ (n + 2) _ _ _ 23 _ _)
  refine xo_newa (N := 40) (ty := .int) (b := 1) (bs := 3) (by decide +kernel : decode mX7_init.2.1 23 = .ok (.newarray .int, 2)) cA_int rfl (Or.inl rfl) s2 (by omega) (by decide) (by decide) (?_ : XW _ _ _ (n + 3) _ _ _ 25 _ _)
  refine xo_putF (by decide +kernel : decode mX7_init.2.1 25 = .ok (.putfield 18, 3)) fX7_18 rfl rfl hs (by omega) rfl (?_ : XW _ _ _ (n + 3) _ _ _ 28 _ _)
  refine xi_aload_n (by decide +kernel : decode mX7_init.2.1 28 = .ok (.aload_n 0, 1)) rfl rfl (?_ : XW _ _ _ (n + 3) _ _ _ 29 _ _)
  refine xi_iconst (v := 3) (by decide +kernel : decode mX7_init.2.1 29 = .ok (.iconst 3, 1)) (by decide) (?_ : XW _ _ _ (n + 3) _ _ _ 30 _ _)
  refine xo_newa (N := 3) (ty := .int) (b := 0) (bs := 0) (by decide +kernel : decode mX7_init.2.1 30 = .ok (.newarray .int, 2)) cA_int rfl (Or.inl rfl) s3 (by omega) (by decide) (by decide) (?_ : XW _ _ _ (n + 4) _ _ _ 32 _ _)
  refine xo_putF (by decide +kernel : decode mX7_init.2.1 32 = .ok (.putfield 21, 3)) fX7_21 rfl rfl hs (by omega) rfl (?_ : XW _ _ _ (n + 4) _ _ _ 35 _ _)
  exact xi_vret (by decide +kernel : decode mX7_init.2.1 35 = .ok (.return_, 1)) rfl ⟨rfl, rfl⟩
theorem qO_X8 : Cond.methodLink RX8 3 Lib.objectInit ∈ gtbl := gt_2 26 rfl rfl
set_option maxRecDepth 20000 in
theorem s_X8_init {n a : Nat} (hs : SH a = .inr 8) (s0 : SH n = .inl (.int, 101)) (s1 : SH (n + 1) = .inl (.int, 101)) (s2 : SH (n + 2) = .inl (.int, 102)) (ha : a < n) (hn : n + 3 ≤ 55) (h : XH) : XSpec mX8_init 1 3 304 n (n + 3) [.ref a] h (xq none (hrun [oP a 3 (some (n + 2)), oN (n + 2), oP a 2 (some (n + 1)), oN (n + 1), oP a 1 (some n), oN n, oI a 0 (-1)] h)) xno := by
  refine XSpec.of rfl (by decide) (Nat.le_of_ble_eq_true rfl) rfl (xh_0 (?_ : XW _ _ _ _ _ _ _ 0 _ _))
  refine xi_aload_n (by decide +kernel : decode mX8_init.2.1 0 = .ok (.aload_n 0, 1)) rfl rfl (?_ : XW _ _ _ n _ _ _ 1 _ _)
  refine xi_objI (by decide +kernel : decode mX8_init.2.1 1 = .ok (.invokespecial 3, 3)) qO_X8 (by decide) (by decide) (by decide) (?_ : XW _ _ _ n _ _ _ 4 _ _)
  refine xi_aload_n (by decide +kernel : decode mX8_init.2.1 4 = .ok (.aload_n 0, 1)) rfl rfl (?_ : XW _ _ _ n _ _ _ 5 _ _)
  refine xi_iconst (v := -1) (by decide +kernel : decode mX8_init.2.1 5 = .ok (.iconst (-1), 1)) (by decide) (?_ : XW _ _ _ n _ _ _ 6 _ _)
  refine xo_putI (by decide +kernel : decode mX8_init.2.1 6 = .ok (.putfield 9, 3)) fX8_9 hs (by omega) rfl (by decide) (by decide) (?_ : XW _ _ _ n _ _ _ 9 _ _)
  refine xi_aload_n (by decide +kernel : decode mX8_init.2.1 9 = .ok (.aload_n 0, 1)) rfl rfl (?_ : XW _ _ _ n _ _ _ 10 _ _)
  refine xi_bipush (v := 101) (by decide +kernel : decode mX8_init.2.1 10 = .ok (.bipush 101, 2)) (by decide) (?_ : XW _ _ _ n _ _ _ 12 _ _)
  refine xo_newa (N := 101) (ty := .int) (b := 2) (bs := 203) (by decide +kernel : decode mX8_init.2.1 12 = .ok (.newarray .int, 2)) cA_int rfl (Or.inl rfl) s0 (by omega) (by decide) (by decide) (?_ : XW _ _ _ (n + 1) _ _ _ 14 _ _)
  refine xo_putF (by decide +kernel : decode mX8_init.2.1 14 = .ok (.putfield 15, 3)) fX8_15 rfl rfl hs (by omega) rfl (?_ : XW _ _ _ (n + 1) _ _ _ 17 _ _)
  refine xi_aload_n (by decide +kernel : decode mX8_init.2.1 17 = .ok (.aload_n 0, 1)) rfl rfl (?_ : XW _ _ _ (n + 1) _ _ _ 18 _ _)
  refine xi_bipush (v := 101) (by decide +kernel : decode mX8_init.2.1 18 = .ok (.bipush 101, 2)) (by decide) (?_ : XW _ _ _ (n + 1) _ _ _ 20 _ _)
  refine xo_newa (N := 101) (ty := .int) (b := 1) (bs := 102) (by decide +kernel : decode mX8_init.2.1 20 = .ok (.newarray .int, 2)) cA_int rfl (Or.inl rfl) s1 (by omega) (by decide) (by decide) (?_ : XW _ _ _ (n + 2) _ _ _ 22 _ _)
  refine xo_putF (by decide +kernel : decode mX8_init.2.1 22 = .ok (.putfield 19, 3)) fX8_19 rfl rfl hs (by omega) rfl (?_ : XW _ _ _ (n + 2) _ _ _ 25 _ _)
  refine xi_aload_n (by decide +kernel : decode mX8_init.2.1 25 = .ok (.aload_n 0, 1)) rfl rfl (?_ : XW _ _ _ (n + 2) _ _ _ 26 _ _)
  refine xi_bipush (v := 102) (by decide +kernel : decode mX8_init.2.1 26 = .ok (.bipush 102, 2)) (by decide) (?_ : XW _ _ _ (n + 2) _ _ _ 28 _ _)
  refine xo_newa (N := 102) (ty := .int) (b := 0) (bs := 0) (by decide +kernel : decode mX8_init.2.1 28 = .ok (.newarray .int, 2)) cA_int rfl (Or.inl rfl) s2 (by omega) (by decide) (by decide) (?_ : XW _ _ _ (n + 3) _ _ _ 30 _ _)
  refine xo_putF (by decide +kernel : decode mX8_init.2.1 30 = .ok (.putfield 22, 3)) fX8_22 rfl rfl hs (by omega) rfl (?_ : XW _ _ _ (n + 3) _ _ _ 33 _ _)
  exact xi_vret (by decide +kernel : decode mX8_init.2.1 33 = .ok (.return_, 1)) rfl ⟨rfl, rfl⟩
theorem qO_X6 : Cond.methodLink RX6 3 Lib.objectInit ∈ gtbl := gt_2 50 rfl rfl
set_option maxRecDepth 20000 in
theorem s_X6_init {n a : Nat} (hs : SH a = .inr 6) (s0 : SH n = .inl (.long, 101)) (s1 : SH (n + 1) = .inl (.long, 101)) (ha : a < n) (hn : n + 2 ≤ 55) (h : XH) : XSpec mX6_init 1 2 202 n (n + 2) [.ref a] h (xq none (hrun [oP a 2 (some (n + 1)), oN (n + 1), oP a 1 (some n), oN n] h)) xno := by
  refine XSpec.of rfl (by decide) (Nat.le_of_ble_eq_true rfl) rfl (xh_0 (?_ : XW _ _ _ _ _ _ _ 0 _ _))
  refine xi_aload_n (by decide +kernel : decode mX6_init.2.1 0 = .ok (.aload_n 0, 1)) rfl rfl (?_ : XW _ _ _ n _ _ _ 1 _ _)
  refine xi_objI (by decide +kernel : decode mX6_init.2.1 1 = .ok (.invokespecial 3, 3)) qO_X6 (by decide) (by decide) (by decide) (?_ : XW _ _ _ n _ _ _ 4 _ _)
  refine xi_aload_n (by decide +kernel : decode mX6_init.2.1 4 = .ok (.aload_n 0, 1)) rfl rfl (?_ : XW _ _ _ n _ _ _ 5 _ _)
  refine xi_bipush (v := 101) (by decide +kernel : decode mX6_init.2.1 5 = .ok (.bipush 101, 2)) (by decide) (?_ : XW _ _ _ n _ _ _ 7 _ _)
  refine xo_newa (N := 101) (ty := .long) (b := 1) (bs := 101) (by decide +kernel : decode mX6_init.2.1 7 = .ok (.newarray .long, 2)) cA_long rfl (Or.inr rfl) s0 (by omega) (by decide) (by decide) (?_ : XW _ _ _ (n + 1) _ _ _ 9 _ _)
  refine xo_putR (by decide +kernel : decode mX6_init.2.1 9 = .ok (.putfield 9, 3)) fX6_9 hs (by omega) rfl (?_ : XW _ _ _ (n + 1) _ _ _ 12 _ _)
  refine xi_aload_n (by decide +kernel : decode mX6_init.2.1 12 = .ok (.aload_n 0, 1)) rfl rfl (?_ : XW _ _ _ (n + 1) _ _ _ 13 _ _)
  refine xi_bipush (v := 101) (by decide +kernel : decode mX6_init.2.1 13 = .ok (.bipush 101, 2)) (by decide) (?_ : XW _ _ _ (n + 1) _ _ _ 15 _ _)
  refine xo_newa (N := 101) (ty := .long) (b := 0) (bs := 0) (by decide +kernel : decode mX6_init.2.1 15 = .ok (.newarray .long, 2)) cA_long rfl (Or.inr rfl) s1 (by omega) (by decide) (by decide) (?_ : XW _ _ _ (n + 2) _ _ _ 17 _ _)
  refine xo_putR (by decide +kernel : decode mX6_init.2.1 17 = .ok (.putfield 15, 3)) fX6_15 hs (by omega) rfl (?_ : XW _ _ _ (n + 2) _ _ _ 20 _ _)
  exact xi_vret (by decide +kernel : decode mX6_init.2.1 20 = .ok (.return_, 1)) rfl ⟨rfl, rfl⟩
theorem qO_X1 : Cond.methodLink RX1 3 Lib.objectInit ∈ gtbl := gt_2 67 rfl rfl
set_option maxRecDepth 20000 in
theorem s_X1_init {n a : Nat} (hs : SH a = .inr 1) (s0 : SH n = .inl (.long, 861)) (s1 : SH (n + 1) = .inl (.long, 861)) (ha : a < n) (hn : n + 2 ≤ 55) (h : XH) : XSpec mX1_init 1 2 1722 n (n + 2) [.ref a] h (xq none (hrun [oP a 1 (some (n + 1)), oN (n + 1), oP a 0 (some n), oN n] h)) xno := by
  refine XSpec.of rfl (by decide) (Nat.le_of_ble_eq_true rfl) rfl (xh_0 (?_ : XW _ _ _ _ _ _ _ 0 _ _))
  refine xi_aload_n (by decide +kernel : decode mX1_init.2.1 0 = .ok (.aload_n 0, 1)) rfl rfl (?_ : XW _ _ _ n _ _ _ 1 _ _)
  refine xi_objI (by decide +kernel : decode mX1_init.2.1 1 = .ok (.invokespecial 3, 3)) qO_X1 (by decide) (by decide) (by decide) (?_ : XW _ _ _ n _ _ _ 4 _ _)
  refine xi_aload_n (by decide +kernel : decode mX1_init.2.1 4 = .ok (.aload_n 0, 1)) rfl rfl (?_ : XW _ _ _ n _ _ _ 5 _ _)
  refine xi_sipush (v := 861) (by decide +kernel : decode mX1_init.2.1 5 = .ok (.sipush 861, 3)) (by decide) (?_ : XW _ _ _ n _ _ _ 8 _ _)
  refine xo_newa (N := 861) (ty := .long) (b := 1) (bs := 861) (by decide +kernel : decode mX1_init.2.1 8 = .ok (.newarray .long, 2)) cA_long rfl (Or.inr rfl) s0 (by omega) (by decide) (by decide) (?_ : XW _ _ _ (n + 1) _ _ _ 10 _ _)
  refine xo_putR (by decide +kernel : decode mX1_init.2.1 10 = .ok (.putfield 11, 3)) fX1_11 hs (by omega) rfl (?_ : XW _ _ _ (n + 1) _ _ _ 13 _ _)
  refine xi_aload_n (by decide +kernel : decode mX1_init.2.1 13 = .ok (.aload_n 0, 1)) rfl rfl (?_ : XW _ _ _ (n + 1) _ _ _ 14 _ _)
  refine xi_sipush (v := 861) (by decide +kernel : decode mX1_init.2.1 14 = .ok (.sipush 861, 3)) (by decide) (?_ : XW _ _ _ (n + 1) _ _ _ 17 _ _)
  refine xo_newa (N := 861) (ty := .long) (b := 0) (bs := 0) (by decide +kernel : decode mX1_init.2.1 17 = .ok (.newarray .long, 2)) cA_long rfl (Or.inr rfl) s1 (by omega) (by decide) (by decide) (?_ : XW _ _ _ (n + 2) _ _ _ 19 _ _)
  refine xo_putR (by decide +kernel : decode mX1_init.2.1 19 = .ok (.putfield 15, 3)) fX1_15 hs (by omega) rfl (?_ : XW _ _ _ (n + 2) _ _ _ 22 _ _)
  exact xi_vret (by decide +kernel : decode mX1_init.2.1 22 = .ok (.return_, 1)) rfl ⟨rfl, rfl⟩
theorem qO_X9 : Cond.methodLink RX9 3 Lib.objectInit ∈ gtbl := gt_2 96 rfl rfl
set_option maxRecDepth 20000 in
theorem s_X9_init {n a : Nat} (hs : SH a = .inr 9)  (ha : a < n) (hn : n + 0 ≤ 99) (h : XH) : XSpec mX9_init 1 0 0 n (n + 0) [.ref a] h (xq none (hrun [oI a 2 (-1), oI a 1 0, oI a 0 0] h)) xno := by
  refine XSpec.of rfl (by decide) (Nat.le_of_ble_eq_true rfl) rfl (xh_0 (?_ : XW _ _ _ _ _ _ _ 0 _ _))
  refine xi_aload_n (by decide +kernel : decode mX9_init.2.1 0 = .ok (.aload_n 0, 1)) rfl rfl (?_ : XW _ _ _ n _ _ _ 1 _ _)
  refine xi_objI (by decide +kernel : decode mX9_init.2.1 1 = .ok (.invokespecial 3, 3)) qO_X9 (by decide) (by decide) (by decide) (?_ : XW _ _ _ n _ _ _ 4 _ _)
  refine xi_aload_n (by decide +kernel : decode mX9_init.2.1 4 = .ok (.aload_n 0, 1)) rfl rfl (?_ : XW _ _ _ n _ _ _ 5 _ _)
  refine xi_iconst (v := 0) (by decide +kernel : decode mX9_init.2.1 5 = .ok (.iconst 0, 1)) (by decide) (?_ : XW _ _ _ n _ _ _ 6 _ _)
  refine xo_putI (by decide +kernel : decode mX9_init.2.1 6 = .ok (.putfield 9, 3)) fX9_9 hs (by omega) rfl (by decide) (by decide) (?_ : XW _ _ _ n _ _ _ 9 _ _)
  refine xi_aload_n (by decide +kernel : decode mX9_init.2.1 9 = .ok (.aload_n 0, 1)) rfl rfl (?_ : XW _ _ _ n _ _ _ 10 _ _)
  refine xi_iconst (v := 0) (by decide +kernel : decode mX9_init.2.1 10 = .ok (.iconst 0, 1)) (by decide) (?_ : XW _ _ _ n _ _ _ 11 _ _)
  refine xo_putI (by decide +kernel : decode mX9_init.2.1 11 = .ok (.putfield 15, 3)) fX9_15 hs (by omega) rfl (by decide) (by decide) (?_ : XW _ _ _ n _ _ _ 14 _ _)
  refine xi_aload_n (by decide +kernel : decode mX9_init.2.1 14 = .ok (.aload_n 0, 1)) rfl rfl (?_ : XW _ _ _ n _ _ _ 15 _ _)
  refine xi_iconst (v := -1) (by decide +kernel : decode mX9_init.2.1 15 = .ok (.iconst (-1), 1)) (by decide) (?_ : XW _ _ _ n _ _ _ 16 _ _)
  refine xo_putI (by decide +kernel : decode mX9_init.2.1 16 = .ok (.putfield 19, 3)) fX9_19 hs (by omega) rfl (by decide) (by decide) (?_ : XW _ _ _ n _ _ _ 19 _ _)
  exact xi_vret (by decide +kernel : decode mX9_init.2.1 19 = .ok (.return_, 1)) rfl ⟨rfl, rfl⟩
theorem qO_X2 : Cond.methodLink RX2 3 Lib.objectInit ∈ gtbl := gt_2 80 rfl rfl
set_option maxRecDepth 20000 in
theorem s_X2_init (h : XH) : XSpec mX2_init 1 3 284 53 55 [.ref 52] h (xq none (hrun [oP 52 2 (some 100), oN 100, oP 52 1 (some 54), oN 54, oP 52 0 (some 53), oN 53] h)) xno := by
  refine XSpec.of rfl (by decide) (Nat.le_of_ble_eq_true rfl) rfl (xh_0 (?_ : XW _ _ _ _ _ _ _ 0 _ _))
  refine xw_fl0 (by decide) (fun hf => ?_)
  replace hf : xfl h = 0 := hf
  refine xi_aload_n (by decide +kernel : decode mX2_init.2.1 0 = .ok (.aload_n 0, 1)) rfl rfl (?_ : XW _ _ _ 53 _ _ _ 1 _ _)
  refine xi_objI (by decide +kernel : decode mX2_init.2.1 1 = .ok (.invokespecial 3, 3)) qO_X2 (by decide) (by decide) (by decide) (?_ : XW _ _ _ 53 _ _ _ 4 _ _)
  refine xi_aload_n (by decide +kernel : decode mX2_init.2.1 4 = .ok (.aload_n 0, 1)) rfl rfl (?_ : XW _ _ _ 53 _ _ _ 5 _ _)
  refine xi_bipush (v := 101) (by decide +kernel : decode mX2_init.2.1 5 = .ok (.bipush 101, 2)) (by decide) (?_ : XW _ _ _ 53 _ _ _ 7 _ _)
  refine xo_newa (N := 101) (ty := .long) (b := 2) (bs := 183) (by decide +kernel : decode mX2_init.2.1 7 = .ok (.newarray .long, 2)) cA_long rfl (Or.inr rfl) rfl (by decide) (by decide) (by decide) (?_ : XW _ _ _ 54 _ _ _ 9 _ _)
  refine xo_putR (by decide +kernel : decode mX2_init.2.1 9 = .ok (.putfield 9, 3)) fX2_9 rfl (by decide) rfl (?_ : XW _ _ _ 54 _ _ _ 12 _ _)
  refine xi_aload_n (by decide +kernel : decode mX2_init.2.1 12 = .ok (.aload_n 0, 1)) rfl rfl (?_ : XW _ _ _ 54 _ _ _ 13 _ _)
  refine xi_bipush (v := 101) (by decide +kernel : decode mX2_init.2.1 13 = .ok (.bipush 101, 2)) (by decide) (?_ : XW _ _ _ 54 _ _ _ 15 _ _)
  refine xo_newa (N := 101) (ty := .long) (b := 1) (bs := 82) (by decide +kernel : decode mX2_init.2.1 15 = .ok (.newarray .long, 2)) cA_long rfl (Or.inr rfl) rfl (by decide) (by decide) (by decide) (?_ : XW _ _ _ 55 _ _ _ 17 _ _)
  refine xo_putR (by decide +kernel : decode mX2_init.2.1 17 = .ok (.putfield 15, 3)) fX2_15 rfl (by decide) rfl (?_ : XW _ _ _ 55 _ _ _ 20 _ _)
  refine xi_aload_n (by decide +kernel : decode mX2_init.2.1 20 = .ok (.aload_n 0, 1)) rfl rfl (?_ : XW _ _ _ 55 _ _ _ 21 _ _)
  refine xi_bipush (v := 82) (by decide +kernel : decode mX2_init.2.1 21 = .ok (.bipush 82, 2)) (by decide) (?_ : XW _ _ _ 55 _ _ _ 23 _ _)
  refine xo_newS (N := 82) (b := 0) (bs := 0) (by decide +kernel : decode mX2_init.2.1 23 = .ok (.newarray .long, 2)) cA_long rfl ((xfl_same (by decide +kernel)).trans hf) (by decide) (by decide) (?_ : XW _ _ _ 55 _ _ _ 25 _ _)
  refine xo_putF (by decide +kernel : decode mX2_init.2.1 25 = .ok (.putfield 18, 3)) fX2_18 rfl rfl rfl (by decide) rfl (?_ : XW _ _ _ 55 _ _ _ 28 _ _)
  exact xi_vret (by decide +kernel : decode mX2_init.2.1 28 = .ok (.return_, 1)) rfl ⟨rfl, rfl⟩
theorem qO_X5 : Cond.methodLink RX5 3 Lib.objectInit ∈ gtbl := gt_1 39 rfl rfl
theorem qN_X5_9 : xN RX5 9 0 := ⟨RX0, TX0, 6, rfl, gt_1 40 rfl rfl, gt_1 41 rfl rfl, cN_X0⟩
theorem qI_X5_11 : xIn RX5 11 mX0_init 0 := ⟨gin_self, Or.inr ⟨_, gl_1 42 rfl⟩, cI_X0_init, cN_X0, cC_X0_init, cD_X0_init, rfl⟩
def O5_2 : List HO := [oP 2 12 (some 10), oN 10, oP 2 11 (some 9), oN 9, oP 2 10 (some 8), oN 8, oP 2 9 (some 7), oN 7, oP 2 8 (some 3), oP 3 5 (some 6), oN 6, oP 3 4 (some 5), oN 5, oP 3 2 (some 4), oN 4, oN 3]
set_option maxRecDepth 20000 in
theorem s_X5_init_2 (h : XH) : XSpec mX5_init 5 8 1726 3 11 [.ref 2] h (fun v h' => v = none ∧ CRw h' 2 b0T ∧ xP h' = xP (hrun O5_2 h) ∧ ∀ c, c < 2 → xI h' c = xI h c) xno := by
  refine XSpec.of rfl (by decide) (Nat.le_of_ble_eq_true rfl) rfl (xh_0 (?_ : XW _ _ _ _ _ _ _ 0 _ _))
  refine xi_aload_n (by decide +kernel : decode mX5_init.2.1 0 = .ok (.aload_n 0, 1)) rfl rfl (?_ : XW _ _ _ 3 _ _ _ 1 _ _)
  refine xi_objI (by decide +kernel : decode mX5_init.2.1 1 = .ok (.invokespecial 3, 3)) qO_X5 (by decide) (by decide) (by decide) (?_ : XW _ _ _ 3 _ _ _ 4 _ _)
  refine xi_aload_n (by decide +kernel : decode mX5_init.2.1 4 = .ok (.aload_n 0, 1)) rfl rfl (?_ : XW _ _ _ 3 _ _ _ 5 _ _)
  refine xo_new (ci := 0) (b := 7) (bs := 1720) (by decide +kernel : decode mX5_init.2.1 5 = .ok (.new 9, 3)) qN_X5_9 rfl (by decide) (by decide) (?_ : XW _ _ _ 4 _ _ _ 8 _ _)
  refine xi_dup (by decide +kernel : decode mX5_init.2.1 8 = .ok (.dup, 1)) rfl (?_ : XW _ _ _ 4 _ _ _ 9 _ _)
  refine xo_callI (b := 4) (bs := 156) (mc := 3) (ms := 1564) (n' := 7) (ps := [oP 3 5 (some 6), oN 6, oP 3 4 (some 5), oN 5, oP 3 2 (some 4), oN 4]) (As := []) (by decide +kernel : decode mX5_init.2.1 9 = .ok (.invokespecial 11, 3)) qI_X5_11 rfl rfl (by decide) rfl (s_X0_init (n := 4) (a := 3) rfl rfl rfl rfl (by decide) (by decide) _) (by decide) (by decide) (by decide) (by decide) rfl (?_ : XW _ _ _ 7 _ _ _ 12 _ _)
  refine xo_putF (by decide +kernel : decode mX5_init.2.1 12 = .ok (.putfield 12, 3)) fX5_12 rfl rfl rfl (by decide) rfl (?_ : XW _ _ _ 7 _ _ _ 15 _ _)
  refine xi_aload_n (by decide +kernel : decode mX5_init.2.1 15 = .ok (.aload_n 0, 1)) rfl rfl (?_ : XW _ _ _ 7 _ _ _ 16 _ _)
  refine xi_bipush (v := 7) (by decide +kernel : decode mX5_init.2.1 16 = .ok (.bipush 7, 2)) (by decide) (?_ : XW _ _ _ 7 _ _ _ 18 _ _)
  refine xo_newa (N := 7) (ty := .int) (b := 3) (bs := 149) (by decide +kernel : decode mX5_init.2.1 18 = .ok (.newarray .int, 2)) cA_int rfl (Or.inl rfl) rfl (by decide) (by decide) (by decide) (?_ : XW _ _ _ 8 _ _ _ 20 _ _)
  refine xo_putF (by decide +kernel : decode mX5_init.2.1 20 = .ok (.putfield 18, 3)) fX5_18 rfl rfl rfl (by decide) rfl (?_ : XW _ _ _ 8 _ _ _ 23 _ _)
  refine xi_aload_n (by decide +kernel : decode mX5_init.2.1 23 = .ok (.aload_n 0, 1)) rfl rfl (?_ : XW _ _ _ 8 _ _ _ 24 _ _)
  refine xi_bipush (v := 24) (by decide +kernel : decode mX5_init.2.1 24 = .ok (.bipush 24, 2)) (by decide) (?_ : XW _ _ _ 8 _ _ _ 26 _ _)
  refine xo_newa (N := 24) (ty := .int) (b := 2) (bs := 125) (by decide +kernel : decode mX5_init.2.1 26 = .ok (.newarray .int, 2)) cA_int rfl (Or.inl rfl) rfl (by decide) (by decide) (by decide) (?_ : XW _ _ _ 9 _ _ _ 28 _ _)
  refine xo_putF (by decide +kernel : decode mX5_init.2.1 28 = .ok (.putfield 22, 3)) fX5_22 rfl rfl rfl (by decide) rfl (?_ : XW _ _ _ 9 _ _ _ 31 _ _)
  refine xi_aload_n (by decide +kernel : decode mX5_init.2.1 31 = .ok (.aload_n 0, 1)) rfl rfl (?_ : XW _ _ _ 9 _ _ _ 32 _ _)
  refine xi_bipush (v := 24) (by decide +kernel : decode mX5_init.2.1 32 = .ok (.bipush 24, 2)) (by decide) (?_ : XW _ _ _ 9 _ _ _ 34 _ _)
  refine xo_newa (N := 24) (ty := .int) (b := 1) (bs := 101) (by decide +kernel : decode mX5_init.2.1 34 = .ok (.newarray .int, 2)) cA_int rfl (Or.inl rfl) rfl (by decide) (by decide) (by decide) (?_ : XW _ _ _ 10 _ _ _ 36 _ _)
  refine xo_putF (by decide +kernel : decode mX5_init.2.1 36 = .ok (.putfield 25, 3)) fX5_25 rfl rfl rfl (by decide) rfl (?_ : XW _ _ _ 10 _ _ _ 39 _ _)
  refine xi_aload_n (by decide +kernel : decode mX5_init.2.1 39 = .ok (.aload_n 0, 1)) rfl rfl (?_ : XW _ _ _ 10 _ _ _ 40 _ _)
  refine xi_bipush (v := 101) (by decide +kernel : decode mX5_init.2.1 40 = .ok (.bipush 101, 2)) (by decide) (?_ : XW _ _ _ 10 _ _ _ 42 _ _)
  refine xo_newa (N := 101) (ty := .boolean) (b := 0) (bs := 0) (by decide +kernel : decode mX5_init.2.1 42 = .ok (.newarray .boolean, 2)) cA_boolean rfl (Or.inl rfl) rfl (by decide) (by decide) (by decide) (?_ : XW _ _ _ 11 _ _ _ 44 _ _)
  refine xo_putF (by decide +kernel : decode mX5_init.2.1 44 = .ok (.putfield 28, 3)) fX5_28 rfl rfl rfl (by decide) rfl (?_ : XW _ _ _ 11 _ _ _ 47 _ _)
  refine xi_aload_n (by decide +kernel : decode mX5_init.2.1 47 = .ok (.aload_n 0, 1)) rfl rfl (?_ : XW _ _ _ 11 _ _ _ 48 _ _)
  have HR : xRul 2 (xP (hrun O5_2 h)) := ⟨Or.inl rfl, rfl, rfl, rfl, rfl, rfl, Or.inl rfl, rfl, rfl, rfl⟩
  have HO : ∀ o ∈ O5_2, 2 ≤ hcel o := by decide +kernel
  change XW _ _ _ _ _ _ (hrun O5_2 h) _ _ _
  refine xi_callV (b := 0) (bs := 0) (As := []) (st := []) (by decide +kernel : decode mX5_init.2.1 48 = .ok (.invokevirtual 32, 3)) kX5_32 rfl rfl (by decide) rfl (c_clearn (n := 11) (r := 2) (by decide) HR) (by decide) (by decide) (by decide) (fun _ => ⟨by decide, rfl⟩) (fun v h1 q => (?_ : XW _ _ _ 11 _ _ _ 51 _ _))
  obtain ⟨rfl, k1, k2, k3⟩ := q
  exact xi_vret (by decide +kernel : decode mX5_init.2.1 51 = .ok (.return_, 1)) rfl ⟨rfl, k1, k3, fun c hc => (k2 c (Or.inl hc)).trans (hrun_no (fun o ho e => by have := HO o ho; omega)).1⟩
def O5_12 : List HO := [oP 12 12 (some 20), oN 20, oP 12 11 (some 19), oN 19, oP 12 10 (some 18), oN 18, oP 12 9 (some 17), oN 17, oP 12 8 (some 13), oP 13 5 (some 16), oN 16, oP 13 4 (some 15), oN 15, oP 13 2 (some 14), oN 14, oN 13]
set_option maxRecDepth 20000 in
theorem s_X5_init_12 (h : XH) : XSpec mX5_init 5 8 1726 13 21 [.ref 12] h (fun v h' => v = none ∧ CRw h' 12 b0T ∧ xP h' = xP (hrun O5_12 h) ∧ ∀ c, c < 12 → xI h' c = xI h c) xno := by
  refine XSpec.of rfl (by decide) (Nat.le_of_ble_eq_true rfl) rfl (xh_0 (?_ : XW _ _ _ _ _ _ _ 0 _ _))
  refine xi_aload_n (by decide +kernel : decode mX5_init.2.1 0 = .ok (.aload_n 0, 1)) rfl rfl (?_ : XW _ _ _ 13 _ _ _ 1 _ _)
  refine xi_objI (by decide +kernel : decode mX5_init.2.1 1 = .ok (.invokespecial 3, 3)) qO_X5 (by decide) (by decide) (by decide) (?_ : XW _ _ _ 13 _ _ _ 4 _ _)
  refine xi_aload_n (by decide +kernel : decode mX5_init.2.1 4 = .ok (.aload_n 0, 1)) rfl rfl (?_ : XW _ _ _ 13 _ _ _ 5 _ _)
  refine xo_new (ci := 0) (b := 7) (bs := 1720) (by decide +kernel : decode mX5_init.2.1 5 = .ok (.new 9, 3)) qN_X5_9 rfl (by decide) (by decide) (?_ : XW _ _ _ 14 _ _ _ 8 _ _)
  refine xi_dup (by decide +kernel : decode mX5_init.2.1 8 = .ok (.dup, 1)) rfl (?_ : XW _ _ _ 14 _ _ _ 9 _ _)
  refine xo_callI (b := 4) (bs := 156) (mc := 3) (ms := 1564) (n' := 17) (ps := [oP 13 5 (some 16), oN 16, oP 13 4 (some 15), oN 15, oP 13 2 (some 14), oN 14]) (As := []) (by decide +kernel : decode mX5_init.2.1 9 = .ok (.invokespecial 11, 3)) qI_X5_11 rfl rfl (by decide) rfl (s_X0_init (n := 14) (a := 13) rfl rfl rfl rfl (by decide) (by decide) _) (by decide) (by decide) (by decide) (by decide) rfl (?_ : XW _ _ _ 17 _ _ _ 12 _ _)
  refine xo_putF (by decide +kernel : decode mX5_init.2.1 12 = .ok (.putfield 12, 3)) fX5_12 rfl rfl rfl (by decide) rfl (?_ : XW _ _ _ 17 _ _ _ 15 _ _)
  refine xi_aload_n (by decide +kernel : decode mX5_init.2.1 15 = .ok (.aload_n 0, 1)) rfl rfl (?_ : XW _ _ _ 17 _ _ _ 16 _ _)
  refine xi_bipush (v := 7) (by decide +kernel : decode mX5_init.2.1 16 = .ok (.bipush 7, 2)) (by decide) (?_ : XW _ _ _ 17 _ _ _ 18 _ _)
  refine xo_newa (N := 7) (ty := .int) (b := 3) (bs := 149) (by decide +kernel : decode mX5_init.2.1 18 = .ok (.newarray .int, 2)) cA_int rfl (Or.inl rfl) rfl (by decide) (by decide) (by decide) (?_ : XW _ _ _ 18 _ _ _ 20 _ _)
  refine xo_putF (by decide +kernel : decode mX5_init.2.1 20 = .ok (.putfield 18, 3)) fX5_18 rfl rfl rfl (by decide) rfl (?_ : XW _ _ _ 18 _ _ _ 23 _ _)
  refine xi_aload_n (by decide +kernel : decode mX5_init.2.1 23 = .ok (.aload_n 0, 1)) rfl rfl (?_ : XW _ _ _ 18 _ _ _ 24 _ _)
  refine xi_bipush (v := 24) (by decide +kernel : decode mX5_init.2.1 24 = .ok (.bipush 24, 2)) (by decide) (?_ : XW _ _ _ 18 _ _ _ 26 _ _)
  refine xo_newa (N := 24) (ty := .int) (b := 2) (bs := 125) (by decide +kernel : decode mX5_init.2.1 26 = .ok (.newarray .int, 2)) cA_int rfl (Or.inl rfl) rfl (by decide) (by decide) (by decide) (?_ : XW _ _ _ 19 _ _ _ 28 _ _)
  refine xo_putF (by decide +kernel : decode mX5_init.2.1 28 = .ok (.putfield 22, 3)) fX5_22 rfl rfl rfl (by decide) rfl (?_ : XW _ _ _ 19 _ _ _ 31 _ _)
  refine xi_aload_n (by decide +kernel : decode mX5_init.2.1 31 = .ok (.aload_n 0, 1)) rfl rfl (?_ : XW _ _ _ 19 _ _ _ 32 _ _)
  refine xi_bipush (v := 24) (by decide +kernel : decode mX5_init.2.1 32 = .ok (.bipush 24, 2)) (by decide) (?_ : XW _ _ _ 19 _ _ _ 34 _ _)
  refine xo_newa (N := 24) (ty := .int) (b := 1) (bs := 101) (by decide +kernel : decode mX5_init.2.1 34 = .ok (.newarray .int, 2)) cA_int rfl (Or.inl rfl) rfl (by decide) (by decide) (by decide) (?_ : XW _ _ _ 20 _ _ _ 36 _ _)
  refine xo_putF (by decide +kernel : decode mX5_init.2.1 36 = .ok (.putfield 25, 3)) fX5_25 rfl rfl rfl (by decide) rfl (?_ : XW _ _ _ 20 _ _ _ 39 _ _)
  refine xi_aload_n (by decide +kernel : decode mX5_init.2.1 39 = .ok (.aload_n 0, 1)) rfl rfl (?_ : XW _ _ _ 20 _ _ _ 40 _ _)
  refine xi_bipush (v := 101) (by decide +kernel : decode mX5_init.2.1 40 = .ok (.bipush 101, 2)) (by decide) (?_ : XW _ _ _ 20 _ _ _ 42 _ _)
  refine xo_newa (N := 101) (ty := .boolean) (b := 0) (bs := 0) (by decide +kernel : decode mX5_init.2.1 42 = .ok (.newarray .boolean, 2)) cA_boolean rfl (Or.inl rfl) rfl (by decide) (by decide) (by decide) (?_ : XW _ _ _ 21 _ _ _ 44 _ _)
  refine xo_putF (by decide +kernel : decode mX5_init.2.1 44 = .ok (.putfield 28, 3)) fX5_28 rfl rfl rfl (by decide) rfl (?_ : XW _ _ _ 21 _ _ _ 47 _ _)
  refine xi_aload_n (by decide +kernel : decode mX5_init.2.1 47 = .ok (.aload_n 0, 1)) rfl rfl (?_ : XW _ _ _ 21 _ _ _ 48 _ _)
  have HR : xRul 12 (xP (hrun O5_12 h)) := ⟨Or.inr rfl, rfl, rfl, rfl, rfl, rfl, Or.inr rfl, rfl, rfl, rfl⟩
  have HO : ∀ o ∈ O5_12, 12 ≤ hcel o := by decide +kernel
  change XW _ _ _ _ _ _ (hrun O5_12 h) _ _ _
  refine xi_callV (b := 0) (bs := 0) (As := []) (st := []) (by decide +kernel : decode mX5_init.2.1 48 = .ok (.invokevirtual 32, 3)) kX5_32 rfl rfl (by decide) rfl (c_clearn (n := 21) (r := 12) (by decide) HR) (by decide) (by decide) (by decide) (fun _ => ⟨by decide, rfl⟩) (fun v h1 q => (?_ : XW _ _ _ 21 _ _ _ 51 _ _))
  obtain ⟨rfl, k1, k2, k3⟩ := q
  exact xi_vret (by decide +kernel : decode mX5_init.2.1 51 = .ok (.return_, 1)) rfl ⟨rfl, k1, k3, fun c hc => (k2 c (Or.inl hc)).trans (hrun_no (fun o ho e => by have := HO o ho; omega)).1⟩
theorem qO_X4 : Cond.methodLink RX4 3 Lib.objectInit ∈ gtbl := gt_1 180 rfl rfl
theorem qN_X4_9 : xN RX4 9 5 := ⟨RX5, TX5, 13, rfl, gt_1 181 rfl rfl, gt_1 35 rfl rfl, cN_X5⟩
theorem qI_X4_11 : xIn RX4 11 mX5_init 0 := ⟨gin_self, Or.inl (gt_1 182 rfl rfl), cI_X5_init, cN_X5, cC_X5_init, cD_X5_init, rfl⟩
def O4_1 : List HO := [oN 12]
def O4_2 : List HO := [oP 11 1 (some 1), oP 11 7 (some 12)]
def O4 : List HO := O4_2 ++ (O5_12 ++ O4_1)
set_option maxRecDepth 20000 in
theorem s_X4_init (h : XH) : XSpec mX4_init 6 9 1739 12 21 [.ref 11, .ref 1] h (fun v h' => v = none ∧ xP h' = xP (hrun O4 h) ∧ ∀ c, c < 11 → xI h' c = xI h c) xno := by
  refine XSpec.of rfl (by decide) (Nat.le_of_ble_eq_true rfl) rfl (xh_0 (?_ : XW _ _ _ _ _ _ _ 0 _ _))
  refine xi_aload_n (by decide +kernel : decode mX4_init.2.1 0 = .ok (.aload_n 0, 1)) rfl rfl (?_ : XW _ _ _ 12 _ _ _ 1 _ _)
  refine xi_objI (by decide +kernel : decode mX4_init.2.1 1 = .ok (.invokespecial 3, 3)) qO_X4 (by decide) (by decide) (by decide) (?_ : XW _ _ _ 12 _ _ _ 4 _ _)
  refine xi_aload_n (by decide +kernel : decode mX4_init.2.1 4 = .ok (.aload_n 0, 1)) rfl rfl (?_ : XW _ _ _ 12 _ _ _ 5 _ _)
  refine xo_new (ci := 5) (b := 8) (bs := 1726) (by decide +kernel : decode mX4_init.2.1 5 = .ok (.new 9, 3)) qN_X4_9 rfl (by decide) (by decide) (?_ : XW _ _ _ 13 _ _ _ 8 _ _)
  refine xi_dup (by decide +kernel : decode mX4_init.2.1 8 = .ok (.dup, 1)) rfl (?_ : XW _ _ _ 13 _ _ _ 9 _ _)
  change XW _ _ _ _ _ _ (hrun O4_1 h) _ _ _
  refine xi_callI (b := 0) (bs := 0) (mc := 8) (ms := 1726) (n' := 21) (As := []) (by decide +kernel : decode mX4_init.2.1 9 = .ok (.invokespecial 11, 3)) qI_X4_11 rfl rfl (by decide) rfl (s_X5_init_12 _) (by decide) (by decide) (by decide) (fun _ _ _ _ => ⟨by decide, Or.inl rfl⟩) (fun v h1 q => xh_0 (?_ : XW _ _ _ 21 _ _ _ 12 _ _))
  obtain ⟨rfl, u1, p1, i1⟩ := q
  change XW _ _ _ _ _ _ _ _ _ ([.ref 12, .ref 11])
  refine xo_putR (by decide +kernel : decode mX4_init.2.1 12 = .ok (.putfield 12, 3)) fX4_12 rfl (by decide) rfl (?_ : XW _ _ _ 21 _ _ _ 15 _ _)
  refine xi_aload_n (by decide +kernel : decode mX4_init.2.1 15 = .ok (.aload_n 0, 1)) rfl rfl (?_ : XW _ _ _ 21 _ _ _ 16 _ _)
  refine xi_aload_n (by decide +kernel : decode mX4_init.2.1 16 = .ok (.aload_n 1, 1)) rfl rfl (?_ : XW _ _ _ 21 _ _ _ 17 _ _)
  refine xo_putF (by decide +kernel : decode mX4_init.2.1 17 = .ok (.putfield 18, 3)) fX4_18 rfl rfl rfl (by decide) rfl (?_ : XW _ _ _ 21 _ _ _ 20 _ _)
  have e1 : xP (hrun O4_2 h1) = xP (hrun O4 h) := by
    rw [hrun_P O4_2 p1]
    unfold O4
    rw [hrun_app, hrun_app]
  have e2 : ∀ c, c < 11 → xI (hrun O4_2 h1) c = xI h c := fun c hc => by
    have a2 : ∀ o ∈ O4_2, 11 ≤ hcel o := by decide +kernel
    have a1 : ∀ o ∈ O4_1, 11 ≤ hcel o := by decide +kernel
    rw [(hrun_no (fun o ho e => by have := a2 o ho; omega)).1, i1 c (by omega), (hrun_no (fun o ho e => by have := a1 o ho; omega)).1]
  exact xi_vret (by decide +kernel : decode mX4_init.2.1 20 = .ok (.return_, 1)) rfl ⟨rfl, e1, e2⟩
theorem qO_X10 : Cond.methodLink RX10 3 Lib.objectInit ∈ gtbl := gt_1 31 rfl rfl
theorem qN_X10_20 : xN RX10 20 5 := ⟨RX5, TX5, 13, rfl, gt_1 34 rfl rfl, gt_1 35 rfl rfl, cN_X5⟩
theorem qN_X10_27 : xN RX10 27 4 := ⟨RX4, TX4, 8, rfl, gt_1 175 rfl rfl, gt_1 176 rfl rfl, cN_X4⟩
theorem qN_X10_36 : xN RX10 36 3 := ⟨RX3, TX3, 3, rfl, gt_1 209 rfl rfl, gt_1 210 rfl rfl, cN_X3⟩
theorem qN_X10_46 : xN RX10 46 7 := ⟨RX7, TX7, 8, rfl, gt_1 226 rfl rfl, gt_1 227 rfl rfl, cN_X7⟩
theorem qN_X10_60 : xN RX10 60 8 := ⟨RX8, TX8, 5, rfl, gt_2 21 rfl rfl, gt_2 22 rfl rfl, cN_X8⟩
theorem qN_X10_67 : xN RX10 67 6 := ⟨RX6, TX6, 3, rfl, gt_2 45 rfl rfl, gt_2 46 rfl rfl, cN_X6⟩
theorem qN_X10_77 : xN RX10 77 1 := ⟨RX1, TX1, 2, rfl, gt_2 62 rfl rfl, gt_2 63 rfl rfl, cN_X1⟩
theorem qN_X10_84 : xN RX10 84 2 := ⟨RX2, TX2, 3, rfl, gt_2 75 rfl rfl, gt_2 76 rfl rfl, cN_X2⟩
theorem qN_X10_91 : xN RX10 91 9 := ⟨RX9, TX9, 3, rfl, gt_2 91 rfl rfl, gt_2 92 rfl rfl, cN_X9⟩
theorem qI_X10_22 : xIn RX10 22 mX5_init 0 := ⟨gin_self, Or.inl (gt_1 36 rfl rfl), cI_X5_init, cN_X5, cC_X5_init, cD_X5_init, rfl⟩
def OB_1 : List HO := [oN 2, oI 0 2 (-1), oI 0 1 0, oP 0 0 (some 1), oN 1, oN 0]
theorem qI_X10_29 : xIn RX10 29 mX4_init 1 := ⟨gin_self, Or.inl (gt_1 177 rfl rfl), cI_X4_init, cN_X4, cC_X4_init, cD_X4_init, rfl⟩
def OB_2 : List HO := [oN 11, oP 0 3 (some 2)]
theorem qI_X10_38 : xIn RX10 38 mX3_init 0 := ⟨gin_self, Or.inr ⟨_, gl_1 211 rfl⟩, cI_X3_init, cN_X3, cC_X3_init, cD_X3_init, rfl⟩
theorem qI_X10_48 : xIn RX10 48 mX7_init 0 := ⟨gin_self, Or.inr ⟨_, gl_1 228 rfl⟩, cI_X7_init, cN_X7, cC_X7_init, cD_X7_init, rfl⟩
theorem qI_X10_62 : xIn RX10 62 mX8_init 0 := ⟨gin_self, Or.inr ⟨_, gl_2 23 rfl⟩, cI_X8_init, cN_X8, cC_X8_init, cD_X8_init, rfl⟩
theorem qI_X10_69 : xIn RX10 69 mX6_init 0 := ⟨gin_self, Or.inr ⟨_, gl_2 47 rfl⟩, cI_X6_init, cN_X6, cC_X6_init, cD_X6_init, rfl⟩
theorem qI_X10_79 : xIn RX10 79 mX1_init 0 := ⟨gin_self, Or.inr ⟨_, gl_2 64 rfl⟩, cI_X1_init, cN_X1, cC_X1_init, cD_X1_init, rfl⟩
theorem qI_X10_86 : xIn RX10 86 mX2_init 0 := ⟨gin_self, Or.inr ⟨_, gl_2 77 rfl⟩, cI_X2_init, cN_X2, cC_X2_init, cD_X2_init, rfl⟩
theorem qI_X10_93 : xIn RX10 93 mX9_init 0 := ⟨gin_self, Or.inr ⟨_, gl_2 93 rfl⟩, cI_X9_init, cN_X9, cC_X9_init, cD_X9_init, rfl⟩
def OB_3 : List HO := [oP 0 15 (some 55), oI 55 2 (-1), oI 55 1 0, oI 55 0 0, oN 55, oP 0 14 (some 52), oP 52 2 (some 100), oN 100, oP 52 1 (some 54), oN 54, oP 52 0 (some 53), oN 53, oN 52, oP 0 13 (some 49), oP 49 1 (some 51), oN 51, oP 49 0 (some 50), oN 50, oN 49, oP 0 12 (some 46), oP 46 2 (some 48), oN 48, oP 46 1 (some 47), oN 47, oN 46, oP 0 11 (some 43), oP 43 2 (some 45), oN 45, oP 43 1 (some 44), oN 44, oN 43, oP 0 10 (some 39), oP 39 3 (some 42), oN 42, oP 39 2 (some 41), oN 41, oP 39 1 (some 40), oN 40, oI 39 0 (-1), oN 39, oI 0 9 0, oP 0 8 (some 34), oP 34 7 (some 38), oN 38, oP 34 6 (some 37), oN 37, oP 34 5 (some 36), oN 36, oP 34 4 (some 35), oN 35, oN 34, oP 0 7 (some 29), oP 29 7 (some 33), oN 33, oP 29 6 (some 32), oN 32, oP 29 5 (some 31), oN 31, oP 29 4 (some 30), oN 30, oN 29, oP 0 6 (some 25), oP 25 2 (some 28), oN 28, oP 25 1 (some 27), oN 27, oP 25 0 (some 26), oN 26, oN 25, oP 0 5 (some 21), oP 21 2 (some 24), oN 24, oP 21 1 (some 23), oN 23, oP 21 0 (some 22), oN 22, oN 21, oP 0 4 (some 11)]
/-- the state of a board that is made anew: but for its code's row -/
def gZ : GD := ((0, 0, 0), fun _ => 0, fun _ _ => 0, fun _ => 0, fun _ => 0)
def sZ : SG := (b0T, gZ, (0, gZ), (-1, fun _ => 0), (0, fun _ => 0, -1))
def OBP : List HO := OB_3 ++ (O4 ++ (OB_2 ++ (O5_2 ++ OB_1)))
def OBI : List HO := OB_3 ++ (OB_2 ++ OB_1)
theorem made_board {h1 h2 : XH} (u1 : CRw h1 2 b0T) (p1 : xP h1 = xP (hrun O5_2 (hrun OB_1 hZ))) (i1 : ∀ c, c < 2 → xI h1 c = xI (hrun OB_1 hZ) c) (p2 : xP h2 = xP (hrun O4 (hrun OB_2 h1))) (i2 : ∀ c, c < 11 → xI h2 c = xI (hrun OB_2 h1) c) :
    ∃ C : Nat → Int32, C 0 = -1 ∧ GoodBD (wC b0T C) ∧ XSpec mX10_startAnew 6 0 0 56 56 [.ref 0] (hrun OB_3 h2) (fun v h' => v = none ∧ CI h' 2 (sNew sZ (wC b0T C)) ∧ cch (hrun OB_3 h2) h') xno := by
  have eP : xP (hrun OB_3 h2) = xP (hrun OBP hZ) := by
    unfold OBP
    rw [hrun_app, hrun_app, hrun_app, hrun_app]
    refine hrun_P _ (p2.trans (hrun_P _ (hrun_P _ p1)))
  have e0 : xI (hrun OB_3 h2) 0 = xI (hrun OBI hZ) 0 := by
    unfold OBI
    rw [hrun_app, hrun_app]
    exact hrun_Ic _ ((i2 0 (by omega)).trans (hrun_Ic _ (i1 0 (by omega))))
  have n3 : ∀ o ∈ OB_3, hcel o = 0 ∨ 11 ≤ hcel o := by decide +kernel
  have n2 : ∀ o ∈ OB_2, hcel o = 0 ∨ 11 ≤ hcel o := by decide +kernel
  have eR : ∀ c, 2 ≤ c → c ≤ 10 → xI (hrun OB_3 h2) c = xI h1 c := fun c q1 q2 => by
    rw [(hrun_no (fun o ho e => by have := n3 o ho; omega)).1, i2 c (by omega), (hrun_no (fun o ho e => by have := n2 o ho; omega)).1]
  have hW : CRw (hrun OB_3 h2) 2 b0T := u1.of (fun c q1 q2 => eR c q1 (by omega))
  have hc : ∀ k, k < bLen b0T → xI (hrun OB_3 h2) (2 + 3) k = bC b0T k := fun k hk => hW.2.2.2.1 k hk
  have hg : GoodBD (wC b0T (xI (hrun OB_3 h2) (2 + 3))) := wC_good b0T_good hc
  have x1 : xBrd 2 (xP (hrun OBP hZ)) := by unfold xBrd; decide +kernel
  have x2 : xPth 25 (xP (hrun OBP hZ)) := by unfold xPth; decide +kernel
  have x3 : xSta 29 (xP (hrun OBP hZ)) := by unfold xSta; decide +kernel
  have x4 : xSta 34 (xP (hrun OBP hZ)) := by unfold xSta; decide +kernel
  have x5 : xWay (xP (hrun OBP hZ)) := by unfold xWay; decide +kernel
  have x6 : xSnd 43 44 45 (xP (hrun OBP hZ)) := by unfold xSnd; decide +kernel
  have x7 : xSnd 46 47 48 (xP (hrun OBP hZ)) := by unfold xSnd; decide +kernel
  have x8 : xHop 50 51 (xP (hrun OBP hZ)) := by unfold xHop; decide +kernel
  have x9 : xNot 53 54 (xP (hrun OBP hZ)) := by unfold xNot; decide +kernel
  have x10 : xWri (xP (hrun OBP hZ)) := True.intro
  have x11 : xRdr 12 (xP (hrun OBP hZ)) := by unfold xRdr; decide +kernel
  have x12 : xRul 12 (xP (hrun OBP hZ)) := by unfold xRul xFor; decide +kernel
  have x13 : xRul 2 (xP (hrun OBP hZ)) := by unfold xRul xFor; decide +kernel
  have x14 : xPth 21 (xP (hrun OBP hZ)) := by unfold xPth; decide +kernel
  have t1 : xI (hrun OBI hZ) 0 1 = nI 0 ∧ xI (hrun OBI hZ) 0 2 = -1 := by decide +kernel
  have t2 : ∀ i, i < 3 → xI (hrun OB_3 hZ) 33 i = 0 := by decide +kernel
  refine ⟨xI (hrun OB_3 h2) (2 + 3), hc 0 (by decide), hg, s_anewn (s := sZ) (n := 56) (by decide) ?_ (by rw [eP]; exact x13) (by rw [eP]; exact x14) hW.rl hg (fun i hi => ?_) ?_⟩
  · rw [eP]
    exact ⟨x1, x2, x3, x4, x5, ⟨_, _, x6⟩, ⟨_, _, x7⟩, ⟨_, _, x8⟩, ⟨_, _, x9⟩, x10, ⟨12, by decide, x11, x12⟩⟩
  · rw [(hrun_new (by decide +kernel) h2 hZ).1]
    exact t2 i hi
  · unfold CTp
    rw [e0]
    exact ⟨t1.1, t1.2, fun i hi => absurd hi (Nat.not_lt_zero i)⟩
set_option maxRecDepth 20000 in
theorem s_X10_init : XSpec mX10_init 7 56 11865 1 56 [.ref 0] (hrun [oN 0] hZ) (fun v h' => v = none ∧ ∃ C : Nat → Int32, C 0 = -1 ∧ GoodBD (wC b0T C) ∧ CI h' 2 (sNew sZ (wC b0T C))) xno := by
  refine XSpec.of rfl (by decide) (Nat.le_of_ble_eq_true rfl) rfl (?_ : XW _ _ _ _ _ _ _ 0 _ _)
  refine xi_aload_n (by decide +kernel : decode mX10_init.2.1 0 = .ok (.aload_n 0, 1)) rfl rfl (?_ : XW _ _ _ 1 _ _ _ 1 _ _)
  refine xi_objI (by decide +kernel : decode mX10_init.2.1 1 = .ok (.invokespecial 3, 3)) qO_X10 (by decide) (by decide) (by decide) (?_ : XW _ _ _ 1 _ _ _ 4 _ _)
  refine xi_aload_n (by decide +kernel : decode mX10_init.2.1 4 = .ok (.aload_n 0, 1)) rfl rfl (?_ : XW _ _ _ 1 _ _ _ 5 _ _)
  refine xi_sipush (v := 500) (by decide +kernel : decode mX10_init.2.1 5 = .ok (.sipush 500, 3)) (by decide) (?_ : XW _ _ _ 1 _ _ _ 8 _ _)
  refine xo_newa (N := 500) (ty := .char) (b := 55) (bs := 11365) (by decide +kernel : decode mX10_init.2.1 8 = .ok (.newarray .char, 2)) cA_char rfl (Or.inl rfl) rfl (by decide) (by decide) (by decide) (?_ : XW _ _ _ 2 _ _ _ 10 _ _)
  refine xo_putF (by decide +kernel : decode mX10_init.2.1 10 = .ok (.putfield 9, 3)) fX10_9 rfl rfl rfl (by decide) rfl (?_ : XW _ _ _ 2 _ _ _ 13 _ _)
  refine xi_aload_n (by decide +kernel : decode mX10_init.2.1 13 = .ok (.aload_n 0, 1)) rfl rfl (?_ : XW _ _ _ 2 _ _ _ 14 _ _)
  refine xi_iconst (v := 0) (by decide +kernel : decode mX10_init.2.1 14 = .ok (.iconst 0, 1)) (by decide) (?_ : XW _ _ _ 2 _ _ _ 15 _ _)
  refine xo_putI (by decide +kernel : decode mX10_init.2.1 15 = .ok (.putfield 13, 3)) fX10_13 rfl (by decide) rfl (by decide) (by decide) (?_ : XW _ _ _ 2 _ _ _ 18 _ _)
  refine xi_aload_n (by decide +kernel : decode mX10_init.2.1 18 = .ok (.aload_n 0, 1)) rfl rfl (?_ : XW _ _ _ 2 _ _ _ 19 _ _)
  refine xi_iconst (v := -1) (by decide +kernel : decode mX10_init.2.1 19 = .ok (.iconst (-1), 1)) (by decide) (?_ : XW _ _ _ 2 _ _ _ 20 _ _)
  refine xo_putI (by decide +kernel : decode mX10_init.2.1 20 = .ok (.putfield 17, 3)) fX10_17 rfl (by decide) rfl (by decide) (by decide) (?_ : XW _ _ _ 2 _ _ _ 23 _ _)
  refine xi_aload_n (by decide +kernel : decode mX10_init.2.1 23 = .ok (.aload_n 0, 1)) rfl rfl (?_ : XW _ _ _ 2 _ _ _ 24 _ _)
  refine xo_new (ci := 5) (b := 54) (bs := 11352) (by decide +kernel : decode mX10_init.2.1 24 = .ok (.new 20, 3)) qN_X10_20 rfl (by decide) (by decide) (?_ : XW _ _ _ 3 _ _ _ 27 _ _)
  refine xi_dup (by decide +kernel : decode mX10_init.2.1 27 = .ok (.dup, 1)) rfl (?_ : XW _ _ _ 3 _ _ _ 28 _ _)
  change XW _ _ _ _ _ _ (hrun OB_1 hZ) _ _ _
  refine xi_callI (b := 46) (bs := 9626) (mc := 8) (ms := 1726) (n' := 11) (As := []) (by decide +kernel : decode mX10_init.2.1 28 = .ok (.invokespecial 22, 3)) qI_X10_22 rfl rfl (by decide) rfl (s_X5_init_2 _) (by decide) (by decide) (by decide) (fun _ _ _ _ => ⟨by decide, Or.inl rfl⟩) (fun v h1 q => xh_0 (?_ : XW _ _ _ 11 _ _ _ 31 _ _))
  obtain ⟨rfl, u1, p1, i1⟩ := q
  change XW _ _ _ _ _ _ _ _ _ ([.ref 2, .ref 0])
  refine xo_putR (by decide +kernel : decode mX10_init.2.1 31 = .ok (.putfield 23, 3)) fX10_23 rfl (by decide) rfl (?_ : XW _ _ _ 11 _ _ _ 34 _ _)
  refine xi_aload_n (by decide +kernel : decode mX10_init.2.1 34 = .ok (.aload_n 0, 1)) rfl rfl (?_ : XW _ _ _ 11 _ _ _ 35 _ _)
  refine xo_new (ci := 4) (b := 45) (bs := 9618) (by decide +kernel : decode mX10_init.2.1 35 = .ok (.new 27, 3)) qN_X10_27 rfl (by decide) (by decide) (?_ : XW _ _ _ 12 _ _ _ 38 _ _)
  refine xi_dup (by decide +kernel : decode mX10_init.2.1 38 = .ok (.dup, 1)) rfl (?_ : XW _ _ _ 12 _ _ _ 39 _ _)
  refine xi_aload_n (by decide +kernel : decode mX10_init.2.1 39 = .ok (.aload_n 0, 1)) rfl rfl (?_ : XW _ _ _ 12 _ _ _ 40 _ _)
  refine xi_getR (y := 1) (by decide +kernel : decode mX10_init.2.1 40 = .ok (.getfield 9, 3)) fX10_9 rfl (by decide) rfl (by rw [hrun_P _ p1]; decide +kernel) (?_ : XW _ _ _ 12 _ _ _ 43 _ _)
  change XW _ _ _ _ _ _ (hrun OB_2 h1) _ _ _
  refine xi_callI (b := 36) (bs := 7879) (mc := 9) (ms := 1739) (n' := 21) (As := [.ref 1]) (by decide +kernel : decode mX10_init.2.1 43 = .ok (.invokespecial 29, 3)) qI_X10_29 rfl rfl (by decide) rfl (s_X4_init _) (by decide) (by decide) (by decide) (fun _ _ _ _ => ⟨by decide, Or.inl rfl⟩) (fun v h2 q => xh_0 (?_ : XW _ _ _ 21 _ _ _ 46 _ _))
  obtain ⟨rfl, p2, i2⟩ := q
  change XW _ _ _ _ _ _ _ _ _ ([.ref 11, .ref 0])
  refine xo_putF (by decide +kernel : decode mX10_init.2.1 46 = .ok (.putfield 32, 3)) fX10_32 rfl rfl rfl (by decide) rfl (?_ : XW _ _ _ 21 _ _ _ 49 _ _)
  refine xi_aload_n (by decide +kernel : decode mX10_init.2.1 49 = .ok (.aload_n 0, 1)) rfl rfl (?_ : XW _ _ _ 21 _ _ _ 50 _ _)
  refine xo_new (ci := 3) (b := 35) (bs := 7876) (by decide +kernel : decode mX10_init.2.1 50 = .ok (.new 36, 3)) qN_X10_36 rfl (by decide) (by decide) (?_ : XW _ _ _ 22 _ _ _ 53 _ _)
  refine xi_dup (by decide +kernel : decode mX10_init.2.1 53 = .ok (.dup, 1)) rfl (?_ : XW _ _ _ 22 _ _ _ 54 _ _)
  refine xo_callI (b := 32) (bs := 6361) (mc := 3) (ms := 1515) (n' := 25) (ps := [oP 21 2 (some 24), oN 24, oP 21 1 (some 23), oN 23, oP 21 0 (some 22), oN 22]) (As := []) (by decide +kernel : decode mX10_init.2.1 54 = .ok (.invokespecial 38, 3)) qI_X10_38 rfl rfl (by decide) rfl (s_X3_init (n := 22) (a := 21) rfl rfl rfl rfl (by decide) (by decide) _) (by decide) (by decide) (by decide) (by decide) rfl (?_ : XW _ _ _ 25 _ _ _ 57 _ _)
  refine xo_putF (by decide +kernel : decode mX10_init.2.1 57 = .ok (.putfield 39, 3)) fX10_39 rfl rfl rfl (by decide) rfl (?_ : XW _ _ _ 25 _ _ _ 60 _ _)
  refine xi_aload_n (by decide +kernel : decode mX10_init.2.1 60 = .ok (.aload_n 0, 1)) rfl rfl (?_ : XW _ _ _ 25 _ _ _ 61 _ _)
  refine xo_new (ci := 3) (b := 31) (bs := 6358) (by decide +kernel : decode mX10_init.2.1 61 = .ok (.new 36, 3)) qN_X10_36 rfl (by decide) (by decide) (?_ : XW _ _ _ 26 _ _ _ 64 _ _)
  refine xi_dup (by decide +kernel : decode mX10_init.2.1 64 = .ok (.dup, 1)) rfl (?_ : XW _ _ _ 26 _ _ _ 65 _ _)
  refine xo_callI (b := 28) (bs := 4843) (mc := 3) (ms := 1515) (n' := 29) (ps := [oP 25 2 (some 28), oN 28, oP 25 1 (some 27), oN 27, oP 25 0 (some 26), oN 26]) (As := []) (by decide +kernel : decode mX10_init.2.1 65 = .ok (.invokespecial 38, 3)) qI_X10_38 rfl rfl (by decide) rfl (s_X3_init (n := 26) (a := 25) rfl rfl rfl rfl (by decide) (by decide) _) (by decide) (by decide) (by decide) (by decide) rfl (?_ : XW _ _ _ 29 _ _ _ 68 _ _)
  refine xo_putF (by decide +kernel : decode mX10_init.2.1 68 = .ok (.putfield 43, 3)) fX10_43 rfl rfl rfl (by decide) rfl (?_ : XW _ _ _ 29 _ _ _ 71 _ _)
  refine xi_aload_n (by decide +kernel : decode mX10_init.2.1 71 = .ok (.aload_n 0, 1)) rfl rfl (?_ : XW _ _ _ 29 _ _ _ 72 _ _)
  refine xo_new (ci := 7) (b := 27) (bs := 4835) (by decide +kernel : decode mX10_init.2.1 72 = .ok (.new 46, 3)) qN_X10_46 rfl (by decide) (by decide) (?_ : XW _ _ _ 30 _ _ _ 75 _ _)
  refine xi_dup (by decide +kernel : decode mX10_init.2.1 75 = .ok (.dup, 1)) rfl (?_ : XW _ _ _ 30 _ _ _ 76 _ _)
  refine xo_callI (b := 23) (bs := 3788) (mc := 4) (ms := 1047) (n' := 34) (ps := [oP 29 7 (some 33), oN 33, oP 29 6 (some 32), oN 32, oP 29 5 (some 31), oN 31, oP 29 4 (some 30), oN 30]) (As := []) (by decide +kernel : decode mX10_init.2.1 76 = .ok (.invokespecial 48, 3)) qI_X10_48 rfl rfl (by decide) rfl (s_X7_init (n := 30) (a := 29) rfl rfl rfl rfl rfl (by decide) (by decide) _) (by decide) (by decide) (by decide) (by decide) rfl (?_ : XW _ _ _ 34 _ _ _ 79 _ _)
  refine xo_putF (by decide +kernel : decode mX10_init.2.1 79 = .ok (.putfield 49, 3)) fX10_49 rfl rfl rfl (by decide) rfl (?_ : XW _ _ _ 34 _ _ _ 82 _ _)
  refine xi_aload_n (by decide +kernel : decode mX10_init.2.1 82 = .ok (.aload_n 0, 1)) rfl rfl (?_ : XW _ _ _ 34 _ _ _ 83 _ _)
  refine xo_new (ci := 7) (b := 22) (bs := 3780) (by decide +kernel : decode mX10_init.2.1 83 = .ok (.new 46, 3)) qN_X10_46 rfl (by decide) (by decide) (?_ : XW _ _ _ 35 _ _ _ 86 _ _)
  refine xi_dup (by decide +kernel : decode mX10_init.2.1 86 = .ok (.dup, 1)) rfl (?_ : XW _ _ _ 35 _ _ _ 87 _ _)
  refine xo_callI (b := 18) (bs := 2733) (mc := 4) (ms := 1047) (n' := 39) (ps := [oP 34 7 (some 38), oN 38, oP 34 6 (some 37), oN 37, oP 34 5 (some 36), oN 36, oP 34 4 (some 35), oN 35]) (As := []) (by decide +kernel : decode mX10_init.2.1 87 = .ok (.invokespecial 48, 3)) qI_X10_48 rfl rfl (by decide) rfl (s_X7_init (n := 35) (a := 34) rfl rfl rfl rfl rfl (by decide) (by decide) _) (by decide) (by decide) (by decide) (by decide) rfl (?_ : XW _ _ _ 39 _ _ _ 90 _ _)
  refine xo_putF (by decide +kernel : decode mX10_init.2.1 90 = .ok (.putfield 53, 3)) fX10_53 rfl rfl rfl (by decide) rfl (?_ : XW _ _ _ 39 _ _ _ 93 _ _)
  refine xi_aload_n (by decide +kernel : decode mX10_init.2.1 93 = .ok (.aload_n 0, 1)) rfl rfl (?_ : XW _ _ _ 39 _ _ _ 94 _ _)
  refine xi_iconst (v := 0) (by decide +kernel : decode mX10_init.2.1 94 = .ok (.iconst 0, 1)) (by decide) (?_ : XW _ _ _ 39 _ _ _ 95 _ _)
  refine xo_putI (by decide +kernel : decode mX10_init.2.1 95 = .ok (.putfield 56, 3)) fX10_56 rfl (by decide) rfl (by decide) (by decide) (?_ : XW _ _ _ 39 _ _ _ 98 _ _)
  refine xi_aload_n (by decide +kernel : decode mX10_init.2.1 98 = .ok (.aload_n 0, 1)) rfl rfl (?_ : XW _ _ _ 39 _ _ _ 99 _ _)
  refine xo_new (ci := 8) (b := 17) (bs := 2728) (by decide +kernel : decode mX10_init.2.1 99 = .ok (.new 60, 3)) qN_X10_60 rfl (by decide) (by decide) (?_ : XW _ _ _ 40 _ _ _ 102 _ _)
  refine xi_dup (by decide +kernel : decode mX10_init.2.1 102 = .ok (.dup, 1)) rfl (?_ : XW _ _ _ 40 _ _ _ 103 _ _)
  refine xo_callI (b := 14) (bs := 2424) (mc := 3) (ms := 304) (n' := 43) (ps := [oP 39 3 (some 42), oN 42, oP 39 2 (some 41), oN 41, oP 39 1 (some 40), oN 40, oI 39 0 (-1)]) (As := []) (by decide +kernel : decode mX10_init.2.1 103 = .ok (.invokespecial 62, 3)) qI_X10_62 rfl rfl (by decide) rfl (s_X8_init (n := 40) (a := 39) rfl rfl rfl rfl (by decide) (by decide) _) (by decide) (by decide) (by decide) (by decide) rfl (?_ : XW _ _ _ 43 _ _ _ 106 _ _)
  refine xo_putF (by decide +kernel : decode mX10_init.2.1 106 = .ok (.putfield 63, 3)) fX10_63 rfl rfl rfl (by decide) rfl (?_ : XW _ _ _ 43 _ _ _ 109 _ _)
  refine xi_aload_n (by decide +kernel : decode mX10_init.2.1 109 = .ok (.aload_n 0, 1)) rfl rfl (?_ : XW _ _ _ 43 _ _ _ 110 _ _)
  refine xo_new (ci := 6) (b := 13) (bs := 2421) (by decide +kernel : decode mX10_init.2.1 110 = .ok (.new 67, 3)) qN_X10_67 rfl (by decide) (by decide) (?_ : XW _ _ _ 44 _ _ _ 113 _ _)
  refine xi_dup (by decide +kernel : decode mX10_init.2.1 113 = .ok (.dup, 1)) rfl (?_ : XW _ _ _ 44 _ _ _ 114 _ _)
  refine xo_callI (b := 11) (bs := 2219) (mc := 2) (ms := 202) (n' := 46) (ps := [oP 43 2 (some 45), oN 45, oP 43 1 (some 44), oN 44]) (As := []) (by decide +kernel : decode mX10_init.2.1 114 = .ok (.invokespecial 69, 3)) qI_X10_69 rfl rfl (by decide) rfl (s_X6_init (n := 44) (a := 43) rfl rfl rfl (by decide) (by decide) _) (by decide) (by decide) (by decide) (by decide) rfl (?_ : XW _ _ _ 46 _ _ _ 117 _ _)
  refine xo_putF (by decide +kernel : decode mX10_init.2.1 117 = .ok (.putfield 70, 3)) fX10_70 rfl rfl rfl (by decide) rfl (?_ : XW _ _ _ 46 _ _ _ 120 _ _)
  refine xi_aload_n (by decide +kernel : decode mX10_init.2.1 120 = .ok (.aload_n 0, 1)) rfl rfl (?_ : XW _ _ _ 46 _ _ _ 121 _ _)
  refine xo_new (ci := 6) (b := 10) (bs := 2216) (by decide +kernel : decode mX10_init.2.1 121 = .ok (.new 67, 3)) qN_X10_67 rfl (by decide) (by decide) (?_ : XW _ _ _ 47 _ _ _ 124 _ _)
  refine xi_dup (by decide +kernel : decode mX10_init.2.1 124 = .ok (.dup, 1)) rfl (?_ : XW _ _ _ 47 _ _ _ 125 _ _)
  refine xo_callI (b := 8) (bs := 2014) (mc := 2) (ms := 202) (n' := 49) (ps := [oP 46 2 (some 48), oN 48, oP 46 1 (some 47), oN 47]) (As := []) (by decide +kernel : decode mX10_init.2.1 125 = .ok (.invokespecial 69, 3)) qI_X10_69 rfl rfl (by decide) rfl (s_X6_init (n := 47) (a := 46) rfl rfl rfl (by decide) (by decide) _) (by decide) (by decide) (by decide) (by decide) rfl (?_ : XW _ _ _ 49 _ _ _ 128 _ _)
  refine xo_putF (by decide +kernel : decode mX10_init.2.1 128 = .ok (.putfield 74, 3)) fX10_74 rfl rfl rfl (by decide) rfl (?_ : XW _ _ _ 49 _ _ _ 131 _ _)
  refine xi_aload_n (by decide +kernel : decode mX10_init.2.1 131 = .ok (.aload_n 0, 1)) rfl rfl (?_ : XW _ _ _ 49 _ _ _ 132 _ _)
  refine xo_new (ci := 1) (b := 7) (bs := 2012) (by decide +kernel : decode mX10_init.2.1 132 = .ok (.new 77, 3)) qN_X10_77 rfl (by decide) (by decide) (?_ : XW _ _ _ 50 _ _ _ 135 _ _)
  refine xi_dup (by decide +kernel : decode mX10_init.2.1 135 = .ok (.dup, 1)) rfl (?_ : XW _ _ _ 50 _ _ _ 136 _ _)
  refine xo_callI (b := 5) (bs := 290) (mc := 2) (ms := 1722) (n' := 52) (ps := [oP 49 1 (some 51), oN 51, oP 49 0 (some 50), oN 50]) (As := []) (by decide +kernel : decode mX10_init.2.1 136 = .ok (.invokespecial 79, 3)) qI_X10_79 rfl rfl (by decide) rfl (s_X1_init (n := 50) (a := 49) rfl rfl rfl (by decide) (by decide) _) (by decide) (by decide) (by decide) (by decide) rfl (?_ : XW _ _ _ 52 _ _ _ 139 _ _)
  refine xo_putF (by decide +kernel : decode mX10_init.2.1 139 = .ok (.putfield 80, 3)) fX10_80 rfl rfl rfl (by decide) rfl (?_ : XW _ _ _ 52 _ _ _ 142 _ _)
  refine xi_aload_n (by decide +kernel : decode mX10_init.2.1 142 = .ok (.aload_n 0, 1)) rfl rfl (?_ : XW _ _ _ 52 _ _ _ 143 _ _)
  refine xo_new (ci := 2) (b := 4) (bs := 287) (by decide +kernel : decode mX10_init.2.1 143 = .ok (.new 84, 3)) qN_X10_84 rfl (by decide) (by decide) (?_ : XW _ _ _ 53 _ _ _ 146 _ _)
  refine xi_dup (by decide +kernel : decode mX10_init.2.1 146 = .ok (.dup, 1)) rfl (?_ : XW _ _ _ 53 _ _ _ 147 _ _)
  refine xo_callIS (b := 1) (bs := 3) (mc := 3) (ms := 284) (n' := 55) (ps := [oP 52 2 (some 100), oN 100, oP 52 1 (some 54), oN 54, oP 52 0 (some 53), oN 53]) (As := []) (by decide +kernel : decode mX10_init.2.1 147 = .ok (.invokespecial 86, 3)) qI_X10_86 rfl rfl (by decide) rfl (s_X2_init _) (by decide) (by decide) (by decide) (by decide) rfl (xfl_run (by decide +kernel) (by decide +kernel)) (?_ : XW _ _ _ 55 _ _ _ 150 _ _)
  refine xo_putF (by decide +kernel : decode mX10_init.2.1 150 = .ok (.putfield 87, 3)) fX10_87 rfl rfl rfl (by decide) rfl (?_ : XW _ _ _ 55 _ _ _ 153 _ _)
  refine xi_aload_n (by decide +kernel : decode mX10_init.2.1 153 = .ok (.aload_n 0, 1)) rfl rfl (?_ : XW _ _ _ 55 _ _ _ 154 _ _)
  refine xo_new (ci := 9) (b := 0) (bs := 0) (h0n := Or.inr (xfl_run (by decide +kernel) (by decide +kernel))) (by decide +kernel : decode mX10_init.2.1 154 = .ok (.new 91, 3)) qN_X10_91 rfl (by decide) (by decide) (?_ : XW _ _ _ 56 _ _ _ 157 _ _)
  refine xi_dup (by decide +kernel : decode mX10_init.2.1 157 = .ok (.dup, 1)) rfl (?_ : XW _ _ _ 56 _ _ _ 158 _ _)
  refine xo_callI (b := 0) (bs := 0) (mc := 0) (ms := 0) (n' := 56) (ps := [oI 55 2 (-1), oI 55 1 0, oI 55 0 0]) (As := []) (by decide +kernel : decode mX10_init.2.1 158 = .ok (.invokespecial 93, 3)) qI_X10_93 rfl rfl (by decide) rfl (s_X9_init (n := 56) (a := 55) rfl  (by decide) (by decide) _) (by decide) (by decide) (by decide) (by decide) rfl (?_ : XW _ _ _ 56 _ _ _ 161 _ _)
  refine xo_putF (by decide +kernel : decode mX10_init.2.1 161 = .ok (.putfield 94, 3)) fX10_94 rfl rfl rfl (by decide) rfl (?_ : XW _ _ _ 56 _ _ _ 164 _ _)
  refine xi_aload_n (by decide +kernel : decode mX10_init.2.1 164 = .ok (.aload_n 0, 1)) rfl rfl (?_ : XW _ _ _ 56 _ _ _ 165 _ _)
  change XW _ _ _ _ _ _ (hrun OB_3 h2) _ _ _
  obtain ⟨C, g1, g2, g3⟩ := made_board u1 p1 i1 p2 i2
  refine xi_callV (b := 0) (bs := 0) (As := []) (st := []) (by decide +kernel : decode mX10_init.2.1 165 = .ok (.invokevirtual 98, 3)) kX10_98 rfl rfl (by decide) rfl g3 (by decide) (by decide) (by decide) (fun _ => ⟨by decide, rfl⟩) (fun v h3 q => (?_ : XW _ _ _ 56 _ _ _ 168 _ _))
  obtain ⟨rfl, k1, -⟩ := q
  exact xi_vret (by decide +kernel : decode mX10_init.2.1 168 = .ok (.return_, 1)) rfl ⟨rfl, C, g1, g2, k1⟩
