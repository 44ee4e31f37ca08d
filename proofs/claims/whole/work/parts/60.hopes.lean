/-! HOPES: the walks of both -/
set_option maxRecDepth 20000 in
theorem v_X1_at_0 {h : XH} {Q : Option Value → XH → Prop} {X : String → XH → Prop} (n hya hza : Nat) (hh : xHop hya hza (xP h)) (hn : 52 ≤ n)  (i : Int32)
    (vc : (i < 0 → Q (some (.long 0)) h) ∧ (¬ i < 0 → (861 ≤ i → Q (some (.long 0)) h) ∧ (¬ 861 ≤ i → (vp_in i 861) ∧ (Q (some (.long (xL h hya i.toNatClampNeg))) h)))) :
    XW (xrm 1 0 0) mX1_at (xE n Q X 0 0) n 0 0 h 0 [some (.ref 49), some (.int i)] [] := by
  rcases hh.1 with ⟨rfl, rfl⟩ | ⟨rfl, rfl⟩
  · refine xi_iload_n (by decide +kernel : decode mX1_at.2.1 0 = .ok (.iload_n 1, 1)) rfl rfl (?_ : XW _ _ _ _ _ _ _ 1 _ _)
    refine xi_if_lt (by decide +kernel : decode mX1_at.2.1 1 = .ok (.ifCond .lt 21, 3)) (by decide) (fun c => (?_ : XW _ _ _ _ _ _ _ 22 _ _)) (fun c => (?_ : XW _ _ _ _ _ _ _ 4 _ _))
    · replace vc := vc.1 c
      refine xi_lconst (v := 0) (by decide +kernel : decode mX1_at.2.1 22 = .ok (.lconst 0, 1)) (by decide) (?_ : XW _ _ _ _ _ _ _ 23 _ _)
      exact xi_lret (by decide +kernel : decode mX1_at.2.1 23 = .ok (.lreturn, 1)) rfl vc
    · replace vc := vc.2 c
      refine xi_iload_n (by decide +kernel : decode mX1_at.2.1 4 = .ok (.iload_n 1, 1)) rfl rfl (?_ : XW _ _ _ _ _ _ _ 5 _ _)
      refine xi_aload_n (by decide +kernel : decode mX1_at.2.1 5 = .ok (.aload_n 0, 1)) rfl rfl (?_ : XW _ _ _ _ _ _ _ 6 _ _)
      refine xi_getR (y := 50) (by decide +kernel : decode mX1_at.2.1 6 = .ok (.getfield 11, 3)) fX1_11 rfl (by omega) rfl hh.2.1 (?_ : XW _ _ _ _ _ _ _ 9 _ _)
      refine xi_alen (v := 861) (by decide +kernel : decode mX1_at.2.1 9 = .ok (.arraylength, 1)) rfl (by omega) (Or.inr (Or.inl rfl)) rfl (?_ : XW _ _ _ _ _ _ _ 10 _ _)
      refine xi_icmp_ge (by decide +kernel : decode mX1_at.2.1 10 = .ok (.if_icmp .ge 12, 3)) (by decide) (fun c => (?_ : XW _ _ _ _ _ _ _ 22 _ _)) (fun c => (?_ : XW _ _ _ _ _ _ _ 13 _ _))
      · replace vc := vc.1 c
        refine xi_lconst (v := 0) (by decide +kernel : decode mX1_at.2.1 22 = .ok (.lconst 0, 1)) (by decide) (?_ : XW _ _ _ _ _ _ _ 23 _ _)
        exact xi_lret (by decide +kernel : decode mX1_at.2.1 23 = .ok (.lreturn, 1)) rfl vc
      · replace vc := vc.2 c
        refine xi_aload_n (by decide +kernel : decode mX1_at.2.1 13 = .ok (.aload_n 0, 1)) rfl rfl (?_ : XW _ _ _ _ _ _ _ 14 _ _)
        refine xi_getR (y := 50) (by decide +kernel : decode mX1_at.2.1 14 = .ok (.getfield 11, 3)) fX1_11 rfl (by omega) rfl hh.2.1 (?_ : XW _ _ _ _ _ _ _ 17 _ _)
        refine xi_iload_n (by decide +kernel : decode mX1_at.2.1 17 = .ok (.iload_n 1, 1)) rfl rfl (?_ : XW _ _ _ _ _ _ _ 18 _ _)
        obtain ⟨s1, vc⟩ := vc
        refine xi_lald (by decide +kernel : decode mX1_at.2.1 18 = .ok (.laload, 1)) rfl (by omega) s1 (?_ : XW _ _ _ _ _ _ _ 19 _ _)
        refine xi_goto (by decide +kernel : decode mX1_at.2.1 19 = .ok (.goto 4, 3)) (by decide) (?_ : XW _ _ _ _ _ _ _ 23 _ _)
        exact xi_lret (by decide +kernel : decode mX1_at.2.1 23 = .ok (.lreturn, 1)) rfl vc
  · refine xi_iload_n (by decide +kernel : decode mX1_at.2.1 0 = .ok (.iload_n 1, 1)) rfl rfl (?_ : XW _ _ _ _ _ _ _ 1 _ _)
    refine xi_if_lt (by decide +kernel : decode mX1_at.2.1 1 = .ok (.ifCond .lt 21, 3)) (by decide) (fun c => (?_ : XW _ _ _ _ _ _ _ 22 _ _)) (fun c => (?_ : XW _ _ _ _ _ _ _ 4 _ _))
    · replace vc := vc.1 c
      refine xi_lconst (v := 0) (by decide +kernel : decode mX1_at.2.1 22 = .ok (.lconst 0, 1)) (by decide) (?_ : XW _ _ _ _ _ _ _ 23 _ _)
      exact xi_lret (by decide +kernel : decode mX1_at.2.1 23 = .ok (.lreturn, 1)) rfl vc
    · replace vc := vc.2 c
      refine xi_iload_n (by decide +kernel : decode mX1_at.2.1 4 = .ok (.iload_n 1, 1)) rfl rfl (?_ : XW _ _ _ _ _ _ _ 5 _ _)
      refine xi_aload_n (by decide +kernel : decode mX1_at.2.1 5 = .ok (.aload_n 0, 1)) rfl rfl (?_ : XW _ _ _ _ _ _ _ 6 _ _)
      refine xi_getR (y := 51) (by decide +kernel : decode mX1_at.2.1 6 = .ok (.getfield 11, 3)) fX1_11 rfl (by omega) rfl hh.2.1 (?_ : XW _ _ _ _ _ _ _ 9 _ _)
      refine xi_alen (v := 861) (by decide +kernel : decode mX1_at.2.1 9 = .ok (.arraylength, 1)) rfl (by omega) (Or.inr (Or.inl rfl)) rfl (?_ : XW _ _ _ _ _ _ _ 10 _ _)
      refine xi_icmp_ge (by decide +kernel : decode mX1_at.2.1 10 = .ok (.if_icmp .ge 12, 3)) (by decide) (fun c => (?_ : XW _ _ _ _ _ _ _ 22 _ _)) (fun c => (?_ : XW _ _ _ _ _ _ _ 13 _ _))
      · replace vc := vc.1 c
        refine xi_lconst (v := 0) (by decide +kernel : decode mX1_at.2.1 22 = .ok (.lconst 0, 1)) (by decide) (?_ : XW _ _ _ _ _ _ _ 23 _ _)
        exact xi_lret (by decide +kernel : decode mX1_at.2.1 23 = .ok (.lreturn, 1)) rfl vc
      · replace vc := vc.2 c
        refine xi_aload_n (by decide +kernel : decode mX1_at.2.1 13 = .ok (.aload_n 0, 1)) rfl rfl (?_ : XW _ _ _ _ _ _ _ 14 _ _)
        refine xi_getR (y := 51) (by decide +kernel : decode mX1_at.2.1 14 = .ok (.getfield 11, 3)) fX1_11 rfl (by omega) rfl hh.2.1 (?_ : XW _ _ _ _ _ _ _ 17 _ _)
        refine xi_iload_n (by decide +kernel : decode mX1_at.2.1 17 = .ok (.iload_n 1, 1)) rfl rfl (?_ : XW _ _ _ _ _ _ _ 18 _ _)
        obtain ⟨s1, vc⟩ := vc
        refine xi_lald (by decide +kernel : decode mX1_at.2.1 18 = .ok (.laload, 1)) rfl (by omega) s1 (?_ : XW _ _ _ _ _ _ _ 19 _ _)
        refine xi_goto (by decide +kernel : decode mX1_at.2.1 19 = .ok (.goto 4, 3)) (by decide) (?_ : XW _ _ _ _ _ _ _ 23 _ _)
        exact xi_lret (by decide +kernel : decode mX1_at.2.1 23 = .ok (.lreturn, 1)) rfl vc

set_option maxRecDepth 20000 in
theorem v_X1_putNext_0 {h : XH} {Q : Option Value → XH → Prop} {X : String → XH → Prop} (n hya hza : Nat) (hh : xHop hya hza (xP h)) (hn : 52 ≤ n)  (i : Int32) (v : Int64)
    (vc : (i < 0 → Q none h) ∧ (¬ i < 0 → (861 ≤ i → Q none h) ∧ (¬ 861 ≤ i → (vp_in i 861) ∧ (Q none (xSL hza (va_up (xL h hza) i.toNatClampNeg v) h))))) :
    XW (xrm 1 0 0) mX1_putNext (xE n Q X 0 0) n 0 0 h 0 [some (.ref 49), some (.int i), some (.long v), none] [] := by
  rcases hh.1 with ⟨rfl, rfl⟩ | ⟨rfl, rfl⟩
  · refine xi_iload_n (by decide +kernel : decode mX1_putNext.2.1 0 = .ok (.iload_n 1, 1)) rfl rfl (?_ : XW _ _ _ _ _ _ _ 1 _ _)
    refine xi_if_lt (by decide +kernel : decode mX1_putNext.2.1 1 = .ok (.ifCond .lt 19, 3)) (by decide) (fun c => (?_ : XW _ _ _ _ _ _ _ 20 _ _)) (fun c => (?_ : XW _ _ _ _ _ _ _ 4 _ _))
    · replace vc := vc.1 c
      exact xi_vret (by decide +kernel : decode mX1_putNext.2.1 20 = .ok (.return_, 1)) rfl vc
    · replace vc := vc.2 c
      refine xi_iload_n (by decide +kernel : decode mX1_putNext.2.1 4 = .ok (.iload_n 1, 1)) rfl rfl (?_ : XW _ _ _ _ _ _ _ 5 _ _)
      refine xi_aload_n (by decide +kernel : decode mX1_putNext.2.1 5 = .ok (.aload_n 0, 1)) rfl rfl (?_ : XW _ _ _ _ _ _ _ 6 _ _)
      refine xi_getR (y := 51) (by decide +kernel : decode mX1_putNext.2.1 6 = .ok (.getfield 15, 3)) fX1_15 rfl (by omega) rfl hh.2.2 (?_ : XW _ _ _ _ _ _ _ 9 _ _)
      refine xi_alen (v := 861) (by decide +kernel : decode mX1_putNext.2.1 9 = .ok (.arraylength, 1)) rfl (by omega) (Or.inr (Or.inl rfl)) rfl (?_ : XW _ _ _ _ _ _ _ 10 _ _)
      refine xi_icmp_ge (by decide +kernel : decode mX1_putNext.2.1 10 = .ok (.if_icmp .ge 10, 3)) (by decide) (fun c => (?_ : XW _ _ _ _ _ _ _ 20 _ _)) (fun c => (?_ : XW _ _ _ _ _ _ _ 13 _ _))
      · replace vc := vc.1 c
        exact xi_vret (by decide +kernel : decode mX1_putNext.2.1 20 = .ok (.return_, 1)) rfl vc
      · replace vc := vc.2 c
        refine xi_aload_n (by decide +kernel : decode mX1_putNext.2.1 13 = .ok (.aload_n 0, 1)) rfl rfl (?_ : XW _ _ _ _ _ _ _ 14 _ _)
        refine xi_getR (y := 51) (by decide +kernel : decode mX1_putNext.2.1 14 = .ok (.getfield 15, 3)) fX1_15 rfl (by omega) rfl hh.2.2 (?_ : XW _ _ _ _ _ _ _ 17 _ _)
        refine xi_iload_n (by decide +kernel : decode mX1_putNext.2.1 17 = .ok (.iload_n 1, 1)) rfl rfl (?_ : XW _ _ _ _ _ _ _ 18 _ _)
        refine xi_lload_n (by decide +kernel : decode mX1_putNext.2.1 18 = .ok (.lload_n 2, 1)) rfl rfl (?_ : XW _ _ _ _ _ _ _ 19 _ _)
        obtain ⟨s1, vc⟩ := vc
        refine xi_last (by decide +kernel : decode mX1_putNext.2.1 19 = .ok (.lastore, 1)) rfl (by omega) s1 (?_ : XW _ _ _ _ _ _ (xSL 51 (va_up (xL h 51) i.toNatClampNeg v) h) 20 _ _)
        exact xi_vret (by decide +kernel : decode mX1_putNext.2.1 20 = .ok (.return_, 1)) rfl vc
  · refine xi_iload_n (by decide +kernel : decode mX1_putNext.2.1 0 = .ok (.iload_n 1, 1)) rfl rfl (?_ : XW _ _ _ _ _ _ _ 1 _ _)
    refine xi_if_lt (by decide +kernel : decode mX1_putNext.2.1 1 = .ok (.ifCond .lt 19, 3)) (by decide) (fun c => (?_ : XW _ _ _ _ _ _ _ 20 _ _)) (fun c => (?_ : XW _ _ _ _ _ _ _ 4 _ _))
    · replace vc := vc.1 c
      exact xi_vret (by decide +kernel : decode mX1_putNext.2.1 20 = .ok (.return_, 1)) rfl vc
    · replace vc := vc.2 c
      refine xi_iload_n (by decide +kernel : decode mX1_putNext.2.1 4 = .ok (.iload_n 1, 1)) rfl rfl (?_ : XW _ _ _ _ _ _ _ 5 _ _)
      refine xi_aload_n (by decide +kernel : decode mX1_putNext.2.1 5 = .ok (.aload_n 0, 1)) rfl rfl (?_ : XW _ _ _ _ _ _ _ 6 _ _)
      refine xi_getR (y := 50) (by decide +kernel : decode mX1_putNext.2.1 6 = .ok (.getfield 15, 3)) fX1_15 rfl (by omega) rfl hh.2.2 (?_ : XW _ _ _ _ _ _ _ 9 _ _)
      refine xi_alen (v := 861) (by decide +kernel : decode mX1_putNext.2.1 9 = .ok (.arraylength, 1)) rfl (by omega) (Or.inr (Or.inl rfl)) rfl (?_ : XW _ _ _ _ _ _ _ 10 _ _)
      refine xi_icmp_ge (by decide +kernel : decode mX1_putNext.2.1 10 = .ok (.if_icmp .ge 10, 3)) (by decide) (fun c => (?_ : XW _ _ _ _ _ _ _ 20 _ _)) (fun c => (?_ : XW _ _ _ _ _ _ _ 13 _ _))
      · replace vc := vc.1 c
        exact xi_vret (by decide +kernel : decode mX1_putNext.2.1 20 = .ok (.return_, 1)) rfl vc
      · replace vc := vc.2 c
        refine xi_aload_n (by decide +kernel : decode mX1_putNext.2.1 13 = .ok (.aload_n 0, 1)) rfl rfl (?_ : XW _ _ _ _ _ _ _ 14 _ _)
        refine xi_getR (y := 50) (by decide +kernel : decode mX1_putNext.2.1 14 = .ok (.getfield 15, 3)) fX1_15 rfl (by omega) rfl hh.2.2 (?_ : XW _ _ _ _ _ _ _ 17 _ _)
        refine xi_iload_n (by decide +kernel : decode mX1_putNext.2.1 17 = .ok (.iload_n 1, 1)) rfl rfl (?_ : XW _ _ _ _ _ _ _ 18 _ _)
        refine xi_lload_n (by decide +kernel : decode mX1_putNext.2.1 18 = .ok (.lload_n 2, 1)) rfl rfl (?_ : XW _ _ _ _ _ _ _ 19 _ _)
        obtain ⟨s1, vc⟩ := vc
        refine xi_last (by decide +kernel : decode mX1_putNext.2.1 19 = .ok (.lastore, 1)) rfl (by omega) s1 (?_ : XW _ _ _ _ _ _ (xSL 50 (va_up (xL h 50) i.toNatClampNeg v) h) 20 _ _)
        exact xi_vret (by decide +kernel : decode mX1_putNext.2.1 20 = .ok (.return_, 1)) rfl vc

set_option maxRecDepth 20000 in
theorem v_X1_swap_0 {h : XH} {Q : Option Value → XH → Prop} {X : String → XH → Prop} (n hya hza : Nat) (hh : xHop hya hza (xP h)) (hn : 52 ≤ n) 
    (vc : Q none (xSP 49 (va_up (va_up (xP h 49) 0 (some hza)) 1 (some hya)) (xSP 49 (va_up (xP h 49) 0 (some hza)) h))) :
    XW (xrm 1 0 0) mX1_swap (xE n Q X 0 0) n 0 0 h 0 [some (.ref 49), none] [] := by
  rcases hh.1 with ⟨rfl, rfl⟩ | ⟨rfl, rfl⟩
  · refine xi_aload_n (by decide +kernel : decode mX1_swap.2.1 0 = .ok (.aload_n 0, 1)) rfl rfl (?_ : XW _ _ _ _ _ _ _ 1 _ _)
    refine xi_getR (y := 50) (by decide +kernel : decode mX1_swap.2.1 1 = .ok (.getfield 11, 3)) fX1_11 rfl (by omega) rfl hh.2.1 (?_ : XW _ _ _ _ _ _ _ 4 _ _)
    refine xi_astore_n (ls' := [some (.ref 49), some (.ref 50)]) (by decide +kernel : decode mX1_swap.2.1 4 = .ok (.astore_n 1, 1)) rfl (by decide) rfl (?_ : XW _ _ _ _ _ _ _ 5 _ _)
    refine xi_aload_n (by decide +kernel : decode mX1_swap.2.1 5 = .ok (.aload_n 0, 1)) rfl rfl (?_ : XW _ _ _ _ _ _ _ 6 _ _)
    refine xi_aload_n (by decide +kernel : decode mX1_swap.2.1 6 = .ok (.aload_n 0, 1)) rfl rfl (?_ : XW _ _ _ _ _ _ _ 7 _ _)
    refine xi_getR (y := 51) (by decide +kernel : decode mX1_swap.2.1 7 = .ok (.getfield 15, 3)) fX1_15 rfl (by omega) rfl hh.2.2 (?_ : XW _ _ _ _ _ _ _ 10 _ _)
    refine xi_putR (by decide +kernel : decode mX1_swap.2.1 10 = .ok (.putfield 11, 3)) fX1_11 rfl (by omega) rfl (?_ : XW _ _ _ _ _ _ (xSP 49 (va_up (xP h 49) 0 (some 51)) h) 13 _ _)
    refine xi_aload_n (by decide +kernel : decode mX1_swap.2.1 13 = .ok (.aload_n 0, 1)) rfl rfl (?_ : XW _ _ _ _ _ _ _ 14 _ _)
    refine xi_aload_n (by decide +kernel : decode mX1_swap.2.1 14 = .ok (.aload_n 1, 1)) rfl rfl (?_ : XW _ _ _ _ _ _ _ 15 _ _)
    refine xi_putR (by decide +kernel : decode mX1_swap.2.1 15 = .ok (.putfield 15, 3)) fX1_15 rfl (by omega) rfl (?_ : XW _ _ _ _ _ _ (xSP 49 (va_up (va_up (xP h 49) 0 (some 51)) 1 (some 50)) (xSP 49 (va_up (xP h 49) 0 (some 51)) h)) 18 _ _)
    exact xi_vret (by decide +kernel : decode mX1_swap.2.1 18 = .ok (.return_, 1)) rfl vc
  · refine xi_aload_n (by decide +kernel : decode mX1_swap.2.1 0 = .ok (.aload_n 0, 1)) rfl rfl (?_ : XW _ _ _ _ _ _ _ 1 _ _)
    refine xi_getR (y := 51) (by decide +kernel : decode mX1_swap.2.1 1 = .ok (.getfield 11, 3)) fX1_11 rfl (by omega) rfl hh.2.1 (?_ : XW _ _ _ _ _ _ _ 4 _ _)
    refine xi_astore_n (ls' := [some (.ref 49), some (.ref 51)]) (by decide +kernel : decode mX1_swap.2.1 4 = .ok (.astore_n 1, 1)) rfl (by decide) rfl (?_ : XW _ _ _ _ _ _ _ 5 _ _)
    refine xi_aload_n (by decide +kernel : decode mX1_swap.2.1 5 = .ok (.aload_n 0, 1)) rfl rfl (?_ : XW _ _ _ _ _ _ _ 6 _ _)
    refine xi_aload_n (by decide +kernel : decode mX1_swap.2.1 6 = .ok (.aload_n 0, 1)) rfl rfl (?_ : XW _ _ _ _ _ _ _ 7 _ _)
    refine xi_getR (y := 50) (by decide +kernel : decode mX1_swap.2.1 7 = .ok (.getfield 15, 3)) fX1_15 rfl (by omega) rfl hh.2.2 (?_ : XW _ _ _ _ _ _ _ 10 _ _)
    refine xi_putR (by decide +kernel : decode mX1_swap.2.1 10 = .ok (.putfield 11, 3)) fX1_11 rfl (by omega) rfl (?_ : XW _ _ _ _ _ _ (xSP 49 (va_up (xP h 49) 0 (some 50)) h) 13 _ _)
    refine xi_aload_n (by decide +kernel : decode mX1_swap.2.1 13 = .ok (.aload_n 0, 1)) rfl rfl (?_ : XW _ _ _ _ _ _ _ 14 _ _)
    refine xi_aload_n (by decide +kernel : decode mX1_swap.2.1 14 = .ok (.aload_n 1, 1)) rfl rfl (?_ : XW _ _ _ _ _ _ _ 15 _ _)
    refine xi_putR (by decide +kernel : decode mX1_swap.2.1 15 = .ok (.putfield 15, 3)) fX1_15 rfl (by omega) rfl (?_ : XW _ _ _ _ _ _ (xSP 49 (va_up (va_up (xP h 49) 0 (some 50)) 1 (some 51)) (xSP 49 (va_up (xP h 49) 0 (some 50)) h)) 18 _ _)
    exact xi_vret (by decide +kernel : decode mX1_swap.2.1 18 = .ok (.return_, 1)) rfl vc

set_option maxRecDepth 20000 in
theorem v_X1_pair_0 {h : XH} {Q : Option Value → XH → Prop} {X : String → XH → Prop} (n : Nat)  (o : Int32) (t : Int32)
    (vc : Q (some (.int ((((if o < t then t else o) * ((if o < t then t else o) + 1)) / 2) + (if t < o then t else o)))) h) :
    XW (xrm 2 0 0) mX1_pair (xE n Q X 0 0) n 0 0 h 0 [some (.int o), some (.int t), none] [] := by
  refine xi_iload_n (by decide +kernel : decode mX1_pair.2.1 0 = .ok (.iload_n 0, 1)) rfl rfl (?_ : XW _ _ _ _ _ _ _ 1 _ _)
  refine xi_iload_n (by decide +kernel : decode mX1_pair.2.1 1 = .ok (.iload_n 1, 1)) rfl rfl (?_ : XW _ _ _ _ _ _ _ 2 _ _)
  refine xi_mmax (by decide +kernel : decode mX1_pair.2.1 2 = .ok (.invokestatic 18, 3)) kX1_18.2.1 (by decide) (Nat.le_of_ble_eq_true rfl) (?_ : XW _ _ _ _ _ _ _ 5 _ _)
  refine xi_istore_n (ls' := [some (.int o), some (.int t), some (.int (if o < t then t else o))]) (by decide +kernel : decode mX1_pair.2.1 5 = .ok (.istore_n 2, 1)) rfl (by decide) rfl (?_ : XW _ _ _ _ _ _ _ 6 _ _)
  refine xi_iload_n (by decide +kernel : decode mX1_pair.2.1 6 = .ok (.iload_n 2, 1)) rfl rfl (?_ : XW _ _ _ _ _ _ _ 7 _ _)
  refine xi_iload_n (by decide +kernel : decode mX1_pair.2.1 7 = .ok (.iload_n 2, 1)) rfl rfl (?_ : XW _ _ _ _ _ _ _ 8 _ _)
  refine xi_iconst (v := 1) (by decide +kernel : decode mX1_pair.2.1 8 = .ok (.iconst 1, 1)) (by decide) (?_ : XW _ _ _ _ _ _ _ 9 _ _)
  refine xi_iadd (by decide +kernel : decode mX1_pair.2.1 9 = .ok (.iadd, 1)) (?_ : XW _ _ _ _ _ _ _ 10 _ _)
  refine xi_imul (by decide +kernel : decode mX1_pair.2.1 10 = .ok (.imul, 1)) (?_ : XW _ _ _ _ _ _ _ 11 _ _)
  refine xi_iconst (v := 2) (by decide +kernel : decode mX1_pair.2.1 11 = .ok (.iconst 2, 1)) (by decide) (?_ : XW _ _ _ _ _ _ _ 12 _ _)
  refine xi_idiv (by decide +kernel : decode mX1_pair.2.1 12 = .ok (.idiv, 1)) (by decide) (?_ : XW _ _ _ _ _ _ _ 13 _ _)
  refine xi_iload_n (by decide +kernel : decode mX1_pair.2.1 13 = .ok (.iload_n 0, 1)) rfl rfl (?_ : XW _ _ _ _ _ _ _ 14 _ _)
  refine xi_iload_n (by decide +kernel : decode mX1_pair.2.1 14 = .ok (.iload_n 1, 1)) rfl rfl (?_ : XW _ _ _ _ _ _ _ 15 _ _)
  refine xi_mmin (by decide +kernel : decode mX1_pair.2.1 15 = .ok (.invokestatic 24, 3)) kX1_24.2.1 (by decide) (Nat.le_of_ble_eq_true rfl) (?_ : XW _ _ _ _ _ _ _ 18 _ _)
  refine xi_iadd (by decide +kernel : decode mX1_pair.2.1 18 = .ok (.iadd, 1)) (?_ : XW _ _ _ _ _ _ _ 19 _ _)
  exact xi_iret (by decide +kernel : decode mX1_pair.2.1 19 = .ok (.ireturn, 1)) rfl rfl vc

set_option maxRecDepth 20000 in
theorem v_X1_atBoth_0 {h : XH} {Q : Option Value → XH → Prop} {X : String → XH → Prop} (n hya hza : Nat) (hh : xHop hya hza (xP h)) (hn : 52 ≤ n)  (o : Int32) (t : Int32)
    (vc : ∃ Q1, XSpec mX1_pair 2 0 0 n n [.int o, .int t] h Q1 xno ∧ ∀ v h1, Q1 v h1 → ∃ r1 : Int32, v = some (.int r1) ∧ (∃ Q1, XSpec mX1_at 1 0 0 n n [.ref 49, .int r1] h1 Q1 xno ∧ ∀ v h2, Q1 v h2 → ∃ r2 : Int64, v = some (.long r2) ∧ (Q (some (.long r2)) h2))) :
    XW (xrm 3 0 0) mX1_atBoth (xE n Q X 0 0) n 0 0 h 0 [some (.ref 49), some (.int o), some (.int t)] [] := by
  refine xi_aload_n (by decide +kernel : decode mX1_atBoth.2.1 0 = .ok (.aload_n 0, 1)) rfl rfl (?_ : XW _ _ _ _ _ _ _ 1 _ _)
  refine xi_iload_n (by decide +kernel : decode mX1_atBoth.2.1 1 = .ok (.iload_n 1, 1)) rfl rfl (?_ : XW _ _ _ _ _ _ _ 2 _ _)
  refine xi_iload_n (by decide +kernel : decode mX1_atBoth.2.1 2 = .ok (.iload_n 2, 1)) rfl rfl (?_ : XW _ _ _ _ _ _ _ 3 _ _)
  obtain ⟨Q1, sp, vc⟩ := vc
  refine xi_callS (b := 0) (bs := 0) (As := [.int o, .int t]) (st := [.ref 49]) (by decide +kernel : decode mX1_atBoth.2.1 3 = .ok (.invokestatic 27, 3)) kX1_27 rfl rfl sp (by decide) (by decide) (Nat.le_of_ble_eq_true rfl) (by omega) (fun v9 h1 hq9 => ?_)
  obtain ⟨r1, e9, vc⟩ := vc v9 h1 hq9
  subst e9
  show XW _ _ _ _ _ _ _ 6 _ [.int r1, .ref 49]
  obtain ⟨Q1, sp, vc⟩ := vc
  refine xi_callV (b := 0) (bs := 0) (As := [.int r1]) (st := []) (by decide +kernel : decode mX1_atBoth.2.1 6 = .ok (.invokevirtual 30, 3)) kX1_30 rfl rfl (by omega) rfl sp (by decide) (by decide) (Nat.le_of_ble_eq_true rfl) (by omega) (fun v9 h2 hq9 => ?_)
  obtain ⟨r2, e9, vc⟩ := vc v9 h2 hq9
  subst e9
  show XW _ _ _ _ _ _ _ 9 _ [.long r2]
  exact xi_lret (by decide +kernel : decode mX1_atBoth.2.1 9 = .ok (.lreturn, 1)) rfl vc

set_option maxRecDepth 20000 in
theorem v_X1_sumOfTwo_0 {h : XH} {Q : Option Value → XH → Prop} {X : String → XH → Prop} (n hya hza : Nat) (hh : xHop hya hza (xP h)) (hn : 52 ≤ n) (r : Nat) (hr : xRul r (xP h)) (hnr : r + 9 ≤ n) (a : Nat) (ha : xPth a (xP h)) (hna : a + 4 ≤ n)  (q : Int32)
    (vc : XW (xrm 2 0 0) mX1_sumOfTwo (xE n Q X 0 0) n 0 0 h 6 [some (.ref 49), some (.ref r), some (.ref a), some (.int q), some (.long 0), none, some (.int 1), none, none, none, none, none, none, none] []) :
    XW (xrm 2 0 0) mX1_sumOfTwo (xE n Q X 0 0) n 0 0 h 0 [some (.ref 49), some (.ref r), some (.ref a), some (.int q), none, none, none, none, none, none, none, none, none, none] [] := by
  refine xi_lconst (v := 0) (by decide +kernel : decode mX1_sumOfTwo.2.1 0 = .ok (.lconst 0, 1)) (by decide) (?_ : XW _ _ _ _ _ _ _ 1 _ _)
  refine xi_lstore (ls' := [some (.ref 49), some (.ref r), some (.ref a), some (.int q), some (.long 0), none, none, none, none, none, none, none, none, none]) (by decide +kernel : decode mX1_sumOfTwo.2.1 1 = .ok (.lstore 4, 2)) (by decide) rfl (?_ : XW _ _ _ _ _ _ _ 3 _ _)
  refine xi_iconst (v := 1) (by decide +kernel : decode mX1_sumOfTwo.2.1 3 = .ok (.iconst 1, 1)) (by decide) (?_ : XW _ _ _ _ _ _ _ 4 _ _)
  refine xi_istore (ls' := [some (.ref 49), some (.ref r), some (.ref a), some (.int q), some (.long 0), none, some (.int 1), none, none, none, none, none, none, none]) (by decide +kernel : decode mX1_sumOfTwo.2.1 4 = .ok (.istore 6, 2)) (by decide) rfl (?_ : XW _ _ _ _ _ _ _ 6 _ _)
  exact vc

set_option maxRecDepth 20000 in
theorem v_X1_sumOfTwo_6 {h : XH} {Q : Option Value → XH → Prop} {X : String → XH → Prop} (n hya hza : Nat) (hh : xHop hya hza (xP h)) (hn : 52 ≤ n) (r : Nat) (hr : xRul r (xP h)) (hnr : r + 9 ≤ n) (a : Nat) (ha : xPth a (xP h)) (hna : a + 4 ≤ n)  (x3 : Int32) (x4 : Int64) (x6 : Int32)
    (vc : (6 < x6 → Q (some (.long x4)) h) ∧ (¬ 6 < x6 → ∃ Q1, XSpec mX5_oddsOf 1 0 0 n n [.ref r, .int x6] h Q1 xno ∧ ∀ v h1, Q1 v h1 → ∃ r1 : Int32, v = some (.int r1) ∧ ((¬ (lg_cmp (Int32.toInt64 r1) 0) = 0 → ∃ Q1, XSpec mX3_to 1 0 0 n n [.ref a, .int x3, .int x6] h1 Q1 xno ∧ ∀ v h2, Q1 v h2 → ∃ r2 : Int32, v = some (.int r2) ∧ (∃ Q1, XSpec mX1_at 1 0 0 n n [.ref 49, .int r2] h2 Q1 xno ∧ ∀ v h3, Q1 v h3 → ∃ r3 : Int64, v = some (.long r3) ∧ (XW (xrm 2 0 0) mX1_sumOfTwo (xE n Q X 0 0) n 0 0 h3 64 [some (.ref 49), some (.ref r), some (.ref a), some (.int x3), some (.long (x4 + (((Int32.toInt64 r1) * (Int32.toInt64 r1)) * r3))), none, some (.int x6), some (.long (Int32.toInt64 r1)), none, some (.long r3), none, some (.int (x6 + 1)), none, none] []))) ∧ ((lg_cmp (Int32.toInt64 r1) 0) = 0 → XW (xrm 2 0 0) mX1_sumOfTwo (xE n Q X 0 0) n 0 0 h1 6 [some (.ref 49), some (.ref r), some (.ref a), some (.int x3), some (.long x4), none, some (.int (x6 + 1)), none, none, none, none, none, none, none] [])))) :
    XW (xrm 2 0 0) mX1_sumOfTwo (xE n Q X 0 0) n 0 0 h 6 [some (.ref 49), some (.ref r), some (.ref a), some (.int x3), some (.long x4), none, some (.int x6), none, none, none, none, none, none, none] [] := by
  refine xi_iload (by decide +kernel : decode mX1_sumOfTwo.2.1 6 = .ok (.iload 6, 2)) rfl (?_ : XW _ _ _ _ _ _ _ 8 _ _)
  refine xi_bipush (v := 6) (by decide +kernel : decode mX1_sumOfTwo.2.1 8 = .ok (.bipush 6, 2)) (by decide) (?_ : XW _ _ _ _ _ _ _ 10 _ _)
  refine xi_icmp_gt (by decide +kernel : decode mX1_sumOfTwo.2.1 10 = .ok (.if_icmp .gt 113, 3)) (by decide) (fun c => (?_ : XW _ _ _ _ _ _ _ 123 _ _)) (fun c => (?_ : XW _ _ _ _ _ _ _ 13 _ _))
  · replace vc := vc.1 c
    refine xi_lload (by decide +kernel : decode mX1_sumOfTwo.2.1 123 = .ok (.lload 4, 2)) rfl (?_ : XW _ _ _ _ _ _ _ 125 _ _)
    exact xi_lret (by decide +kernel : decode mX1_sumOfTwo.2.1 125 = .ok (.lreturn, 1)) rfl vc
  · replace vc := vc.2 c
    refine xi_aload_n (by decide +kernel : decode mX1_sumOfTwo.2.1 13 = .ok (.aload_n 1, 1)) rfl rfl (?_ : XW _ _ _ _ _ _ _ 14 _ _)
    refine xi_iload (by decide +kernel : decode mX1_sumOfTwo.2.1 14 = .ok (.iload 6, 2)) rfl (?_ : XW _ _ _ _ _ _ _ 16 _ _)
    obtain ⟨Q1, sp, vc⟩ := vc
    refine xi_callV (b := 0) (bs := 0) (As := [.int x6]) (st := []) (by decide +kernel : decode mX1_sumOfTwo.2.1 16 = .ok (.invokevirtual 62, 3)) kX1_62 rfl (xRul_s0 hr) (by omega) rfl sp (by decide) (by decide) (Nat.le_of_ble_eq_true rfl) (by omega) (fun v9 h1 hq9 => ?_)
    obtain ⟨r1, e9, vc⟩ := vc v9 h1 hq9
    subst e9
    show XW _ _ _ _ _ _ _ 19 _ [.int r1]
    refine xi_i2l (by decide +kernel : decode mX1_sumOfTwo.2.1 19 = .ok (.i2l, 1)) (?_ : XW _ _ _ _ _ _ _ 20 _ _)
    refine xi_lstore (ls' := [some (.ref 49), some (.ref r), some (.ref a), some (.int x3), some (.long x4), none, some (.int x6), some (.long (Int32.toInt64 r1)), none, none, none, none, none, none]) (by decide +kernel : decode mX1_sumOfTwo.2.1 20 = .ok (.lstore 7, 2)) (by decide) rfl (?_ : XW _ _ _ _ _ _ _ 22 _ _)
    refine xi_lload (by decide +kernel : decode mX1_sumOfTwo.2.1 22 = .ok (.lload 7, 2)) rfl (?_ : XW _ _ _ _ _ _ _ 24 _ _)
    refine xi_lconst (v := 0) (by decide +kernel : decode mX1_sumOfTwo.2.1 24 = .ok (.lconst 0, 1)) (by decide) (?_ : XW _ _ _ _ _ _ _ 25 _ _)
    refine xi_lcmp (by decide +kernel : decode mX1_sumOfTwo.2.1 25 = .ok (.lcmp, 1)) (?_ : XW _ _ _ _ _ _ _ 26 _ _)
    refine xi_if_ne (by decide +kernel : decode mX1_sumOfTwo.2.1 26 = .ok (.ifCond .ne 6, 3)) (by decide) (fun c => (?_ : XW _ _ _ _ _ _ _ 32 _ _)) (fun c => (?_ : XW _ _ _ _ _ _ _ 29 _ _))
    · replace vc := vc.1 c
      refine xi_aload_n (by decide +kernel : decode mX1_sumOfTwo.2.1 32 = .ok (.aload_n 0, 1)) rfl rfl (?_ : XW _ _ _ _ _ _ _ 33 _ _)
      refine xi_aload_n (by decide +kernel : decode mX1_sumOfTwo.2.1 33 = .ok (.aload_n 2, 1)) rfl rfl (?_ : XW _ _ _ _ _ _ _ 34 _ _)
      refine xi_iload_n (by decide +kernel : decode mX1_sumOfTwo.2.1 34 = .ok (.iload_n 3, 1)) rfl rfl (?_ : XW _ _ _ _ _ _ _ 35 _ _)
      refine xi_iload (by decide +kernel : decode mX1_sumOfTwo.2.1 35 = .ok (.iload 6, 2)) rfl (?_ : XW _ _ _ _ _ _ _ 37 _ _)
      obtain ⟨Q1, sp, vc⟩ := vc
      refine xi_callV (b := 0) (bs := 0) (As := [.int x3, .int x6]) (st := [.ref 49]) (by decide +kernel : decode mX1_sumOfTwo.2.1 37 = .ok (.invokevirtual 66, 3)) kX1_66 rfl (xPth_s0 ha) (by omega) rfl sp (by decide) (by decide) (Nat.le_of_ble_eq_true rfl) (by omega) (fun v9 h2 hq9 => ?_)
      obtain ⟨r2, e9, vc⟩ := vc v9 h2 hq9
      subst e9
      show XW _ _ _ _ _ _ _ 40 _ [.int r2, .ref 49]
      obtain ⟨Q1, sp, vc⟩ := vc
      refine xi_callV (b := 0) (bs := 0) (As := [.int r2]) (st := []) (by decide +kernel : decode mX1_sumOfTwo.2.1 40 = .ok (.invokevirtual 30, 3)) kX1_30 rfl rfl (by omega) rfl sp (by decide) (by decide) (Nat.le_of_ble_eq_true rfl) (by omega) (fun v9 h3 hq9 => ?_)
      obtain ⟨r3, e9, vc⟩ := vc v9 h3 hq9
      subst e9
      show XW _ _ _ _ _ _ _ 43 _ [.long r3]
      refine xi_lstore (ls' := [some (.ref 49), some (.ref r), some (.ref a), some (.int x3), some (.long x4), none, some (.int x6), some (.long (Int32.toInt64 r1)), none, some (.long r3), none, none, none, none]) (by decide +kernel : decode mX1_sumOfTwo.2.1 43 = .ok (.lstore 9, 2)) (by decide) rfl (?_ : XW _ _ _ _ _ _ _ 45 _ _)
      refine xi_lload (by decide +kernel : decode mX1_sumOfTwo.2.1 45 = .ok (.lload 4, 2)) rfl (?_ : XW _ _ _ _ _ _ _ 47 _ _)
      refine xi_lload (by decide +kernel : decode mX1_sumOfTwo.2.1 47 = .ok (.lload 7, 2)) rfl (?_ : XW _ _ _ _ _ _ _ 49 _ _)
      refine xi_lload (by decide +kernel : decode mX1_sumOfTwo.2.1 49 = .ok (.lload 7, 2)) rfl (?_ : XW _ _ _ _ _ _ _ 51 _ _)
      refine xi_lmul (by decide +kernel : decode mX1_sumOfTwo.2.1 51 = .ok (.lmul, 1)) (?_ : XW _ _ _ _ _ _ _ 52 _ _)
      refine xi_lload (by decide +kernel : decode mX1_sumOfTwo.2.1 52 = .ok (.lload 9, 2)) rfl (?_ : XW _ _ _ _ _ _ _ 54 _ _)
      refine xi_lmul (by decide +kernel : decode mX1_sumOfTwo.2.1 54 = .ok (.lmul, 1)) (?_ : XW _ _ _ _ _ _ _ 55 _ _)
      refine xi_ladd (by decide +kernel : decode mX1_sumOfTwo.2.1 55 = .ok (.ladd, 1)) (?_ : XW _ _ _ _ _ _ _ 56 _ _)
      refine xi_lstore (ls' := [some (.ref 49), some (.ref r), some (.ref a), some (.int x3), some (.long (x4 + (((Int32.toInt64 r1) * (Int32.toInt64 r1)) * r3))), none, some (.int x6), some (.long (Int32.toInt64 r1)), none, some (.long r3), none, none, none, none]) (by decide +kernel : decode mX1_sumOfTwo.2.1 56 = .ok (.lstore 4, 2)) (by decide) rfl (?_ : XW _ _ _ _ _ _ _ 58 _ _)
      refine xi_iload (by decide +kernel : decode mX1_sumOfTwo.2.1 58 = .ok (.iload 6, 2)) rfl (?_ : XW _ _ _ _ _ _ _ 60 _ _)
      refine xi_iconst (v := 1) (by decide +kernel : decode mX1_sumOfTwo.2.1 60 = .ok (.iconst 1, 1)) (by decide) (?_ : XW _ _ _ _ _ _ _ 61 _ _)
      refine xi_iadd (by decide +kernel : decode mX1_sumOfTwo.2.1 61 = .ok (.iadd, 1)) (?_ : XW _ _ _ _ _ _ _ 62 _ _)
      refine xi_istore (ls' := [some (.ref 49), some (.ref r), some (.ref a), some (.int x3), some (.long (x4 + (((Int32.toInt64 r1) * (Int32.toInt64 r1)) * r3))), none, some (.int x6), some (.long (Int32.toInt64 r1)), none, some (.long r3), none, some (.int (x6 + 1)), none, none]) (by decide +kernel : decode mX1_sumOfTwo.2.1 62 = .ok (.istore 11, 2)) (by decide) rfl (?_ : XW _ _ _ _ _ _ _ 64 _ _)
      exact vc
    · replace vc := vc.2 c
      refine xi_goto (by decide +kernel : decode mX1_sumOfTwo.2.1 29 = .ok (.goto 88, 3)) (by decide) (?_ : XW _ _ _ _ _ _ _ 117 _ _)
      refine xi_iinc (v := x6 + 1) (ls' := [some (.ref 49), some (.ref r), some (.ref a), some (.int x3), some (.long x4), none, some (.int (x6 + 1)), some (.long (Int32.toInt64 r1)), none, none, none, none, none, none]) (by decide +kernel : decode mX1_sumOfTwo.2.1 117 = .ok (.iinc 6 1, 3)) rfl rfl (by decide) rfl (?_ : XW _ _ _ _ _ _ _ 120 _ _)
      refine xi_goto (by decide +kernel : decode mX1_sumOfTwo.2.1 120 = .ok (.goto (-114), 3)) (by decide) (?_ : XW _ _ _ _ _ _ _ 6 _ _)
      refine xw_drop 7 (ls' := [some (.ref 49), some (.ref r), some (.ref a), some (.int x3), some (.long x4), none, some (.int (x6 + 1)), none, none, none, none, none, none, none]) rfl ?_
      exact vc

set_option maxRecDepth 20000 in
theorem v_X1_sumOfTwo_64 {h : XH} {Q : Option Value → XH → Prop} {X : String → XH → Prop} (n hya hza : Nat) (hh : xHop hya hza (xP h)) (hn : 52 ≤ n) (r : Nat) (hr : xRul r (xP h)) (hnr : r + 9 ≤ n) (a : Nat) (ha : xPth a (xP h)) (hna : a + 4 ≤ n)  (x3 : Int32) (x4 : Int64) (x6 : Int32) (x7 : Int64) (x9 : Int64) (x11 : Int32)
    (vc : (6 < x11 → XW (xrm 2 0 0) mX1_sumOfTwo (xE n Q X 0 0) n 0 0 h 6 [some (.ref 49), some (.ref r), some (.ref a), some (.int x3), some (.long x4), none, some (.int (x6 + 1)), none, none, none, none, none, none, none] []) ∧ (¬ 6 < x11 → ∃ Q1, XSpec mX3_to 1 0 0 n n [.ref a, .int x3, .int x11] h Q1 xno ∧ ∀ v h4, Q1 v h4 → ∃ r4 : Int32, v = some (.int r4) ∧ (∃ Q1, XSpec mX1_at 1 0 0 n n [.ref 49, .int r4] h4 Q1 xno ∧ ∀ v h5, Q1 v h5 → ∃ r5 : Int64, v = some (.long r5) ∧ (∃ Q1, XSpec mX5_oddsOf 1 0 0 n n [.ref r, .int x11] h5 Q1 xno ∧ ∀ v h6, Q1 v h6 → ∃ r6 : Int32, v = some (.int r6) ∧ (XW (xrm 2 0 0) mX1_sumOfTwo (xE n Q X 0 0) n 0 0 h6 64 [some (.ref 49), some (.ref r), some (.ref a), some (.int x3), some (.long (x4 + (((2 * x7) * (Int32.toInt64 r6)) * (if r5 < x9 then r5 else x9)))), none, some (.int x6), some (.long x7), none, some (.long x9), none, some (.int (x11 + 1)), none, none] []))))) :
    XW (xrm 2 0 0) mX1_sumOfTwo (xE n Q X 0 0) n 0 0 h 64 [some (.ref 49), some (.ref r), some (.ref a), some (.int x3), some (.long x4), none, some (.int x6), some (.long x7), none, some (.long x9), none, some (.int x11), none, none] [] := by
  refine xi_iload (by decide +kernel : decode mX1_sumOfTwo.2.1 64 = .ok (.iload 11, 2)) rfl (?_ : XW _ _ _ _ _ _ _ 66 _ _)
  refine xi_bipush (v := 6) (by decide +kernel : decode mX1_sumOfTwo.2.1 66 = .ok (.bipush 6, 2)) (by decide) (?_ : XW _ _ _ _ _ _ _ 68 _ _)
  refine xi_icmp_gt (by decide +kernel : decode mX1_sumOfTwo.2.1 68 = .ok (.if_icmp .gt 49, 3)) (by decide) (fun c => (?_ : XW _ _ _ _ _ _ _ 117 _ _)) (fun c => (?_ : XW _ _ _ _ _ _ _ 71 _ _))
  · replace vc := vc.1 c
    refine xi_iinc (v := x6 + 1) (ls' := [some (.ref 49), some (.ref r), some (.ref a), some (.int x3), some (.long x4), none, some (.int (x6 + 1)), some (.long x7), none, some (.long x9), none, some (.int x11), none, none]) (by decide +kernel : decode mX1_sumOfTwo.2.1 117 = .ok (.iinc 6 1, 3)) rfl rfl (by decide) rfl (?_ : XW _ _ _ _ _ _ _ 120 _ _)
    refine xi_goto (by decide +kernel : decode mX1_sumOfTwo.2.1 120 = .ok (.goto (-114), 3)) (by decide) (?_ : XW _ _ _ _ _ _ _ 6 _ _)
    refine xw_drop 7 (ls' := [some (.ref 49), some (.ref r), some (.ref a), some (.int x3), some (.long x4), none, some (.int (x6 + 1)), none, none, some (.long x9), none, some (.int x11), none, none]) rfl ?_
    refine xw_drop 9 (ls' := [some (.ref 49), some (.ref r), some (.ref a), some (.int x3), some (.long x4), none, some (.int (x6 + 1)), none, none, none, none, some (.int x11), none, none]) rfl ?_
    refine xw_drop 11 (ls' := [some (.ref 49), some (.ref r), some (.ref a), some (.int x3), some (.long x4), none, some (.int (x6 + 1)), none, none, none, none, none, none, none]) rfl ?_
    exact vc
  · replace vc := vc.2 c
    refine xi_aload_n (by decide +kernel : decode mX1_sumOfTwo.2.1 71 = .ok (.aload_n 0, 1)) rfl rfl (?_ : XW _ _ _ _ _ _ _ 72 _ _)
    refine xi_aload_n (by decide +kernel : decode mX1_sumOfTwo.2.1 72 = .ok (.aload_n 2, 1)) rfl rfl (?_ : XW _ _ _ _ _ _ _ 73 _ _)
    refine xi_iload_n (by decide +kernel : decode mX1_sumOfTwo.2.1 73 = .ok (.iload_n 3, 1)) rfl rfl (?_ : XW _ _ _ _ _ _ _ 74 _ _)
    refine xi_iload (by decide +kernel : decode mX1_sumOfTwo.2.1 74 = .ok (.iload 11, 2)) rfl (?_ : XW _ _ _ _ _ _ _ 76 _ _)
    obtain ⟨Q1, sp, vc⟩ := vc
    refine xi_callV (b := 0) (bs := 0) (As := [.int x3, .int x11]) (st := [.ref 49]) (by decide +kernel : decode mX1_sumOfTwo.2.1 76 = .ok (.invokevirtual 66, 3)) kX1_66 rfl (xPth_s0 ha) (by omega) rfl sp (by decide) (by decide) (Nat.le_of_ble_eq_true rfl) (by omega) (fun v9 h4 hq9 => ?_)
    obtain ⟨r4, e9, vc⟩ := vc v9 h4 hq9
    subst e9
    show XW _ _ _ _ _ _ _ 79 _ [.int r4, .ref 49]
    obtain ⟨Q1, sp, vc⟩ := vc
    refine xi_callV (b := 0) (bs := 0) (As := [.int r4]) (st := []) (by decide +kernel : decode mX1_sumOfTwo.2.1 79 = .ok (.invokevirtual 30, 3)) kX1_30 rfl rfl (by omega) rfl sp (by decide) (by decide) (Nat.le_of_ble_eq_true rfl) (by omega) (fun v9 h5 hq9 => ?_)
    obtain ⟨r5, e9, vc⟩ := vc v9 h5 hq9
    subst e9
    show XW _ _ _ _ _ _ _ 82 _ [.long r5]
    refine xi_lstore (ls' := [some (.ref 49), some (.ref r), some (.ref a), some (.int x3), some (.long x4), none, some (.int x6), some (.long x7), none, some (.long x9), none, some (.int x11), some (.long r5), none]) (by decide +kernel : decode mX1_sumOfTwo.2.1 82 = .ok (.lstore 12, 2)) (by decide) rfl (?_ : XW _ _ _ _ _ _ _ 84 _ _)
    refine xi_lload (by decide +kernel : decode mX1_sumOfTwo.2.1 84 = .ok (.lload 4, 2)) rfl (?_ : XW _ _ _ _ _ _ _ 86 _ _)
    refine xi_ldc2 (v := 2) (by decide +kernel : decode mX1_sumOfTwo.2.1 86 = .ok (.ldc2_w 71, 3)) cK_X1_71 (?_ : XW _ _ _ _ _ _ _ 89 _ _)
    refine xi_lload (by decide +kernel : decode mX1_sumOfTwo.2.1 89 = .ok (.lload 7, 2)) rfl (?_ : XW _ _ _ _ _ _ _ 91 _ _)
    refine xi_lmul (by decide +kernel : decode mX1_sumOfTwo.2.1 91 = .ok (.lmul, 1)) (?_ : XW _ _ _ _ _ _ _ 92 _ _)
    refine xi_aload_n (by decide +kernel : decode mX1_sumOfTwo.2.1 92 = .ok (.aload_n 1, 1)) rfl rfl (?_ : XW _ _ _ _ _ _ _ 93 _ _)
    refine xi_iload (by decide +kernel : decode mX1_sumOfTwo.2.1 93 = .ok (.iload 11, 2)) rfl (?_ : XW _ _ _ _ _ _ _ 95 _ _)
    obtain ⟨Q1, sp, vc⟩ := vc
    refine xi_callV (b := 0) (bs := 0) (As := [.int x11]) (st := [.long (2 * x7), .long x4]) (by decide +kernel : decode mX1_sumOfTwo.2.1 95 = .ok (.invokevirtual 62, 3)) kX1_62 rfl (xRul_s0 hr) (by omega) rfl sp (by decide) (by decide) (Nat.le_of_ble_eq_true rfl) (by omega) (fun v9 h6 hq9 => ?_)
    obtain ⟨r6, e9, vc⟩ := vc v9 h6 hq9
    subst e9
    show XW _ _ _ _ _ _ _ 98 _ [.int r6, .long (2 * x7), .long x4]
    refine xi_i2l (by decide +kernel : decode mX1_sumOfTwo.2.1 98 = .ok (.i2l, 1)) (?_ : XW _ _ _ _ _ _ _ 99 _ _)
    refine xi_lmul (by decide +kernel : decode mX1_sumOfTwo.2.1 99 = .ok (.lmul, 1)) (?_ : XW _ _ _ _ _ _ _ 100 _ _)
    refine xi_lload (by decide +kernel : decode mX1_sumOfTwo.2.1 100 = .ok (.lload 9, 2)) rfl (?_ : XW _ _ _ _ _ _ _ 102 _ _)
    refine xi_lload (by decide +kernel : decode mX1_sumOfTwo.2.1 102 = .ok (.lload 12, 2)) rfl (?_ : XW _ _ _ _ _ _ _ 104 _ _)
    refine xi_mminl (by decide +kernel : decode mX1_sumOfTwo.2.1 104 = .ok (.invokestatic 73, 3)) kX1_73.2.1 (by decide) (Nat.le_of_ble_eq_true rfl) (?_ : XW _ _ _ _ _ _ _ 107 _ _)
    refine xi_lmul (by decide +kernel : decode mX1_sumOfTwo.2.1 107 = .ok (.lmul, 1)) (?_ : XW _ _ _ _ _ _ _ 108 _ _)
    refine xi_ladd (by decide +kernel : decode mX1_sumOfTwo.2.1 108 = .ok (.ladd, 1)) (?_ : XW _ _ _ _ _ _ _ 109 _ _)
    refine xi_lstore (ls' := [some (.ref 49), some (.ref r), some (.ref a), some (.int x3), some (.long (x4 + (((2 * x7) * (Int32.toInt64 r6)) * (if r5 < x9 then r5 else x9)))), none, some (.int x6), some (.long x7), none, some (.long x9), none, some (.int x11), some (.long r5), none]) (by decide +kernel : decode mX1_sumOfTwo.2.1 109 = .ok (.lstore 4, 2)) (by decide) rfl (?_ : XW _ _ _ _ _ _ _ 111 _ _)
    refine xi_iinc (v := x11 + 1) (ls' := [some (.ref 49), some (.ref r), some (.ref a), some (.int x3), some (.long (x4 + (((2 * x7) * (Int32.toInt64 r6)) * (if r5 < x9 then r5 else x9)))), none, some (.int x6), some (.long x7), none, some (.long x9), none, some (.int (x11 + 1)), some (.long r5), none]) (by decide +kernel : decode mX1_sumOfTwo.2.1 111 = .ok (.iinc 11 1, 3)) rfl rfl (by decide) rfl (?_ : XW _ _ _ _ _ _ _ 114 _ _)
    refine xi_goto (by decide +kernel : decode mX1_sumOfTwo.2.1 114 = .ok (.goto (-50), 3)) (by decide) (?_ : XW _ _ _ _ _ _ _ 64 _ _)
    refine xw_drop 12 (ls' := [some (.ref 49), some (.ref r), some (.ref a), some (.int x3), some (.long (x4 + (((2 * x7) * (Int32.toInt64 r6)) * (if r5 < x9 then r5 else x9)))), none, some (.int x6), some (.long x7), none, some (.long x9), none, some (.int (x11 + 1)), none, none]) rfl ?_
    exact vc

set_option maxRecDepth 20000 in
theorem v_X1_lookAhead_0 {h : XH} {Q : Option Value → XH → Prop} {X : String → XH → Prop} (n hya hza : Nat) (hh : xHop hya hza (xP h)) (hn : 52 ≤ n) (r : Nat) (hr : xRul r (xP h)) (hnr : r + 9 ≤ n) (a : Nat) (ha : xPth a (xP h)) (hna : a + 4 ≤ n)  (m : Int32)
    (vc : (0 < (lg_cmp ((Int32.toInt64 (xI h r 1)) * (Int32.toInt64 (xI h r 1))) 0) → XW (xrm 3 0 0) mX1_lookAhead (xE n Q X 0 0) n 0 0 (xSL hya (fl 861 0 (xL h hya)) h) 32 [some (.ref 49), some (.ref r), some (.ref a), some (.int m), some (.long ((Int32.toInt64 (xI h r 1)) * (Int32.toInt64 (xI h r 1)))), none, some (.int 0), none] []) ∧ (¬ 0 < (lg_cmp ((Int32.toInt64 (xI h r 1)) * (Int32.toInt64 (xI h r 1))) 0) → Q none (xSL hya (fl 861 0 (xL h hya)) h))) :
    XW (xrm 3 0 0) mX1_lookAhead (xE n Q X 0 0) n 0 0 h 0 [some (.ref 49), some (.ref r), some (.ref a), some (.int m), none, none, none, none] [] := by
  rcases hh.1 with ⟨rfl, rfl⟩ | ⟨rfl, rfl⟩
  · refine xi_aload_n (by decide +kernel : decode mX1_lookAhead.2.1 0 = .ok (.aload_n 1, 1)) rfl rfl (?_ : XW _ _ _ _ _ _ _ 1 _ _)
    refine xi_getI (by decide +kernel : decode mX1_lookAhead.2.1 1 = .ok (.getfield 34, 3)) fX1_34 (xRul_s0 hr) (by omega) rfl (?_ : XW _ _ _ _ _ _ _ 4 _ _)
    refine xi_i2l (by decide +kernel : decode mX1_lookAhead.2.1 4 = .ok (.i2l, 1)) (?_ : XW _ _ _ _ _ _ _ 5 _ _)
    refine xi_aload_n (by decide +kernel : decode mX1_lookAhead.2.1 5 = .ok (.aload_n 1, 1)) rfl rfl (?_ : XW _ _ _ _ _ _ _ 6 _ _)
    refine xi_getI (by decide +kernel : decode mX1_lookAhead.2.1 6 = .ok (.getfield 34, 3)) fX1_34 (xRul_s0 hr) (by omega) rfl (?_ : XW _ _ _ _ _ _ _ 9 _ _)
    refine xi_i2l (by decide +kernel : decode mX1_lookAhead.2.1 9 = .ok (.i2l, 1)) (?_ : XW _ _ _ _ _ _ _ 10 _ _)
    refine xi_lmul (by decide +kernel : decode mX1_lookAhead.2.1 10 = .ok (.lmul, 1)) (?_ : XW _ _ _ _ _ _ _ 11 _ _)
    refine xi_lstore (ls' := [some (.ref 49), some (.ref r), some (.ref a), some (.int m), some (.long ((Int32.toInt64 (xI h r 1)) * (Int32.toInt64 (xI h r 1)))), none, none, none]) (by decide +kernel : decode mX1_lookAhead.2.1 11 = .ok (.lstore 4, 2)) (by decide) rfl (?_ : XW _ _ _ _ _ _ _ 13 _ _)
    refine xi_aload_n (by decide +kernel : decode mX1_lookAhead.2.1 13 = .ok (.aload_n 0, 1)) rfl rfl (?_ : XW _ _ _ _ _ _ _ 14 _ _)
    refine xi_getR (y := 50) (by decide +kernel : decode mX1_lookAhead.2.1 14 = .ok (.getfield 11, 3)) fX1_11 rfl (by omega) rfl hh.2.1 (?_ : XW _ _ _ _ _ _ _ 17 _ _)
    refine xi_lconst (v := 0) (by decide +kernel : decode mX1_lookAhead.2.1 17 = .ok (.lconst 0, 1)) (by decide) (?_ : XW _ _ _ _ _ _ _ 18 _ _)
    refine xi_callS (b := 0) (bs := 0) (As := [.ref 50, .long 0]) (st := []) (by decide +kernel : decode mX1_lookAhead.2.1 18 = .ok (.invokestatic 40, 3)) kX1_40 rfl rfl (s_fillJ n h 50 861 rfl (by omega) (by decide) 0) (by decide) (by decide) (Nat.le_of_ble_eq_true rfl) (by omega) (fun v9 h9 hq9 => ?_)
    rw [hq9.1, hq9.2]
    show XW _ _ _ _ _ _ _ 21 _ []
    refine xi_lload (by decide +kernel : decode mX1_lookAhead.2.1 21 = .ok (.lload 4, 2)) rfl (?_ : XW _ _ _ _ _ _ _ 23 _ _)
    refine xi_lconst (v := 0) (by decide +kernel : decode mX1_lookAhead.2.1 23 = .ok (.lconst 0, 1)) (by decide) (?_ : XW _ _ _ _ _ _ _ 24 _ _)
    refine xi_lcmp (by decide +kernel : decode mX1_lookAhead.2.1 24 = .ok (.lcmp, 1)) (?_ : XW _ _ _ _ _ _ _ 25 _ _)
    refine xi_if_gt (by decide +kernel : decode mX1_lookAhead.2.1 25 = .ok (.ifCond .gt 4, 3)) (by decide) (fun c => (?_ : XW _ _ _ _ _ _ _ 29 _ _)) (fun c => (?_ : XW _ _ _ _ _ _ _ 28 _ _))
    · replace vc := vc.1 c
      refine xi_iconst (v := 0) (by decide +kernel : decode mX1_lookAhead.2.1 29 = .ok (.iconst 0, 1)) (by decide) (?_ : XW _ _ _ _ _ _ _ 30 _ _)
      refine xi_istore (ls' := [some (.ref 49), some (.ref r), some (.ref a), some (.int m), some (.long ((Int32.toInt64 (xI h r 1)) * (Int32.toInt64 (xI h r 1)))), none, some (.int 0), none]) (by decide +kernel : decode mX1_lookAhead.2.1 30 = .ok (.istore 6, 2)) (by decide) rfl (?_ : XW _ _ _ _ _ _ _ 32 _ _)
      exact vc
    · replace vc := vc.2 c
      exact xi_vret (by decide +kernel : decode mX1_lookAhead.2.1 28 = .ok (.return_, 1)) rfl vc
  · refine xi_aload_n (by decide +kernel : decode mX1_lookAhead.2.1 0 = .ok (.aload_n 1, 1)) rfl rfl (?_ : XW _ _ _ _ _ _ _ 1 _ _)
    refine xi_getI (by decide +kernel : decode mX1_lookAhead.2.1 1 = .ok (.getfield 34, 3)) fX1_34 (xRul_s0 hr) (by omega) rfl (?_ : XW _ _ _ _ _ _ _ 4 _ _)
    refine xi_i2l (by decide +kernel : decode mX1_lookAhead.2.1 4 = .ok (.i2l, 1)) (?_ : XW _ _ _ _ _ _ _ 5 _ _)
    refine xi_aload_n (by decide +kernel : decode mX1_lookAhead.2.1 5 = .ok (.aload_n 1, 1)) rfl rfl (?_ : XW _ _ _ _ _ _ _ 6 _ _)
    refine xi_getI (by decide +kernel : decode mX1_lookAhead.2.1 6 = .ok (.getfield 34, 3)) fX1_34 (xRul_s0 hr) (by omega) rfl (?_ : XW _ _ _ _ _ _ _ 9 _ _)
    refine xi_i2l (by decide +kernel : decode mX1_lookAhead.2.1 9 = .ok (.i2l, 1)) (?_ : XW _ _ _ _ _ _ _ 10 _ _)
    refine xi_lmul (by decide +kernel : decode mX1_lookAhead.2.1 10 = .ok (.lmul, 1)) (?_ : XW _ _ _ _ _ _ _ 11 _ _)
    refine xi_lstore (ls' := [some (.ref 49), some (.ref r), some (.ref a), some (.int m), some (.long ((Int32.toInt64 (xI h r 1)) * (Int32.toInt64 (xI h r 1)))), none, none, none]) (by decide +kernel : decode mX1_lookAhead.2.1 11 = .ok (.lstore 4, 2)) (by decide) rfl (?_ : XW _ _ _ _ _ _ _ 13 _ _)
    refine xi_aload_n (by decide +kernel : decode mX1_lookAhead.2.1 13 = .ok (.aload_n 0, 1)) rfl rfl (?_ : XW _ _ _ _ _ _ _ 14 _ _)
    refine xi_getR (y := 51) (by decide +kernel : decode mX1_lookAhead.2.1 14 = .ok (.getfield 11, 3)) fX1_11 rfl (by omega) rfl hh.2.1 (?_ : XW _ _ _ _ _ _ _ 17 _ _)
    refine xi_lconst (v := 0) (by decide +kernel : decode mX1_lookAhead.2.1 17 = .ok (.lconst 0, 1)) (by decide) (?_ : XW _ _ _ _ _ _ _ 18 _ _)
    refine xi_callS (b := 0) (bs := 0) (As := [.ref 51, .long 0]) (st := []) (by decide +kernel : decode mX1_lookAhead.2.1 18 = .ok (.invokestatic 40, 3)) kX1_40 rfl rfl (s_fillJ n h 51 861 rfl (by omega) (by decide) 0) (by decide) (by decide) (Nat.le_of_ble_eq_true rfl) (by omega) (fun v9 h9 hq9 => ?_)
    rw [hq9.1, hq9.2]
    show XW _ _ _ _ _ _ _ 21 _ []
    refine xi_lload (by decide +kernel : decode mX1_lookAhead.2.1 21 = .ok (.lload 4, 2)) rfl (?_ : XW _ _ _ _ _ _ _ 23 _ _)
    refine xi_lconst (v := 0) (by decide +kernel : decode mX1_lookAhead.2.1 23 = .ok (.lconst 0, 1)) (by decide) (?_ : XW _ _ _ _ _ _ _ 24 _ _)
    refine xi_lcmp (by decide +kernel : decode mX1_lookAhead.2.1 24 = .ok (.lcmp, 1)) (?_ : XW _ _ _ _ _ _ _ 25 _ _)
    refine xi_if_gt (by decide +kernel : decode mX1_lookAhead.2.1 25 = .ok (.ifCond .gt 4, 3)) (by decide) (fun c => (?_ : XW _ _ _ _ _ _ _ 29 _ _)) (fun c => (?_ : XW _ _ _ _ _ _ _ 28 _ _))
    · replace vc := vc.1 c
      refine xi_iconst (v := 0) (by decide +kernel : decode mX1_lookAhead.2.1 29 = .ok (.iconst 0, 1)) (by decide) (?_ : XW _ _ _ _ _ _ _ 30 _ _)
      refine xi_istore (ls' := [some (.ref 49), some (.ref r), some (.ref a), some (.int m), some (.long ((Int32.toInt64 (xI h r 1)) * (Int32.toInt64 (xI h r 1)))), none, some (.int 0), none]) (by decide +kernel : decode mX1_lookAhead.2.1 30 = .ok (.istore 6, 2)) (by decide) rfl (?_ : XW _ _ _ _ _ _ _ 32 _ _)
      exact vc
    · replace vc := vc.2 c
      exact xi_vret (by decide +kernel : decode mX1_lookAhead.2.1 28 = .ok (.return_, 1)) rfl vc

set_option maxRecDepth 20000 in
theorem v_X1_lookAhead_32 {h : XH} {Q : Option Value → XH → Prop} {X : String → XH → Prop} (n hya hza : Nat) (hh : xHop hya hza (xP h)) (hn : 52 ≤ n) (r : Nat) (hr : xRul r (xP h)) (hnr : r + 9 ≤ n) (a : Nat) (ha : xPth a (xP h)) (hna : a + 4 ≤ n)  (x3 : Int32) (x4 : Int64) (x6 : Int32)
    (vc : (x3 ≤ x6 → Q none h) ∧ (¬ x3 ≤ x6 → XW (xrm 3 0 0) mX1_lookAhead (xE n Q X 0 0) n 0 0 h 41 [some (.ref 49), some (.ref r), some (.ref a), some (.int x3), some (.long x4), none, some (.int x6), some (.int 0)] [])) :
    XW (xrm 3 0 0) mX1_lookAhead (xE n Q X 0 0) n 0 0 h 32 [some (.ref 49), some (.ref r), some (.ref a), some (.int x3), some (.long x4), none, some (.int x6), none] [] := by
  rcases hh.1 with ⟨rfl, rfl⟩ | ⟨rfl, rfl⟩
  · refine xi_iload (by decide +kernel : decode mX1_lookAhead.2.1 32 = .ok (.iload 6, 2)) rfl (?_ : XW _ _ _ _ _ _ _ 34 _ _)
    refine xi_iload_n (by decide +kernel : decode mX1_lookAhead.2.1 34 = .ok (.iload_n 3, 1)) rfl rfl (?_ : XW _ _ _ _ _ _ _ 35 _ _)
    refine xi_icmp_ge (by decide +kernel : decode mX1_lookAhead.2.1 35 = .ok (.if_icmp .ge 61, 3)) (by decide) (fun c => (?_ : XW _ _ _ _ _ _ _ 96 _ _)) (fun c => (?_ : XW _ _ _ _ _ _ _ 38 _ _))
    · replace vc := vc.1 c
      exact xi_vret (by decide +kernel : decode mX1_lookAhead.2.1 96 = .ok (.return_, 1)) rfl vc
    · replace vc := vc.2 c
      refine xi_iconst (v := 0) (by decide +kernel : decode mX1_lookAhead.2.1 38 = .ok (.iconst 0, 1)) (by decide) (?_ : XW _ _ _ _ _ _ _ 39 _ _)
      refine xi_istore (ls' := [some (.ref 49), some (.ref r), some (.ref a), some (.int x3), some (.long x4), none, some (.int x6), some (.int 0)]) (by decide +kernel : decode mX1_lookAhead.2.1 39 = .ok (.istore 7, 2)) (by decide) rfl (?_ : XW _ _ _ _ _ _ _ 41 _ _)
      exact vc
  · refine xi_iload (by decide +kernel : decode mX1_lookAhead.2.1 32 = .ok (.iload 6, 2)) rfl (?_ : XW _ _ _ _ _ _ _ 34 _ _)
    refine xi_iload_n (by decide +kernel : decode mX1_lookAhead.2.1 34 = .ok (.iload_n 3, 1)) rfl rfl (?_ : XW _ _ _ _ _ _ _ 35 _ _)
    refine xi_icmp_ge (by decide +kernel : decode mX1_lookAhead.2.1 35 = .ok (.if_icmp .ge 61, 3)) (by decide) (fun c => (?_ : XW _ _ _ _ _ _ _ 96 _ _)) (fun c => (?_ : XW _ _ _ _ _ _ _ 38 _ _))
    · replace vc := vc.1 c
      exact xi_vret (by decide +kernel : decode mX1_lookAhead.2.1 96 = .ok (.return_, 1)) rfl vc
    · replace vc := vc.2 c
      refine xi_iconst (v := 0) (by decide +kernel : decode mX1_lookAhead.2.1 38 = .ok (.iconst 0, 1)) (by decide) (?_ : XW _ _ _ _ _ _ _ 39 _ _)
      refine xi_istore (ls' := [some (.ref 49), some (.ref r), some (.ref a), some (.int x3), some (.long x4), none, some (.int x6), some (.int 0)]) (by decide +kernel : decode mX1_lookAhead.2.1 39 = .ok (.istore 7, 2)) (by decide) rfl (?_ : XW _ _ _ _ _ _ _ 41 _ _)
      exact vc

set_option maxRecDepth 20000 in
theorem v_X1_lookAhead_41 {h : XH} {Q : Option Value → XH → Prop} {X : String → XH → Prop} (n hya hza : Nat) (hh : xHop hya hza (xP h)) (hn : 52 ≤ n) (r : Nat) (hr : xRul r (xP h)) (hnr : r + 9 ≤ n) (a : Nat) (ha : xPth a (xP h)) (hna : a + 4 ≤ n)  (x3 : Int32) (x4 : Int64) (x6 : Int32) (x7 : Int32)
    (vc : ((xI h r 0) ≤ x7 → ∃ Q1, XSpec mX1_putNext 1 0 0 n n [.ref 49, .int (xI h r 0), .long 0] h Q1 xno ∧ ∀ v h1, Q1 v h1 → v = none ∧ (∃ Q1, XSpec mX1_swap 1 0 0 n n [.ref 49] h1 Q1 xno ∧ ∀ v h2, Q1 v h2 → v = none ∧ (XW (xrm 3 0 0) mX1_lookAhead (xE n Q X 0 0) n 0 0 h2 32 [some (.ref 49), some (.ref r), some (.ref a), some (.int x3), some (.long x4), none, some (.int (x6 + 1)), none] []))) ∧ (¬ (xI h r 0) ≤ x7 → ∃ Q1, XSpec mX1_sumOfTwo 2 0 0 n n [.ref 49, .ref r, .ref a, .int x7] h Q1 xno ∧ ∀ v h3, Q1 v h3 → ∃ r3 : Int64, v = some (.long r3) ∧ ((¬ x4 = 0) ∧ (∃ Q1, XSpec mX1_putNext 1 0 0 n n [.ref 49, .int x7, .long (1000000000 + (r3 / x4))] h3 Q1 xno ∧ ∀ v h4, Q1 v h4 → v = none ∧ (XW (xrm 3 0 0) mX1_lookAhead (xE n Q X 0 0) n 0 0 h4 41 [some (.ref 49), some (.ref r), some (.ref a), some (.int x3), some (.long x4), none, some (.int x6), some (.int (x7 + 1))] []))))) :
    XW (xrm 3 0 0) mX1_lookAhead (xE n Q X 0 0) n 0 0 h 41 [some (.ref 49), some (.ref r), some (.ref a), some (.int x3), some (.long x4), none, some (.int x6), some (.int x7)] [] := by
  rcases hh.1 with ⟨rfl, rfl⟩ | ⟨rfl, rfl⟩
  · refine xi_iload (by decide +kernel : decode mX1_lookAhead.2.1 41 = .ok (.iload 7, 2)) rfl (?_ : XW _ _ _ _ _ _ _ 43 _ _)
    refine xi_aload_n (by decide +kernel : decode mX1_lookAhead.2.1 43 = .ok (.aload_n 1, 1)) rfl rfl (?_ : XW _ _ _ _ _ _ _ 44 _ _)
    refine xi_getI (by decide +kernel : decode mX1_lookAhead.2.1 44 = .ok (.getfield 46, 3)) fX1_46 (xRul_s0 hr) (by omega) rfl (?_ : XW _ _ _ _ _ _ _ 47 _ _)
    refine xi_icmp_ge (by decide +kernel : decode mX1_lookAhead.2.1 47 = .ok (.if_icmp .ge 30, 3)) (by decide) (fun c => (?_ : XW _ _ _ _ _ _ _ 77 _ _)) (fun c => (?_ : XW _ _ _ _ _ _ _ 50 _ _))
    · replace vc := vc.1 c
      refine xi_aload_n (by decide +kernel : decode mX1_lookAhead.2.1 77 = .ok (.aload_n 0, 1)) rfl rfl (?_ : XW _ _ _ _ _ _ _ 78 _ _)
      refine xi_aload_n (by decide +kernel : decode mX1_lookAhead.2.1 78 = .ok (.aload_n 1, 1)) rfl rfl (?_ : XW _ _ _ _ _ _ _ 79 _ _)
      refine xi_getI (by decide +kernel : decode mX1_lookAhead.2.1 79 = .ok (.getfield 46, 3)) fX1_46 (xRul_s0 hr) (by omega) rfl (?_ : XW _ _ _ _ _ _ _ 82 _ _)
      refine xi_lconst (v := 0) (by decide +kernel : decode mX1_lookAhead.2.1 82 = .ok (.lconst 0, 1)) (by decide) (?_ : XW _ _ _ _ _ _ _ 83 _ _)
      obtain ⟨Q1, sp, vc⟩ := vc
      refine xi_callV (b := 0) (bs := 0) (As := [.int (xI h r 0), .long 0]) (st := []) (by decide +kernel : decode mX1_lookAhead.2.1 83 = .ok (.invokevirtual 55, 3)) kX1_55 rfl rfl (by omega) rfl sp (by decide) (by decide) (Nat.le_of_ble_eq_true rfl) (by omega) (fun v9 h1 hq9 => ?_)
      obtain ⟨e9, vc⟩ := vc v9 h1 hq9
      subst e9
      show XW _ _ _ _ _ _ _ 86 _ []
      refine xi_aload_n (by decide +kernel : decode mX1_lookAhead.2.1 86 = .ok (.aload_n 0, 1)) rfl rfl (?_ : XW _ _ _ _ _ _ _ 87 _ _)
      obtain ⟨Q1, sp, vc⟩ := vc
      refine xi_callV (b := 0) (bs := 0) (As := []) (st := []) (by decide +kernel : decode mX1_lookAhead.2.1 87 = .ok (.invokevirtual 59, 3)) kX1_59 rfl rfl (by omega) rfl sp (by decide) (by decide) (Nat.le_of_ble_eq_true rfl) (by omega) (fun v9 h2 hq9 => ?_)
      obtain ⟨e9, vc⟩ := vc v9 h2 hq9
      subst e9
      show XW _ _ _ _ _ _ _ 90 _ []
      refine xi_iinc (v := x6 + 1) (ls' := [some (.ref 49), some (.ref r), some (.ref a), some (.int x3), some (.long x4), none, some (.int (x6 + 1)), some (.int x7)]) (by decide +kernel : decode mX1_lookAhead.2.1 90 = .ok (.iinc 6 1, 3)) rfl rfl (by decide) rfl (?_ : XW _ _ _ _ _ _ _ 93 _ _)
      refine xi_goto (by decide +kernel : decode mX1_lookAhead.2.1 93 = .ok (.goto (-61), 3)) (by decide) (?_ : XW _ _ _ _ _ _ _ 32 _ _)
      refine xw_drop 7 (ls' := [some (.ref 49), some (.ref r), some (.ref a), some (.int x3), some (.long x4), none, some (.int (x6 + 1)), none]) rfl ?_
      exact vc
    · replace vc := vc.2 c
      refine xi_aload_n (by decide +kernel : decode mX1_lookAhead.2.1 50 = .ok (.aload_n 0, 1)) rfl rfl (?_ : XW _ _ _ _ _ _ _ 51 _ _)
      refine xi_iload (by decide +kernel : decode mX1_lookAhead.2.1 51 = .ok (.iload 7, 2)) rfl (?_ : XW _ _ _ _ _ _ _ 53 _ _)
      refine xi_ldc2 (v := 1000000000) (by decide +kernel : decode mX1_lookAhead.2.1 53 = .ok (.ldc2_w 49, 3)) cK_X1_49 (?_ : XW _ _ _ _ _ _ _ 56 _ _)
      refine xi_aload_n (by decide +kernel : decode mX1_lookAhead.2.1 56 = .ok (.aload_n 0, 1)) rfl rfl (?_ : XW _ _ _ _ _ _ _ 57 _ _)
      refine xi_aload_n (by decide +kernel : decode mX1_lookAhead.2.1 57 = .ok (.aload_n 1, 1)) rfl rfl (?_ : XW _ _ _ _ _ _ _ 58 _ _)
      refine xi_aload_n (by decide +kernel : decode mX1_lookAhead.2.1 58 = .ok (.aload_n 2, 1)) rfl rfl (?_ : XW _ _ _ _ _ _ _ 59 _ _)
      refine xi_iload (by decide +kernel : decode mX1_lookAhead.2.1 59 = .ok (.iload 7, 2)) rfl (?_ : XW _ _ _ _ _ _ _ 61 _ _)
      obtain ⟨Q1, sp, vc⟩ := vc
      refine xi_callV (b := 0) (bs := 0) (As := [.ref r, .ref a, .int x7]) (st := [.long 1000000000, .int x7, .ref 49]) (by decide +kernel : decode mX1_lookAhead.2.1 61 = .ok (.invokevirtual 51, 3)) kX1_51 rfl rfl (by omega) rfl sp (by decide) (by decide) (Nat.le_of_ble_eq_true rfl) (by omega) (fun v9 h3 hq9 => ?_)
      obtain ⟨r3, e9, vc⟩ := vc v9 h3 hq9
      subst e9
      show XW _ _ _ _ _ _ _ 64 _ [.long r3, .long 1000000000, .int x7, .ref 49]
      refine xi_lload (by decide +kernel : decode mX1_lookAhead.2.1 64 = .ok (.lload 4, 2)) rfl (?_ : XW _ _ _ _ _ _ _ 66 _ _)
      obtain ⟨s1, vc⟩ := vc
      refine xi_ldiv (by decide +kernel : decode mX1_lookAhead.2.1 66 = .ok (.ldiv, 1)) s1 (?_ : XW _ _ _ _ _ _ _ 67 _ _)
      refine xi_ladd (by decide +kernel : decode mX1_lookAhead.2.1 67 = .ok (.ladd, 1)) (?_ : XW _ _ _ _ _ _ _ 68 _ _)
      obtain ⟨Q1, sp, vc⟩ := vc
      refine xi_callV (b := 0) (bs := 0) (As := [.int x7, .long (1000000000 + (r3 / x4))]) (st := []) (by decide +kernel : decode mX1_lookAhead.2.1 68 = .ok (.invokevirtual 55, 3)) kX1_55 rfl rfl (by omega) rfl sp (by decide) (by decide) (Nat.le_of_ble_eq_true rfl) (by omega) (fun v9 h4 hq9 => ?_)
      obtain ⟨e9, vc⟩ := vc v9 h4 hq9
      subst e9
      show XW _ _ _ _ _ _ _ 71 _ []
      refine xi_iinc (v := x7 + 1) (ls' := [some (.ref 49), some (.ref r), some (.ref a), some (.int x3), some (.long x4), none, some (.int x6), some (.int (x7 + 1))]) (by decide +kernel : decode mX1_lookAhead.2.1 71 = .ok (.iinc 7 1, 3)) rfl rfl (by decide) rfl (?_ : XW _ _ _ _ _ _ _ 74 _ _)
      refine xi_goto (by decide +kernel : decode mX1_lookAhead.2.1 74 = .ok (.goto (-33), 3)) (by decide) (?_ : XW _ _ _ _ _ _ _ 41 _ _)
      exact vc
  · refine xi_iload (by decide +kernel : decode mX1_lookAhead.2.1 41 = .ok (.iload 7, 2)) rfl (?_ : XW _ _ _ _ _ _ _ 43 _ _)
    refine xi_aload_n (by decide +kernel : decode mX1_lookAhead.2.1 43 = .ok (.aload_n 1, 1)) rfl rfl (?_ : XW _ _ _ _ _ _ _ 44 _ _)
    refine xi_getI (by decide +kernel : decode mX1_lookAhead.2.1 44 = .ok (.getfield 46, 3)) fX1_46 (xRul_s0 hr) (by omega) rfl (?_ : XW _ _ _ _ _ _ _ 47 _ _)
    refine xi_icmp_ge (by decide +kernel : decode mX1_lookAhead.2.1 47 = .ok (.if_icmp .ge 30, 3)) (by decide) (fun c => (?_ : XW _ _ _ _ _ _ _ 77 _ _)) (fun c => (?_ : XW _ _ _ _ _ _ _ 50 _ _))
    · replace vc := vc.1 c
      refine xi_aload_n (by decide +kernel : decode mX1_lookAhead.2.1 77 = .ok (.aload_n 0, 1)) rfl rfl (?_ : XW _ _ _ _ _ _ _ 78 _ _)
      refine xi_aload_n (by decide +kernel : decode mX1_lookAhead.2.1 78 = .ok (.aload_n 1, 1)) rfl rfl (?_ : XW _ _ _ _ _ _ _ 79 _ _)
      refine xi_getI (by decide +kernel : decode mX1_lookAhead.2.1 79 = .ok (.getfield 46, 3)) fX1_46 (xRul_s0 hr) (by omega) rfl (?_ : XW _ _ _ _ _ _ _ 82 _ _)
      refine xi_lconst (v := 0) (by decide +kernel : decode mX1_lookAhead.2.1 82 = .ok (.lconst 0, 1)) (by decide) (?_ : XW _ _ _ _ _ _ _ 83 _ _)
      obtain ⟨Q1, sp, vc⟩ := vc
      refine xi_callV (b := 0) (bs := 0) (As := [.int (xI h r 0), .long 0]) (st := []) (by decide +kernel : decode mX1_lookAhead.2.1 83 = .ok (.invokevirtual 55, 3)) kX1_55 rfl rfl (by omega) rfl sp (by decide) (by decide) (Nat.le_of_ble_eq_true rfl) (by omega) (fun v9 h1 hq9 => ?_)
      obtain ⟨e9, vc⟩ := vc v9 h1 hq9
      subst e9
      show XW _ _ _ _ _ _ _ 86 _ []
      refine xi_aload_n (by decide +kernel : decode mX1_lookAhead.2.1 86 = .ok (.aload_n 0, 1)) rfl rfl (?_ : XW _ _ _ _ _ _ _ 87 _ _)
      obtain ⟨Q1, sp, vc⟩ := vc
      refine xi_callV (b := 0) (bs := 0) (As := []) (st := []) (by decide +kernel : decode mX1_lookAhead.2.1 87 = .ok (.invokevirtual 59, 3)) kX1_59 rfl rfl (by omega) rfl sp (by decide) (by decide) (Nat.le_of_ble_eq_true rfl) (by omega) (fun v9 h2 hq9 => ?_)
      obtain ⟨e9, vc⟩ := vc v9 h2 hq9
      subst e9
      show XW _ _ _ _ _ _ _ 90 _ []
      refine xi_iinc (v := x6 + 1) (ls' := [some (.ref 49), some (.ref r), some (.ref a), some (.int x3), some (.long x4), none, some (.int (x6 + 1)), some (.int x7)]) (by decide +kernel : decode mX1_lookAhead.2.1 90 = .ok (.iinc 6 1, 3)) rfl rfl (by decide) rfl (?_ : XW _ _ _ _ _ _ _ 93 _ _)
      refine xi_goto (by decide +kernel : decode mX1_lookAhead.2.1 93 = .ok (.goto (-61), 3)) (by decide) (?_ : XW _ _ _ _ _ _ _ 32 _ _)
      refine xw_drop 7 (ls' := [some (.ref 49), some (.ref r), some (.ref a), some (.int x3), some (.long x4), none, some (.int (x6 + 1)), none]) rfl ?_
      exact vc
    · replace vc := vc.2 c
      refine xi_aload_n (by decide +kernel : decode mX1_lookAhead.2.1 50 = .ok (.aload_n 0, 1)) rfl rfl (?_ : XW _ _ _ _ _ _ _ 51 _ _)
      refine xi_iload (by decide +kernel : decode mX1_lookAhead.2.1 51 = .ok (.iload 7, 2)) rfl (?_ : XW _ _ _ _ _ _ _ 53 _ _)
      refine xi_ldc2 (v := 1000000000) (by decide +kernel : decode mX1_lookAhead.2.1 53 = .ok (.ldc2_w 49, 3)) cK_X1_49 (?_ : XW _ _ _ _ _ _ _ 56 _ _)
      refine xi_aload_n (by decide +kernel : decode mX1_lookAhead.2.1 56 = .ok (.aload_n 0, 1)) rfl rfl (?_ : XW _ _ _ _ _ _ _ 57 _ _)
      refine xi_aload_n (by decide +kernel : decode mX1_lookAhead.2.1 57 = .ok (.aload_n 1, 1)) rfl rfl (?_ : XW _ _ _ _ _ _ _ 58 _ _)
      refine xi_aload_n (by decide +kernel : decode mX1_lookAhead.2.1 58 = .ok (.aload_n 2, 1)) rfl rfl (?_ : XW _ _ _ _ _ _ _ 59 _ _)
      refine xi_iload (by decide +kernel : decode mX1_lookAhead.2.1 59 = .ok (.iload 7, 2)) rfl (?_ : XW _ _ _ _ _ _ _ 61 _ _)
      obtain ⟨Q1, sp, vc⟩ := vc
      refine xi_callV (b := 0) (bs := 0) (As := [.ref r, .ref a, .int x7]) (st := [.long 1000000000, .int x7, .ref 49]) (by decide +kernel : decode mX1_lookAhead.2.1 61 = .ok (.invokevirtual 51, 3)) kX1_51 rfl rfl (by omega) rfl sp (by decide) (by decide) (Nat.le_of_ble_eq_true rfl) (by omega) (fun v9 h3 hq9 => ?_)
      obtain ⟨r3, e9, vc⟩ := vc v9 h3 hq9
      subst e9
      show XW _ _ _ _ _ _ _ 64 _ [.long r3, .long 1000000000, .int x7, .ref 49]
      refine xi_lload (by decide +kernel : decode mX1_lookAhead.2.1 64 = .ok (.lload 4, 2)) rfl (?_ : XW _ _ _ _ _ _ _ 66 _ _)
      obtain ⟨s1, vc⟩ := vc
      refine xi_ldiv (by decide +kernel : decode mX1_lookAhead.2.1 66 = .ok (.ldiv, 1)) s1 (?_ : XW _ _ _ _ _ _ _ 67 _ _)
      refine xi_ladd (by decide +kernel : decode mX1_lookAhead.2.1 67 = .ok (.ladd, 1)) (?_ : XW _ _ _ _ _ _ _ 68 _ _)
      obtain ⟨Q1, sp, vc⟩ := vc
      refine xi_callV (b := 0) (bs := 0) (As := [.int x7, .long (1000000000 + (r3 / x4))]) (st := []) (by decide +kernel : decode mX1_lookAhead.2.1 68 = .ok (.invokevirtual 55, 3)) kX1_55 rfl rfl (by omega) rfl sp (by decide) (by decide) (Nat.le_of_ble_eq_true rfl) (by omega) (fun v9 h4 hq9 => ?_)
      obtain ⟨e9, vc⟩ := vc v9 h4 hq9
      subst e9
      show XW _ _ _ _ _ _ _ 71 _ []
      refine xi_iinc (v := x7 + 1) (ls' := [some (.ref 49), some (.ref r), some (.ref a), some (.int x3), some (.long x4), none, some (.int x6), some (.int (x7 + 1))]) (by decide +kernel : decode mX1_lookAhead.2.1 71 = .ok (.iinc 7 1, 3)) rfl rfl (by decide) rfl (?_ : XW _ _ _ _ _ _ _ 74 _ _)
      refine xi_goto (by decide +kernel : decode mX1_lookAhead.2.1 74 = .ok (.goto (-33), 3)) (by decide) (?_ : XW _ _ _ _ _ _ _ 41 _ _)
      exact vc

set_option maxRecDepth 20000 in
theorem v_X1_sumOfBoth_0 {h : XH} {Q : Option Value → XH → Prop} {X : String → XH → Prop} (n hya hza : Nat) (hh : xHop hya hza (xP h)) (hn : 52 ≤ n) (r : Nat) (hr : xRul r (xP h)) (hnr : r + 9 ≤ n) (a : Nat) (ha : xPth a (xP h)) (hna : a + 4 ≤ n)  (o : Int32) (t : Int32)
    (vc : XW (xrm 4 0 0) mX1_sumOfBoth (xE n Q X 0 0) n 0 0 h 6 [some (.ref 49), some (.ref r), some (.ref a), some (.int o), some (.int t), some (.long 0), none, some (.int 1), none, none, none, none, none] []) :
    XW (xrm 4 0 0) mX1_sumOfBoth (xE n Q X 0 0) n 0 0 h 0 [some (.ref 49), some (.ref r), some (.ref a), some (.int o), some (.int t), none, none, none, none, none, none, none, none] [] := by
  refine xi_lconst (v := 0) (by decide +kernel : decode mX1_sumOfBoth.2.1 0 = .ok (.lconst 0, 1)) (by decide) (?_ : XW _ _ _ _ _ _ _ 1 _ _)
  refine xi_lstore (ls' := [some (.ref 49), some (.ref r), some (.ref a), some (.int o), some (.int t), some (.long 0), none, none, none, none, none, none, none]) (by decide +kernel : decode mX1_sumOfBoth.2.1 1 = .ok (.lstore 5, 2)) (by decide) rfl (?_ : XW _ _ _ _ _ _ _ 3 _ _)
  refine xi_iconst (v := 1) (by decide +kernel : decode mX1_sumOfBoth.2.1 3 = .ok (.iconst 1, 1)) (by decide) (?_ : XW _ _ _ _ _ _ _ 4 _ _)
  refine xi_istore (ls' := [some (.ref 49), some (.ref r), some (.ref a), some (.int o), some (.int t), some (.long 0), none, some (.int 1), none, none, none, none, none]) (by decide +kernel : decode mX1_sumOfBoth.2.1 4 = .ok (.istore 7, 2)) (by decide) rfl (?_ : XW _ _ _ _ _ _ _ 6 _ _)
  exact vc

set_option maxRecDepth 20000 in
theorem v_X1_sumOfBoth_6 {h : XH} {Q : Option Value → XH → Prop} {X : String → XH → Prop} (n hya hza : Nat) (hh : xHop hya hza (xP h)) (hn : 52 ≤ n) (r : Nat) (hr : xRul r (xP h)) (hnr : r + 9 ≤ n) (a : Nat) (ha : xPth a (xP h)) (hna : a + 4 ≤ n)  (x3 : Int32) (x4 : Int32) (x5 : Int64) (x7 : Int32)
    (vc : (6 < x7 → Q (some (.long x5)) h) ∧ (¬ 6 < x7 → ∃ Q1, XSpec mX5_oddsOf 1 0 0 n n [.ref r, .int x7] h Q1 xno ∧ ∀ v h1, Q1 v h1 → ∃ r1 : Int32, v = some (.int r1) ∧ ((¬ r1 = 0 → ∃ Q1, XSpec mX3_to 1 0 0 n n [.ref a, .int x3, .int x7] h1 Q1 xno ∧ ∀ v h2, Q1 v h2 → ∃ r2 : Int32, v = some (.int r2) ∧ (∃ Q1, XSpec mX1_atBoth 3 0 0 n n [.ref 49, .int r2, .int x4] h2 Q1 xno ∧ ∀ v h3, Q1 v h3 → ∃ r3 : Int64, v = some (.long r3) ∧ (∃ Q1, XSpec mX3_to 1 0 0 n n [.ref a, .int x4, .int x7] h3 Q1 xno ∧ ∀ v h4, Q1 v h4 → ∃ r4 : Int32, v = some (.int r4) ∧ (∃ Q1, XSpec mX1_atBoth 3 0 0 n n [.ref 49, .int x3, .int r4] h4 Q1 xno ∧ ∀ v h5, Q1 v h5 → ∃ r5 : Int64, v = some (.long r5) ∧ ((¬ x4 = (xI h5 r 0) → XW (xrm 4 0 0) mX1_sumOfBoth (xE n Q X 0 0) n 0 0 h5 6 [some (.ref 49), some (.ref r), some (.ref a), some (.int x3), some (.int x4), some (.long (x5 + ((Int32.toInt64 r1) * (if r5 < r3 then r5 else r3)))), none, some (.int (x7 + 1)), none, none, none, none, none] []) ∧ (x4 = (xI h5 r 0) → XW (xrm 4 0 0) mX1_sumOfBoth (xE n Q X 0 0) n 0 0 h5 6 [some (.ref 49), some (.ref r), some (.ref a), some (.int x3), some (.int x4), some (.long (x5 + ((Int32.toInt64 r1) * r3))), none, some (.int (x7 + 1)), none, none, none, none, none] [])))))) ∧ (r1 = 0 → XW (xrm 4 0 0) mX1_sumOfBoth (xE n Q X 0 0) n 0 0 h1 6 [some (.ref 49), some (.ref r), some (.ref a), some (.int x3), some (.int x4), some (.long x5), none, some (.int (x7 + 1)), none, none, none, none, none] [])))) :
    XW (xrm 4 0 0) mX1_sumOfBoth (xE n Q X 0 0) n 0 0 h 6 [some (.ref 49), some (.ref r), some (.ref a), some (.int x3), some (.int x4), some (.long x5), none, some (.int x7), none, none, none, none, none] [] := by
  refine xi_iload (by decide +kernel : decode mX1_sumOfBoth.2.1 6 = .ok (.iload 7, 2)) rfl (?_ : XW _ _ _ _ _ _ _ 8 _ _)
  refine xi_bipush (v := 6) (by decide +kernel : decode mX1_sumOfBoth.2.1 8 = .ok (.bipush 6, 2)) (by decide) (?_ : XW _ _ _ _ _ _ _ 10 _ _)
  refine xi_icmp_gt (by decide +kernel : decode mX1_sumOfBoth.2.1 10 = .ok (.if_icmp .gt 85, 3)) (by decide) (fun c => (?_ : XW _ _ _ _ _ _ _ 95 _ _)) (fun c => (?_ : XW _ _ _ _ _ _ _ 13 _ _))
  · replace vc := vc.1 c
    refine xi_lload (by decide +kernel : decode mX1_sumOfBoth.2.1 95 = .ok (.lload 5, 2)) rfl (?_ : XW _ _ _ _ _ _ _ 97 _ _)
    exact xi_lret (by decide +kernel : decode mX1_sumOfBoth.2.1 97 = .ok (.lreturn, 1)) rfl vc
  · replace vc := vc.2 c
    refine xi_aload_n (by decide +kernel : decode mX1_sumOfBoth.2.1 13 = .ok (.aload_n 1, 1)) rfl rfl (?_ : XW _ _ _ _ _ _ _ 14 _ _)
    refine xi_iload (by decide +kernel : decode mX1_sumOfBoth.2.1 14 = .ok (.iload 7, 2)) rfl (?_ : XW _ _ _ _ _ _ _ 16 _ _)
    obtain ⟨Q1, sp, vc⟩ := vc
    refine xi_callV (b := 0) (bs := 0) (As := [.int x7]) (st := []) (by decide +kernel : decode mX1_sumOfBoth.2.1 16 = .ok (.invokevirtual 62, 3)) kX1_62 rfl (xRul_s0 hr) (by omega) rfl sp (by decide) (by decide) (Nat.le_of_ble_eq_true rfl) (by omega) (fun v9 h1 hq9 => ?_)
    obtain ⟨r1, e9, vc⟩ := vc v9 h1 hq9
    subst e9
    show XW _ _ _ _ _ _ _ 19 _ [.int r1]
    refine xi_istore (ls' := [some (.ref 49), some (.ref r), some (.ref a), some (.int x3), some (.int x4), some (.long x5), none, some (.int x7), some (.int r1), none, none, none, none]) (by decide +kernel : decode mX1_sumOfBoth.2.1 19 = .ok (.istore 8, 2)) (by decide) rfl (?_ : XW _ _ _ _ _ _ _ 21 _ _)
    refine xi_iload (by decide +kernel : decode mX1_sumOfBoth.2.1 21 = .ok (.iload 8, 2)) rfl (?_ : XW _ _ _ _ _ _ _ 23 _ _)
    refine xi_if_ne (by decide +kernel : decode mX1_sumOfBoth.2.1 23 = .ok (.ifCond .ne 6, 3)) (by decide) (fun c => (?_ : XW _ _ _ _ _ _ _ 29 _ _)) (fun c => (?_ : XW _ _ _ _ _ _ _ 26 _ _))
    · replace vc := vc.1 c
      refine xi_aload_n (by decide +kernel : decode mX1_sumOfBoth.2.1 29 = .ok (.aload_n 0, 1)) rfl rfl (?_ : XW _ _ _ _ _ _ _ 30 _ _)
      refine xi_aload_n (by decide +kernel : decode mX1_sumOfBoth.2.1 30 = .ok (.aload_n 2, 1)) rfl rfl (?_ : XW _ _ _ _ _ _ _ 31 _ _)
      refine xi_iload_n (by decide +kernel : decode mX1_sumOfBoth.2.1 31 = .ok (.iload_n 3, 1)) rfl rfl (?_ : XW _ _ _ _ _ _ _ 32 _ _)
      refine xi_iload (by decide +kernel : decode mX1_sumOfBoth.2.1 32 = .ok (.iload 7, 2)) rfl (?_ : XW _ _ _ _ _ _ _ 34 _ _)
      obtain ⟨Q1, sp, vc⟩ := vc
      refine xi_callV (b := 0) (bs := 0) (As := [.int x3, .int x7]) (st := [.ref 49]) (by decide +kernel : decode mX1_sumOfBoth.2.1 34 = .ok (.invokevirtual 66, 3)) kX1_66 rfl (xPth_s0 ha) (by omega) rfl sp (by decide) (by decide) (Nat.le_of_ble_eq_true rfl) (by omega) (fun v9 h2 hq9 => ?_)
      obtain ⟨r2, e9, vc⟩ := vc v9 h2 hq9
      subst e9
      show XW _ _ _ _ _ _ _ 37 _ [.int r2, .ref 49]
      refine xi_iload (by decide +kernel : decode mX1_sumOfBoth.2.1 37 = .ok (.iload 4, 2)) rfl (?_ : XW _ _ _ _ _ _ _ 39 _ _)
      obtain ⟨Q1, sp, vc⟩ := vc
      refine xi_callV (b := 0) (bs := 0) (As := [.int r2, .int x4]) (st := []) (by decide +kernel : decode mX1_sumOfBoth.2.1 39 = .ok (.invokevirtual 80, 3)) kX1_80 rfl rfl (by omega) rfl sp (by decide) (by decide) (Nat.le_of_ble_eq_true rfl) (by omega) (fun v9 h3 hq9 => ?_)
      obtain ⟨r3, e9, vc⟩ := vc v9 h3 hq9
      subst e9
      show XW _ _ _ _ _ _ _ 42 _ [.long r3]
      refine xi_lstore (ls' := [some (.ref 49), some (.ref r), some (.ref a), some (.int x3), some (.int x4), some (.long x5), none, some (.int x7), some (.int r1), some (.long r3), none, none, none]) (by decide +kernel : decode mX1_sumOfBoth.2.1 42 = .ok (.lstore 9, 2)) (by decide) rfl (?_ : XW _ _ _ _ _ _ _ 44 _ _)
      refine xi_aload_n (by decide +kernel : decode mX1_sumOfBoth.2.1 44 = .ok (.aload_n 0, 1)) rfl rfl (?_ : XW _ _ _ _ _ _ _ 45 _ _)
      refine xi_iload_n (by decide +kernel : decode mX1_sumOfBoth.2.1 45 = .ok (.iload_n 3, 1)) rfl rfl (?_ : XW _ _ _ _ _ _ _ 46 _ _)
      refine xi_aload_n (by decide +kernel : decode mX1_sumOfBoth.2.1 46 = .ok (.aload_n 2, 1)) rfl rfl (?_ : XW _ _ _ _ _ _ _ 47 _ _)
      refine xi_iload (by decide +kernel : decode mX1_sumOfBoth.2.1 47 = .ok (.iload 4, 2)) rfl (?_ : XW _ _ _ _ _ _ _ 49 _ _)
      refine xi_iload (by decide +kernel : decode mX1_sumOfBoth.2.1 49 = .ok (.iload 7, 2)) rfl (?_ : XW _ _ _ _ _ _ _ 51 _ _)
      obtain ⟨Q1, sp, vc⟩ := vc
      refine xi_callV (b := 0) (bs := 0) (As := [.int x4, .int x7]) (st := [.int x3, .ref 49]) (by decide +kernel : decode mX1_sumOfBoth.2.1 51 = .ok (.invokevirtual 66, 3)) kX1_66 rfl (xPth_s0 ha) (by omega) rfl sp (by decide) (by decide) (Nat.le_of_ble_eq_true rfl) (by omega) (fun v9 h4 hq9 => ?_)
      obtain ⟨r4, e9, vc⟩ := vc v9 h4 hq9
      subst e9
      show XW _ _ _ _ _ _ _ 54 _ [.int r4, .int x3, .ref 49]
      obtain ⟨Q1, sp, vc⟩ := vc
      refine xi_callV (b := 0) (bs := 0) (As := [.int x3, .int r4]) (st := []) (by decide +kernel : decode mX1_sumOfBoth.2.1 54 = .ok (.invokevirtual 80, 3)) kX1_80 rfl rfl (by omega) rfl sp (by decide) (by decide) (Nat.le_of_ble_eq_true rfl) (by omega) (fun v9 h5 hq9 => ?_)
      obtain ⟨r5, e9, vc⟩ := vc v9 h5 hq9
      subst e9
      show XW _ _ _ _ _ _ _ 57 _ [.long r5]
      refine xi_lstore (ls' := [some (.ref 49), some (.ref r), some (.ref a), some (.int x3), some (.int x4), some (.long x5), none, some (.int x7), some (.int r1), some (.long r3), none, some (.long r5), none]) (by decide +kernel : decode mX1_sumOfBoth.2.1 57 = .ok (.lstore 11, 2)) (by decide) rfl (?_ : XW _ _ _ _ _ _ _ 59 _ _)
      refine xi_lload (by decide +kernel : decode mX1_sumOfBoth.2.1 59 = .ok (.lload 5, 2)) rfl (?_ : XW _ _ _ _ _ _ _ 61 _ _)
      refine xi_iload (by decide +kernel : decode mX1_sumOfBoth.2.1 61 = .ok (.iload 8, 2)) rfl (?_ : XW _ _ _ _ _ _ _ 63 _ _)
      refine xi_i2l (by decide +kernel : decode mX1_sumOfBoth.2.1 63 = .ok (.i2l, 1)) (?_ : XW _ _ _ _ _ _ _ 64 _ _)
      refine xi_iload (by decide +kernel : decode mX1_sumOfBoth.2.1 64 = .ok (.iload 4, 2)) rfl (?_ : XW _ _ _ _ _ _ _ 66 _ _)
      refine xi_aload_n (by decide +kernel : decode mX1_sumOfBoth.2.1 66 = .ok (.aload_n 1, 1)) rfl rfl (?_ : XW _ _ _ _ _ _ _ 67 _ _)
      refine xi_getI (by decide +kernel : decode mX1_sumOfBoth.2.1 67 = .ok (.getfield 46, 3)) fX1_46 (xRul_s0 hr) (by omega) rfl (?_ : XW _ _ _ _ _ _ _ 70 _ _)
      refine xi_icmp_ne (by decide +kernel : decode mX1_sumOfBoth.2.1 70 = .ok (.if_icmp .ne 8, 3)) (by decide) (fun c => (?_ : XW _ _ _ _ _ _ _ 78 _ _)) (fun c => (?_ : XW _ _ _ _ _ _ _ 73 _ _))
      · replace vc := vc.1 c
        refine xi_lload (by decide +kernel : decode mX1_sumOfBoth.2.1 78 = .ok (.lload 9, 2)) rfl (?_ : XW _ _ _ _ _ _ _ 80 _ _)
        refine xi_lload (by decide +kernel : decode mX1_sumOfBoth.2.1 80 = .ok (.lload 11, 2)) rfl (?_ : XW _ _ _ _ _ _ _ 82 _ _)
        refine xi_mminl (by decide +kernel : decode mX1_sumOfBoth.2.1 82 = .ok (.invokestatic 73, 3)) kX1_73.2.1 (by decide) (Nat.le_of_ble_eq_true rfl) (?_ : XW _ _ _ _ _ _ _ 85 _ _)
        refine xi_lmul (by decide +kernel : decode mX1_sumOfBoth.2.1 85 = .ok (.lmul, 1)) (?_ : XW _ _ _ _ _ _ _ 86 _ _)
        refine xi_ladd (by decide +kernel : decode mX1_sumOfBoth.2.1 86 = .ok (.ladd, 1)) (?_ : XW _ _ _ _ _ _ _ 87 _ _)
        refine xi_lstore (ls' := [some (.ref 49), some (.ref r), some (.ref a), some (.int x3), some (.int x4), some (.long (x5 + ((Int32.toInt64 r1) * (if r5 < r3 then r5 else r3)))), none, some (.int x7), some (.int r1), some (.long r3), none, some (.long r5), none]) (by decide +kernel : decode mX1_sumOfBoth.2.1 87 = .ok (.lstore 5, 2)) (by decide) rfl (?_ : XW _ _ _ _ _ _ _ 89 _ _)
        refine xi_iinc (v := x7 + 1) (ls' := [some (.ref 49), some (.ref r), some (.ref a), some (.int x3), some (.int x4), some (.long (x5 + ((Int32.toInt64 r1) * (if r5 < r3 then r5 else r3)))), none, some (.int (x7 + 1)), some (.int r1), some (.long r3), none, some (.long r5), none]) (by decide +kernel : decode mX1_sumOfBoth.2.1 89 = .ok (.iinc 7 1, 3)) rfl rfl (by decide) rfl (?_ : XW _ _ _ _ _ _ _ 92 _ _)
        refine xi_goto (by decide +kernel : decode mX1_sumOfBoth.2.1 92 = .ok (.goto (-86), 3)) (by decide) (?_ : XW _ _ _ _ _ _ _ 6 _ _)
        refine xw_drop 8 (ls' := [some (.ref 49), some (.ref r), some (.ref a), some (.int x3), some (.int x4), some (.long (x5 + ((Int32.toInt64 r1) * (if r5 < r3 then r5 else r3)))), none, some (.int (x7 + 1)), none, some (.long r3), none, some (.long r5), none]) rfl ?_
        refine xw_drop 9 (ls' := [some (.ref 49), some (.ref r), some (.ref a), some (.int x3), some (.int x4), some (.long (x5 + ((Int32.toInt64 r1) * (if r5 < r3 then r5 else r3)))), none, some (.int (x7 + 1)), none, none, none, some (.long r5), none]) rfl ?_
        refine xw_drop 11 (ls' := [some (.ref 49), some (.ref r), some (.ref a), some (.int x3), some (.int x4), some (.long (x5 + ((Int32.toInt64 r1) * (if r5 < r3 then r5 else r3)))), none, some (.int (x7 + 1)), none, none, none, none, none]) rfl ?_
        exact vc
      · replace vc := vc.2 c
        refine xi_lload (by decide +kernel : decode mX1_sumOfBoth.2.1 73 = .ok (.lload 9, 2)) rfl (?_ : XW _ _ _ _ _ _ _ 75 _ _)
        refine xi_goto (by decide +kernel : decode mX1_sumOfBoth.2.1 75 = .ok (.goto 10, 3)) (by decide) (?_ : XW _ _ _ _ _ _ _ 85 _ _)
        refine xi_lmul (by decide +kernel : decode mX1_sumOfBoth.2.1 85 = .ok (.lmul, 1)) (?_ : XW _ _ _ _ _ _ _ 86 _ _)
        refine xi_ladd (by decide +kernel : decode mX1_sumOfBoth.2.1 86 = .ok (.ladd, 1)) (?_ : XW _ _ _ _ _ _ _ 87 _ _)
        refine xi_lstore (ls' := [some (.ref 49), some (.ref r), some (.ref a), some (.int x3), some (.int x4), some (.long (x5 + ((Int32.toInt64 r1) * r3))), none, some (.int x7), some (.int r1), some (.long r3), none, some (.long r5), none]) (by decide +kernel : decode mX1_sumOfBoth.2.1 87 = .ok (.lstore 5, 2)) (by decide) rfl (?_ : XW _ _ _ _ _ _ _ 89 _ _)
        refine xi_iinc (v := x7 + 1) (ls' := [some (.ref 49), some (.ref r), some (.ref a), some (.int x3), some (.int x4), some (.long (x5 + ((Int32.toInt64 r1) * r3))), none, some (.int (x7 + 1)), some (.int r1), some (.long r3), none, some (.long r5), none]) (by decide +kernel : decode mX1_sumOfBoth.2.1 89 = .ok (.iinc 7 1, 3)) rfl rfl (by decide) rfl (?_ : XW _ _ _ _ _ _ _ 92 _ _)
        refine xi_goto (by decide +kernel : decode mX1_sumOfBoth.2.1 92 = .ok (.goto (-86), 3)) (by decide) (?_ : XW _ _ _ _ _ _ _ 6 _ _)
        refine xw_drop 8 (ls' := [some (.ref 49), some (.ref r), some (.ref a), some (.int x3), some (.int x4), some (.long (x5 + ((Int32.toInt64 r1) * r3))), none, some (.int (x7 + 1)), none, some (.long r3), none, some (.long r5), none]) rfl ?_
        refine xw_drop 9 (ls' := [some (.ref 49), some (.ref r), some (.ref a), some (.int x3), some (.int x4), some (.long (x5 + ((Int32.toInt64 r1) * r3))), none, some (.int (x7 + 1)), none, none, none, some (.long r5), none]) rfl ?_
        refine xw_drop 11 (ls' := [some (.ref 49), some (.ref r), some (.ref a), some (.int x3), some (.int x4), some (.long (x5 + ((Int32.toInt64 r1) * r3))), none, some (.int (x7 + 1)), none, none, none, none, none]) rfl ?_
        exact vc
    · replace vc := vc.2 c
      refine xi_goto (by decide +kernel : decode mX1_sumOfBoth.2.1 26 = .ok (.goto 63, 3)) (by decide) (?_ : XW _ _ _ _ _ _ _ 89 _ _)
      refine xi_iinc (v := x7 + 1) (ls' := [some (.ref 49), some (.ref r), some (.ref a), some (.int x3), some (.int x4), some (.long x5), none, some (.int (x7 + 1)), some (.int r1), none, none, none, none]) (by decide +kernel : decode mX1_sumOfBoth.2.1 89 = .ok (.iinc 7 1, 3)) rfl rfl (by decide) rfl (?_ : XW _ _ _ _ _ _ _ 92 _ _)
      refine xi_goto (by decide +kernel : decode mX1_sumOfBoth.2.1 92 = .ok (.goto (-86), 3)) (by decide) (?_ : XW _ _ _ _ _ _ _ 6 _ _)
      refine xw_drop 8 (ls' := [some (.ref 49), some (.ref r), some (.ref a), some (.int x3), some (.int x4), some (.long x5), none, some (.int (x7 + 1)), none, none, none, none, none]) rfl ?_
      exact vc

set_option maxRecDepth 20000 in
theorem v_X1_lookTogether_0 {h : XH} {Q : Option Value → XH → Prop} {X : String → XH → Prop} (n hya hza : Nat) (hh : xHop hya hza (xP h)) (hn : 52 ≤ n) (r : Nat) (hr : xRul r (xP h)) (hnr : r + 9 ≤ n) (a : Nat) (ha : xPth a (xP h)) (hna : a + 4 ≤ n)  (m : Int32)
    (vc : (0 < (xI h r 1) → XW (xrm 5 0 0) mX1_lookTogether (xE n Q X 0 0) n 0 0 (xSL hya (fl 861 0 (xL h hya)) h) 29 [some (.ref 49), some (.ref r), some (.ref a), some (.int m), some (.int (xI h r 1)), some (.int (xI h r 0)), some (.int 0), none, none, none] []) ∧ (¬ 0 < (xI h r 1) → Q none (xSL hya (fl 861 0 (xL h hya)) h))) :
    XW (xrm 5 0 0) mX1_lookTogether (xE n Q X 0 0) n 0 0 h 0 [some (.ref 49), some (.ref r), some (.ref a), some (.int m), none, none, none, none, none, none] [] := by
  rcases hh.1 with ⟨rfl, rfl⟩ | ⟨rfl, rfl⟩
  · refine xi_aload_n (by decide +kernel : decode mX1_lookTogether.2.1 0 = .ok (.aload_n 1, 1)) rfl rfl (?_ : XW _ _ _ _ _ _ _ 1 _ _)
    refine xi_getI (by decide +kernel : decode mX1_lookTogether.2.1 1 = .ok (.getfield 34, 3)) fX1_34 (xRul_s0 hr) (by omega) rfl (?_ : XW _ _ _ _ _ _ _ 4 _ _)
    refine xi_istore (ls' := [some (.ref 49), some (.ref r), some (.ref a), some (.int m), some (.int (xI h r 1)), none, none, none, none, none]) (by decide +kernel : decode mX1_lookTogether.2.1 4 = .ok (.istore 4, 2)) (by decide) rfl (?_ : XW _ _ _ _ _ _ _ 6 _ _)
    refine xi_aload_n (by decide +kernel : decode mX1_lookTogether.2.1 6 = .ok (.aload_n 1, 1)) rfl rfl (?_ : XW _ _ _ _ _ _ _ 7 _ _)
    refine xi_getI (by decide +kernel : decode mX1_lookTogether.2.1 7 = .ok (.getfield 46, 3)) fX1_46 (xRul_s0 hr) (by omega) rfl (?_ : XW _ _ _ _ _ _ _ 10 _ _)
    refine xi_istore (ls' := [some (.ref 49), some (.ref r), some (.ref a), some (.int m), some (.int (xI h r 1)), some (.int (xI h r 0)), none, none, none, none]) (by decide +kernel : decode mX1_lookTogether.2.1 10 = .ok (.istore 5, 2)) (by decide) rfl (?_ : XW _ _ _ _ _ _ _ 12 _ _)
    refine xi_aload_n (by decide +kernel : decode mX1_lookTogether.2.1 12 = .ok (.aload_n 0, 1)) rfl rfl (?_ : XW _ _ _ _ _ _ _ 13 _ _)
    refine xi_getR (y := 50) (by decide +kernel : decode mX1_lookTogether.2.1 13 = .ok (.getfield 11, 3)) fX1_11 rfl (by omega) rfl hh.2.1 (?_ : XW _ _ _ _ _ _ _ 16 _ _)
    refine xi_lconst (v := 0) (by decide +kernel : decode mX1_lookTogether.2.1 16 = .ok (.lconst 0, 1)) (by decide) (?_ : XW _ _ _ _ _ _ _ 17 _ _)
    refine xi_callS (b := 0) (bs := 0) (As := [.ref 50, .long 0]) (st := []) (by decide +kernel : decode mX1_lookTogether.2.1 17 = .ok (.invokestatic 40, 3)) kX1_40 rfl rfl (s_fillJ n h 50 861 rfl (by omega) (by decide) 0) (by decide) (by decide) (Nat.le_of_ble_eq_true rfl) (by omega) (fun v9 h9 hq9 => ?_)
    rw [hq9.1, hq9.2]
    show XW _ _ _ _ _ _ _ 20 _ []
    refine xi_iload (by decide +kernel : decode mX1_lookTogether.2.1 20 = .ok (.iload 4, 2)) rfl (?_ : XW _ _ _ _ _ _ _ 22 _ _)
    refine xi_if_gt (by decide +kernel : decode mX1_lookTogether.2.1 22 = .ok (.ifCond .gt 4, 3)) (by decide) (fun c => (?_ : XW _ _ _ _ _ _ _ 26 _ _)) (fun c => (?_ : XW _ _ _ _ _ _ _ 25 _ _))
    · replace vc := vc.1 c
      refine xi_iconst (v := 0) (by decide +kernel : decode mX1_lookTogether.2.1 26 = .ok (.iconst 0, 1)) (by decide) (?_ : XW _ _ _ _ _ _ _ 27 _ _)
      refine xi_istore (ls' := [some (.ref 49), some (.ref r), some (.ref a), some (.int m), some (.int (xI h r 1)), some (.int (xI h r 0)), some (.int 0), none, none, none]) (by decide +kernel : decode mX1_lookTogether.2.1 27 = .ok (.istore 6, 2)) (by decide) rfl (?_ : XW _ _ _ _ _ _ _ 29 _ _)
      exact vc
    · replace vc := vc.2 c
      exact xi_vret (by decide +kernel : decode mX1_lookTogether.2.1 25 = .ok (.return_, 1)) rfl vc
  · refine xi_aload_n (by decide +kernel : decode mX1_lookTogether.2.1 0 = .ok (.aload_n 1, 1)) rfl rfl (?_ : XW _ _ _ _ _ _ _ 1 _ _)
    refine xi_getI (by decide +kernel : decode mX1_lookTogether.2.1 1 = .ok (.getfield 34, 3)) fX1_34 (xRul_s0 hr) (by omega) rfl (?_ : XW _ _ _ _ _ _ _ 4 _ _)
    refine xi_istore (ls' := [some (.ref 49), some (.ref r), some (.ref a), some (.int m), some (.int (xI h r 1)), none, none, none, none, none]) (by decide +kernel : decode mX1_lookTogether.2.1 4 = .ok (.istore 4, 2)) (by decide) rfl (?_ : XW _ _ _ _ _ _ _ 6 _ _)
    refine xi_aload_n (by decide +kernel : decode mX1_lookTogether.2.1 6 = .ok (.aload_n 1, 1)) rfl rfl (?_ : XW _ _ _ _ _ _ _ 7 _ _)
    refine xi_getI (by decide +kernel : decode mX1_lookTogether.2.1 7 = .ok (.getfield 46, 3)) fX1_46 (xRul_s0 hr) (by omega) rfl (?_ : XW _ _ _ _ _ _ _ 10 _ _)
    refine xi_istore (ls' := [some (.ref 49), some (.ref r), some (.ref a), some (.int m), some (.int (xI h r 1)), some (.int (xI h r 0)), none, none, none, none]) (by decide +kernel : decode mX1_lookTogether.2.1 10 = .ok (.istore 5, 2)) (by decide) rfl (?_ : XW _ _ _ _ _ _ _ 12 _ _)
    refine xi_aload_n (by decide +kernel : decode mX1_lookTogether.2.1 12 = .ok (.aload_n 0, 1)) rfl rfl (?_ : XW _ _ _ _ _ _ _ 13 _ _)
    refine xi_getR (y := 51) (by decide +kernel : decode mX1_lookTogether.2.1 13 = .ok (.getfield 11, 3)) fX1_11 rfl (by omega) rfl hh.2.1 (?_ : XW _ _ _ _ _ _ _ 16 _ _)
    refine xi_lconst (v := 0) (by decide +kernel : decode mX1_lookTogether.2.1 16 = .ok (.lconst 0, 1)) (by decide) (?_ : XW _ _ _ _ _ _ _ 17 _ _)
    refine xi_callS (b := 0) (bs := 0) (As := [.ref 51, .long 0]) (st := []) (by decide +kernel : decode mX1_lookTogether.2.1 17 = .ok (.invokestatic 40, 3)) kX1_40 rfl rfl (s_fillJ n h 51 861 rfl (by omega) (by decide) 0) (by decide) (by decide) (Nat.le_of_ble_eq_true rfl) (by omega) (fun v9 h9 hq9 => ?_)
    rw [hq9.1, hq9.2]
    show XW _ _ _ _ _ _ _ 20 _ []
    refine xi_iload (by decide +kernel : decode mX1_lookTogether.2.1 20 = .ok (.iload 4, 2)) rfl (?_ : XW _ _ _ _ _ _ _ 22 _ _)
    refine xi_if_gt (by decide +kernel : decode mX1_lookTogether.2.1 22 = .ok (.ifCond .gt 4, 3)) (by decide) (fun c => (?_ : XW _ _ _ _ _ _ _ 26 _ _)) (fun c => (?_ : XW _ _ _ _ _ _ _ 25 _ _))
    · replace vc := vc.1 c
      refine xi_iconst (v := 0) (by decide +kernel : decode mX1_lookTogether.2.1 26 = .ok (.iconst 0, 1)) (by decide) (?_ : XW _ _ _ _ _ _ _ 27 _ _)
      refine xi_istore (ls' := [some (.ref 49), some (.ref r), some (.ref a), some (.int m), some (.int (xI h r 1)), some (.int (xI h r 0)), some (.int 0), none, none, none]) (by decide +kernel : decode mX1_lookTogether.2.1 27 = .ok (.istore 6, 2)) (by decide) rfl (?_ : XW _ _ _ _ _ _ _ 29 _ _)
      exact vc
    · replace vc := vc.2 c
      exact xi_vret (by decide +kernel : decode mX1_lookTogether.2.1 25 = .ok (.return_, 1)) rfl vc

set_option maxRecDepth 20000 in
theorem v_X1_lookTogether_29 {h : XH} {Q : Option Value → XH → Prop} {X : String → XH → Prop} (n hya hza : Nat) (hh : xHop hya hza (xP h)) (hn : 52 ≤ n) (r : Nat) (hr : xRul r (xP h)) (hnr : r + 9 ≤ n) (a : Nat) (ha : xPth a (xP h)) (hna : a + 4 ≤ n)  (x3 : Int32) (x4 : Int32) (x5 : Int32) (x6 : Int32)
    (vc : (x3 ≤ x6 → Q none h) ∧ (¬ x3 ≤ x6 → XW (xrm 5 0 0) mX1_lookTogether (xE n Q X 0 0) n 0 0 h 38 [some (.ref 49), some (.ref r), some (.ref a), some (.int x3), some (.int x4), some (.int x5), some (.int x6), some (.int 0), none, none] [])) :
    XW (xrm 5 0 0) mX1_lookTogether (xE n Q X 0 0) n 0 0 h 29 [some (.ref 49), some (.ref r), some (.ref a), some (.int x3), some (.int x4), some (.int x5), some (.int x6), none, none, none] [] := by
  rcases hh.1 with ⟨rfl, rfl⟩ | ⟨rfl, rfl⟩
  · refine xi_iload (by decide +kernel : decode mX1_lookTogether.2.1 29 = .ok (.iload 6, 2)) rfl (?_ : XW _ _ _ _ _ _ _ 31 _ _)
    refine xi_iload_n (by decide +kernel : decode mX1_lookTogether.2.1 31 = .ok (.iload_n 3, 1)) rfl rfl (?_ : XW _ _ _ _ _ _ _ 32 _ _)
    refine xi_icmp_ge (by decide +kernel : decode mX1_lookTogether.2.1 32 = .ok (.if_icmp .ge 105, 3)) (by decide) (fun c => (?_ : XW _ _ _ _ _ _ _ 137 _ _)) (fun c => (?_ : XW _ _ _ _ _ _ _ 35 _ _))
    · replace vc := vc.1 c
      exact xi_vret (by decide +kernel : decode mX1_lookTogether.2.1 137 = .ok (.return_, 1)) rfl vc
    · replace vc := vc.2 c
      refine xi_iconst (v := 0) (by decide +kernel : decode mX1_lookTogether.2.1 35 = .ok (.iconst 0, 1)) (by decide) (?_ : XW _ _ _ _ _ _ _ 36 _ _)
      refine xi_istore (ls' := [some (.ref 49), some (.ref r), some (.ref a), some (.int x3), some (.int x4), some (.int x5), some (.int x6), some (.int 0), none, none]) (by decide +kernel : decode mX1_lookTogether.2.1 36 = .ok (.istore 7, 2)) (by decide) rfl (?_ : XW _ _ _ _ _ _ _ 38 _ _)
      exact vc
  · refine xi_iload (by decide +kernel : decode mX1_lookTogether.2.1 29 = .ok (.iload 6, 2)) rfl (?_ : XW _ _ _ _ _ _ _ 31 _ _)
    refine xi_iload_n (by decide +kernel : decode mX1_lookTogether.2.1 31 = .ok (.iload_n 3, 1)) rfl rfl (?_ : XW _ _ _ _ _ _ _ 32 _ _)
    refine xi_icmp_ge (by decide +kernel : decode mX1_lookTogether.2.1 32 = .ok (.if_icmp .ge 105, 3)) (by decide) (fun c => (?_ : XW _ _ _ _ _ _ _ 137 _ _)) (fun c => (?_ : XW _ _ _ _ _ _ _ 35 _ _))
    · replace vc := vc.1 c
      exact xi_vret (by decide +kernel : decode mX1_lookTogether.2.1 137 = .ok (.return_, 1)) rfl vc
    · replace vc := vc.2 c
      refine xi_iconst (v := 0) (by decide +kernel : decode mX1_lookTogether.2.1 35 = .ok (.iconst 0, 1)) (by decide) (?_ : XW _ _ _ _ _ _ _ 36 _ _)
      refine xi_istore (ls' := [some (.ref 49), some (.ref r), some (.ref a), some (.int x3), some (.int x4), some (.int x5), some (.int x6), some (.int 0), none, none]) (by decide +kernel : decode mX1_lookTogether.2.1 36 = .ok (.istore 7, 2)) (by decide) rfl (?_ : XW _ _ _ _ _ _ _ 38 _ _)
      exact vc

set_option maxRecDepth 20000 in
theorem v_X1_lookTogether_38 {h : XH} {Q : Option Value → XH → Prop} {X : String → XH → Prop} (n hya hza : Nat) (hh : xHop hya hza (xP h)) (hn : 52 ≤ n) (r : Nat) (hr : xRul r (xP h)) (hnr : r + 9 ≤ n) (a : Nat) (ha : xPth a (xP h)) (hna : a + 4 ≤ n)  (x3 : Int32) (x4 : Int32) (x5 : Int32) (x6 : Int32) (x7 : Int32)
    (vc : (x5 < x7 → ∃ Q1, XSpec mX1_swap 1 0 0 n n [.ref 49] h Q1 xno ∧ ∀ v h1, Q1 v h1 → v = none ∧ (XW (xrm 5 0 0) mX1_lookTogether (xE n Q X 0 0) n 0 0 h1 29 [some (.ref 49), some (.ref r), some (.ref a), some (.int x3), some (.int x4), some (.int x5), some (.int (x6 + 1)), none, none, none] [])) ∧ (¬ x5 < x7 → XW (xrm 5 0 0) mX1_lookTogether (xE n Q X 0 0) n 0 0 h 49 [some (.ref 49), some (.ref r), some (.ref a), some (.int x3), some (.int x4), some (.int x5), some (.int x6), some (.int x7), some (.int x7), none] [])) :
    XW (xrm 5 0 0) mX1_lookTogether (xE n Q X 0 0) n 0 0 h 38 [some (.ref 49), some (.ref r), some (.ref a), some (.int x3), some (.int x4), some (.int x5), some (.int x6), some (.int x7), none, none] [] := by
  rcases hh.1 with ⟨rfl, rfl⟩ | ⟨rfl, rfl⟩
  · refine xi_iload (by decide +kernel : decode mX1_lookTogether.2.1 38 = .ok (.iload 7, 2)) rfl (?_ : XW _ _ _ _ _ _ _ 40 _ _)
    refine xi_iload (by decide +kernel : decode mX1_lookTogether.2.1 40 = .ok (.iload 5, 2)) rfl (?_ : XW _ _ _ _ _ _ _ 42 _ _)
    refine xi_icmp_gt (by decide +kernel : decode mX1_lookTogether.2.1 42 = .ok (.if_icmp .gt 85, 3)) (by decide) (fun c => (?_ : XW _ _ _ _ _ _ _ 127 _ _)) (fun c => (?_ : XW _ _ _ _ _ _ _ 45 _ _))
    · replace vc := vc.1 c
      refine xi_aload_n (by decide +kernel : decode mX1_lookTogether.2.1 127 = .ok (.aload_n 0, 1)) rfl rfl (?_ : XW _ _ _ _ _ _ _ 128 _ _)
      obtain ⟨Q1, sp, vc⟩ := vc
      refine xi_callV (b := 0) (bs := 0) (As := []) (st := []) (by decide +kernel : decode mX1_lookTogether.2.1 128 = .ok (.invokevirtual 59, 3)) kX1_59 rfl rfl (by omega) rfl sp (by decide) (by decide) (Nat.le_of_ble_eq_true rfl) (by omega) (fun v9 h1 hq9 => ?_)
      obtain ⟨e9, vc⟩ := vc v9 h1 hq9
      subst e9
      show XW _ _ _ _ _ _ _ 131 _ []
      refine xi_iinc (v := x6 + 1) (ls' := [some (.ref 49), some (.ref r), some (.ref a), some (.int x3), some (.int x4), some (.int x5), some (.int (x6 + 1)), some (.int x7), none, none]) (by decide +kernel : decode mX1_lookTogether.2.1 131 = .ok (.iinc 6 1, 3)) rfl rfl (by decide) rfl (?_ : XW _ _ _ _ _ _ _ 134 _ _)
      refine xi_goto (by decide +kernel : decode mX1_lookTogether.2.1 134 = .ok (.goto (-105), 3)) (by decide) (?_ : XW _ _ _ _ _ _ _ 29 _ _)
      refine xw_drop 7 (ls' := [some (.ref 49), some (.ref r), some (.ref a), some (.int x3), some (.int x4), some (.int x5), some (.int (x6 + 1)), none, none, none]) rfl ?_
      exact vc
    · replace vc := vc.2 c
      refine xi_iload (by decide +kernel : decode mX1_lookTogether.2.1 45 = .ok (.iload 7, 2)) rfl (?_ : XW _ _ _ _ _ _ _ 47 _ _)
      refine xi_istore (ls' := [some (.ref 49), some (.ref r), some (.ref a), some (.int x3), some (.int x4), some (.int x5), some (.int x6), some (.int x7), some (.int x7), none]) (by decide +kernel : decode mX1_lookTogether.2.1 47 = .ok (.istore 8, 2)) (by decide) rfl (?_ : XW _ _ _ _ _ _ _ 49 _ _)
      exact vc
  · refine xi_iload (by decide +kernel : decode mX1_lookTogether.2.1 38 = .ok (.iload 7, 2)) rfl (?_ : XW _ _ _ _ _ _ _ 40 _ _)
    refine xi_iload (by decide +kernel : decode mX1_lookTogether.2.1 40 = .ok (.iload 5, 2)) rfl (?_ : XW _ _ _ _ _ _ _ 42 _ _)
    refine xi_icmp_gt (by decide +kernel : decode mX1_lookTogether.2.1 42 = .ok (.if_icmp .gt 85, 3)) (by decide) (fun c => (?_ : XW _ _ _ _ _ _ _ 127 _ _)) (fun c => (?_ : XW _ _ _ _ _ _ _ 45 _ _))
    · replace vc := vc.1 c
      refine xi_aload_n (by decide +kernel : decode mX1_lookTogether.2.1 127 = .ok (.aload_n 0, 1)) rfl rfl (?_ : XW _ _ _ _ _ _ _ 128 _ _)
      obtain ⟨Q1, sp, vc⟩ := vc
      refine xi_callV (b := 0) (bs := 0) (As := []) (st := []) (by decide +kernel : decode mX1_lookTogether.2.1 128 = .ok (.invokevirtual 59, 3)) kX1_59 rfl rfl (by omega) rfl sp (by decide) (by decide) (Nat.le_of_ble_eq_true rfl) (by omega) (fun v9 h1 hq9 => ?_)
      obtain ⟨e9, vc⟩ := vc v9 h1 hq9
      subst e9
      show XW _ _ _ _ _ _ _ 131 _ []
      refine xi_iinc (v := x6 + 1) (ls' := [some (.ref 49), some (.ref r), some (.ref a), some (.int x3), some (.int x4), some (.int x5), some (.int (x6 + 1)), some (.int x7), none, none]) (by decide +kernel : decode mX1_lookTogether.2.1 131 = .ok (.iinc 6 1, 3)) rfl rfl (by decide) rfl (?_ : XW _ _ _ _ _ _ _ 134 _ _)
      refine xi_goto (by decide +kernel : decode mX1_lookTogether.2.1 134 = .ok (.goto (-105), 3)) (by decide) (?_ : XW _ _ _ _ _ _ _ 29 _ _)
      refine xw_drop 7 (ls' := [some (.ref 49), some (.ref r), some (.ref a), some (.int x3), some (.int x4), some (.int x5), some (.int (x6 + 1)), none, none, none]) rfl ?_
      exact vc
    · replace vc := vc.2 c
      refine xi_iload (by decide +kernel : decode mX1_lookTogether.2.1 45 = .ok (.iload 7, 2)) rfl (?_ : XW _ _ _ _ _ _ _ 47 _ _)
      refine xi_istore (ls' := [some (.ref 49), some (.ref r), some (.ref a), some (.int x3), some (.int x4), some (.int x5), some (.int x6), some (.int x7), some (.int x7), none]) (by decide +kernel : decode mX1_lookTogether.2.1 47 = .ok (.istore 8, 2)) (by decide) rfl (?_ : XW _ _ _ _ _ _ _ 49 _ _)
      exact vc

set_option maxRecDepth 20000 in
theorem v_X1_lookTogether_49 {h : XH} {Q : Option Value → XH → Prop} {X : String → XH → Prop} (n hya hza : Nat) (hh : xHop hya hza (xP h)) (hn : 52 ≤ n) (r : Nat) (hr : xRul r (xP h)) (hnr : r + 9 ≤ n) (a : Nat) (ha : xPth a (xP h)) (hna : a + 4 ≤ n)  (x3 : Int32) (x4 : Int32) (x5 : Int32) (x6 : Int32) (x7 : Int32) (x8 : Int32)
    (vc : (x5 < x8 → XW (xrm 5 0 0) mX1_lookTogether (xE n Q X 0 0) n 0 0 h 38 [some (.ref 49), some (.ref r), some (.ref a), some (.int x3), some (.int x4), some (.int x5), some (.int x6), some (.int (x7 + 1)), none, none] []) ∧ (¬ x5 < x8 → (¬ x7 = x5 → ∃ Q1, XSpec mX1_pair 2 0 0 n n [.int x7, .int x8] h Q1 xno ∧ ∀ v h2, Q1 v h2 → ∃ r2 : Int32, v = some (.int r2) ∧ (∃ Q1, XSpec mX1_sumOfBoth 4 0 0 n n [.ref 49, .ref r, .ref a, .int x7, .int x8] h2 Q1 xno ∧ ∀ v h3, Q1 v h3 → ∃ r3 : Int64, v = some (.long r3) ∧ ((¬ (Int32.toInt64 x4) = 0) ∧ (∃ Q1, XSpec mX1_putNext 1 0 0 n n [.ref 49, .int r2, .long (1000000000 + (r3 / (Int32.toInt64 x4)))] h3 Q1 xno ∧ ∀ v h4, Q1 v h4 → v = none ∧ (XW (xrm 5 0 0) mX1_lookTogether (xE n Q X 0 0) n 0 0 h4 49 [some (.ref 49), some (.ref r), some (.ref a), some (.int x3), some (.int x4), some (.int x5), some (.int x6), some (.int x7), some (.int (x8 + 1)), none] []))))) ∧ (x7 = x5 → (¬ x8 = x5 → ∃ Q1, XSpec mX1_pair 2 0 0 n n [.int x7, .int x8] h Q1 xno ∧ ∀ v h5, Q1 v h5 → ∃ r5 : Int32, v = some (.int r5) ∧ (∃ Q1, XSpec mX1_sumOfBoth 4 0 0 n n [.ref 49, .ref r, .ref a, .int x7, .int x8] h5 Q1 xno ∧ ∀ v h6, Q1 v h6 → ∃ r6 : Int64, v = some (.long r6) ∧ ((¬ (Int32.toInt64 x4) = 0) ∧ (∃ Q1, XSpec mX1_putNext 1 0 0 n n [.ref 49, .int r5, .long (1000000000 + (r6 / (Int32.toInt64 x4)))] h6 Q1 xno ∧ ∀ v h7, Q1 v h7 → v = none ∧ (XW (xrm 5 0 0) mX1_lookTogether (xE n Q X 0 0) n 0 0 h7 49 [some (.ref 49), some (.ref r), some (.ref a), some (.int x3), some (.int x4), some (.int x5), some (.int x6), some (.int x7), some (.int (x8 + 1)), none] []))))) ∧ (x8 = x5 → ∃ Q1, XSpec mX1_pair 2 0 0 n n [.int x7, .int x8] h Q1 xno ∧ ∀ v h8, Q1 v h8 → ∃ r8 : Int32, v = some (.int r8) ∧ (∃ Q1, XSpec mX1_putNext 1 0 0 n n [.ref 49, .int r8, .long 0] h8 Q1 xno ∧ ∀ v h9, Q1 v h9 → v = none ∧ (XW (xrm 5 0 0) mX1_lookTogether (xE n Q X 0 0) n 0 0 h9 49 [some (.ref 49), some (.ref r), some (.ref a), some (.int x3), some (.int x4), some (.int x5), some (.int x6), some (.int x7), some (.int (x8 + 1)), none] [])))))) :
    XW (xrm 5 0 0) mX1_lookTogether (xE n Q X 0 0) n 0 0 h 49 [some (.ref 49), some (.ref r), some (.ref a), some (.int x3), some (.int x4), some (.int x5), some (.int x6), some (.int x7), some (.int x8), none] [] := by
  rcases hh.1 with ⟨rfl, rfl⟩ | ⟨rfl, rfl⟩
  · refine xi_iload (by decide +kernel : decode mX1_lookTogether.2.1 49 = .ok (.iload 8, 2)) rfl (?_ : XW _ _ _ _ _ _ _ 51 _ _)
    refine xi_iload (by decide +kernel : decode mX1_lookTogether.2.1 51 = .ok (.iload 5, 2)) rfl (?_ : XW _ _ _ _ _ _ _ 53 _ _)
    refine xi_icmp_gt (by decide +kernel : decode mX1_lookTogether.2.1 53 = .ok (.if_icmp .gt 68, 3)) (by decide) (fun c => (?_ : XW _ _ _ _ _ _ _ 121 _ _)) (fun c => (?_ : XW _ _ _ _ _ _ _ 56 _ _))
    · replace vc := vc.1 c
      refine xi_iinc (v := x7 + 1) (ls' := [some (.ref 49), some (.ref r), some (.ref a), some (.int x3), some (.int x4), some (.int x5), some (.int x6), some (.int (x7 + 1)), some (.int x8), none]) (by decide +kernel : decode mX1_lookTogether.2.1 121 = .ok (.iinc 7 1, 3)) rfl rfl (by decide) rfl (?_ : XW _ _ _ _ _ _ _ 124 _ _)
      refine xi_goto (by decide +kernel : decode mX1_lookTogether.2.1 124 = .ok (.goto (-86), 3)) (by decide) (?_ : XW _ _ _ _ _ _ _ 38 _ _)
      refine xw_drop 8 (ls' := [some (.ref 49), some (.ref r), some (.ref a), some (.int x3), some (.int x4), some (.int x5), some (.int x6), some (.int (x7 + 1)), none, none]) rfl ?_
      exact vc
    · replace vc := vc.2 c
      refine xi_iload (by decide +kernel : decode mX1_lookTogether.2.1 56 = .ok (.iload 7, 2)) rfl (?_ : XW _ _ _ _ _ _ _ 58 _ _)
      refine xi_iload (by decide +kernel : decode mX1_lookTogether.2.1 58 = .ok (.iload 5, 2)) rfl (?_ : XW _ _ _ _ _ _ _ 60 _ _)
      refine xi_icmp_ne (by decide +kernel : decode mX1_lookTogether.2.1 60 = .ok (.if_icmp .ne 14, 3)) (by decide) (fun c => (?_ : XW _ _ _ _ _ _ _ 74 _ _)) (fun c => (?_ : XW _ _ _ _ _ _ _ 63 _ _))
      · replace vc := vc.1 c
        refine xi_iconst (v := 0) (by decide +kernel : decode mX1_lookTogether.2.1 74 = .ok (.iconst 0, 1)) (by decide) (?_ : XW _ _ _ _ _ _ _ 75 _ _)
        refine xi_istore (ls' := [some (.ref 49), some (.ref r), some (.ref a), some (.int x3), some (.int x4), some (.int x5), some (.int x6), some (.int x7), some (.int x8), some (.int 0)]) (by decide +kernel : decode mX1_lookTogether.2.1 75 = .ok (.istore 9, 2)) (by decide) rfl (?_ : XW _ _ _ _ _ _ _ 77 _ _)
        refine xi_aload_n (by decide +kernel : decode mX1_lookTogether.2.1 77 = .ok (.aload_n 0, 1)) rfl rfl (?_ : XW _ _ _ _ _ _ _ 78 _ _)
        refine xi_iload (by decide +kernel : decode mX1_lookTogether.2.1 78 = .ok (.iload 7, 2)) rfl (?_ : XW _ _ _ _ _ _ _ 80 _ _)
        refine xi_iload (by decide +kernel : decode mX1_lookTogether.2.1 80 = .ok (.iload 8, 2)) rfl (?_ : XW _ _ _ _ _ _ _ 82 _ _)
        obtain ⟨Q1, sp, vc⟩ := vc
        refine xi_callS (b := 0) (bs := 0) (As := [.int x7, .int x8]) (st := [.ref 49]) (by decide +kernel : decode mX1_lookTogether.2.1 82 = .ok (.invokestatic 27, 3)) kX1_27 rfl rfl sp (by decide) (by decide) (Nat.le_of_ble_eq_true rfl) (by omega) (fun v9 h2 hq9 => ?_)
        obtain ⟨r2, e9, vc⟩ := vc v9 h2 hq9
        subst e9
        show XW _ _ _ _ _ _ _ 85 _ [.int r2, .ref 49]
        refine xi_iload (by decide +kernel : decode mX1_lookTogether.2.1 85 = .ok (.iload 9, 2)) rfl (?_ : XW _ _ _ _ _ _ _ 87 _ _)
        refine xi_if_eq (by decide +kernel : decode mX1_lookTogether.2.1 87 = .ok (.ifCond .eq 7, 3)) (by decide)  (fun _ => (?_ : XW _ _ _ _ _ _ _ 94 _ _)) (fun c => absurd c (by decide))
        refine xi_ldc2 (v := 1000000000) (by decide +kernel : decode mX1_lookTogether.2.1 94 = .ok (.ldc2_w 49, 3)) cK_X1_49 (?_ : XW _ _ _ _ _ _ _ 97 _ _)
        refine xi_aload_n (by decide +kernel : decode mX1_lookTogether.2.1 97 = .ok (.aload_n 0, 1)) rfl rfl (?_ : XW _ _ _ _ _ _ _ 98 _ _)
        refine xi_aload_n (by decide +kernel : decode mX1_lookTogether.2.1 98 = .ok (.aload_n 1, 1)) rfl rfl (?_ : XW _ _ _ _ _ _ _ 99 _ _)
        refine xi_aload_n (by decide +kernel : decode mX1_lookTogether.2.1 99 = .ok (.aload_n 2, 1)) rfl rfl (?_ : XW _ _ _ _ _ _ _ 100 _ _)
        refine xi_iload (by decide +kernel : decode mX1_lookTogether.2.1 100 = .ok (.iload 7, 2)) rfl (?_ : XW _ _ _ _ _ _ _ 102 _ _)
        refine xi_iload (by decide +kernel : decode mX1_lookTogether.2.1 102 = .ok (.iload 8, 2)) rfl (?_ : XW _ _ _ _ _ _ _ 104 _ _)
        obtain ⟨Q1, sp, vc⟩ := vc
        refine xi_callV (b := 0) (bs := 0) (As := [.ref r, .ref a, .int x7, .int x8]) (st := [.long 1000000000, .int r2, .ref 49]) (by decide +kernel : decode mX1_lookTogether.2.1 104 = .ok (.invokevirtual 76, 3)) kX1_76 rfl rfl (by omega) rfl sp (by decide) (by decide) (Nat.le_of_ble_eq_true rfl) (by omega) (fun v9 h3 hq9 => ?_)
        obtain ⟨r3, e9, vc⟩ := vc v9 h3 hq9
        subst e9
        show XW _ _ _ _ _ _ _ 107 _ [.long r3, .long 1000000000, .int r2, .ref 49]
        refine xi_iload (by decide +kernel : decode mX1_lookTogether.2.1 107 = .ok (.iload 4, 2)) rfl (?_ : XW _ _ _ _ _ _ _ 109 _ _)
        refine xi_i2l (by decide +kernel : decode mX1_lookTogether.2.1 109 = .ok (.i2l, 1)) (?_ : XW _ _ _ _ _ _ _ 110 _ _)
        obtain ⟨s1, vc⟩ := vc
        refine xi_ldiv (by decide +kernel : decode mX1_lookTogether.2.1 110 = .ok (.ldiv, 1)) s1 (?_ : XW _ _ _ _ _ _ _ 111 _ _)
        refine xi_ladd (by decide +kernel : decode mX1_lookTogether.2.1 111 = .ok (.ladd, 1)) (?_ : XW _ _ _ _ _ _ _ 112 _ _)
        obtain ⟨Q1, sp, vc⟩ := vc
        refine xi_callV (b := 0) (bs := 0) (As := [.int r2, .long (1000000000 + (r3 / (Int32.toInt64 x4)))]) (st := []) (by decide +kernel : decode mX1_lookTogether.2.1 112 = .ok (.invokevirtual 55, 3)) kX1_55 rfl rfl (by omega) rfl sp (by decide) (by decide) (Nat.le_of_ble_eq_true rfl) (by omega) (fun v9 h4 hq9 => ?_)
        obtain ⟨e9, vc⟩ := vc v9 h4 hq9
        subst e9
        show XW _ _ _ _ _ _ _ 115 _ []
        refine xi_iinc (v := x8 + 1) (ls' := [some (.ref 49), some (.ref r), some (.ref a), some (.int x3), some (.int x4), some (.int x5), some (.int x6), some (.int x7), some (.int (x8 + 1)), some (.int 0)]) (by decide +kernel : decode mX1_lookTogether.2.1 115 = .ok (.iinc 8 1, 3)) rfl rfl (by decide) rfl (?_ : XW _ _ _ _ _ _ _ 118 _ _)
        refine xi_goto (by decide +kernel : decode mX1_lookTogether.2.1 118 = .ok (.goto (-69), 3)) (by decide) (?_ : XW _ _ _ _ _ _ _ 49 _ _)
        refine xw_drop 9 (ls' := [some (.ref 49), some (.ref r), some (.ref a), some (.int x3), some (.int x4), some (.int x5), some (.int x6), some (.int x7), some (.int (x8 + 1)), none]) rfl ?_
        exact vc
      · replace vc := vc.2 c
        refine xi_iload (by decide +kernel : decode mX1_lookTogether.2.1 63 = .ok (.iload 8, 2)) rfl (?_ : XW _ _ _ _ _ _ _ 65 _ _)
        refine xi_iload (by decide +kernel : decode mX1_lookTogether.2.1 65 = .ok (.iload 5, 2)) rfl (?_ : XW _ _ _ _ _ _ _ 67 _ _)
        refine xi_icmp_ne (by decide +kernel : decode mX1_lookTogether.2.1 67 = .ok (.if_icmp .ne 7, 3)) (by decide) (fun c => (?_ : XW _ _ _ _ _ _ _ 74 _ _)) (fun c => (?_ : XW _ _ _ _ _ _ _ 70 _ _))
        · replace vc := vc.1 c
          refine xi_iconst (v := 0) (by decide +kernel : decode mX1_lookTogether.2.1 74 = .ok (.iconst 0, 1)) (by decide) (?_ : XW _ _ _ _ _ _ _ 75 _ _)
          refine xi_istore (ls' := [some (.ref 49), some (.ref r), some (.ref a), some (.int x3), some (.int x4), some (.int x5), some (.int x6), some (.int x7), some (.int x8), some (.int 0)]) (by decide +kernel : decode mX1_lookTogether.2.1 75 = .ok (.istore 9, 2)) (by decide) rfl (?_ : XW _ _ _ _ _ _ _ 77 _ _)
          refine xi_aload_n (by decide +kernel : decode mX1_lookTogether.2.1 77 = .ok (.aload_n 0, 1)) rfl rfl (?_ : XW _ _ _ _ _ _ _ 78 _ _)
          refine xi_iload (by decide +kernel : decode mX1_lookTogether.2.1 78 = .ok (.iload 7, 2)) rfl (?_ : XW _ _ _ _ _ _ _ 80 _ _)
          refine xi_iload (by decide +kernel : decode mX1_lookTogether.2.1 80 = .ok (.iload 8, 2)) rfl (?_ : XW _ _ _ _ _ _ _ 82 _ _)
          obtain ⟨Q1, sp, vc⟩ := vc
          refine xi_callS (b := 0) (bs := 0) (As := [.int x7, .int x8]) (st := [.ref 49]) (by decide +kernel : decode mX1_lookTogether.2.1 82 = .ok (.invokestatic 27, 3)) kX1_27 rfl rfl sp (by decide) (by decide) (Nat.le_of_ble_eq_true rfl) (by omega) (fun v9 h5 hq9 => ?_)
          obtain ⟨r5, e9, vc⟩ := vc v9 h5 hq9
          subst e9
          show XW _ _ _ _ _ _ _ 85 _ [.int r5, .ref 49]
          refine xi_iload (by decide +kernel : decode mX1_lookTogether.2.1 85 = .ok (.iload 9, 2)) rfl (?_ : XW _ _ _ _ _ _ _ 87 _ _)
          refine xi_if_eq (by decide +kernel : decode mX1_lookTogether.2.1 87 = .ok (.ifCond .eq 7, 3)) (by decide)  (fun _ => (?_ : XW _ _ _ _ _ _ _ 94 _ _)) (fun c => absurd c (by decide))
          refine xi_ldc2 (v := 1000000000) (by decide +kernel : decode mX1_lookTogether.2.1 94 = .ok (.ldc2_w 49, 3)) cK_X1_49 (?_ : XW _ _ _ _ _ _ _ 97 _ _)
          refine xi_aload_n (by decide +kernel : decode mX1_lookTogether.2.1 97 = .ok (.aload_n 0, 1)) rfl rfl (?_ : XW _ _ _ _ _ _ _ 98 _ _)
          refine xi_aload_n (by decide +kernel : decode mX1_lookTogether.2.1 98 = .ok (.aload_n 1, 1)) rfl rfl (?_ : XW _ _ _ _ _ _ _ 99 _ _)
          refine xi_aload_n (by decide +kernel : decode mX1_lookTogether.2.1 99 = .ok (.aload_n 2, 1)) rfl rfl (?_ : XW _ _ _ _ _ _ _ 100 _ _)
          refine xi_iload (by decide +kernel : decode mX1_lookTogether.2.1 100 = .ok (.iload 7, 2)) rfl (?_ : XW _ _ _ _ _ _ _ 102 _ _)
          refine xi_iload (by decide +kernel : decode mX1_lookTogether.2.1 102 = .ok (.iload 8, 2)) rfl (?_ : XW _ _ _ _ _ _ _ 104 _ _)
          obtain ⟨Q1, sp, vc⟩ := vc
          refine xi_callV (b := 0) (bs := 0) (As := [.ref r, .ref a, .int x7, .int x8]) (st := [.long 1000000000, .int r5, .ref 49]) (by decide +kernel : decode mX1_lookTogether.2.1 104 = .ok (.invokevirtual 76, 3)) kX1_76 rfl rfl (by omega) rfl sp (by decide) (by decide) (Nat.le_of_ble_eq_true rfl) (by omega) (fun v9 h6 hq9 => ?_)
          obtain ⟨r6, e9, vc⟩ := vc v9 h6 hq9
          subst e9
          show XW _ _ _ _ _ _ _ 107 _ [.long r6, .long 1000000000, .int r5, .ref 49]
          refine xi_iload (by decide +kernel : decode mX1_lookTogether.2.1 107 = .ok (.iload 4, 2)) rfl (?_ : XW _ _ _ _ _ _ _ 109 _ _)
          refine xi_i2l (by decide +kernel : decode mX1_lookTogether.2.1 109 = .ok (.i2l, 1)) (?_ : XW _ _ _ _ _ _ _ 110 _ _)
          obtain ⟨s1, vc⟩ := vc
          refine xi_ldiv (by decide +kernel : decode mX1_lookTogether.2.1 110 = .ok (.ldiv, 1)) s1 (?_ : XW _ _ _ _ _ _ _ 111 _ _)
          refine xi_ladd (by decide +kernel : decode mX1_lookTogether.2.1 111 = .ok (.ladd, 1)) (?_ : XW _ _ _ _ _ _ _ 112 _ _)
          obtain ⟨Q1, sp, vc⟩ := vc
          refine xi_callV (b := 0) (bs := 0) (As := [.int r5, .long (1000000000 + (r6 / (Int32.toInt64 x4)))]) (st := []) (by decide +kernel : decode mX1_lookTogether.2.1 112 = .ok (.invokevirtual 55, 3)) kX1_55 rfl rfl (by omega) rfl sp (by decide) (by decide) (Nat.le_of_ble_eq_true rfl) (by omega) (fun v9 h7 hq9 => ?_)
          obtain ⟨e9, vc⟩ := vc v9 h7 hq9
          subst e9
          show XW _ _ _ _ _ _ _ 115 _ []
          refine xi_iinc (v := x8 + 1) (ls' := [some (.ref 49), some (.ref r), some (.ref a), some (.int x3), some (.int x4), some (.int x5), some (.int x6), some (.int x7), some (.int (x8 + 1)), some (.int 0)]) (by decide +kernel : decode mX1_lookTogether.2.1 115 = .ok (.iinc 8 1, 3)) rfl rfl (by decide) rfl (?_ : XW _ _ _ _ _ _ _ 118 _ _)
          refine xi_goto (by decide +kernel : decode mX1_lookTogether.2.1 118 = .ok (.goto (-69), 3)) (by decide) (?_ : XW _ _ _ _ _ _ _ 49 _ _)
          refine xw_drop 9 (ls' := [some (.ref 49), some (.ref r), some (.ref a), some (.int x3), some (.int x4), some (.int x5), some (.int x6), some (.int x7), some (.int (x8 + 1)), none]) rfl ?_
          exact vc
        · replace vc := vc.2 c
          refine xi_iconst (v := 1) (by decide +kernel : decode mX1_lookTogether.2.1 70 = .ok (.iconst 1, 1)) (by decide) (?_ : XW _ _ _ _ _ _ _ 71 _ _)
          refine xi_goto (by decide +kernel : decode mX1_lookTogether.2.1 71 = .ok (.goto 4, 3)) (by decide) (?_ : XW _ _ _ _ _ _ _ 75 _ _)
          refine xi_istore (ls' := [some (.ref 49), some (.ref r), some (.ref a), some (.int x3), some (.int x4), some (.int x5), some (.int x6), some (.int x7), some (.int x8), some (.int 1)]) (by decide +kernel : decode mX1_lookTogether.2.1 75 = .ok (.istore 9, 2)) (by decide) rfl (?_ : XW _ _ _ _ _ _ _ 77 _ _)
          refine xi_aload_n (by decide +kernel : decode mX1_lookTogether.2.1 77 = .ok (.aload_n 0, 1)) rfl rfl (?_ : XW _ _ _ _ _ _ _ 78 _ _)
          refine xi_iload (by decide +kernel : decode mX1_lookTogether.2.1 78 = .ok (.iload 7, 2)) rfl (?_ : XW _ _ _ _ _ _ _ 80 _ _)
          refine xi_iload (by decide +kernel : decode mX1_lookTogether.2.1 80 = .ok (.iload 8, 2)) rfl (?_ : XW _ _ _ _ _ _ _ 82 _ _)
          obtain ⟨Q1, sp, vc⟩ := vc
          refine xi_callS (b := 0) (bs := 0) (As := [.int x7, .int x8]) (st := [.ref 49]) (by decide +kernel : decode mX1_lookTogether.2.1 82 = .ok (.invokestatic 27, 3)) kX1_27 rfl rfl sp (by decide) (by decide) (Nat.le_of_ble_eq_true rfl) (by omega) (fun v9 h8 hq9 => ?_)
          obtain ⟨r8, e9, vc⟩ := vc v9 h8 hq9
          subst e9
          show XW _ _ _ _ _ _ _ 85 _ [.int r8, .ref 49]
          refine xi_iload (by decide +kernel : decode mX1_lookTogether.2.1 85 = .ok (.iload 9, 2)) rfl (?_ : XW _ _ _ _ _ _ _ 87 _ _)
          refine xi_if_eq (by decide +kernel : decode mX1_lookTogether.2.1 87 = .ok (.ifCond .eq 7, 3)) (by decide)  (fun c => (absurd c (by decide) : XW _ _ _ _ _ _ _ 94 _ _)) (fun _ => (?_ : XW _ _ _ _ _ _ _ 90 _ _))
          refine xi_lconst (v := 0) (by decide +kernel : decode mX1_lookTogether.2.1 90 = .ok (.lconst 0, 1)) (by decide) (?_ : XW _ _ _ _ _ _ _ 91 _ _)
          refine xi_goto (by decide +kernel : decode mX1_lookTogether.2.1 91 = .ok (.goto 21, 3)) (by decide) (?_ : XW _ _ _ _ _ _ _ 112 _ _)
          obtain ⟨Q1, sp, vc⟩ := vc
          refine xi_callV (b := 0) (bs := 0) (As := [.int r8, .long 0]) (st := []) (by decide +kernel : decode mX1_lookTogether.2.1 112 = .ok (.invokevirtual 55, 3)) kX1_55 rfl rfl (by omega) rfl sp (by decide) (by decide) (Nat.le_of_ble_eq_true rfl) (by omega) (fun v9 h9 hq9 => ?_)
          obtain ⟨e9, vc⟩ := vc v9 h9 hq9
          subst e9
          show XW _ _ _ _ _ _ _ 115 _ []
          refine xi_iinc (v := x8 + 1) (ls' := [some (.ref 49), some (.ref r), some (.ref a), some (.int x3), some (.int x4), some (.int x5), some (.int x6), some (.int x7), some (.int (x8 + 1)), some (.int 1)]) (by decide +kernel : decode mX1_lookTogether.2.1 115 = .ok (.iinc 8 1, 3)) rfl rfl (by decide) rfl (?_ : XW _ _ _ _ _ _ _ 118 _ _)
          refine xi_goto (by decide +kernel : decode mX1_lookTogether.2.1 118 = .ok (.goto (-69), 3)) (by decide) (?_ : XW _ _ _ _ _ _ _ 49 _ _)
          refine xw_drop 9 (ls' := [some (.ref 49), some (.ref r), some (.ref a), some (.int x3), some (.int x4), some (.int x5), some (.int x6), some (.int x7), some (.int (x8 + 1)), none]) rfl ?_
          exact vc
  · refine xi_iload (by decide +kernel : decode mX1_lookTogether.2.1 49 = .ok (.iload 8, 2)) rfl (?_ : XW _ _ _ _ _ _ _ 51 _ _)
    refine xi_iload (by decide +kernel : decode mX1_lookTogether.2.1 51 = .ok (.iload 5, 2)) rfl (?_ : XW _ _ _ _ _ _ _ 53 _ _)
    refine xi_icmp_gt (by decide +kernel : decode mX1_lookTogether.2.1 53 = .ok (.if_icmp .gt 68, 3)) (by decide) (fun c => (?_ : XW _ _ _ _ _ _ _ 121 _ _)) (fun c => (?_ : XW _ _ _ _ _ _ _ 56 _ _))
    · replace vc := vc.1 c
      refine xi_iinc (v := x7 + 1) (ls' := [some (.ref 49), some (.ref r), some (.ref a), some (.int x3), some (.int x4), some (.int x5), some (.int x6), some (.int (x7 + 1)), some (.int x8), none]) (by decide +kernel : decode mX1_lookTogether.2.1 121 = .ok (.iinc 7 1, 3)) rfl rfl (by decide) rfl (?_ : XW _ _ _ _ _ _ _ 124 _ _)
      refine xi_goto (by decide +kernel : decode mX1_lookTogether.2.1 124 = .ok (.goto (-86), 3)) (by decide) (?_ : XW _ _ _ _ _ _ _ 38 _ _)
      refine xw_drop 8 (ls' := [some (.ref 49), some (.ref r), some (.ref a), some (.int x3), some (.int x4), some (.int x5), some (.int x6), some (.int (x7 + 1)), none, none]) rfl ?_
      exact vc
    · replace vc := vc.2 c
      refine xi_iload (by decide +kernel : decode mX1_lookTogether.2.1 56 = .ok (.iload 7, 2)) rfl (?_ : XW _ _ _ _ _ _ _ 58 _ _)
      refine xi_iload (by decide +kernel : decode mX1_lookTogether.2.1 58 = .ok (.iload 5, 2)) rfl (?_ : XW _ _ _ _ _ _ _ 60 _ _)
      refine xi_icmp_ne (by decide +kernel : decode mX1_lookTogether.2.1 60 = .ok (.if_icmp .ne 14, 3)) (by decide) (fun c => (?_ : XW _ _ _ _ _ _ _ 74 _ _)) (fun c => (?_ : XW _ _ _ _ _ _ _ 63 _ _))
      · replace vc := vc.1 c
        refine xi_iconst (v := 0) (by decide +kernel : decode mX1_lookTogether.2.1 74 = .ok (.iconst 0, 1)) (by decide) (?_ : XW _ _ _ _ _ _ _ 75 _ _)
        refine xi_istore (ls' := [some (.ref 49), some (.ref r), some (.ref a), some (.int x3), some (.int x4), some (.int x5), some (.int x6), some (.int x7), some (.int x8), some (.int 0)]) (by decide +kernel : decode mX1_lookTogether.2.1 75 = .ok (.istore 9, 2)) (by decide) rfl (?_ : XW _ _ _ _ _ _ _ 77 _ _)
        refine xi_aload_n (by decide +kernel : decode mX1_lookTogether.2.1 77 = .ok (.aload_n 0, 1)) rfl rfl (?_ : XW _ _ _ _ _ _ _ 78 _ _)
        refine xi_iload (by decide +kernel : decode mX1_lookTogether.2.1 78 = .ok (.iload 7, 2)) rfl (?_ : XW _ _ _ _ _ _ _ 80 _ _)
        refine xi_iload (by decide +kernel : decode mX1_lookTogether.2.1 80 = .ok (.iload 8, 2)) rfl (?_ : XW _ _ _ _ _ _ _ 82 _ _)
        obtain ⟨Q1, sp, vc⟩ := vc
        refine xi_callS (b := 0) (bs := 0) (As := [.int x7, .int x8]) (st := [.ref 49]) (by decide +kernel : decode mX1_lookTogether.2.1 82 = .ok (.invokestatic 27, 3)) kX1_27 rfl rfl sp (by decide) (by decide) (Nat.le_of_ble_eq_true rfl) (by omega) (fun v9 h2 hq9 => ?_)
        obtain ⟨r2, e9, vc⟩ := vc v9 h2 hq9
        subst e9
        show XW _ _ _ _ _ _ _ 85 _ [.int r2, .ref 49]
        refine xi_iload (by decide +kernel : decode mX1_lookTogether.2.1 85 = .ok (.iload 9, 2)) rfl (?_ : XW _ _ _ _ _ _ _ 87 _ _)
        refine xi_if_eq (by decide +kernel : decode mX1_lookTogether.2.1 87 = .ok (.ifCond .eq 7, 3)) (by decide)  (fun _ => (?_ : XW _ _ _ _ _ _ _ 94 _ _)) (fun c => absurd c (by decide))
        refine xi_ldc2 (v := 1000000000) (by decide +kernel : decode mX1_lookTogether.2.1 94 = .ok (.ldc2_w 49, 3)) cK_X1_49 (?_ : XW _ _ _ _ _ _ _ 97 _ _)
        refine xi_aload_n (by decide +kernel : decode mX1_lookTogether.2.1 97 = .ok (.aload_n 0, 1)) rfl rfl (?_ : XW _ _ _ _ _ _ _ 98 _ _)
        refine xi_aload_n (by decide +kernel : decode mX1_lookTogether.2.1 98 = .ok (.aload_n 1, 1)) rfl rfl (?_ : XW _ _ _ _ _ _ _ 99 _ _)
        refine xi_aload_n (by decide +kernel : decode mX1_lookTogether.2.1 99 = .ok (.aload_n 2, 1)) rfl rfl (?_ : XW _ _ _ _ _ _ _ 100 _ _)
        refine xi_iload (by decide +kernel : decode mX1_lookTogether.2.1 100 = .ok (.iload 7, 2)) rfl (?_ : XW _ _ _ _ _ _ _ 102 _ _)
        refine xi_iload (by decide +kernel : decode mX1_lookTogether.2.1 102 = .ok (.iload 8, 2)) rfl (?_ : XW _ _ _ _ _ _ _ 104 _ _)
        obtain ⟨Q1, sp, vc⟩ := vc
        refine xi_callV (b := 0) (bs := 0) (As := [.ref r, .ref a, .int x7, .int x8]) (st := [.long 1000000000, .int r2, .ref 49]) (by decide +kernel : decode mX1_lookTogether.2.1 104 = .ok (.invokevirtual 76, 3)) kX1_76 rfl rfl (by omega) rfl sp (by decide) (by decide) (Nat.le_of_ble_eq_true rfl) (by omega) (fun v9 h3 hq9 => ?_)
        obtain ⟨r3, e9, vc⟩ := vc v9 h3 hq9
        subst e9
        show XW _ _ _ _ _ _ _ 107 _ [.long r3, .long 1000000000, .int r2, .ref 49]
        refine xi_iload (by decide +kernel : decode mX1_lookTogether.2.1 107 = .ok (.iload 4, 2)) rfl (?_ : XW _ _ _ _ _ _ _ 109 _ _)
        refine xi_i2l (by decide +kernel : decode mX1_lookTogether.2.1 109 = .ok (.i2l, 1)) (?_ : XW _ _ _ _ _ _ _ 110 _ _)
        obtain ⟨s1, vc⟩ := vc
        refine xi_ldiv (by decide +kernel : decode mX1_lookTogether.2.1 110 = .ok (.ldiv, 1)) s1 (?_ : XW _ _ _ _ _ _ _ 111 _ _)
        refine xi_ladd (by decide +kernel : decode mX1_lookTogether.2.1 111 = .ok (.ladd, 1)) (?_ : XW _ _ _ _ _ _ _ 112 _ _)
        obtain ⟨Q1, sp, vc⟩ := vc
        refine xi_callV (b := 0) (bs := 0) (As := [.int r2, .long (1000000000 + (r3 / (Int32.toInt64 x4)))]) (st := []) (by decide +kernel : decode mX1_lookTogether.2.1 112 = .ok (.invokevirtual 55, 3)) kX1_55 rfl rfl (by omega) rfl sp (by decide) (by decide) (Nat.le_of_ble_eq_true rfl) (by omega) (fun v9 h4 hq9 => ?_)
        obtain ⟨e9, vc⟩ := vc v9 h4 hq9
        subst e9
        show XW _ _ _ _ _ _ _ 115 _ []
        refine xi_iinc (v := x8 + 1) (ls' := [some (.ref 49), some (.ref r), some (.ref a), some (.int x3), some (.int x4), some (.int x5), some (.int x6), some (.int x7), some (.int (x8 + 1)), some (.int 0)]) (by decide +kernel : decode mX1_lookTogether.2.1 115 = .ok (.iinc 8 1, 3)) rfl rfl (by decide) rfl (?_ : XW _ _ _ _ _ _ _ 118 _ _)
        refine xi_goto (by decide +kernel : decode mX1_lookTogether.2.1 118 = .ok (.goto (-69), 3)) (by decide) (?_ : XW _ _ _ _ _ _ _ 49 _ _)
        refine xw_drop 9 (ls' := [some (.ref 49), some (.ref r), some (.ref a), some (.int x3), some (.int x4), some (.int x5), some (.int x6), some (.int x7), some (.int (x8 + 1)), none]) rfl ?_
        exact vc
      · replace vc := vc.2 c
        refine xi_iload (by decide +kernel : decode mX1_lookTogether.2.1 63 = .ok (.iload 8, 2)) rfl (?_ : XW _ _ _ _ _ _ _ 65 _ _)
        refine xi_iload (by decide +kernel : decode mX1_lookTogether.2.1 65 = .ok (.iload 5, 2)) rfl (?_ : XW _ _ _ _ _ _ _ 67 _ _)
        refine xi_icmp_ne (by decide +kernel : decode mX1_lookTogether.2.1 67 = .ok (.if_icmp .ne 7, 3)) (by decide) (fun c => (?_ : XW _ _ _ _ _ _ _ 74 _ _)) (fun c => (?_ : XW _ _ _ _ _ _ _ 70 _ _))
        · replace vc := vc.1 c
          refine xi_iconst (v := 0) (by decide +kernel : decode mX1_lookTogether.2.1 74 = .ok (.iconst 0, 1)) (by decide) (?_ : XW _ _ _ _ _ _ _ 75 _ _)
          refine xi_istore (ls' := [some (.ref 49), some (.ref r), some (.ref a), some (.int x3), some (.int x4), some (.int x5), some (.int x6), some (.int x7), some (.int x8), some (.int 0)]) (by decide +kernel : decode mX1_lookTogether.2.1 75 = .ok (.istore 9, 2)) (by decide) rfl (?_ : XW _ _ _ _ _ _ _ 77 _ _)
          refine xi_aload_n (by decide +kernel : decode mX1_lookTogether.2.1 77 = .ok (.aload_n 0, 1)) rfl rfl (?_ : XW _ _ _ _ _ _ _ 78 _ _)
          refine xi_iload (by decide +kernel : decode mX1_lookTogether.2.1 78 = .ok (.iload 7, 2)) rfl (?_ : XW _ _ _ _ _ _ _ 80 _ _)
          refine xi_iload (by decide +kernel : decode mX1_lookTogether.2.1 80 = .ok (.iload 8, 2)) rfl (?_ : XW _ _ _ _ _ _ _ 82 _ _)
          obtain ⟨Q1, sp, vc⟩ := vc
          refine xi_callS (b := 0) (bs := 0) (As := [.int x7, .int x8]) (st := [.ref 49]) (by decide +kernel : decode mX1_lookTogether.2.1 82 = .ok (.invokestatic 27, 3)) kX1_27 rfl rfl sp (by decide) (by decide) (Nat.le_of_ble_eq_true rfl) (by omega) (fun v9 h5 hq9 => ?_)
          obtain ⟨r5, e9, vc⟩ := vc v9 h5 hq9
          subst e9
          show XW _ _ _ _ _ _ _ 85 _ [.int r5, .ref 49]
          refine xi_iload (by decide +kernel : decode mX1_lookTogether.2.1 85 = .ok (.iload 9, 2)) rfl (?_ : XW _ _ _ _ _ _ _ 87 _ _)
          refine xi_if_eq (by decide +kernel : decode mX1_lookTogether.2.1 87 = .ok (.ifCond .eq 7, 3)) (by decide)  (fun _ => (?_ : XW _ _ _ _ _ _ _ 94 _ _)) (fun c => absurd c (by decide))
          refine xi_ldc2 (v := 1000000000) (by decide +kernel : decode mX1_lookTogether.2.1 94 = .ok (.ldc2_w 49, 3)) cK_X1_49 (?_ : XW _ _ _ _ _ _ _ 97 _ _)
          refine xi_aload_n (by decide +kernel : decode mX1_lookTogether.2.1 97 = .ok (.aload_n 0, 1)) rfl rfl (?_ : XW _ _ _ _ _ _ _ 98 _ _)
          refine xi_aload_n (by decide +kernel : decode mX1_lookTogether.2.1 98 = .ok (.aload_n 1, 1)) rfl rfl (?_ : XW _ _ _ _ _ _ _ 99 _ _)
          refine xi_aload_n (by decide +kernel : decode mX1_lookTogether.2.1 99 = .ok (.aload_n 2, 1)) rfl rfl (?_ : XW _ _ _ _ _ _ _ 100 _ _)
          refine xi_iload (by decide +kernel : decode mX1_lookTogether.2.1 100 = .ok (.iload 7, 2)) rfl (?_ : XW _ _ _ _ _ _ _ 102 _ _)
          refine xi_iload (by decide +kernel : decode mX1_lookTogether.2.1 102 = .ok (.iload 8, 2)) rfl (?_ : XW _ _ _ _ _ _ _ 104 _ _)
          obtain ⟨Q1, sp, vc⟩ := vc
          refine xi_callV (b := 0) (bs := 0) (As := [.ref r, .ref a, .int x7, .int x8]) (st := [.long 1000000000, .int r5, .ref 49]) (by decide +kernel : decode mX1_lookTogether.2.1 104 = .ok (.invokevirtual 76, 3)) kX1_76 rfl rfl (by omega) rfl sp (by decide) (by decide) (Nat.le_of_ble_eq_true rfl) (by omega) (fun v9 h6 hq9 => ?_)
          obtain ⟨r6, e9, vc⟩ := vc v9 h6 hq9
          subst e9
          show XW _ _ _ _ _ _ _ 107 _ [.long r6, .long 1000000000, .int r5, .ref 49]
          refine xi_iload (by decide +kernel : decode mX1_lookTogether.2.1 107 = .ok (.iload 4, 2)) rfl (?_ : XW _ _ _ _ _ _ _ 109 _ _)
          refine xi_i2l (by decide +kernel : decode mX1_lookTogether.2.1 109 = .ok (.i2l, 1)) (?_ : XW _ _ _ _ _ _ _ 110 _ _)
          obtain ⟨s1, vc⟩ := vc
          refine xi_ldiv (by decide +kernel : decode mX1_lookTogether.2.1 110 = .ok (.ldiv, 1)) s1 (?_ : XW _ _ _ _ _ _ _ 111 _ _)
          refine xi_ladd (by decide +kernel : decode mX1_lookTogether.2.1 111 = .ok (.ladd, 1)) (?_ : XW _ _ _ _ _ _ _ 112 _ _)
          obtain ⟨Q1, sp, vc⟩ := vc
          refine xi_callV (b := 0) (bs := 0) (As := [.int r5, .long (1000000000 + (r6 / (Int32.toInt64 x4)))]) (st := []) (by decide +kernel : decode mX1_lookTogether.2.1 112 = .ok (.invokevirtual 55, 3)) kX1_55 rfl rfl (by omega) rfl sp (by decide) (by decide) (Nat.le_of_ble_eq_true rfl) (by omega) (fun v9 h7 hq9 => ?_)
          obtain ⟨e9, vc⟩ := vc v9 h7 hq9
          subst e9
          show XW _ _ _ _ _ _ _ 115 _ []
          refine xi_iinc (v := x8 + 1) (ls' := [some (.ref 49), some (.ref r), some (.ref a), some (.int x3), some (.int x4), some (.int x5), some (.int x6), some (.int x7), some (.int (x8 + 1)), some (.int 0)]) (by decide +kernel : decode mX1_lookTogether.2.1 115 = .ok (.iinc 8 1, 3)) rfl rfl (by decide) rfl (?_ : XW _ _ _ _ _ _ _ 118 _ _)
          refine xi_goto (by decide +kernel : decode mX1_lookTogether.2.1 118 = .ok (.goto (-69), 3)) (by decide) (?_ : XW _ _ _ _ _ _ _ 49 _ _)
          refine xw_drop 9 (ls' := [some (.ref 49), some (.ref r), some (.ref a), some (.int x3), some (.int x4), some (.int x5), some (.int x6), some (.int x7), some (.int (x8 + 1)), none]) rfl ?_
          exact vc
        · replace vc := vc.2 c
          refine xi_iconst (v := 1) (by decide +kernel : decode mX1_lookTogether.2.1 70 = .ok (.iconst 1, 1)) (by decide) (?_ : XW _ _ _ _ _ _ _ 71 _ _)
          refine xi_goto (by decide +kernel : decode mX1_lookTogether.2.1 71 = .ok (.goto 4, 3)) (by decide) (?_ : XW _ _ _ _ _ _ _ 75 _ _)
          refine xi_istore (ls' := [some (.ref 49), some (.ref r), some (.ref a), some (.int x3), some (.int x4), some (.int x5), some (.int x6), some (.int x7), some (.int x8), some (.int 1)]) (by decide +kernel : decode mX1_lookTogether.2.1 75 = .ok (.istore 9, 2)) (by decide) rfl (?_ : XW _ _ _ _ _ _ _ 77 _ _)
          refine xi_aload_n (by decide +kernel : decode mX1_lookTogether.2.1 77 = .ok (.aload_n 0, 1)) rfl rfl (?_ : XW _ _ _ _ _ _ _ 78 _ _)
          refine xi_iload (by decide +kernel : decode mX1_lookTogether.2.1 78 = .ok (.iload 7, 2)) rfl (?_ : XW _ _ _ _ _ _ _ 80 _ _)
          refine xi_iload (by decide +kernel : decode mX1_lookTogether.2.1 80 = .ok (.iload 8, 2)) rfl (?_ : XW _ _ _ _ _ _ _ 82 _ _)
          obtain ⟨Q1, sp, vc⟩ := vc
          refine xi_callS (b := 0) (bs := 0) (As := [.int x7, .int x8]) (st := [.ref 49]) (by decide +kernel : decode mX1_lookTogether.2.1 82 = .ok (.invokestatic 27, 3)) kX1_27 rfl rfl sp (by decide) (by decide) (Nat.le_of_ble_eq_true rfl) (by omega) (fun v9 h8 hq9 => ?_)
          obtain ⟨r8, e9, vc⟩ := vc v9 h8 hq9
          subst e9
          show XW _ _ _ _ _ _ _ 85 _ [.int r8, .ref 49]
          refine xi_iload (by decide +kernel : decode mX1_lookTogether.2.1 85 = .ok (.iload 9, 2)) rfl (?_ : XW _ _ _ _ _ _ _ 87 _ _)
          refine xi_if_eq (by decide +kernel : decode mX1_lookTogether.2.1 87 = .ok (.ifCond .eq 7, 3)) (by decide)  (fun c => (absurd c (by decide) : XW _ _ _ _ _ _ _ 94 _ _)) (fun _ => (?_ : XW _ _ _ _ _ _ _ 90 _ _))
          refine xi_lconst (v := 0) (by decide +kernel : decode mX1_lookTogether.2.1 90 = .ok (.lconst 0, 1)) (by decide) (?_ : XW _ _ _ _ _ _ _ 91 _ _)
          refine xi_goto (by decide +kernel : decode mX1_lookTogether.2.1 91 = .ok (.goto 21, 3)) (by decide) (?_ : XW _ _ _ _ _ _ _ 112 _ _)
          obtain ⟨Q1, sp, vc⟩ := vc
          refine xi_callV (b := 0) (bs := 0) (As := [.int r8, .long 0]) (st := []) (by decide +kernel : decode mX1_lookTogether.2.1 112 = .ok (.invokevirtual 55, 3)) kX1_55 rfl rfl (by omega) rfl sp (by decide) (by decide) (Nat.le_of_ble_eq_true rfl) (by omega) (fun v9 h9 hq9 => ?_)
          obtain ⟨e9, vc⟩ := vc v9 h9 hq9
          subst e9
          show XW _ _ _ _ _ _ _ 115 _ []
          refine xi_iinc (v := x8 + 1) (ls' := [some (.ref 49), some (.ref r), some (.ref a), some (.int x3), some (.int x4), some (.int x5), some (.int x6), some (.int x7), some (.int (x8 + 1)), some (.int 1)]) (by decide +kernel : decode mX1_lookTogether.2.1 115 = .ok (.iinc 8 1, 3)) rfl rfl (by decide) rfl (?_ : XW _ _ _ _ _ _ _ 118 _ _)
          refine xi_goto (by decide +kernel : decode mX1_lookTogether.2.1 118 = .ok (.goto (-69), 3)) (by decide) (?_ : XW _ _ _ _ _ _ _ 49 _ _)
          refine xw_drop 9 (ls' := [some (.ref 49), some (.ref r), some (.ref a), some (.int x3), some (.int x4), some (.int x5), some (.int x6), some (.int x7), some (.int (x8 + 1)), none]) rfl ?_
          exact vc

set_option maxRecDepth 20000 in
theorem v_X10_ahead_0 {h : XH} {Q : Option Value → XH → Prop} {X : String → XH → Prop} (r : Nat) (hbp : BP r h)  (q : Int32) (n : Int32)
    (vc : ∃ Q1 X1, XSpec mX10_needSquare 7 1 6 100 100 [.ref 0, .int q] h Q1 X1 ∧ (∀ E9 h9, X1 E9 h9 → X E9 h9) ∧ ∀ v h1, Q1 v h1 → v = none ∧ (∃ Q1 X1, XSpec mX10_needToCome 7 1 6 100 100 [.ref 0, .int n, .int 0] h1 Q1 X1 ∧ (∀ E9 h9, X1 E9 h9 → X E9 h9) ∧ ∀ v h2, Q1 v h2 → v = none ∧ ((xP h2 0 13 = some 49) ∧ ((xP h2 0 3 = some r) ∧ ((xP h2 0 5 = some 21) ∧ (∃ Q1, XSpec mX1_lookAhead 3 0 0 100 100 [.ref 49, .ref r, .ref 21, .int n] h2 Q1 xno ∧ ∀ v h3, Q1 v h3 → v = none ∧ ((xP h3 0 13 = some 49) ∧ (∃ Q1, XSpec mX1_at 1 0 0 100 100 [.ref 49, .int q] h3 Q1 xno ∧ ∀ v h4, Q1 v h4 → ∃ r4 : Int64, v = some (.long r4) ∧ (Q (some (.long r4)) h4))))))))) :
    XW (xrm 8 2 12) mX10_ahead (xE 100 Q X 2 12) 100 2 12 h 0 [some (.ref 0), some (.int q), some (.int n)] [] := by
  obtain ⟨hb, hr, hnr, ha21, ha25, hu29, hu34, hw, hnt, hwr⟩ := hbp
  refine xi_aload_n (by decide +kernel : decode mX10_ahead.2.1 0 = .ok (.aload_n 0, 1)) rfl rfl (?_ : XW _ _ _ _ _ _ _ 1 _ _)
  refine xi_iload_n (by decide +kernel : decode mX10_ahead.2.1 1 = .ok (.iload_n 1, 1)) rfl rfl (?_ : XW _ _ _ _ _ _ _ 2 _ _)
  obtain ⟨Q1, X1, sp, tx, vc⟩ := vc
  refine xi_callVX (b := 1) (bs := 6) (As := [.int q]) (st := []) (by decide +kernel : decode mX10_ahead.2.1 2 = .ok (.invokevirtual 184, 3)) kX10_184 rfl rfl (by omega) rfl sp (by decide) (by decide) (Nat.le_of_ble_eq_true rfl) (by omega) rfl tx (fun v9 h1 hq9 => ?_)
  obtain ⟨e9, vc⟩ := vc v9 h1 hq9
  subst e9
  show XW _ _ _ _ _ _ _ 5 _ []
  refine xi_aload_n (by decide +kernel : decode mX10_ahead.2.1 5 = .ok (.aload_n 0, 1)) rfl rfl (?_ : XW _ _ _ _ _ _ _ 6 _ _)
  refine xi_iload_n (by decide +kernel : decode mX10_ahead.2.1 6 = .ok (.iload_n 2, 1)) rfl rfl (?_ : XW _ _ _ _ _ _ _ 7 _ _)
  refine xi_iconst (v := 0) (by decide +kernel : decode mX10_ahead.2.1 7 = .ok (.iconst 0, 1)) (by decide) (?_ : XW _ _ _ _ _ _ _ 8 _ _)
  obtain ⟨Q1, X1, sp, tx, vc⟩ := vc
  refine xi_callVX (b := 0) (bs := 0) (As := [.int n, .int 0]) (st := []) (by decide +kernel : decode mX10_ahead.2.1 8 = .ok (.invokevirtual 298, 3)) kX10_298 rfl rfl (by omega) rfl sp (by decide) (by decide) (Nat.le_of_ble_eq_true rfl) (by omega) rfl tx (fun v9 h2 hq9 => ?_)
  obtain ⟨e9, vc⟩ := vc v9 h2 hq9
  subst e9
  show XW _ _ _ _ _ _ _ 11 _ []
  refine xi_aload_n (by decide +kernel : decode mX10_ahead.2.1 11 = .ok (.aload_n 0, 1)) rfl rfl (?_ : XW _ _ _ _ _ _ _ 12 _ _)
  obtain ⟨s1, vc⟩ := vc
  refine xi_getR (y := 49) (by decide +kernel : decode mX10_ahead.2.1 12 = .ok (.getfield 80, 3)) fX10_80 rfl (by omega) rfl s1 (?_ : XW _ _ _ _ _ _ _ 15 _ _)
  refine xi_aload_n (by decide +kernel : decode mX10_ahead.2.1 15 = .ok (.aload_n 0, 1)) rfl rfl (?_ : XW _ _ _ _ _ _ _ 16 _ _)
  obtain ⟨s1, vc⟩ := vc
  refine xi_getR (y := r) (by decide +kernel : decode mX10_ahead.2.1 16 = .ok (.getfield 23, 3)) fX10_23 rfl (by omega) rfl s1 (?_ : XW _ _ _ _ _ _ _ 19 _ _)
  refine xi_aload_n (by decide +kernel : decode mX10_ahead.2.1 19 = .ok (.aload_n 0, 1)) rfl rfl (?_ : XW _ _ _ _ _ _ _ 20 _ _)
  obtain ⟨s1, vc⟩ := vc
  refine xi_getR (y := 21) (by decide +kernel : decode mX10_ahead.2.1 20 = .ok (.getfield 39, 3)) fX10_39 rfl (by omega) rfl s1 (?_ : XW _ _ _ _ _ _ _ 23 _ _)
  refine xi_iload_n (by decide +kernel : decode mX10_ahead.2.1 23 = .ok (.iload_n 2, 1)) rfl rfl (?_ : XW _ _ _ _ _ _ _ 24 _ _)
  obtain ⟨Q1, sp, vc⟩ := vc
  refine xi_callV (b := 0) (bs := 0) (As := [.ref r, .ref 21, .int n]) (st := []) (by decide +kernel : decode mX10_ahead.2.1 24 = .ok (.invokevirtual 301, 3)) kX10_301 rfl rfl (by omega) rfl sp (by decide) (by decide) (Nat.le_of_ble_eq_true rfl) (by omega) (fun v9 h3 hq9 => ?_)
  obtain ⟨e9, vc⟩ := vc v9 h3 hq9
  subst e9
  show XW _ _ _ _ _ _ _ 27 _ []
  refine xi_aload_n (by decide +kernel : decode mX10_ahead.2.1 27 = .ok (.aload_n 0, 1)) rfl rfl (?_ : XW _ _ _ _ _ _ _ 28 _ _)
  obtain ⟨s1, vc⟩ := vc
  refine xi_getR (y := 49) (by decide +kernel : decode mX10_ahead.2.1 28 = .ok (.getfield 80, 3)) fX10_80 rfl (by omega) rfl s1 (?_ : XW _ _ _ _ _ _ _ 31 _ _)
  refine xi_iload_n (by decide +kernel : decode mX10_ahead.2.1 31 = .ok (.iload_n 1, 1)) rfl rfl (?_ : XW _ _ _ _ _ _ _ 32 _ _)
  obtain ⟨Q1, sp, vc⟩ := vc
  refine xi_callV (b := 0) (bs := 0) (As := [.int q]) (st := []) (by decide +kernel : decode mX10_ahead.2.1 32 = .ok (.invokevirtual 304, 3)) kX10_304 rfl rfl (by omega) rfl sp (by decide) (by decide) (Nat.le_of_ble_eq_true rfl) (by omega) (fun v9 h4 hq9 => ?_)
  obtain ⟨r4, e9, vc⟩ := vc v9 h4 hq9
  subst e9
  show XW _ _ _ _ _ _ _ 35 _ [.long r4]
  exact xi_lret (by decide +kernel : decode mX10_ahead.2.1 35 = .ok (.lreturn, 1)) rfl vc

set_option maxRecDepth 20000 in
theorem v_X10_choose_0 {h : XH} {Q : Option Value → XH → Prop} {X : String → XH → Prop} (r : Nat) (hbp : BP r h)  (q : Int32) (o : Int32) (t : Int32) (n : Int32)
    (vc : ∃ Q1 X1, XSpec mX10_needSquare 7 1 6 100 100 [.ref 0, .int q] h Q1 X1 ∧ (∀ E9 h9, X1 E9 h9 → X E9 h9) ∧ ∀ v h1, Q1 v h1 → v = none ∧ (∃ Q1 X1, XSpec mX10_needFace 7 1 6 100 100 [.ref 0, .int o] h1 Q1 X1 ∧ (∀ E9 h9, X1 E9 h9 → X E9 h9) ∧ ∀ v h2, Q1 v h2 → v = none ∧ (∃ Q1 X1, XSpec mX10_needFace 7 1 6 100 100 [.ref 0, .int t] h2 Q1 X1 ∧ (∀ E9 h9, X1 E9 h9 → X E9 h9) ∧ ∀ v h3, Q1 v h3 → v = none ∧ (∃ Q1 X1, XSpec mX10_needToCome 7 1 6 100 100 [.ref 0, .int n, .int 1] h3 Q1 X1 ∧ (∀ E9 h9, X1 E9 h9 → X E9 h9) ∧ ∀ v h4, Q1 v h4 → v = none ∧ ((xP h4 0 13 = some 49) ∧ ((xP h4 0 3 = some r) ∧ ((xP h4 0 5 = some 21) ∧ (∃ Q1, XSpec mX1_lookAhead 3 0 0 100 100 [.ref 49, .ref r, .ref 21, .int (n - 1)] h4 Q1 xno ∧ ∀ v h5, Q1 v h5 → v = none ∧ ((xP h5 0 13 = some 49) ∧ ((xP h5 0 5 = some 21) ∧ (∃ Q1, XSpec mX3_to 1 0 0 100 100 [.ref 21, .int q, .int t] h5 Q1 xno ∧ ∀ v h6, Q1 v h6 → ∃ r6 : Int32, v = some (.int r6) ∧ (∃ Q1, XSpec mX1_at 1 0 0 100 100 [.ref 49, .int r6] h6 Q1 xno ∧ ∀ v h7, Q1 v h7 → ∃ r7 : Int64, v = some (.long r7) ∧ ((xP h7 0 13 = some 49) ∧ ((xP h7 0 5 = some 21) ∧ (∃ Q1, XSpec mX3_to 1 0 0 100 100 [.ref 21, .int q, .int o] h7 Q1 xno ∧ ∀ v h8, Q1 v h8 → ∃ r8 : Int32, v = some (.int r8) ∧ (∃ Q1, XSpec mX1_at 1 0 0 100 100 [.ref 49, .int r8] h8 Q1 xno ∧ ∀ v h9, Q1 v h9 → ∃ r9 : Int64, v = some (.long r9) ∧ ((0 ≤ (lg_cmp r7 r9) → Q (some (.int o)) h9) ∧ (¬ 0 ≤ (lg_cmp r7 r9) → Q (some (.int t)) h9)))))))))))))))))) :
    XW (xrm 8 4 24) mX10_choose (xE 100 Q X 4 24) 100 4 24 h 0 [some (.ref 0), some (.int q), some (.int o), some (.int t), some (.int n)] [] := by
  obtain ⟨hb, hr, hnr, ha21, ha25, hu29, hu34, hw, hnt, hwr⟩ := hbp
  refine xi_aload_n (by decide +kernel : decode mX10_choose.2.1 0 = .ok (.aload_n 0, 1)) rfl rfl (?_ : XW _ _ _ _ _ _ _ 1 _ _)
  refine xi_iload_n (by decide +kernel : decode mX10_choose.2.1 1 = .ok (.iload_n 1, 1)) rfl rfl (?_ : XW _ _ _ _ _ _ _ 2 _ _)
  obtain ⟨Q1, X1, sp, tx, vc⟩ := vc
  refine xi_callVX (b := 3) (bs := 18) (As := [.int q]) (st := []) (by decide +kernel : decode mX10_choose.2.1 2 = .ok (.invokevirtual 184, 3)) kX10_184 rfl rfl (by omega) rfl sp (by decide) (by decide) (Nat.le_of_ble_eq_true rfl) (by omega) rfl tx (fun v9 h1 hq9 => ?_)
  obtain ⟨e9, vc⟩ := vc v9 h1 hq9
  subst e9
  show XW _ _ _ _ _ _ _ 5 _ []
  refine xi_aload_n (by decide +kernel : decode mX10_choose.2.1 5 = .ok (.aload_n 0, 1)) rfl rfl (?_ : XW _ _ _ _ _ _ _ 6 _ _)
  refine xi_iload_n (by decide +kernel : decode mX10_choose.2.1 6 = .ok (.iload_n 2, 1)) rfl rfl (?_ : XW _ _ _ _ _ _ _ 7 _ _)
  obtain ⟨Q1, X1, sp, tx, vc⟩ := vc
  refine xi_callVX (b := 2) (bs := 12) (As := [.int o]) (st := []) (by decide +kernel : decode mX10_choose.2.1 7 = .ok (.invokevirtual 187, 3)) kX10_187 rfl rfl (by omega) rfl sp (by decide) (by decide) (Nat.le_of_ble_eq_true rfl) (by omega) rfl tx (fun v9 h2 hq9 => ?_)
  obtain ⟨e9, vc⟩ := vc v9 h2 hq9
  subst e9
  show XW _ _ _ _ _ _ _ 10 _ []
  refine xi_aload_n (by decide +kernel : decode mX10_choose.2.1 10 = .ok (.aload_n 0, 1)) rfl rfl (?_ : XW _ _ _ _ _ _ _ 11 _ _)
  refine xi_iload_n (by decide +kernel : decode mX10_choose.2.1 11 = .ok (.iload_n 3, 1)) rfl rfl (?_ : XW _ _ _ _ _ _ _ 12 _ _)
  obtain ⟨Q1, X1, sp, tx, vc⟩ := vc
  refine xi_callVX (b := 1) (bs := 6) (As := [.int t]) (st := []) (by decide +kernel : decode mX10_choose.2.1 12 = .ok (.invokevirtual 187, 3)) kX10_187 rfl rfl (by omega) rfl sp (by decide) (by decide) (Nat.le_of_ble_eq_true rfl) (by omega) rfl tx (fun v9 h3 hq9 => ?_)
  obtain ⟨e9, vc⟩ := vc v9 h3 hq9
  subst e9
  show XW _ _ _ _ _ _ _ 15 _ []
  refine xi_aload_n (by decide +kernel : decode mX10_choose.2.1 15 = .ok (.aload_n 0, 1)) rfl rfl (?_ : XW _ _ _ _ _ _ _ 16 _ _)
  refine xi_iload (by decide +kernel : decode mX10_choose.2.1 16 = .ok (.iload 4, 2)) rfl (?_ : XW _ _ _ _ _ _ _ 18 _ _)
  refine xi_iconst (v := 1) (by decide +kernel : decode mX10_choose.2.1 18 = .ok (.iconst 1, 1)) (by decide) (?_ : XW _ _ _ _ _ _ _ 19 _ _)
  obtain ⟨Q1, X1, sp, tx, vc⟩ := vc
  refine xi_callVX (b := 0) (bs := 0) (As := [.int n, .int 1]) (st := []) (by decide +kernel : decode mX10_choose.2.1 19 = .ok (.invokevirtual 298, 3)) kX10_298 rfl rfl (by omega) rfl sp (by decide) (by decide) (Nat.le_of_ble_eq_true rfl) (by omega) rfl tx (fun v9 h4 hq9 => ?_)
  obtain ⟨e9, vc⟩ := vc v9 h4 hq9
  subst e9
  show XW _ _ _ _ _ _ _ 22 _ []
  refine xi_aload_n (by decide +kernel : decode mX10_choose.2.1 22 = .ok (.aload_n 0, 1)) rfl rfl (?_ : XW _ _ _ _ _ _ _ 23 _ _)
  obtain ⟨s1, vc⟩ := vc
  refine xi_getR (y := 49) (by decide +kernel : decode mX10_choose.2.1 23 = .ok (.getfield 80, 3)) fX10_80 rfl (by omega) rfl s1 (?_ : XW _ _ _ _ _ _ _ 26 _ _)
  refine xi_aload_n (by decide +kernel : decode mX10_choose.2.1 26 = .ok (.aload_n 0, 1)) rfl rfl (?_ : XW _ _ _ _ _ _ _ 27 _ _)
  obtain ⟨s1, vc⟩ := vc
  refine xi_getR (y := r) (by decide +kernel : decode mX10_choose.2.1 27 = .ok (.getfield 23, 3)) fX10_23 rfl (by omega) rfl s1 (?_ : XW _ _ _ _ _ _ _ 30 _ _)
  refine xi_aload_n (by decide +kernel : decode mX10_choose.2.1 30 = .ok (.aload_n 0, 1)) rfl rfl (?_ : XW _ _ _ _ _ _ _ 31 _ _)
  obtain ⟨s1, vc⟩ := vc
  refine xi_getR (y := 21) (by decide +kernel : decode mX10_choose.2.1 31 = .ok (.getfield 39, 3)) fX10_39 rfl (by omega) rfl s1 (?_ : XW _ _ _ _ _ _ _ 34 _ _)
  refine xi_iload (by decide +kernel : decode mX10_choose.2.1 34 = .ok (.iload 4, 2)) rfl (?_ : XW _ _ _ _ _ _ _ 36 _ _)
  refine xi_iconst (v := 1) (by decide +kernel : decode mX10_choose.2.1 36 = .ok (.iconst 1, 1)) (by decide) (?_ : XW _ _ _ _ _ _ _ 37 _ _)
  refine xi_isub (by decide +kernel : decode mX10_choose.2.1 37 = .ok (.isub, 1)) (?_ : XW _ _ _ _ _ _ _ 38 _ _)
  obtain ⟨Q1, sp, vc⟩ := vc
  refine xi_callV (b := 0) (bs := 0) (As := [.ref r, .ref 21, .int (n - 1)]) (st := []) (by decide +kernel : decode mX10_choose.2.1 38 = .ok (.invokevirtual 301, 3)) kX10_301 rfl rfl (by omega) rfl sp (by decide) (by decide) (Nat.le_of_ble_eq_true rfl) (by omega) (fun v9 h5 hq9 => ?_)
  obtain ⟨e9, vc⟩ := vc v9 h5 hq9
  subst e9
  show XW _ _ _ _ _ _ _ 41 _ []
  refine xi_aload_n (by decide +kernel : decode mX10_choose.2.1 41 = .ok (.aload_n 0, 1)) rfl rfl (?_ : XW _ _ _ _ _ _ _ 42 _ _)
  obtain ⟨s1, vc⟩ := vc
  refine xi_getR (y := 49) (by decide +kernel : decode mX10_choose.2.1 42 = .ok (.getfield 80, 3)) fX10_80 rfl (by omega) rfl s1 (?_ : XW _ _ _ _ _ _ _ 45 _ _)
  refine xi_aload_n (by decide +kernel : decode mX10_choose.2.1 45 = .ok (.aload_n 0, 1)) rfl rfl (?_ : XW _ _ _ _ _ _ _ 46 _ _)
  obtain ⟨s1, vc⟩ := vc
  refine xi_getR (y := 21) (by decide +kernel : decode mX10_choose.2.1 46 = .ok (.getfield 39, 3)) fX10_39 rfl (by omega) rfl s1 (?_ : XW _ _ _ _ _ _ _ 49 _ _)
  refine xi_iload_n (by decide +kernel : decode mX10_choose.2.1 49 = .ok (.iload_n 1, 1)) rfl rfl (?_ : XW _ _ _ _ _ _ _ 50 _ _)
  refine xi_iload_n (by decide +kernel : decode mX10_choose.2.1 50 = .ok (.iload_n 3, 1)) rfl rfl (?_ : XW _ _ _ _ _ _ _ 51 _ _)
  obtain ⟨Q1, sp, vc⟩ := vc
  refine xi_callV (b := 0) (bs := 0) (As := [.int q, .int t]) (st := [.ref 49]) (by decide +kernel : decode mX10_choose.2.1 51 = .ok (.invokevirtual 190, 3)) kX10_190 rfl rfl (by omega) rfl sp (by decide) (by decide) (Nat.le_of_ble_eq_true rfl) (by omega) (fun v9 h6 hq9 => ?_)
  obtain ⟨r6, e9, vc⟩ := vc v9 h6 hq9
  subst e9
  show XW _ _ _ _ _ _ _ 54 _ [.int r6, .ref 49]
  obtain ⟨Q1, sp, vc⟩ := vc
  refine xi_callV (b := 0) (bs := 0) (As := [.int r6]) (st := []) (by decide +kernel : decode mX10_choose.2.1 54 = .ok (.invokevirtual 304, 3)) kX10_304 rfl rfl (by omega) rfl sp (by decide) (by decide) (Nat.le_of_ble_eq_true rfl) (by omega) (fun v9 h7 hq9 => ?_)
  obtain ⟨r7, e9, vc⟩ := vc v9 h7 hq9
  subst e9
  show XW _ _ _ _ _ _ _ 57 _ [.long r7]
  refine xi_aload_n (by decide +kernel : decode mX10_choose.2.1 57 = .ok (.aload_n 0, 1)) rfl rfl (?_ : XW _ _ _ _ _ _ _ 58 _ _)
  obtain ⟨s1, vc⟩ := vc
  refine xi_getR (y := 49) (by decide +kernel : decode mX10_choose.2.1 58 = .ok (.getfield 80, 3)) fX10_80 rfl (by omega) rfl s1 (?_ : XW _ _ _ _ _ _ _ 61 _ _)
  refine xi_aload_n (by decide +kernel : decode mX10_choose.2.1 61 = .ok (.aload_n 0, 1)) rfl rfl (?_ : XW _ _ _ _ _ _ _ 62 _ _)
  obtain ⟨s1, vc⟩ := vc
  refine xi_getR (y := 21) (by decide +kernel : decode mX10_choose.2.1 62 = .ok (.getfield 39, 3)) fX10_39 rfl (by omega) rfl s1 (?_ : XW _ _ _ _ _ _ _ 65 _ _)
  refine xi_iload_n (by decide +kernel : decode mX10_choose.2.1 65 = .ok (.iload_n 1, 1)) rfl rfl (?_ : XW _ _ _ _ _ _ _ 66 _ _)
  refine xi_iload_n (by decide +kernel : decode mX10_choose.2.1 66 = .ok (.iload_n 2, 1)) rfl rfl (?_ : XW _ _ _ _ _ _ _ 67 _ _)
  obtain ⟨Q1, sp, vc⟩ := vc
  refine xi_callV (b := 0) (bs := 0) (As := [.int q, .int o]) (st := [.ref 49, .long r7]) (by decide +kernel : decode mX10_choose.2.1 67 = .ok (.invokevirtual 190, 3)) kX10_190 rfl rfl (by omega) rfl sp (by decide) (by decide) (Nat.le_of_ble_eq_true rfl) (by omega) (fun v9 h8 hq9 => ?_)
  obtain ⟨r8, e9, vc⟩ := vc v9 h8 hq9
  subst e9
  show XW _ _ _ _ _ _ _ 70 _ [.int r8, .ref 49, .long r7]
  obtain ⟨Q1, sp, vc⟩ := vc
  refine xi_callV (b := 0) (bs := 0) (As := [.int r8]) (st := [.long r7]) (by decide +kernel : decode mX10_choose.2.1 70 = .ok (.invokevirtual 304, 3)) kX10_304 rfl rfl (by omega) rfl sp (by decide) (by decide) (Nat.le_of_ble_eq_true rfl) (by omega) (fun v9 h9 hq9 => ?_)
  obtain ⟨r9, e9, vc⟩ := vc v9 h9 hq9
  subst e9
  show XW _ _ _ _ _ _ _ 73 _ [.long r9, .long r7]
  refine xi_lcmp (by decide +kernel : decode mX10_choose.2.1 73 = .ok (.lcmp, 1)) (?_ : XW _ _ _ _ _ _ _ 74 _ _)
  refine xi_if_ge (by decide +kernel : decode mX10_choose.2.1 74 = .ok (.ifCond .ge 7, 3)) (by decide) (fun c => (?_ : XW _ _ _ _ _ _ _ 81 _ _)) (fun c => (?_ : XW _ _ _ _ _ _ _ 77 _ _))
  · replace vc := vc.1 c
    refine xi_iload_n (by decide +kernel : decode mX10_choose.2.1 81 = .ok (.iload_n 2, 1)) rfl rfl (?_ : XW _ _ _ _ _ _ _ 82 _ _)
    exact xi_iret (by decide +kernel : decode mX10_choose.2.1 82 = .ok (.ireturn, 1)) rfl rfl vc
  · replace vc := vc.2 c
    refine xi_iload_n (by decide +kernel : decode mX10_choose.2.1 77 = .ok (.iload_n 3, 1)) rfl rfl (?_ : XW _ _ _ _ _ _ _ 78 _ _)
    refine xi_goto (by decide +kernel : decode mX10_choose.2.1 78 = .ok (.goto 4, 3)) (by decide) (?_ : XW _ _ _ _ _ _ _ 82 _ _)
    exact xi_iret (by decide +kernel : decode mX10_choose.2.1 82 = .ok (.ireturn, 1)) rfl rfl vc

set_option maxRecDepth 20000 in
theorem v_X10_together_0 {h : XH} {Q : Option Value → XH → Prop} {X : String → XH → Prop} (r : Nat) (hbp : BP r h)  (o : Int32) (t : Int32) (n : Int32)
    (vc : ∃ Q1 X1, XSpec mX10_needSquare 7 1 6 100 100 [.ref 0, .int o] h Q1 X1 ∧ (∀ E9 h9, X1 E9 h9 → X E9 h9) ∧ ∀ v h1, Q1 v h1 → v = none ∧ (∃ Q1 X1, XSpec mX10_needSquare 7 1 6 100 100 [.ref 0, .int t] h1 Q1 X1 ∧ (∀ E9 h9, X1 E9 h9 → X E9 h9) ∧ ∀ v h2, Q1 v h2 → v = none ∧ (∃ Q1 X1, XSpec mX10_needToCome 7 1 6 100 100 [.ref 0, .int n, .int 0] h2 Q1 X1 ∧ (∀ E9 h9, X1 E9 h9 → X E9 h9) ∧ ∀ v h3, Q1 v h3 → v = none ∧ (∃ Q1, XSpec mX10_isSpent 1 0 0 100 100 [.ref 0, .int n] h3 Q1 xno ∧ ∀ v h4, Q1 v h4 → ∃ r4 : Int32, v = some (.int r4) ∧ ((r4 = 0 → (xP h4 0 13 = some 49) ∧ ((xP h4 0 3 = some r) ∧ ((xP h4 0 5 = some 21) ∧ (∃ Q1, XSpec mX1_lookTogether 5 0 0 100 100 [.ref 49, .ref r, .ref 21, .int n] h4 Q1 xno ∧ ∀ v h5, Q1 v h5 → v = none ∧ ((xP h5 0 13 = some 49) ∧ (∃ Q1, XSpec mX1_atBoth 3 0 0 100 100 [.ref 49, .int o, .int t] h5 Q1 xno ∧ ∀ v h6, Q1 v h6 → ∃ r6 : Int64, v = some (.long r6) ∧ (Q (some (.long r6)) h6))))))) ∧ (¬ r4 = 0 → Q (some (.long (-2))) h4)))))) :
    XW (xrm 8 3 18) mX10_together (xE 100 Q X 3 18) 100 3 18 h 0 [some (.ref 0), some (.int o), some (.int t), some (.int n)] [] := by
  obtain ⟨hb, hr, hnr, ha21, ha25, hu29, hu34, hw, hnt, hwr⟩ := hbp
  refine xi_aload_n (by decide +kernel : decode mX10_together.2.1 0 = .ok (.aload_n 0, 1)) rfl rfl (?_ : XW _ _ _ _ _ _ _ 1 _ _)
  refine xi_iload_n (by decide +kernel : decode mX10_together.2.1 1 = .ok (.iload_n 1, 1)) rfl rfl (?_ : XW _ _ _ _ _ _ _ 2 _ _)
  obtain ⟨Q1, X1, sp, tx, vc⟩ := vc
  refine xi_callVX (b := 2) (bs := 12) (As := [.int o]) (st := []) (by decide +kernel : decode mX10_together.2.1 2 = .ok (.invokevirtual 184, 3)) kX10_184 rfl rfl (by omega) rfl sp (by decide) (by decide) (Nat.le_of_ble_eq_true rfl) (by omega) rfl tx (fun v9 h1 hq9 => ?_)
  obtain ⟨e9, vc⟩ := vc v9 h1 hq9
  subst e9
  show XW _ _ _ _ _ _ _ 5 _ []
  refine xi_aload_n (by decide +kernel : decode mX10_together.2.1 5 = .ok (.aload_n 0, 1)) rfl rfl (?_ : XW _ _ _ _ _ _ _ 6 _ _)
  refine xi_iload_n (by decide +kernel : decode mX10_together.2.1 6 = .ok (.iload_n 2, 1)) rfl rfl (?_ : XW _ _ _ _ _ _ _ 7 _ _)
  obtain ⟨Q1, X1, sp, tx, vc⟩ := vc
  refine xi_callVX (b := 1) (bs := 6) (As := [.int t]) (st := []) (by decide +kernel : decode mX10_together.2.1 7 = .ok (.invokevirtual 184, 3)) kX10_184 rfl rfl (by omega) rfl sp (by decide) (by decide) (Nat.le_of_ble_eq_true rfl) (by omega) rfl tx (fun v9 h2 hq9 => ?_)
  obtain ⟨e9, vc⟩ := vc v9 h2 hq9
  subst e9
  show XW _ _ _ _ _ _ _ 10 _ []
  refine xi_aload_n (by decide +kernel : decode mX10_together.2.1 10 = .ok (.aload_n 0, 1)) rfl rfl (?_ : XW _ _ _ _ _ _ _ 11 _ _)
  refine xi_iload_n (by decide +kernel : decode mX10_together.2.1 11 = .ok (.iload_n 3, 1)) rfl rfl (?_ : XW _ _ _ _ _ _ _ 12 _ _)
  refine xi_iconst (v := 0) (by decide +kernel : decode mX10_together.2.1 12 = .ok (.iconst 0, 1)) (by decide) (?_ : XW _ _ _ _ _ _ _ 13 _ _)
  obtain ⟨Q1, X1, sp, tx, vc⟩ := vc
  refine xi_callVX (b := 0) (bs := 0) (As := [.int n, .int 0]) (st := []) (by decide +kernel : decode mX10_together.2.1 13 = .ok (.invokevirtual 298, 3)) kX10_298 rfl rfl (by omega) rfl sp (by decide) (by decide) (Nat.le_of_ble_eq_true rfl) (by omega) rfl tx (fun v9 h3 hq9 => ?_)
  obtain ⟨e9, vc⟩ := vc v9 h3 hq9
  subst e9
  show XW _ _ _ _ _ _ _ 16 _ []
  refine xi_aload_n (by decide +kernel : decode mX10_together.2.1 16 = .ok (.aload_n 0, 1)) rfl rfl (?_ : XW _ _ _ _ _ _ _ 17 _ _)
  refine xi_iload_n (by decide +kernel : decode mX10_together.2.1 17 = .ok (.iload_n 3, 1)) rfl rfl (?_ : XW _ _ _ _ _ _ _ 18 _ _)
  obtain ⟨Q1, sp, vc⟩ := vc
  refine xi_callV (b := 0) (bs := 0) (As := [.int n]) (st := []) (by decide +kernel : decode mX10_together.2.1 18 = .ok (.invokevirtual 287, 3)) kX10_287 rfl rfl (by omega) rfl sp (by decide) (by decide) (Nat.le_of_ble_eq_true rfl) (by omega) (fun v9 h4 hq9 => ?_)
  obtain ⟨r4, e9, vc⟩ := vc v9 h4 hq9
  subst e9
  show XW _ _ _ _ _ _ _ 21 _ [.int r4]
  refine xi_if_eq (by decide +kernel : decode mX10_together.2.1 21 = .ok (.ifCond .eq 7, 3)) (by decide) (fun c => (?_ : XW _ _ _ _ _ _ _ 28 _ _)) (fun c => (?_ : XW _ _ _ _ _ _ _ 24 _ _))
  · replace vc := vc.1 c
    refine xi_aload_n (by decide +kernel : decode mX10_together.2.1 28 = .ok (.aload_n 0, 1)) rfl rfl (?_ : XW _ _ _ _ _ _ _ 29 _ _)
    obtain ⟨s1, vc⟩ := vc
    refine xi_getR (y := 49) (by decide +kernel : decode mX10_together.2.1 29 = .ok (.getfield 80, 3)) fX10_80 rfl (by omega) rfl s1 (?_ : XW _ _ _ _ _ _ _ 32 _ _)
    refine xi_aload_n (by decide +kernel : decode mX10_together.2.1 32 = .ok (.aload_n 0, 1)) rfl rfl (?_ : XW _ _ _ _ _ _ _ 33 _ _)
    obtain ⟨s1, vc⟩ := vc
    refine xi_getR (y := r) (by decide +kernel : decode mX10_together.2.1 33 = .ok (.getfield 23, 3)) fX10_23 rfl (by omega) rfl s1 (?_ : XW _ _ _ _ _ _ _ 36 _ _)
    refine xi_aload_n (by decide +kernel : decode mX10_together.2.1 36 = .ok (.aload_n 0, 1)) rfl rfl (?_ : XW _ _ _ _ _ _ _ 37 _ _)
    obtain ⟨s1, vc⟩ := vc
    refine xi_getR (y := 21) (by decide +kernel : decode mX10_together.2.1 37 = .ok (.getfield 39, 3)) fX10_39 rfl (by omega) rfl s1 (?_ : XW _ _ _ _ _ _ _ 40 _ _)
    refine xi_iload_n (by decide +kernel : decode mX10_together.2.1 40 = .ok (.iload_n 3, 1)) rfl rfl (?_ : XW _ _ _ _ _ _ _ 41 _ _)
    obtain ⟨Q1, sp, vc⟩ := vc
    refine xi_callV (b := 0) (bs := 0) (As := [.ref r, .ref 21, .int n]) (st := []) (by decide +kernel : decode mX10_together.2.1 41 = .ok (.invokevirtual 345, 3)) kX10_345 rfl rfl (by omega) rfl sp (by decide) (by decide) (Nat.le_of_ble_eq_true rfl) (by omega) (fun v9 h5 hq9 => ?_)
    obtain ⟨e9, vc⟩ := vc v9 h5 hq9
    subst e9
    show XW _ _ _ _ _ _ _ 44 _ []
    refine xi_aload_n (by decide +kernel : decode mX10_together.2.1 44 = .ok (.aload_n 0, 1)) rfl rfl (?_ : XW _ _ _ _ _ _ _ 45 _ _)
    obtain ⟨s1, vc⟩ := vc
    refine xi_getR (y := 49) (by decide +kernel : decode mX10_together.2.1 45 = .ok (.getfield 80, 3)) fX10_80 rfl (by omega) rfl s1 (?_ : XW _ _ _ _ _ _ _ 48 _ _)
    refine xi_iload_n (by decide +kernel : decode mX10_together.2.1 48 = .ok (.iload_n 1, 1)) rfl rfl (?_ : XW _ _ _ _ _ _ _ 49 _ _)
    refine xi_iload_n (by decide +kernel : decode mX10_together.2.1 49 = .ok (.iload_n 2, 1)) rfl rfl (?_ : XW _ _ _ _ _ _ _ 50 _ _)
    obtain ⟨Q1, sp, vc⟩ := vc
    refine xi_callV (b := 0) (bs := 0) (As := [.int o, .int t]) (st := []) (by decide +kernel : decode mX10_together.2.1 50 = .ok (.invokevirtual 348, 3)) kX10_348 rfl rfl (by omega) rfl sp (by decide) (by decide) (Nat.le_of_ble_eq_true rfl) (by omega) (fun v9 h6 hq9 => ?_)
    obtain ⟨r6, e9, vc⟩ := vc v9 h6 hq9
    subst e9
    show XW _ _ _ _ _ _ _ 53 _ [.long r6]
    exact xi_lret (by decide +kernel : decode mX10_together.2.1 53 = .ok (.lreturn, 1)) rfl vc
  · replace vc := vc.2 c
    refine xi_ldc2 (v := (-2)) (by decide +kernel : decode mX10_together.2.1 24 = .ok (.ldc2_w 343, 3)) cK_X10_343 (?_ : XW _ _ _ _ _ _ _ 27 _ _)
    exact xi_lret (by decide +kernel : decode mX10_together.2.1 27 = .ok (.lreturn, 1)) rfl vc

set_option maxRecDepth 20000 in
theorem v_X10_whom_0 {h : XH} {Q : Option Value → XH → Prop} {X : String → XH → Prop} (r : Nat) (hbp : BP r h)  (o : Int32) (t : Int32) (f : Int32) (n : Int32)
    (vc : ∃ Q1 X1, XSpec mX10_needSquare 7 1 6 100 100 [.ref 0, .int o] h Q1 X1 ∧ (∀ E9 h9, X1 E9 h9 → X E9 h9) ∧ ∀ v h1, Q1 v h1 → v = none ∧ (∃ Q1 X1, XSpec mX10_needSquare 7 1 6 100 100 [.ref 0, .int t] h1 Q1 X1 ∧ (∀ E9 h9, X1 E9 h9 → X E9 h9) ∧ ∀ v h2, Q1 v h2 → v = none ∧ (∃ Q1 X1, XSpec mX10_needFace 7 1 6 100 100 [.ref 0, .int f] h2 Q1 X1 ∧ (∀ E9 h9, X1 E9 h9 → X E9 h9) ∧ ∀ v h3, Q1 v h3 → v = none ∧ (∃ Q1 X1, XSpec mX10_needToCome 7 1 6 100 100 [.ref 0, .int n, .int 1] h3 Q1 X1 ∧ (∀ E9 h9, X1 E9 h9 → X E9 h9) ∧ ∀ v h4, Q1 v h4 → v = none ∧ (∃ Q1, XSpec mX10_isSpent 1 0 0 100 100 [.ref 0, .int n] h4 Q1 xno ∧ ∀ v h5, Q1 v h5 → ∃ r5 : Int32, v = some (.int r5) ∧ ((r5 = 0 → (xP h5 0 3 = some r) ∧ ((¬ o = (xI h5 r 0) → (xP h5 0 3 = some r) ∧ ((¬ t = (xI h5 r 0) → (xP h5 0 13 = some 49) ∧ ((xP h5 0 3 = some r) ∧ ((xP h5 0 5 = some 21) ∧ (∃ Q1, XSpec mX1_lookTogether 5 0 0 100 100 [.ref 49, .ref r, .ref 21, .int (n - 1)] h5 Q1 xno ∧ ∀ v h6, Q1 v h6 → v = none ∧ ((xP h6 0 13 = some 49) ∧ ((xP h6 0 5 = some 21) ∧ (∃ Q1, XSpec mX3_to 1 0 0 100 100 [.ref 21, .int o, .int f] h6 Q1 xno ∧ ∀ v h7, Q1 v h7 → ∃ r7 : Int32, v = some (.int r7) ∧ (∃ Q1, XSpec mX1_atBoth 3 0 0 100 100 [.ref 49, .int r7, .int t] h7 Q1 xno ∧ ∀ v h8, Q1 v h8 → ∃ r8 : Int64, v = some (.long r8) ∧ ((xP h8 0 13 = some 49) ∧ ((xP h8 0 5 = some 21) ∧ (∃ Q1, XSpec mX3_to 1 0 0 100 100 [.ref 21, .int t, .int f] h8 Q1 xno ∧ ∀ v h9, Q1 v h9 → ∃ r9 : Int32, v = some (.int r9) ∧ (∃ Q1, XSpec mX1_atBoth 3 0 0 100 100 [.ref 49, .int o, .int r9] h9 Q1 xno ∧ ∀ v h10, Q1 v h10 → ∃ r10 : Int64, v = some (.long r10) ∧ ((0 ≤ (lg_cmp r10 r8) → Q (some (.int 0)) h10) ∧ (¬ 0 ≤ (lg_cmp r10 r8) → Q (some (.int 1)) h10)))))))))))))) ∧ (t = (xI h5 r 0) → Q (some (.int 0)) h5))) ∧ (o = (xI h5 r 0) → (xP h5 0 3 = some r) ∧ ((¬ t = (xI h5 r 0) → Q (some (.int 1)) h5) ∧ (t = (xI h5 r 0) → Q (some (.int (-1))) h5))))) ∧ (¬ r5 = 0 → Q (some (.int (-2))) h5))))))) :
    XW (xrm 8 4 24) mX10_whom (xE 100 Q X 4 24) 100 4 24 h 0 [some (.ref 0), some (.int o), some (.int t), some (.int f), some (.int n), none, none, none, none] [] := by
  obtain ⟨hb, hr, hnr, ha21, ha25, hu29, hu34, hw, hnt, hwr⟩ := hbp
  refine xi_aload_n (by decide +kernel : decode mX10_whom.2.1 0 = .ok (.aload_n 0, 1)) rfl rfl (?_ : XW _ _ _ _ _ _ _ 1 _ _)
  refine xi_iload_n (by decide +kernel : decode mX10_whom.2.1 1 = .ok (.iload_n 1, 1)) rfl rfl (?_ : XW _ _ _ _ _ _ _ 2 _ _)
  obtain ⟨Q1, X1, sp, tx, vc⟩ := vc
  refine xi_callVX (b := 3) (bs := 18) (As := [.int o]) (st := []) (by decide +kernel : decode mX10_whom.2.1 2 = .ok (.invokevirtual 184, 3)) kX10_184 rfl rfl (by omega) rfl sp (by decide) (by decide) (Nat.le_of_ble_eq_true rfl) (by omega) rfl tx (fun v9 h1 hq9 => ?_)
  obtain ⟨e9, vc⟩ := vc v9 h1 hq9
  subst e9
  show XW _ _ _ _ _ _ _ 5 _ []
  refine xi_aload_n (by decide +kernel : decode mX10_whom.2.1 5 = .ok (.aload_n 0, 1)) rfl rfl (?_ : XW _ _ _ _ _ _ _ 6 _ _)
  refine xi_iload_n (by decide +kernel : decode mX10_whom.2.1 6 = .ok (.iload_n 2, 1)) rfl rfl (?_ : XW _ _ _ _ _ _ _ 7 _ _)
  obtain ⟨Q1, X1, sp, tx, vc⟩ := vc
  refine xi_callVX (b := 2) (bs := 12) (As := [.int t]) (st := []) (by decide +kernel : decode mX10_whom.2.1 7 = .ok (.invokevirtual 184, 3)) kX10_184 rfl rfl (by omega) rfl sp (by decide) (by decide) (Nat.le_of_ble_eq_true rfl) (by omega) rfl tx (fun v9 h2 hq9 => ?_)
  obtain ⟨e9, vc⟩ := vc v9 h2 hq9
  subst e9
  show XW _ _ _ _ _ _ _ 10 _ []
  refine xi_aload_n (by decide +kernel : decode mX10_whom.2.1 10 = .ok (.aload_n 0, 1)) rfl rfl (?_ : XW _ _ _ _ _ _ _ 11 _ _)
  refine xi_iload_n (by decide +kernel : decode mX10_whom.2.1 11 = .ok (.iload_n 3, 1)) rfl rfl (?_ : XW _ _ _ _ _ _ _ 12 _ _)
  obtain ⟨Q1, X1, sp, tx, vc⟩ := vc
  refine xi_callVX (b := 1) (bs := 6) (As := [.int f]) (st := []) (by decide +kernel : decode mX10_whom.2.1 12 = .ok (.invokevirtual 187, 3)) kX10_187 rfl rfl (by omega) rfl sp (by decide) (by decide) (Nat.le_of_ble_eq_true rfl) (by omega) rfl tx (fun v9 h3 hq9 => ?_)
  obtain ⟨e9, vc⟩ := vc v9 h3 hq9
  subst e9
  show XW _ _ _ _ _ _ _ 15 _ []
  refine xi_aload_n (by decide +kernel : decode mX10_whom.2.1 15 = .ok (.aload_n 0, 1)) rfl rfl (?_ : XW _ _ _ _ _ _ _ 16 _ _)
  refine xi_iload (by decide +kernel : decode mX10_whom.2.1 16 = .ok (.iload 4, 2)) rfl (?_ : XW _ _ _ _ _ _ _ 18 _ _)
  refine xi_iconst (v := 1) (by decide +kernel : decode mX10_whom.2.1 18 = .ok (.iconst 1, 1)) (by decide) (?_ : XW _ _ _ _ _ _ _ 19 _ _)
  obtain ⟨Q1, X1, sp, tx, vc⟩ := vc
  refine xi_callVX (b := 0) (bs := 0) (As := [.int n, .int 1]) (st := []) (by decide +kernel : decode mX10_whom.2.1 19 = .ok (.invokevirtual 298, 3)) kX10_298 rfl rfl (by omega) rfl sp (by decide) (by decide) (Nat.le_of_ble_eq_true rfl) (by omega) rfl tx (fun v9 h4 hq9 => ?_)
  obtain ⟨e9, vc⟩ := vc v9 h4 hq9
  subst e9
  show XW _ _ _ _ _ _ _ 22 _ []
  refine xi_aload_n (by decide +kernel : decode mX10_whom.2.1 22 = .ok (.aload_n 0, 1)) rfl rfl (?_ : XW _ _ _ _ _ _ _ 23 _ _)
  refine xi_iload (by decide +kernel : decode mX10_whom.2.1 23 = .ok (.iload 4, 2)) rfl (?_ : XW _ _ _ _ _ _ _ 25 _ _)
  obtain ⟨Q1, sp, vc⟩ := vc
  refine xi_callV (b := 0) (bs := 0) (As := [.int n]) (st := []) (by decide +kernel : decode mX10_whom.2.1 25 = .ok (.invokevirtual 287, 3)) kX10_287 rfl rfl (by omega) rfl sp (by decide) (by decide) (Nat.le_of_ble_eq_true rfl) (by omega) (fun v9 h5 hq9 => ?_)
  obtain ⟨r5, e9, vc⟩ := vc v9 h5 hq9
  subst e9
  show XW _ _ _ _ _ _ _ 28 _ [.int r5]
  refine xi_if_eq (by decide +kernel : decode mX10_whom.2.1 28 = .ok (.ifCond .eq 6, 3)) (by decide) (fun c => (?_ : XW _ _ _ _ _ _ _ 34 _ _)) (fun c => (?_ : XW _ _ _ _ _ _ _ 31 _ _))
  · replace vc := vc.1 c
    refine xi_iload_n (by decide +kernel : decode mX10_whom.2.1 34 = .ok (.iload_n 1, 1)) rfl rfl (?_ : XW _ _ _ _ _ _ _ 35 _ _)
    refine xi_aload_n (by decide +kernel : decode mX10_whom.2.1 35 = .ok (.aload_n 0, 1)) rfl rfl (?_ : XW _ _ _ _ _ _ _ 36 _ _)
    obtain ⟨s1, vc⟩ := vc
    refine xi_getR (y := r) (by decide +kernel : decode mX10_whom.2.1 36 = .ok (.getfield 23, 3)) fX10_23 rfl (by omega) rfl s1 (?_ : XW _ _ _ _ _ _ _ 39 _ _)
    refine xi_getI (by decide +kernel : decode mX10_whom.2.1 39 = .ok (.getfield 148, 3)) fX10_148 (xRul_s0 hr) (by omega) rfl (?_ : XW _ _ _ _ _ _ _ 42 _ _)
    refine xi_icmp_ne (by decide +kernel : decode mX10_whom.2.1 42 = .ok (.if_icmp .ne 20, 3)) (by decide) (fun c => (?_ : XW _ _ _ _ _ _ _ 62 _ _)) (fun c => (?_ : XW _ _ _ _ _ _ _ 45 _ _))
    · replace vc := vc.1 c
      refine xi_iload_n (by decide +kernel : decode mX10_whom.2.1 62 = .ok (.iload_n 2, 1)) rfl rfl (?_ : XW _ _ _ _ _ _ _ 63 _ _)
      refine xi_aload_n (by decide +kernel : decode mX10_whom.2.1 63 = .ok (.aload_n 0, 1)) rfl rfl (?_ : XW _ _ _ _ _ _ _ 64 _ _)
      obtain ⟨s1, vc⟩ := vc
      refine xi_getR (y := r) (by decide +kernel : decode mX10_whom.2.1 64 = .ok (.getfield 23, 3)) fX10_23 rfl (by omega) rfl s1 (?_ : XW _ _ _ _ _ _ _ 67 _ _)
      refine xi_getI (by decide +kernel : decode mX10_whom.2.1 67 = .ok (.getfield 148, 3)) fX10_148 (xRul_s0 hr) (by omega) rfl (?_ : XW _ _ _ _ _ _ _ 70 _ _)
      refine xi_icmp_ne (by decide +kernel : decode mX10_whom.2.1 70 = .ok (.if_icmp .ne 5, 3)) (by decide) (fun c => (?_ : XW _ _ _ _ _ _ _ 75 _ _)) (fun c => (?_ : XW _ _ _ _ _ _ _ 73 _ _))
      · replace vc := vc.1 c
        refine xi_aload_n (by decide +kernel : decode mX10_whom.2.1 75 = .ok (.aload_n 0, 1)) rfl rfl (?_ : XW _ _ _ _ _ _ _ 76 _ _)
        obtain ⟨s1, vc⟩ := vc
        refine xi_getR (y := 49) (by decide +kernel : decode mX10_whom.2.1 76 = .ok (.getfield 80, 3)) fX10_80 rfl (by omega) rfl s1 (?_ : XW _ _ _ _ _ _ _ 79 _ _)
        refine xi_aload_n (by decide +kernel : decode mX10_whom.2.1 79 = .ok (.aload_n 0, 1)) rfl rfl (?_ : XW _ _ _ _ _ _ _ 80 _ _)
        obtain ⟨s1, vc⟩ := vc
        refine xi_getR (y := r) (by decide +kernel : decode mX10_whom.2.1 80 = .ok (.getfield 23, 3)) fX10_23 rfl (by omega) rfl s1 (?_ : XW _ _ _ _ _ _ _ 83 _ _)
        refine xi_aload_n (by decide +kernel : decode mX10_whom.2.1 83 = .ok (.aload_n 0, 1)) rfl rfl (?_ : XW _ _ _ _ _ _ _ 84 _ _)
        obtain ⟨s1, vc⟩ := vc
        refine xi_getR (y := 21) (by decide +kernel : decode mX10_whom.2.1 84 = .ok (.getfield 39, 3)) fX10_39 rfl (by omega) rfl s1 (?_ : XW _ _ _ _ _ _ _ 87 _ _)
        refine xi_iload (by decide +kernel : decode mX10_whom.2.1 87 = .ok (.iload 4, 2)) rfl (?_ : XW _ _ _ _ _ _ _ 89 _ _)
        refine xi_iconst (v := 1) (by decide +kernel : decode mX10_whom.2.1 89 = .ok (.iconst 1, 1)) (by decide) (?_ : XW _ _ _ _ _ _ _ 90 _ _)
        refine xi_isub (by decide +kernel : decode mX10_whom.2.1 90 = .ok (.isub, 1)) (?_ : XW _ _ _ _ _ _ _ 91 _ _)
        obtain ⟨Q1, sp, vc⟩ := vc
        refine xi_callV (b := 0) (bs := 0) (As := [.ref r, .ref 21, .int (n - 1)]) (st := []) (by decide +kernel : decode mX10_whom.2.1 91 = .ok (.invokevirtual 345, 3)) kX10_345 rfl rfl (by omega) rfl sp (by decide) (by decide) (Nat.le_of_ble_eq_true rfl) (by omega) (fun v9 h6 hq9 => ?_)
        obtain ⟨e9, vc⟩ := vc v9 h6 hq9
        subst e9
        show XW _ _ _ _ _ _ _ 94 _ []
        refine xi_aload_n (by decide +kernel : decode mX10_whom.2.1 94 = .ok (.aload_n 0, 1)) rfl rfl (?_ : XW _ _ _ _ _ _ _ 95 _ _)
        obtain ⟨s1, vc⟩ := vc
        refine xi_getR (y := 49) (by decide +kernel : decode mX10_whom.2.1 95 = .ok (.getfield 80, 3)) fX10_80 rfl (by omega) rfl s1 (?_ : XW _ _ _ _ _ _ _ 98 _ _)
        refine xi_aload_n (by decide +kernel : decode mX10_whom.2.1 98 = .ok (.aload_n 0, 1)) rfl rfl (?_ : XW _ _ _ _ _ _ _ 99 _ _)
        obtain ⟨s1, vc⟩ := vc
        refine xi_getR (y := 21) (by decide +kernel : decode mX10_whom.2.1 99 = .ok (.getfield 39, 3)) fX10_39 rfl (by omega) rfl s1 (?_ : XW _ _ _ _ _ _ _ 102 _ _)
        refine xi_iload_n (by decide +kernel : decode mX10_whom.2.1 102 = .ok (.iload_n 1, 1)) rfl rfl (?_ : XW _ _ _ _ _ _ _ 103 _ _)
        refine xi_iload_n (by decide +kernel : decode mX10_whom.2.1 103 = .ok (.iload_n 3, 1)) rfl rfl (?_ : XW _ _ _ _ _ _ _ 104 _ _)
        obtain ⟨Q1, sp, vc⟩ := vc
        refine xi_callV (b := 0) (bs := 0) (As := [.int o, .int f]) (st := [.ref 49]) (by decide +kernel : decode mX10_whom.2.1 104 = .ok (.invokevirtual 190, 3)) kX10_190 rfl rfl (by omega) rfl sp (by decide) (by decide) (Nat.le_of_ble_eq_true rfl) (by omega) (fun v9 h7 hq9 => ?_)
        obtain ⟨r7, e9, vc⟩ := vc v9 h7 hq9
        subst e9
        show XW _ _ _ _ _ _ _ 107 _ [.int r7, .ref 49]
        refine xi_iload_n (by decide +kernel : decode mX10_whom.2.1 107 = .ok (.iload_n 2, 1)) rfl rfl (?_ : XW _ _ _ _ _ _ _ 108 _ _)
        obtain ⟨Q1, sp, vc⟩ := vc
        refine xi_callV (b := 0) (bs := 0) (As := [.int r7, .int t]) (st := []) (by decide +kernel : decode mX10_whom.2.1 108 = .ok (.invokevirtual 348, 3)) kX10_348 rfl rfl (by omega) rfl sp (by decide) (by decide) (Nat.le_of_ble_eq_true rfl) (by omega) (fun v9 h8 hq9 => ?_)
        obtain ⟨r8, e9, vc⟩ := vc v9 h8 hq9
        subst e9
        show XW _ _ _ _ _ _ _ 111 _ [.long r8]
        refine xi_lstore (ls' := [some (.ref 0), some (.int o), some (.int t), some (.int f), some (.int n), some (.long r8), none, none, none]) (by decide +kernel : decode mX10_whom.2.1 111 = .ok (.lstore 5, 2)) (by decide) rfl (?_ : XW _ _ _ _ _ _ _ 113 _ _)
        refine xi_aload_n (by decide +kernel : decode mX10_whom.2.1 113 = .ok (.aload_n 0, 1)) rfl rfl (?_ : XW _ _ _ _ _ _ _ 114 _ _)
        obtain ⟨s1, vc⟩ := vc
        refine xi_getR (y := 49) (by decide +kernel : decode mX10_whom.2.1 114 = .ok (.getfield 80, 3)) fX10_80 rfl (by omega) rfl s1 (?_ : XW _ _ _ _ _ _ _ 117 _ _)
        refine xi_iload_n (by decide +kernel : decode mX10_whom.2.1 117 = .ok (.iload_n 1, 1)) rfl rfl (?_ : XW _ _ _ _ _ _ _ 118 _ _)
        refine xi_aload_n (by decide +kernel : decode mX10_whom.2.1 118 = .ok (.aload_n 0, 1)) rfl rfl (?_ : XW _ _ _ _ _ _ _ 119 _ _)
        obtain ⟨s1, vc⟩ := vc
        refine xi_getR (y := 21) (by decide +kernel : decode mX10_whom.2.1 119 = .ok (.getfield 39, 3)) fX10_39 rfl (by omega) rfl s1 (?_ : XW _ _ _ _ _ _ _ 122 _ _)
        refine xi_iload_n (by decide +kernel : decode mX10_whom.2.1 122 = .ok (.iload_n 2, 1)) rfl rfl (?_ : XW _ _ _ _ _ _ _ 123 _ _)
        refine xi_iload_n (by decide +kernel : decode mX10_whom.2.1 123 = .ok (.iload_n 3, 1)) rfl rfl (?_ : XW _ _ _ _ _ _ _ 124 _ _)
        obtain ⟨Q1, sp, vc⟩ := vc
        refine xi_callV (b := 0) (bs := 0) (As := [.int t, .int f]) (st := [.int o, .ref 49]) (by decide +kernel : decode mX10_whom.2.1 124 = .ok (.invokevirtual 190, 3)) kX10_190 rfl rfl (by omega) rfl sp (by decide) (by decide) (Nat.le_of_ble_eq_true rfl) (by omega) (fun v9 h9 hq9 => ?_)
        obtain ⟨r9, e9, vc⟩ := vc v9 h9 hq9
        subst e9
        show XW _ _ _ _ _ _ _ 127 _ [.int r9, .int o, .ref 49]
        obtain ⟨Q1, sp, vc⟩ := vc
        refine xi_callV (b := 0) (bs := 0) (As := [.int o, .int r9]) (st := []) (by decide +kernel : decode mX10_whom.2.1 127 = .ok (.invokevirtual 348, 3)) kX10_348 rfl rfl (by omega) rfl sp (by decide) (by decide) (Nat.le_of_ble_eq_true rfl) (by omega) (fun v9 h10 hq9 => ?_)
        obtain ⟨r10, e9, vc⟩ := vc v9 h10 hq9
        subst e9
        show XW _ _ _ _ _ _ _ 130 _ [.long r10]
        refine xi_lstore (ls' := [some (.ref 0), some (.int o), some (.int t), some (.int f), some (.int n), some (.long r8), none, some (.long r10), none]) (by decide +kernel : decode mX10_whom.2.1 130 = .ok (.lstore 7, 2)) (by decide) rfl (?_ : XW _ _ _ _ _ _ _ 132 _ _)
        refine xi_lload (by decide +kernel : decode mX10_whom.2.1 132 = .ok (.lload 7, 2)) rfl (?_ : XW _ _ _ _ _ _ _ 134 _ _)
        refine xi_lload (by decide +kernel : decode mX10_whom.2.1 134 = .ok (.lload 5, 2)) rfl (?_ : XW _ _ _ _ _ _ _ 136 _ _)
        refine xi_lcmp (by decide +kernel : decode mX10_whom.2.1 136 = .ok (.lcmp, 1)) (?_ : XW _ _ _ _ _ _ _ 137 _ _)
        refine xi_if_ge (by decide +kernel : decode mX10_whom.2.1 137 = .ok (.ifCond .ge 7, 3)) (by decide) (fun c => (?_ : XW _ _ _ _ _ _ _ 144 _ _)) (fun c => (?_ : XW _ _ _ _ _ _ _ 140 _ _))
        · replace vc := vc.1 c
          refine xi_iconst (v := 0) (by decide +kernel : decode mX10_whom.2.1 144 = .ok (.iconst 0, 1)) (by decide) (?_ : XW _ _ _ _ _ _ _ 145 _ _)
          exact xi_iret (by decide +kernel : decode mX10_whom.2.1 145 = .ok (.ireturn, 1)) rfl rfl vc
        · replace vc := vc.2 c
          refine xi_iconst (v := 1) (by decide +kernel : decode mX10_whom.2.1 140 = .ok (.iconst 1, 1)) (by decide) (?_ : XW _ _ _ _ _ _ _ 141 _ _)
          refine xi_goto (by decide +kernel : decode mX10_whom.2.1 141 = .ok (.goto 4, 3)) (by decide) (?_ : XW _ _ _ _ _ _ _ 145 _ _)
          exact xi_iret (by decide +kernel : decode mX10_whom.2.1 145 = .ok (.ireturn, 1)) rfl rfl vc
      · replace vc := vc.2 c
        refine xi_iconst (v := 0) (by decide +kernel : decode mX10_whom.2.1 73 = .ok (.iconst 0, 1)) (by decide) (?_ : XW _ _ _ _ _ _ _ 74 _ _)
        exact xi_iret (by decide +kernel : decode mX10_whom.2.1 74 = .ok (.ireturn, 1)) rfl rfl vc
    · replace vc := vc.2 c
      refine xi_iload_n (by decide +kernel : decode mX10_whom.2.1 45 = .ok (.iload_n 2, 1)) rfl rfl (?_ : XW _ _ _ _ _ _ _ 46 _ _)
      refine xi_aload_n (by decide +kernel : decode mX10_whom.2.1 46 = .ok (.aload_n 0, 1)) rfl rfl (?_ : XW _ _ _ _ _ _ _ 47 _ _)
      obtain ⟨s1, vc⟩ := vc
      refine xi_getR (y := r) (by decide +kernel : decode mX10_whom.2.1 47 = .ok (.getfield 23, 3)) fX10_23 rfl (by omega) rfl s1 (?_ : XW _ _ _ _ _ _ _ 50 _ _)
      refine xi_getI (by decide +kernel : decode mX10_whom.2.1 50 = .ok (.getfield 148, 3)) fX10_148 (xRul_s0 hr) (by omega) rfl (?_ : XW _ _ _ _ _ _ _ 53 _ _)
      refine xi_icmp_ne (by decide +kernel : decode mX10_whom.2.1 53 = .ok (.if_icmp .ne 7, 3)) (by decide) (fun c => (?_ : XW _ _ _ _ _ _ _ 60 _ _)) (fun c => (?_ : XW _ _ _ _ _ _ _ 56 _ _))
      · replace vc := vc.1 c
        refine xi_iconst (v := 1) (by decide +kernel : decode mX10_whom.2.1 60 = .ok (.iconst 1, 1)) (by decide) (?_ : XW _ _ _ _ _ _ _ 61 _ _)
        exact xi_iret (by decide +kernel : decode mX10_whom.2.1 61 = .ok (.ireturn, 1)) rfl rfl vc
      · replace vc := vc.2 c
        refine xi_iconst (v := (-1)) (by decide +kernel : decode mX10_whom.2.1 56 = .ok (.iconst (-1), 1)) (by decide) (?_ : XW _ _ _ _ _ _ _ 57 _ _)
        refine xi_goto (by decide +kernel : decode mX10_whom.2.1 57 = .ok (.goto 4, 3)) (by decide) (?_ : XW _ _ _ _ _ _ _ 61 _ _)
        exact xi_iret (by decide +kernel : decode mX10_whom.2.1 61 = .ok (.ireturn, 1)) rfl rfl vc
  · replace vc := vc.2 c
    refine xi_bipush (v := (-2)) (by decide +kernel : decode mX10_whom.2.1 31 = .ok (.bipush (-2), 2)) (by decide) (?_ : XW _ _ _ _ _ _ _ 33 _ _)
    exact xi_iret (by decide +kernel : decode mX10_whom.2.1 33 = .ok (.ireturn, 1)) rfl rfl vc

set_option maxRecDepth 20000 in
theorem v_X11_tellAhead_0 {h : XH} {Q : Option Value → XH → Prop} {X : String → XH → Prop} (hM : xMod (xP h))  (n : Int32)
    (vc : ∃ Q1, XSpec mX11_allOdds 1 0 0 100 100 [.ref 56] h Q1 xno ∧ ∀ v h1, Q1 v h1 → ∃ r1 : Int32, v = some (.int r1) ∧ (XW (xrm 2 0 0) mX11_tellAhead (xE 100 Q X 0 0) 100 0 0 h1 7 [some (.ref 56), some (.int n), some (.int r1), some (.int 0), none, none, none, none, none] [])) :
    XW (xrm 2 0 0) mX11_tellAhead (xE 100 Q X 0 0) 100 0 0 h 0 [some (.ref 56), some (.int n), none, none, none, none, none, none, none] [] := by
  refine xi_aload_n (by decide +kernel : decode mX11_tellAhead.2.1 0 = .ok (.aload_n 0, 1)) rfl rfl (?_ : XW _ _ _ _ _ _ _ 1 _ _)
  obtain ⟨Q1, sp, vc⟩ := vc
  refine xi_callV (b := 0) (bs := 0) (As := []) (st := []) (by decide +kernel : decode mX11_tellAhead.2.1 1 = .ok (.invokevirtual 388, 3)) kX11_388 rfl rfl (by omega) rfl sp (by decide) (by decide) (Nat.le_of_ble_eq_true rfl) (by omega) (fun v9 h1 hq9 => ?_)
  obtain ⟨r1, e9, vc⟩ := vc v9 h1 hq9
  subst e9
  show XW _ _ _ _ _ _ _ 4 _ [.int r1]
  refine xi_istore_n (ls' := [some (.ref 56), some (.int n), some (.int r1), none, none, none, none, none, none]) (by decide +kernel : decode mX11_tellAhead.2.1 4 = .ok (.istore_n 2, 1)) rfl (by decide) rfl (?_ : XW _ _ _ _ _ _ _ 5 _ _)
  refine xi_iconst (v := 0) (by decide +kernel : decode mX11_tellAhead.2.1 5 = .ok (.iconst 0, 1)) (by decide) (?_ : XW _ _ _ _ _ _ _ 6 _ _)
  refine xi_istore_n (ls' := [some (.ref 56), some (.int n), some (.int r1), some (.int 0), none, none, none, none, none]) (by decide +kernel : decode mX11_tellAhead.2.1 6 = .ok (.istore_n 3, 1)) rfl (by decide) rfl (?_ : XW _ _ _ _ _ _ _ 7 _ _)
  exact vc

set_option maxRecDepth 20000 in
theorem v_X11_tellAhead_7 {h : XH} {Q : Option Value → XH → Prop} {X : String → XH → Prop} (hM : xMod (xP h))  (x1 : Int32) (x2 : Int32) (x3 : Int32)
    (vc : (101 ≤ x3 → XW (xrm 2 0 0) mX11_tellAhead (xE 100 Q X 0 0) 100 0 0 h 28 [some (.ref 56), some (.int x1), some (.int x2), some (.int 0), none, none, none, none, none] []) ∧ (¬ 101 ≤ x3 → (vp_in x3 101) ∧ (XW (xrm 2 0 0) mX11_tellAhead (xE 100 Q X 0 0) 100 0 0 (xSL 81 (va_up (xL h 81) x3.toNatClampNeg 0) h) 7 [some (.ref 56), some (.int x1), some (.int x2), some (.int (x3 + 1)), none, none, none, none, none] []))) :
    XW (xrm 2 0 0) mX11_tellAhead (xE 100 Q X 0 0) 100 0 0 h 7 [some (.ref 56), some (.int x1), some (.int x2), some (.int x3), none, none, none, none, none] [] := by
  refine xi_iload_n (by decide +kernel : decode mX11_tellAhead.2.1 7 = .ok (.iload_n 3, 1)) rfl rfl (?_ : XW _ _ _ _ _ _ _ 8 _ _)
  refine xi_bipush (v := 101) (by decide +kernel : decode mX11_tellAhead.2.1 8 = .ok (.bipush 101, 2)) (by decide) (?_ : XW _ _ _ _ _ _ _ 10 _ _)
  refine xi_icmp_ge (by decide +kernel : decode mX11_tellAhead.2.1 10 = .ok (.if_icmp .ge 16, 3)) (by decide) (fun c => (?_ : XW _ _ _ _ _ _ _ 26 _ _)) (fun c => (?_ : XW _ _ _ _ _ _ _ 13 _ _))
  · replace vc := vc.1 c
    refine xi_iconst (v := 0) (by decide +kernel : decode mX11_tellAhead.2.1 26 = .ok (.iconst 0, 1)) (by decide) (?_ : XW _ _ _ _ _ _ _ 27 _ _)
    refine xi_istore_n (ls' := [some (.ref 56), some (.int x1), some (.int x2), some (.int 0), none, none, none, none, none]) (by decide +kernel : decode mX11_tellAhead.2.1 27 = .ok (.istore_n 3, 1)) rfl (by decide) rfl (?_ : XW _ _ _ _ _ _ _ 28 _ _)
    exact vc
  · replace vc := vc.2 c
    refine xi_aload_n (by decide +kernel : decode mX11_tellAhead.2.1 13 = .ok (.aload_n 0, 1)) rfl rfl (?_ : XW _ _ _ _ _ _ _ 14 _ _)
    refine xi_getR (y := 81) (by decide +kernel : decode mX11_tellAhead.2.1 14 = .ok (.getfield 106, 3)) fX11_106 rfl (by omega) rfl (mp_lie hM) (?_ : XW _ _ _ _ _ _ _ 17 _ _)
    refine xi_iload_n (by decide +kernel : decode mX11_tellAhead.2.1 17 = .ok (.iload_n 3, 1)) rfl rfl (?_ : XW _ _ _ _ _ _ _ 18 _ _)
    refine xi_lconst (v := 0) (by decide +kernel : decode mX11_tellAhead.2.1 18 = .ok (.lconst 0, 1)) (by decide) (?_ : XW _ _ _ _ _ _ _ 19 _ _)
    obtain ⟨s1, vc⟩ := vc
    refine xi_last (by decide +kernel : decode mX11_tellAhead.2.1 19 = .ok (.lastore, 1)) rfl (by omega) s1 (?_ : XW _ _ _ _ _ _ (xSL 81 (va_up (xL h 81) x3.toNatClampNeg 0) h) 20 _ _)
    refine xi_iinc (v := x3 + 1) (ls' := [some (.ref 56), some (.int x1), some (.int x2), some (.int (x3 + 1)), none, none, none, none, none]) (by decide +kernel : decode mX11_tellAhead.2.1 20 = .ok (.iinc 3 1, 3)) rfl rfl (by decide) rfl (?_ : XW _ _ _ _ _ _ _ 23 _ _)
    refine xi_goto (by decide +kernel : decode mX11_tellAhead.2.1 23 = .ok (.goto (-16), 3)) (by decide) (?_ : XW _ _ _ _ _ _ _ 7 _ _)
    exact vc

set_option maxRecDepth 20000 in
theorem v_X11_tellAhead_28 {h : XH} {Q : Option Value → XH → Prop} {X : String → XH → Prop} (hM : xMod (xP h))  (x1 : Int32) (x2 : Int32) (x3 : Int32)
    (vc : (x1 ≤ x3 → Q none h) ∧ (¬ x1 ≤ x3 → XW (xrm 2 0 0) mX11_tellAhead (xE 100 Q X 0 0) 100 0 0 h 36 [some (.ref 56), some (.int x1), some (.int x2), some (.int x3), some (.int 0), none, none, none, none] [])) :
    XW (xrm 2 0 0) mX11_tellAhead (xE 100 Q X 0 0) 100 0 0 h 28 [some (.ref 56), some (.int x1), some (.int x2), some (.int x3), none, none, none, none, none] [] := by
  refine xi_iload_n (by decide +kernel : decode mX11_tellAhead.2.1 28 = .ok (.iload_n 3, 1)) rfl rfl (?_ : XW _ _ _ _ _ _ _ 29 _ _)
  refine xi_iload_n (by decide +kernel : decode mX11_tellAhead.2.1 29 = .ok (.iload_n 1, 1)) rfl rfl (?_ : XW _ _ _ _ _ _ _ 30 _ _)
  refine xi_icmp_ge (by decide +kernel : decode mX11_tellAhead.2.1 30 = .ok (.if_icmp .ge 183, 3)) (by decide) (fun c => (?_ : XW _ _ _ _ _ _ _ 213 _ _)) (fun c => (?_ : XW _ _ _ _ _ _ _ 33 _ _))
  · replace vc := vc.1 c
    exact xi_vret (by decide +kernel : decode mX11_tellAhead.2.1 213 = .ok (.return_, 1)) rfl vc
  · replace vc := vc.2 c
    refine xi_iconst (v := 0) (by decide +kernel : decode mX11_tellAhead.2.1 33 = .ok (.iconst 0, 1)) (by decide) (?_ : XW _ _ _ _ _ _ _ 34 _ _)
    refine xi_istore (ls' := [some (.ref 56), some (.int x1), some (.int x2), some (.int x3), some (.int 0), none, none, none, none]) (by decide +kernel : decode mX11_tellAhead.2.1 34 = .ok (.istore 4, 2)) (by decide) rfl (?_ : XW _ _ _ _ _ _ _ 36 _ _)
    exact vc

set_option maxRecDepth 20000 in
theorem v_X11_tellAhead_36 {h : XH} {Q : Option Value → XH → Prop} {X : String → XH → Prop} (hM : xMod (xP h))  (x1 : Int32) (x2 : Int32) (x3 : Int32) (x4 : Int32)
    (vc : ((xI h 59 0) ≤ x4 → XW (xrm 2 0 0) mX11_tellAhead (xE 100 Q X 0 0) 100 0 0 h 176 [some (.ref 56), some (.int x1), some (.int x2), some (.int x3), some (.int 0), none, none, none, none] []) ∧ (¬ (xI h 59 0) ≤ x4 → XW (xrm 2 0 0) mX11_tellAhead (xE 100 Q X 0 0) 100 0 0 h 53 [some (.ref 56), some (.int x1), some (.int x2), some (.int x3), some (.int x4), some (.long 0), none, some (.int 1), none] [])) :
    XW (xrm 2 0 0) mX11_tellAhead (xE 100 Q X 0 0) 100 0 0 h 36 [some (.ref 56), some (.int x1), some (.int x2), some (.int x3), some (.int x4), none, none, none, none] [] := by
  refine xi_iload (by decide +kernel : decode mX11_tellAhead.2.1 36 = .ok (.iload 4, 2)) rfl (?_ : XW _ _ _ _ _ _ _ 38 _ _)
  refine xi_aload_n (by decide +kernel : decode mX11_tellAhead.2.1 38 = .ok (.aload_n 0, 1)) rfl rfl (?_ : XW _ _ _ _ _ _ _ 39 _ _)
  refine xi_getR (y := 59) (by decide +kernel : decode mX11_tellAhead.2.1 39 = .ok (.getfield 32, 3)) fX11_32 rfl (by omega) rfl (mp_told hM) (?_ : XW _ _ _ _ _ _ _ 42 _ _)
  refine xi_iconst (v := 0) (by decide +kernel : decode mX11_tellAhead.2.1 42 = .ok (.iconst 0, 1)) (by decide) (?_ : XW _ _ _ _ _ _ _ 43 _ _)
  refine xi_iald (by decide +kernel : decode mX11_tellAhead.2.1 43 = .ok (.iaload, 1)) rfl (by omega) (by unfold vp_in; decide) (?_ : XW _ _ _ _ _ _ _ 44 _ [.int (xI h 59 0), .int x4])
  refine xi_icmp_ge (by decide +kernel : decode mX11_tellAhead.2.1 44 = .ok (.if_icmp .ge 129, 3)) (by decide) (fun c => (?_ : XW _ _ _ _ _ _ _ 173 _ _)) (fun c => (?_ : XW _ _ _ _ _ _ _ 47 _ _))
  · replace vc := vc.1 c
    refine xi_iconst (v := 0) (by decide +kernel : decode mX11_tellAhead.2.1 173 = .ok (.iconst 0, 1)) (by decide) (?_ : XW _ _ _ _ _ _ _ 174 _ _)
    refine xi_istore (ls' := [some (.ref 56), some (.int x1), some (.int x2), some (.int x3), some (.int 0), none, none, none, none]) (by decide +kernel : decode mX11_tellAhead.2.1 174 = .ok (.istore 4, 2)) (by decide) rfl (?_ : XW _ _ _ _ _ _ _ 176 _ _)
    exact vc
  · replace vc := vc.2 c
    refine xi_lconst (v := 0) (by decide +kernel : decode mX11_tellAhead.2.1 47 = .ok (.lconst 0, 1)) (by decide) (?_ : XW _ _ _ _ _ _ _ 48 _ _)
    refine xi_lstore (ls' := [some (.ref 56), some (.int x1), some (.int x2), some (.int x3), some (.int x4), some (.long 0), none, none, none]) (by decide +kernel : decode mX11_tellAhead.2.1 48 = .ok (.lstore 5, 2)) (by decide) rfl (?_ : XW _ _ _ _ _ _ _ 50 _ _)
    refine xi_iconst (v := 1) (by decide +kernel : decode mX11_tellAhead.2.1 50 = .ok (.iconst 1, 1)) (by decide) (?_ : XW _ _ _ _ _ _ _ 51 _ _)
    refine xi_istore (ls' := [some (.ref 56), some (.int x1), some (.int x2), some (.int x3), some (.int x4), some (.long 0), none, some (.int 1), none]) (by decide +kernel : decode mX11_tellAhead.2.1 51 = .ok (.istore 7, 2)) (by decide) rfl (?_ : XW _ _ _ _ _ _ _ 53 _ _)
    exact vc

set_option maxRecDepth 20000 in
theorem v_X11_tellAhead_176 {h : XH} {Q : Option Value → XH → Prop} {X : String → XH → Prop} (hM : xMod (xP h))  (x1 : Int32) (x2 : Int32) (x3 : Int32) (x4 : Int32)
    (vc : ((xI h 59 0) ≤ x4 → XW (xrm 2 0 0) mX11_tellAhead (xE 100 Q X 0 0) 100 0 0 h 28 [some (.ref 56), some (.int x1), some (.int x2), some (.int (x3 + 1)), none, none, none, none, none] []) ∧ (¬ (xI h 59 0) ≤ x4 → (vp_in x4 101) ∧ ((vp_in x4 101) ∧ (XW (xrm 2 0 0) mX11_tellAhead (xE 100 Q X 0 0) 100 0 0 (xSL 81 (va_up (xL h 81) x4.toNatClampNeg (xL h 82 x4.toNatClampNeg)) h) 176 [some (.ref 56), some (.int x1), some (.int x2), some (.int x3), some (.int (x4 + 1)), none, none, none, none] [])))) :
    XW (xrm 2 0 0) mX11_tellAhead (xE 100 Q X 0 0) 100 0 0 h 176 [some (.ref 56), some (.int x1), some (.int x2), some (.int x3), some (.int x4), none, none, none, none] [] := by
  refine xi_iload (by decide +kernel : decode mX11_tellAhead.2.1 176 = .ok (.iload 4, 2)) rfl (?_ : XW _ _ _ _ _ _ _ 178 _ _)
  refine xi_aload_n (by decide +kernel : decode mX11_tellAhead.2.1 178 = .ok (.aload_n 0, 1)) rfl rfl (?_ : XW _ _ _ _ _ _ _ 179 _ _)
  refine xi_getR (y := 59) (by decide +kernel : decode mX11_tellAhead.2.1 179 = .ok (.getfield 32, 3)) fX11_32 rfl (by omega) rfl (mp_told hM) (?_ : XW _ _ _ _ _ _ _ 182 _ _)
  refine xi_iconst (v := 0) (by decide +kernel : decode mX11_tellAhead.2.1 182 = .ok (.iconst 0, 1)) (by decide) (?_ : XW _ _ _ _ _ _ _ 183 _ _)
  refine xi_iald (by decide +kernel : decode mX11_tellAhead.2.1 183 = .ok (.iaload, 1)) rfl (by omega) (by unfold vp_in; decide) (?_ : XW _ _ _ _ _ _ _ 184 _ [.int (xI h 59 0), .int x4])
  refine xi_icmp_ge (by decide +kernel : decode mX11_tellAhead.2.1 184 = .ok (.if_icmp .ge 23, 3)) (by decide) (fun c => (?_ : XW _ _ _ _ _ _ _ 207 _ _)) (fun c => (?_ : XW _ _ _ _ _ _ _ 187 _ _))
  · replace vc := vc.1 c
    refine xi_iinc (v := x3 + 1) (ls' := [some (.ref 56), some (.int x1), some (.int x2), some (.int (x3 + 1)), some (.int x4), none, none, none, none]) (by decide +kernel : decode mX11_tellAhead.2.1 207 = .ok (.iinc 3 1, 3)) rfl rfl (by decide) rfl (?_ : XW _ _ _ _ _ _ _ 210 _ _)
    refine xi_goto (by decide +kernel : decode mX11_tellAhead.2.1 210 = .ok (.goto (-182), 3)) (by decide) (?_ : XW _ _ _ _ _ _ _ 28 _ _)
    refine xw_drop 4 (ls' := [some (.ref 56), some (.int x1), some (.int x2), some (.int (x3 + 1)), none, none, none, none, none]) rfl ?_
    exact vc
  · replace vc := vc.2 c
    refine xi_aload_n (by decide +kernel : decode mX11_tellAhead.2.1 187 = .ok (.aload_n 0, 1)) rfl rfl (?_ : XW _ _ _ _ _ _ _ 188 _ _)
    refine xi_getR (y := 81) (by decide +kernel : decode mX11_tellAhead.2.1 188 = .ok (.getfield 106, 3)) fX11_106 rfl (by omega) rfl (mp_lie hM) (?_ : XW _ _ _ _ _ _ _ 191 _ _)
    refine xi_iload (by decide +kernel : decode mX11_tellAhead.2.1 191 = .ok (.iload 4, 2)) rfl (?_ : XW _ _ _ _ _ _ _ 193 _ _)
    refine xi_aload_n (by decide +kernel : decode mX11_tellAhead.2.1 193 = .ok (.aload_n 0, 1)) rfl rfl (?_ : XW _ _ _ _ _ _ _ 194 _ _)
    refine xi_getR (y := 82) (by decide +kernel : decode mX11_tellAhead.2.1 194 = .ok (.getfield 110, 3)) fX11_110 rfl (by omega) rfl (mp_come hM) (?_ : XW _ _ _ _ _ _ _ 197 _ _)
    refine xi_iload (by decide +kernel : decode mX11_tellAhead.2.1 197 = .ok (.iload 4, 2)) rfl (?_ : XW _ _ _ _ _ _ _ 199 _ _)
    obtain ⟨s1, vc⟩ := vc
    refine xi_lald (by decide +kernel : decode mX11_tellAhead.2.1 199 = .ok (.laload, 1)) rfl (by omega) s1 (?_ : XW _ _ _ _ _ _ _ 200 _ _)
    obtain ⟨s1, vc⟩ := vc
    refine xi_last (by decide +kernel : decode mX11_tellAhead.2.1 200 = .ok (.lastore, 1)) rfl (by omega) s1 (?_ : XW _ _ _ _ _ _ (xSL 81 (va_up (xL h 81) x4.toNatClampNeg (xL h 82 x4.toNatClampNeg)) h) 201 _ _)
    refine xi_iinc (v := x4 + 1) (ls' := [some (.ref 56), some (.int x1), some (.int x2), some (.int x3), some (.int (x4 + 1)), none, none, none, none]) (by decide +kernel : decode mX11_tellAhead.2.1 201 = .ok (.iinc 4 1, 3)) rfl rfl (by decide) rfl (?_ : XW _ _ _ _ _ _ _ 204 _ _)
    refine xi_goto (by decide +kernel : decode mX11_tellAhead.2.1 204 = .ok (.goto (-28), 3)) (by decide) (?_ : XW _ _ _ _ _ _ _ 176 _ _)
    exact vc

set_option maxRecDepth 20000 in
theorem v_X11_tellAhead_53 {h : XH} {Q : Option Value → XH → Prop} {X : String → XH → Prop} (hM : xMod (xP h))  (x1 : Int32) (x2 : Int32) (x3 : Int32) (x4 : Int32) (x5 : Int64) (x7 : Int32)
    (vc : (6 < x7 → (¬ ((Int32.toInt64 x2) * (Int32.toInt64 x2)) = 0) ∧ ((vp_in x4 101) ∧ (XW (xrm 2 0 0) mX11_tellAhead (xE 100 Q X 0 0) 100 0 0 (xSL 82 (va_up (xL h 82) x4.toNatClampNeg (1000000000 + (x5 / ((Int32.toInt64 x2) * (Int32.toInt64 x2))))) h) 36 [some (.ref 56), some (.int x1), some (.int x2), some (.int x3), some (.int (x4 + 1)), none, none, none, none] []))) ∧ (¬ 6 < x7 → XW (xrm 2 0 0) mX11_tellAhead (xE 100 Q X 0 0) 100 0 0 h 63 [some (.ref 56), some (.int x1), some (.int x2), some (.int x3), some (.int x4), some (.long x5), none, some (.int x7), some (.int 1)] [])) :
    XW (xrm 2 0 0) mX11_tellAhead (xE 100 Q X 0 0) 100 0 0 h 53 [some (.ref 56), some (.int x1), some (.int x2), some (.int x3), some (.int x4), some (.long x5), none, some (.int x7), none] [] := by
  refine xi_iload (by decide +kernel : decode mX11_tellAhead.2.1 53 = .ok (.iload 7, 2)) rfl (?_ : XW _ _ _ _ _ _ _ 55 _ _)
  refine xi_bipush (v := 6) (by decide +kernel : decode mX11_tellAhead.2.1 55 = .ok (.bipush 6, 2)) (by decide) (?_ : XW _ _ _ _ _ _ _ 57 _ _)
  refine xi_icmp_gt (by decide +kernel : decode mX11_tellAhead.2.1 57 = .ok (.if_icmp .gt 91, 3)) (by decide) (fun c => (?_ : XW _ _ _ _ _ _ _ 148 _ _)) (fun c => (?_ : XW _ _ _ _ _ _ _ 60 _ _))
  · replace vc := vc.1 c
    refine xi_aload_n (by decide +kernel : decode mX11_tellAhead.2.1 148 = .ok (.aload_n 0, 1)) rfl rfl (?_ : XW _ _ _ _ _ _ _ 149 _ _)
    refine xi_getR (y := 82) (by decide +kernel : decode mX11_tellAhead.2.1 149 = .ok (.getfield 110, 3)) fX11_110 rfl (by omega) rfl (mp_come hM) (?_ : XW _ _ _ _ _ _ _ 152 _ _)
    refine xi_iload (by decide +kernel : decode mX11_tellAhead.2.1 152 = .ok (.iload 4, 2)) rfl (?_ : XW _ _ _ _ _ _ _ 154 _ _)
    refine xi_ldc2 (v := 1000000000) (by decide +kernel : decode mX11_tellAhead.2.1 154 = .ok (.ldc2_w 401, 3)) cK_X11_401 (?_ : XW _ _ _ _ _ _ _ 157 _ _)
    refine xi_lload (by decide +kernel : decode mX11_tellAhead.2.1 157 = .ok (.lload 5, 2)) rfl (?_ : XW _ _ _ _ _ _ _ 159 _ _)
    refine xi_iload_n (by decide +kernel : decode mX11_tellAhead.2.1 159 = .ok (.iload_n 2, 1)) rfl rfl (?_ : XW _ _ _ _ _ _ _ 160 _ _)
    refine xi_i2l (by decide +kernel : decode mX11_tellAhead.2.1 160 = .ok (.i2l, 1)) (?_ : XW _ _ _ _ _ _ _ 161 _ _)
    refine xi_iload_n (by decide +kernel : decode mX11_tellAhead.2.1 161 = .ok (.iload_n 2, 1)) rfl rfl (?_ : XW _ _ _ _ _ _ _ 162 _ _)
    refine xi_i2l (by decide +kernel : decode mX11_tellAhead.2.1 162 = .ok (.i2l, 1)) (?_ : XW _ _ _ _ _ _ _ 163 _ _)
    refine xi_lmul (by decide +kernel : decode mX11_tellAhead.2.1 163 = .ok (.lmul, 1)) (?_ : XW _ _ _ _ _ _ _ 164 _ _)
    obtain ⟨s1, vc⟩ := vc
    refine xi_ldiv (by decide +kernel : decode mX11_tellAhead.2.1 164 = .ok (.ldiv, 1)) s1 (?_ : XW _ _ _ _ _ _ _ 165 _ _)
    refine xi_ladd (by decide +kernel : decode mX11_tellAhead.2.1 165 = .ok (.ladd, 1)) (?_ : XW _ _ _ _ _ _ _ 166 _ _)
    obtain ⟨s1, vc⟩ := vc
    refine xi_last (by decide +kernel : decode mX11_tellAhead.2.1 166 = .ok (.lastore, 1)) rfl (by omega) s1 (?_ : XW _ _ _ _ _ _ (xSL 82 (va_up (xL h 82) x4.toNatClampNeg (1000000000 + (x5 / ((Int32.toInt64 x2) * (Int32.toInt64 x2))))) h) 167 _ _)
    refine xi_iinc (v := x4 + 1) (ls' := [some (.ref 56), some (.int x1), some (.int x2), some (.int x3), some (.int (x4 + 1)), some (.long x5), none, some (.int x7), none]) (by decide +kernel : decode mX11_tellAhead.2.1 167 = .ok (.iinc 4 1, 3)) rfl rfl (by decide) rfl (?_ : XW _ _ _ _ _ _ _ 170 _ _)
    refine xi_goto (by decide +kernel : decode mX11_tellAhead.2.1 170 = .ok (.goto (-134), 3)) (by decide) (?_ : XW _ _ _ _ _ _ _ 36 _ _)
    refine xw_drop 5 (ls' := [some (.ref 56), some (.int x1), some (.int x2), some (.int x3), some (.int (x4 + 1)), none, none, some (.int x7), none]) rfl ?_
    refine xw_drop 7 (ls' := [some (.ref 56), some (.int x1), some (.int x2), some (.int x3), some (.int (x4 + 1)), none, none, none, none]) rfl ?_
    exact vc
  · replace vc := vc.2 c
    refine xi_iconst (v := 1) (by decide +kernel : decode mX11_tellAhead.2.1 60 = .ok (.iconst 1, 1)) (by decide) (?_ : XW _ _ _ _ _ _ _ 61 _ _)
    refine xi_istore (ls' := [some (.ref 56), some (.int x1), some (.int x2), some (.int x3), some (.int x4), some (.long x5), none, some (.int x7), some (.int 1)]) (by decide +kernel : decode mX11_tellAhead.2.1 61 = .ok (.istore 8, 2)) (by decide) rfl (?_ : XW _ _ _ _ _ _ _ 63 _ _)
    exact vc

set_option maxRecDepth 20000 in
theorem v_X11_tellAhead_63 {h : XH} {Q : Option Value → XH → Prop} {X : String → XH → Prop} (hM : xMod (xP h))  (x1 : Int32) (x2 : Int32) (x3 : Int32) (x4 : Int32) (x5 : Int64) (x7 : Int32) (x8 : Int32)
    (vc : (6 < x8 → XW (xrm 2 0 0) mX11_tellAhead (xE 100 Q X 0 0) 100 0 0 h 53 [some (.ref 56), some (.int x1), some (.int x2), some (.int x3), some (.int x4), some (.long x5), none, some (.int (x7 + 1)), none] []) ∧ (¬ 6 < x8 → (vp_in (x7 - 1) 12) ∧ ((vp_in (x8 - 1) 12) ∧ ((vp_in ((101 * x7) + x4) 707) ∧ ((vp_in (xI h 67 ((101 * x7) + x4).toNatClampNeg) 101) ∧ ((vp_in ((101 * x8) + x4) 707) ∧ ((vp_in (xI h 67 ((101 * x8) + x4).toNatClampNeg) 101) ∧ (XW (xrm 2 0 0) mX11_tellAhead (xE 100 Q X 0 0) 100 0 0 h 63 [some (.ref 56), some (.int x1), some (.int x2), some (.int x3), some (.int x4), some (.long (x5 + (((Int32.toInt64 (xI h 60 (x7 - 1).toNatClampNeg)) * (Int32.toInt64 (xI h 60 (x8 - 1).toNatClampNeg))) * (if (xL h 81 (xI h 67 ((101 * x8) + x4).toNatClampNeg).toNatClampNeg) < (xL h 81 (xI h 67 ((101 * x7) + x4).toNatClampNeg).toNatClampNeg) then (xL h 81 (xI h 67 ((101 * x8) + x4).toNatClampNeg).toNatClampNeg) else (xL h 81 (xI h 67 ((101 * x7) + x4).toNatClampNeg).toNatClampNeg))))), none, some (.int x7), some (.int (x8 + 1))] [])))))))) :
    XW (xrm 2 0 0) mX11_tellAhead (xE 100 Q X 0 0) 100 0 0 h 63 [some (.ref 56), some (.int x1), some (.int x2), some (.int x3), some (.int x4), some (.long x5), none, some (.int x7), some (.int x8)] [] := by
  refine xi_iload (by decide +kernel : decode mX11_tellAhead.2.1 63 = .ok (.iload 8, 2)) rfl (?_ : XW _ _ _ _ _ _ _ 65 _ _)
  refine xi_bipush (v := 6) (by decide +kernel : decode mX11_tellAhead.2.1 65 = .ok (.bipush 6, 2)) (by decide) (?_ : XW _ _ _ _ _ _ _ 67 _ _)
  refine xi_icmp_gt (by decide +kernel : decode mX11_tellAhead.2.1 67 = .ok (.if_icmp .gt 75, 3)) (by decide) (fun c => (?_ : XW _ _ _ _ _ _ _ 142 _ _)) (fun c => (?_ : XW _ _ _ _ _ _ _ 70 _ _))
  · replace vc := vc.1 c
    refine xi_iinc (v := x7 + 1) (ls' := [some (.ref 56), some (.int x1), some (.int x2), some (.int x3), some (.int x4), some (.long x5), none, some (.int (x7 + 1)), some (.int x8)]) (by decide +kernel : decode mX11_tellAhead.2.1 142 = .ok (.iinc 7 1, 3)) rfl rfl (by decide) rfl (?_ : XW _ _ _ _ _ _ _ 145 _ _)
    refine xi_goto (by decide +kernel : decode mX11_tellAhead.2.1 145 = .ok (.goto (-92), 3)) (by decide) (?_ : XW _ _ _ _ _ _ _ 53 _ _)
    refine xw_drop 8 (ls' := [some (.ref 56), some (.int x1), some (.int x2), some (.int x3), some (.int x4), some (.long x5), none, some (.int (x7 + 1)), none]) rfl ?_
    exact vc
  · replace vc := vc.2 c
    refine xi_lload (by decide +kernel : decode mX11_tellAhead.2.1 70 = .ok (.lload 5, 2)) rfl (?_ : XW _ _ _ _ _ _ _ 72 _ _)
    refine xi_aload_n (by decide +kernel : decode mX11_tellAhead.2.1 72 = .ok (.aload_n 0, 1)) rfl rfl (?_ : XW _ _ _ _ _ _ _ 73 _ _)
    refine xi_getR (y := 60) (by decide +kernel : decode mX11_tellAhead.2.1 73 = .ok (.getfield 36, 3)) fX11_36 rfl (by omega) rfl (mp_die hM) (?_ : XW _ _ _ _ _ _ _ 76 _ _)
    refine xi_iload (by decide +kernel : decode mX11_tellAhead.2.1 76 = .ok (.iload 7, 2)) rfl (?_ : XW _ _ _ _ _ _ _ 78 _ _)
    refine xi_iconst (v := 1) (by decide +kernel : decode mX11_tellAhead.2.1 78 = .ok (.iconst 1, 1)) (by decide) (?_ : XW _ _ _ _ _ _ _ 79 _ _)
    refine xi_isub (by decide +kernel : decode mX11_tellAhead.2.1 79 = .ok (.isub, 1)) (?_ : XW _ _ _ _ _ _ _ 80 _ _)
    obtain ⟨s1, vc⟩ := vc
    refine xi_iald (by decide +kernel : decode mX11_tellAhead.2.1 80 = .ok (.iaload, 1)) rfl (by omega) s1 (?_ : XW _ _ _ _ _ _ _ 81 _ _)
    refine xi_i2l (by decide +kernel : decode mX11_tellAhead.2.1 81 = .ok (.i2l, 1)) (?_ : XW _ _ _ _ _ _ _ 82 _ _)
    refine xi_aload_n (by decide +kernel : decode mX11_tellAhead.2.1 82 = .ok (.aload_n 0, 1)) rfl rfl (?_ : XW _ _ _ _ _ _ _ 83 _ _)
    refine xi_getR (y := 60) (by decide +kernel : decode mX11_tellAhead.2.1 83 = .ok (.getfield 36, 3)) fX11_36 rfl (by omega) rfl (mp_die hM) (?_ : XW _ _ _ _ _ _ _ 86 _ _)
    refine xi_iload (by decide +kernel : decode mX11_tellAhead.2.1 86 = .ok (.iload 8, 2)) rfl (?_ : XW _ _ _ _ _ _ _ 88 _ _)
    refine xi_iconst (v := 1) (by decide +kernel : decode mX11_tellAhead.2.1 88 = .ok (.iconst 1, 1)) (by decide) (?_ : XW _ _ _ _ _ _ _ 89 _ _)
    refine xi_isub (by decide +kernel : decode mX11_tellAhead.2.1 89 = .ok (.isub, 1)) (?_ : XW _ _ _ _ _ _ _ 90 _ _)
    obtain ⟨s1, vc⟩ := vc
    refine xi_iald (by decide +kernel : decode mX11_tellAhead.2.1 90 = .ok (.iaload, 1)) rfl (by omega) s1 (?_ : XW _ _ _ _ _ _ _ 91 _ _)
    refine xi_i2l (by decide +kernel : decode mX11_tellAhead.2.1 91 = .ok (.i2l, 1)) (?_ : XW _ _ _ _ _ _ _ 92 _ _)
    refine xi_lmul (by decide +kernel : decode mX11_tellAhead.2.1 92 = .ok (.lmul, 1)) (?_ : XW _ _ _ _ _ _ _ 93 _ _)
    refine xi_aload_n (by decide +kernel : decode mX11_tellAhead.2.1 93 = .ok (.aload_n 0, 1)) rfl rfl (?_ : XW _ _ _ _ _ _ _ 94 _ _)
    refine xi_getR (y := 81) (by decide +kernel : decode mX11_tellAhead.2.1 94 = .ok (.getfield 106, 3)) fX11_106 rfl (by omega) rfl (mp_lie hM) (?_ : XW _ _ _ _ _ _ _ 97 _ _)
    refine xi_aload_n (by decide +kernel : decode mX11_tellAhead.2.1 97 = .ok (.aload_n 0, 1)) rfl rfl (?_ : XW _ _ _ _ _ _ _ 98 _ _)
    refine xi_getR (y := 67) (by decide +kernel : decode mX11_tellAhead.2.1 98 = .ok (.getfield 61, 3)) fX11_61 rfl (by omega) rfl (mp_to hM) (?_ : XW _ _ _ _ _ _ _ 101 _ _)
    refine xi_bipush (v := 101) (by decide +kernel : decode mX11_tellAhead.2.1 101 = .ok (.bipush 101, 2)) (by decide) (?_ : XW _ _ _ _ _ _ _ 103 _ _)
    refine xi_iload (by decide +kernel : decode mX11_tellAhead.2.1 103 = .ok (.iload 7, 2)) rfl (?_ : XW _ _ _ _ _ _ _ 105 _ _)
    refine xi_imul (by decide +kernel : decode mX11_tellAhead.2.1 105 = .ok (.imul, 1)) (?_ : XW _ _ _ _ _ _ _ 106 _ _)
    refine xi_iload (by decide +kernel : decode mX11_tellAhead.2.1 106 = .ok (.iload 4, 2)) rfl (?_ : XW _ _ _ _ _ _ _ 108 _ _)
    refine xi_iadd (by decide +kernel : decode mX11_tellAhead.2.1 108 = .ok (.iadd, 1)) (?_ : XW _ _ _ _ _ _ _ 109 _ _)
    obtain ⟨s1, vc⟩ := vc
    refine xi_iald (by decide +kernel : decode mX11_tellAhead.2.1 109 = .ok (.iaload, 1)) rfl (by omega) s1 (?_ : XW _ _ _ _ _ _ _ 110 _ _)
    obtain ⟨s1, vc⟩ := vc
    refine xi_lald (by decide +kernel : decode mX11_tellAhead.2.1 110 = .ok (.laload, 1)) rfl (by omega) s1 (?_ : XW _ _ _ _ _ _ _ 111 _ _)
    refine xi_aload_n (by decide +kernel : decode mX11_tellAhead.2.1 111 = .ok (.aload_n 0, 1)) rfl rfl (?_ : XW _ _ _ _ _ _ _ 112 _ _)
    refine xi_getR (y := 81) (by decide +kernel : decode mX11_tellAhead.2.1 112 = .ok (.getfield 106, 3)) fX11_106 rfl (by omega) rfl (mp_lie hM) (?_ : XW _ _ _ _ _ _ _ 115 _ _)
    refine xi_aload_n (by decide +kernel : decode mX11_tellAhead.2.1 115 = .ok (.aload_n 0, 1)) rfl rfl (?_ : XW _ _ _ _ _ _ _ 116 _ _)
    refine xi_getR (y := 67) (by decide +kernel : decode mX11_tellAhead.2.1 116 = .ok (.getfield 61, 3)) fX11_61 rfl (by omega) rfl (mp_to hM) (?_ : XW _ _ _ _ _ _ _ 119 _ _)
    refine xi_bipush (v := 101) (by decide +kernel : decode mX11_tellAhead.2.1 119 = .ok (.bipush 101, 2)) (by decide) (?_ : XW _ _ _ _ _ _ _ 121 _ _)
    refine xi_iload (by decide +kernel : decode mX11_tellAhead.2.1 121 = .ok (.iload 8, 2)) rfl (?_ : XW _ _ _ _ _ _ _ 123 _ _)
    refine xi_imul (by decide +kernel : decode mX11_tellAhead.2.1 123 = .ok (.imul, 1)) (?_ : XW _ _ _ _ _ _ _ 124 _ _)
    refine xi_iload (by decide +kernel : decode mX11_tellAhead.2.1 124 = .ok (.iload 4, 2)) rfl (?_ : XW _ _ _ _ _ _ _ 126 _ _)
    refine xi_iadd (by decide +kernel : decode mX11_tellAhead.2.1 126 = .ok (.iadd, 1)) (?_ : XW _ _ _ _ _ _ _ 127 _ _)
    obtain ⟨s1, vc⟩ := vc
    refine xi_iald (by decide +kernel : decode mX11_tellAhead.2.1 127 = .ok (.iaload, 1)) rfl (by omega) s1 (?_ : XW _ _ _ _ _ _ _ 128 _ _)
    obtain ⟨s1, vc⟩ := vc
    refine xi_lald (by decide +kernel : decode mX11_tellAhead.2.1 128 = .ok (.laload, 1)) rfl (by omega) s1 (?_ : XW _ _ _ _ _ _ _ 129 _ _)
    refine xi_mminl (by decide +kernel : decode mX11_tellAhead.2.1 129 = .ok (.invokestatic 435, 3)) kX11_435.2.1 (by decide) (Nat.le_of_ble_eq_true rfl) (?_ : XW _ _ _ _ _ _ _ 132 _ _)
    refine xi_lmul (by decide +kernel : decode mX11_tellAhead.2.1 132 = .ok (.lmul, 1)) (?_ : XW _ _ _ _ _ _ _ 133 _ _)
    refine xi_ladd (by decide +kernel : decode mX11_tellAhead.2.1 133 = .ok (.ladd, 1)) (?_ : XW _ _ _ _ _ _ _ 134 _ _)
    refine xi_lstore (ls' := [some (.ref 56), some (.int x1), some (.int x2), some (.int x3), some (.int x4), some (.long (x5 + (((Int32.toInt64 (xI h 60 (x7 - 1).toNatClampNeg)) * (Int32.toInt64 (xI h 60 (x8 - 1).toNatClampNeg))) * (if (xL h 81 (xI h 67 ((101 * x8) + x4).toNatClampNeg).toNatClampNeg) < (xL h 81 (xI h 67 ((101 * x7) + x4).toNatClampNeg).toNatClampNeg) then (xL h 81 (xI h 67 ((101 * x8) + x4).toNatClampNeg).toNatClampNeg) else (xL h 81 (xI h 67 ((101 * x7) + x4).toNatClampNeg).toNatClampNeg))))), none, some (.int x7), some (.int x8)]) (by decide +kernel : decode mX11_tellAhead.2.1 134 = .ok (.lstore 5, 2)) (by decide) rfl (?_ : XW _ _ _ _ _ _ _ 136 _ _)
    refine xi_iinc (v := x8 + 1) (ls' := [some (.ref 56), some (.int x1), some (.int x2), some (.int x3), some (.int x4), some (.long (x5 + (((Int32.toInt64 (xI h 60 (x7 - 1).toNatClampNeg)) * (Int32.toInt64 (xI h 60 (x8 - 1).toNatClampNeg))) * (if (xL h 81 (xI h 67 ((101 * x8) + x4).toNatClampNeg).toNatClampNeg) < (xL h 81 (xI h 67 ((101 * x7) + x4).toNatClampNeg).toNatClampNeg) then (xL h 81 (xI h 67 ((101 * x8) + x4).toNatClampNeg).toNatClampNeg) else (xL h 81 (xI h 67 ((101 * x7) + x4).toNatClampNeg).toNatClampNeg))))), none, some (.int x7), some (.int (x8 + 1))]) (by decide +kernel : decode mX11_tellAhead.2.1 136 = .ok (.iinc 8 1, 3)) rfl rfl (by decide) rfl (?_ : XW _ _ _ _ _ _ _ 139 _ _)
    refine xi_goto (by decide +kernel : decode mX11_tellAhead.2.1 139 = .ok (.goto (-76), 3)) (by decide) (?_ : XW _ _ _ _ _ _ _ 63 _ _)
    exact vc

set_option maxRecDepth 20000 in
theorem v_X11_ahead_0 {h : XH} {Q : Option Value → XH → Prop} {X : String → XH → Prop} (hM : xMod (xP h))  (q : Int32) (n : Int32)
    (vc : ∃ Q1, XSpec mX11_isSquare 2 0 0 100 100 [.ref 56, .int q] (xSI 56 (va_up (xI h 56) 2 0) h) Q1 xno ∧ ∀ v h1, Q1 v h1 → ∃ r1 : Int32, v = some (.int r1) ∧ ((¬ r1 = 0 → ∃ Q1, XSpec mX11_isIn 1 0 0 100 100 [.long (Int32.toInt64 n), .long 0, .long 100] h1 Q1 xno ∧ ∀ v h2, Q1 v h2 → ∃ r2 : Int32, v = some (.int r2) ∧ ((¬ r2 = 0 → ∃ Q1, XSpec mX11_tellBoard 5 0 0 100 100 [.ref 56] h2 Q1 xno ∧ ∀ v h3, Q1 v h3 → v = none ∧ (∃ Q1, XSpec mX11_tellAhead 2 0 0 100 100 [.ref 56, .int n] h3 Q1 xno ∧ ∀ v h4, Q1 v h4 → v = none ∧ ((xP h4 56 39 = some 81) ∧ ((vp_in q 101) ∧ (Q (some (.long (xL h4 81 q.toNatClampNeg))) h4))))) ∧ (r2 = 0 → ∃ Q1, XSpec mX11_fail 1 0 0 100 100 [.ref 56, .int 2] h2 Q1 xno ∧ ∀ v h5, Q1 v h5 → ∃ r5 : Int32, v = some (.int r5) ∧ (Q (some (.long (Int32.toInt64 r5))) h5)))) ∧ (r1 = 0 → ∃ Q1, XSpec mX11_fail 1 0 0 100 100 [.ref 56, .int 1] h1 Q1 xno ∧ ∀ v h6, Q1 v h6 → ∃ r6 : Int32, v = some (.int r6) ∧ (Q (some (.long (Int32.toInt64 r6))) h6)))) :
    XW (xrm 6 0 0) mX11_ahead (xE 100 Q X 0 0) 100 0 0 h 0 [some (.ref 56), some (.int q), some (.int n)] [] := by
  refine xi_aload_n (by decide +kernel : decode mX11_ahead.2.1 0 = .ok (.aload_n 0, 1)) rfl rfl (?_ : XW _ _ _ _ _ _ _ 1 _ _)
  refine xi_iconst (v := 0) (by decide +kernel : decode mX11_ahead.2.1 1 = .ok (.iconst 0, 1)) (by decide) (?_ : XW _ _ _ _ _ _ _ 2 _ _)
  refine xi_putI (by decide +kernel : decode mX11_ahead.2.1 2 = .ok (.putfield 161, 3)) fX11_161 rfl (by omega) rfl rfl rfl (?_ : XW _ _ _ _ _ _ (xSI 56 (va_up (xI h 56) 2 0) h) 5 _ _)
  refine xi_aload_n (by decide +kernel : decode mX11_ahead.2.1 5 = .ok (.aload_n 0, 1)) rfl rfl (?_ : XW _ _ _ _ _ _ _ 6 _ _)
  refine xi_iload_n (by decide +kernel : decode mX11_ahead.2.1 6 = .ok (.iload_n 1, 1)) rfl rfl (?_ : XW _ _ _ _ _ _ _ 7 _ _)
  obtain ⟨Q1, sp, vc⟩ := vc
  refine xi_callV (b := 0) (bs := 0) (As := [.int q]) (st := []) (by decide +kernel : decode mX11_ahead.2.1 7 = .ok (.invokevirtual 367, 3)) kX11_367 rfl rfl (by omega) rfl sp (by decide) (by decide) (Nat.le_of_ble_eq_true rfl) (by omega) (fun v9 h1 hq9 => ?_)
  obtain ⟨r1, e9, vc⟩ := vc v9 h1 hq9
  subst e9
  show XW _ _ _ _ _ _ _ 10 _ [.int r1]
  refine xi_if_ne (by decide +kernel : decode mX11_ahead.2.1 10 = .ok (.ifCond .ne 10, 3)) (by decide) (fun c => (?_ : XW _ _ _ _ _ _ _ 20 _ _)) (fun c => (?_ : XW _ _ _ _ _ _ _ 13 _ _))
  · replace vc := vc.1 c
    refine xi_iload_n (by decide +kernel : decode mX11_ahead.2.1 20 = .ok (.iload_n 2, 1)) rfl rfl (?_ : XW _ _ _ _ _ _ _ 21 _ _)
    refine xi_i2l (by decide +kernel : decode mX11_ahead.2.1 21 = .ok (.i2l, 1)) (?_ : XW _ _ _ _ _ _ _ 22 _ _)
    refine xi_lconst (v := 0) (by decide +kernel : decode mX11_ahead.2.1 22 = .ok (.lconst 0, 1)) (by decide) (?_ : XW _ _ _ _ _ _ _ 23 _ _)
    refine xi_ldc2 (v := 100) (by decide +kernel : decode mX11_ahead.2.1 23 = .ok (.ldc2_w 438, 3)) cK_X11_438 (?_ : XW _ _ _ _ _ _ _ 26 _ _)
    obtain ⟨Q1, sp, vc⟩ := vc
    refine xi_callS (b := 0) (bs := 0) (As := [.long (Int32.toInt64 n), .long 0, .long 100]) (st := []) (by decide +kernel : decode mX11_ahead.2.1 26 = .ok (.invokestatic 164, 3)) kX11_164 rfl rfl sp (by decide) (by decide) (Nat.le_of_ble_eq_true rfl) (by omega) (fun v9 h2 hq9 => ?_)
    obtain ⟨r2, e9, vc⟩ := vc v9 h2 hq9
    subst e9
    show XW _ _ _ _ _ _ _ 29 _ [.int r2]
    refine xi_if_ne (by decide +kernel : decode mX11_ahead.2.1 29 = .ok (.ifCond .ne 10, 3)) (by decide) (fun c => (?_ : XW _ _ _ _ _ _ _ 39 _ _)) (fun c => (?_ : XW _ _ _ _ _ _ _ 32 _ _))
    · replace vc := vc.1 c
      refine xi_aload_n (by decide +kernel : decode mX11_ahead.2.1 39 = .ok (.aload_n 0, 1)) rfl rfl (?_ : XW _ _ _ _ _ _ _ 40 _ _)
      obtain ⟨Q1, sp, vc⟩ := vc
      refine xi_callV (b := 0) (bs := 0) (As := []) (st := []) (by decide +kernel : decode mX11_ahead.2.1 40 = .ok (.invokevirtual 373, 3)) kX11_373 rfl rfl (by omega) rfl sp (by decide) (by decide) (Nat.le_of_ble_eq_true rfl) (by omega) (fun v9 h3 hq9 => ?_)
      obtain ⟨e9, vc⟩ := vc v9 h3 hq9
      subst e9
      show XW _ _ _ _ _ _ _ 43 _ []
      refine xi_aload_n (by decide +kernel : decode mX11_ahead.2.1 43 = .ok (.aload_n 0, 1)) rfl rfl (?_ : XW _ _ _ _ _ _ _ 44 _ _)
      refine xi_iload_n (by decide +kernel : decode mX11_ahead.2.1 44 = .ok (.iload_n 2, 1)) rfl rfl (?_ : XW _ _ _ _ _ _ _ 45 _ _)
      obtain ⟨Q1, sp, vc⟩ := vc
      refine xi_callV (b := 0) (bs := 0) (As := [.int n]) (st := []) (by decide +kernel : decode mX11_ahead.2.1 45 = .ok (.invokevirtual 440, 3)) kX11_440 rfl rfl (by omega) rfl sp (by decide) (by decide) (Nat.le_of_ble_eq_true rfl) (by omega) (fun v9 h4 hq9 => ?_)
      obtain ⟨e9, vc⟩ := vc v9 h4 hq9
      subst e9
      show XW _ _ _ _ _ _ _ 48 _ []
      refine xi_aload_n (by decide +kernel : decode mX11_ahead.2.1 48 = .ok (.aload_n 0, 1)) rfl rfl (?_ : XW _ _ _ _ _ _ _ 49 _ _)
      obtain ⟨s1, vc⟩ := vc
      refine xi_getR (y := 81) (by decide +kernel : decode mX11_ahead.2.1 49 = .ok (.getfield 106, 3)) fX11_106 rfl (by omega) rfl s1 (?_ : XW _ _ _ _ _ _ _ 52 _ _)
      refine xi_iload_n (by decide +kernel : decode mX11_ahead.2.1 52 = .ok (.iload_n 1, 1)) rfl rfl (?_ : XW _ _ _ _ _ _ _ 53 _ _)
      obtain ⟨s1, vc⟩ := vc
      refine xi_lald (by decide +kernel : decode mX11_ahead.2.1 53 = .ok (.laload, 1)) rfl (by omega) s1 (?_ : XW _ _ _ _ _ _ _ 54 _ _)
      exact xi_lret (by decide +kernel : decode mX11_ahead.2.1 54 = .ok (.lreturn, 1)) rfl vc
    · replace vc := vc.2 c
      refine xi_aload_n (by decide +kernel : decode mX11_ahead.2.1 32 = .ok (.aload_n 0, 1)) rfl rfl (?_ : XW _ _ _ _ _ _ _ 33 _ _)
      refine xi_iconst (v := 2) (by decide +kernel : decode mX11_ahead.2.1 33 = .ok (.iconst 2, 1)) (by decide) (?_ : XW _ _ _ _ _ _ _ 34 _ _)
      obtain ⟨Q1, sp, vc⟩ := vc
      refine xi_callV (b := 0) (bs := 0) (As := [.int 2]) (st := []) (by decide +kernel : decode mX11_ahead.2.1 34 = .ok (.invokevirtual 311, 3)) kX11_311 rfl rfl (by omega) rfl sp (by decide) (by decide) (Nat.le_of_ble_eq_true rfl) (by omega) (fun v9 h5 hq9 => ?_)
      obtain ⟨r5, e9, vc⟩ := vc v9 h5 hq9
      subst e9
      show XW _ _ _ _ _ _ _ 37 _ [.int r5]
      refine xi_i2l (by decide +kernel : decode mX11_ahead.2.1 37 = .ok (.i2l, 1)) (?_ : XW _ _ _ _ _ _ _ 38 _ _)
      exact xi_lret (by decide +kernel : decode mX11_ahead.2.1 38 = .ok (.lreturn, 1)) rfl vc
  · replace vc := vc.2 c
    refine xi_aload_n (by decide +kernel : decode mX11_ahead.2.1 13 = .ok (.aload_n 0, 1)) rfl rfl (?_ : XW _ _ _ _ _ _ _ 14 _ _)
    refine xi_iconst (v := 1) (by decide +kernel : decode mX11_ahead.2.1 14 = .ok (.iconst 1, 1)) (by decide) (?_ : XW _ _ _ _ _ _ _ 15 _ _)
    obtain ⟨Q1, sp, vc⟩ := vc
    refine xi_callV (b := 0) (bs := 0) (As := [.int 1]) (st := []) (by decide +kernel : decode mX11_ahead.2.1 15 = .ok (.invokevirtual 311, 3)) kX11_311 rfl rfl (by omega) rfl sp (by decide) (by decide) (Nat.le_of_ble_eq_true rfl) (by omega) (fun v9 h6 hq9 => ?_)
    obtain ⟨r6, e9, vc⟩ := vc v9 h6 hq9
    subst e9
    show XW _ _ _ _ _ _ _ 18 _ [.int r6]
    refine xi_i2l (by decide +kernel : decode mX11_ahead.2.1 18 = .ok (.i2l, 1)) (?_ : XW _ _ _ _ _ _ _ 19 _ _)
    exact xi_lret (by decide +kernel : decode mX11_ahead.2.1 19 = .ok (.lreturn, 1)) rfl vc

set_option maxRecDepth 20000 in
theorem v_X11_choose_0 {h : XH} {Q : Option Value → XH → Prop} {X : String → XH → Prop} (hM : xMod (xP h))  (q : Int32) (o : Int32) (t : Int32) (n : Int32)
    (vc : ∃ Q1, XSpec mX11_isSquare 2 0 0 100 100 [.ref 56, .int q] (xSI 56 (va_up (xI h 56) 2 0) h) Q1 xno ∧ ∀ v h1, Q1 v h1 → ∃ r1 : Int32, v = some (.int r1) ∧ ((r1 = 0 → ∃ Q1, XSpec mX11_fail 1 0 0 100 100 [.ref 56, .int 1] h1 Q1 xno ∧ ∀ v h2, Q1 v h2 → ∃ r2 : Int32, v = some (.int r2) ∧ (Q (some (.int r2)) h2)) ∧ (¬ r1 = 0 → ∃ Q1, XSpec mX11_isFace 2 0 0 100 100 [.int o] h1 Q1 xno ∧ ∀ v h3, Q1 v h3 → ∃ r3 : Int32, v = some (.int r3) ∧ ((r3 = 0 → ∃ Q1, XSpec mX11_fail 1 0 0 100 100 [.ref 56, .int 1] h3 Q1 xno ∧ ∀ v h4, Q1 v h4 → ∃ r4 : Int32, v = some (.int r4) ∧ (Q (some (.int r4)) h4)) ∧ (¬ r3 = 0 → ∃ Q1, XSpec mX11_isFace 2 0 0 100 100 [.int t] h3 Q1 xno ∧ ∀ v h5, Q1 v h5 → ∃ r5 : Int32, v = some (.int r5) ∧ ((¬ r5 = 0 → ∃ Q1, XSpec mX11_isIn 1 0 0 100 100 [.long (Int32.toInt64 n), .long 1, .long 100] h5 Q1 xno ∧ ∀ v h6, Q1 v h6 → ∃ r6 : Int32, v = some (.int r6) ∧ ((¬ r6 = 0 → ∃ Q1, XSpec mX11_tellBoard 5 0 0 100 100 [.ref 56] h6 Q1 xno ∧ ∀ v h7, Q1 v h7 → v = none ∧ (∃ Q1, XSpec mX11_tellAhead 2 0 0 100 100 [.ref 56, .int (n - 1)] h7 Q1 xno ∧ ∀ v h8, Q1 v h8 → v = none ∧ ((xP h8 56 39 = some 81) ∧ ((xP h8 56 21 = some 67) ∧ ((vp_in ((101 * t) + q) 707) ∧ ((vp_in (xI h8 67 ((101 * t) + q).toNatClampNeg) 101) ∧ ((xP h8 56 39 = some 81) ∧ ((xP h8 56 21 = some 67) ∧ ((vp_in ((101 * o) + q) 707) ∧ ((vp_in (xI h8 67 ((101 * o) + q).toNatClampNeg) 101) ∧ ((0 ≤ (lg_cmp (xL h8 81 (xI h8 67 ((101 * t) + q).toNatClampNeg).toNatClampNeg) (xL h8 81 (xI h8 67 ((101 * o) + q).toNatClampNeg).toNatClampNeg)) → Q (some (.int o)) h8) ∧ (¬ 0 ≤ (lg_cmp (xL h8 81 (xI h8 67 ((101 * t) + q).toNatClampNeg).toNatClampNeg) (xL h8 81 (xI h8 67 ((101 * o) + q).toNatClampNeg).toNatClampNeg)) → Q (some (.int t)) h8)))))))))))) ∧ (r6 = 0 → ∃ Q1, XSpec mX11_fail 1 0 0 100 100 [.ref 56, .int 2] h6 Q1 xno ∧ ∀ v h9, Q1 v h9 → ∃ r9 : Int32, v = some (.int r9) ∧ (Q (some (.int r9)) h9)))) ∧ (r5 = 0 → ∃ Q1, XSpec mX11_fail 1 0 0 100 100 [.ref 56, .int 1] h5 Q1 xno ∧ ∀ v h10, Q1 v h10 → ∃ r10 : Int32, v = some (.int r10) ∧ (Q (some (.int r10)) h10)))))))) :
    XW (xrm 6 0 0) mX11_choose (xE 100 Q X 0 0) 100 0 0 h 0 [some (.ref 56), some (.int q), some (.int o), some (.int t), some (.int n)] [] := by
  refine xi_aload_n (by decide +kernel : decode mX11_choose.2.1 0 = .ok (.aload_n 0, 1)) rfl rfl (?_ : XW _ _ _ _ _ _ _ 1 _ _)
  refine xi_iconst (v := 0) (by decide +kernel : decode mX11_choose.2.1 1 = .ok (.iconst 0, 1)) (by decide) (?_ : XW _ _ _ _ _ _ _ 2 _ _)
  refine xi_putI (by decide +kernel : decode mX11_choose.2.1 2 = .ok (.putfield 161, 3)) fX11_161 rfl (by omega) rfl rfl rfl (?_ : XW _ _ _ _ _ _ (xSI 56 (va_up (xI h 56) 2 0) h) 5 _ _)
  refine xi_aload_n (by decide +kernel : decode mX11_choose.2.1 5 = .ok (.aload_n 0, 1)) rfl rfl (?_ : XW _ _ _ _ _ _ _ 6 _ _)
  refine xi_iload_n (by decide +kernel : decode mX11_choose.2.1 6 = .ok (.iload_n 1, 1)) rfl rfl (?_ : XW _ _ _ _ _ _ _ 7 _ _)
  obtain ⟨Q1, sp, vc⟩ := vc
  refine xi_callV (b := 0) (bs := 0) (As := [.int q]) (st := []) (by decide +kernel : decode mX11_choose.2.1 7 = .ok (.invokevirtual 367, 3)) kX11_367 rfl rfl (by omega) rfl sp (by decide) (by decide) (Nat.le_of_ble_eq_true rfl) (by omega) (fun v9 h1 hq9 => ?_)
  obtain ⟨r1, e9, vc⟩ := vc v9 h1 hq9
  subst e9
  show XW _ _ _ _ _ _ _ 10 _ [.int r1]
  refine xi_if_eq (by decide +kernel : decode mX11_choose.2.1 10 = .ok (.ifCond .eq 17, 3)) (by decide) (fun c => (?_ : XW _ _ _ _ _ _ _ 27 _ _)) (fun c => (?_ : XW _ _ _ _ _ _ _ 13 _ _))
  · replace vc := vc.1 c
    refine xi_aload_n (by decide +kernel : decode mX11_choose.2.1 27 = .ok (.aload_n 0, 1)) rfl rfl (?_ : XW _ _ _ _ _ _ _ 28 _ _)
    refine xi_iconst (v := 1) (by decide +kernel : decode mX11_choose.2.1 28 = .ok (.iconst 1, 1)) (by decide) (?_ : XW _ _ _ _ _ _ _ 29 _ _)
    obtain ⟨Q1, sp, vc⟩ := vc
    refine xi_callV (b := 0) (bs := 0) (As := [.int 1]) (st := []) (by decide +kernel : decode mX11_choose.2.1 29 = .ok (.invokevirtual 311, 3)) kX11_311 rfl rfl (by omega) rfl sp (by decide) (by decide) (Nat.le_of_ble_eq_true rfl) (by omega) (fun v9 h2 hq9 => ?_)
    obtain ⟨r2, e9, vc⟩ := vc v9 h2 hq9
    subst e9
    show XW _ _ _ _ _ _ _ 32 _ [.int r2]
    exact xi_iret (by decide +kernel : decode mX11_choose.2.1 32 = .ok (.ireturn, 1)) rfl rfl vc
  · replace vc := vc.2 c
    refine xi_iload_n (by decide +kernel : decode mX11_choose.2.1 13 = .ok (.iload_n 2, 1)) rfl rfl (?_ : XW _ _ _ _ _ _ _ 14 _ _)
    obtain ⟨Q1, sp, vc⟩ := vc
    refine xi_callS (b := 0) (bs := 0) (As := [.int o]) (st := []) (by decide +kernel : decode mX11_choose.2.1 14 = .ok (.invokestatic 370, 3)) kX11_370 rfl rfl sp (by decide) (by decide) (Nat.le_of_ble_eq_true rfl) (by omega) (fun v9 h3 hq9 => ?_)
    obtain ⟨r3, e9, vc⟩ := vc v9 h3 hq9
    subst e9
    show XW _ _ _ _ _ _ _ 17 _ [.int r3]
    refine xi_if_eq (by decide +kernel : decode mX11_choose.2.1 17 = .ok (.ifCond .eq 10, 3)) (by decide) (fun c => (?_ : XW _ _ _ _ _ _ _ 27 _ _)) (fun c => (?_ : XW _ _ _ _ _ _ _ 20 _ _))
    · replace vc := vc.1 c
      refine xi_aload_n (by decide +kernel : decode mX11_choose.2.1 27 = .ok (.aload_n 0, 1)) rfl rfl (?_ : XW _ _ _ _ _ _ _ 28 _ _)
      refine xi_iconst (v := 1) (by decide +kernel : decode mX11_choose.2.1 28 = .ok (.iconst 1, 1)) (by decide) (?_ : XW _ _ _ _ _ _ _ 29 _ _)
      obtain ⟨Q1, sp, vc⟩ := vc
      refine xi_callV (b := 0) (bs := 0) (As := [.int 1]) (st := []) (by decide +kernel : decode mX11_choose.2.1 29 = .ok (.invokevirtual 311, 3)) kX11_311 rfl rfl (by omega) rfl sp (by decide) (by decide) (Nat.le_of_ble_eq_true rfl) (by omega) (fun v9 h4 hq9 => ?_)
      obtain ⟨r4, e9, vc⟩ := vc v9 h4 hq9
      subst e9
      show XW _ _ _ _ _ _ _ 32 _ [.int r4]
      exact xi_iret (by decide +kernel : decode mX11_choose.2.1 32 = .ok (.ireturn, 1)) rfl rfl vc
    · replace vc := vc.2 c
      refine xi_iload_n (by decide +kernel : decode mX11_choose.2.1 20 = .ok (.iload_n 3, 1)) rfl rfl (?_ : XW _ _ _ _ _ _ _ 21 _ _)
      obtain ⟨Q1, sp, vc⟩ := vc
      refine xi_callS (b := 0) (bs := 0) (As := [.int t]) (st := []) (by decide +kernel : decode mX11_choose.2.1 21 = .ok (.invokestatic 370, 3)) kX11_370 rfl rfl sp (by decide) (by decide) (Nat.le_of_ble_eq_true rfl) (by omega) (fun v9 h5 hq9 => ?_)
      obtain ⟨r5, e9, vc⟩ := vc v9 h5 hq9
      subst e9
      show XW _ _ _ _ _ _ _ 24 _ [.int r5]
      refine xi_if_ne (by decide +kernel : decode mX11_choose.2.1 24 = .ok (.ifCond .ne 9, 3)) (by decide) (fun c => (?_ : XW _ _ _ _ _ _ _ 33 _ _)) (fun c => (?_ : XW _ _ _ _ _ _ _ 27 _ _))
      · replace vc := vc.1 c
        refine xi_iload (by decide +kernel : decode mX11_choose.2.1 33 = .ok (.iload 4, 2)) rfl (?_ : XW _ _ _ _ _ _ _ 35 _ _)
        refine xi_i2l (by decide +kernel : decode mX11_choose.2.1 35 = .ok (.i2l, 1)) (?_ : XW _ _ _ _ _ _ _ 36 _ _)
        refine xi_lconst (v := 1) (by decide +kernel : decode mX11_choose.2.1 36 = .ok (.lconst 1, 1)) (by decide) (?_ : XW _ _ _ _ _ _ _ 37 _ _)
        refine xi_ldc2 (v := 100) (by decide +kernel : decode mX11_choose.2.1 37 = .ok (.ldc2_w 438, 3)) cK_X11_438 (?_ : XW _ _ _ _ _ _ _ 40 _ _)
        obtain ⟨Q1, sp, vc⟩ := vc
        refine xi_callS (b := 0) (bs := 0) (As := [.long (Int32.toInt64 n), .long 1, .long 100]) (st := []) (by decide +kernel : decode mX11_choose.2.1 40 = .ok (.invokestatic 164, 3)) kX11_164 rfl rfl sp (by decide) (by decide) (Nat.le_of_ble_eq_true rfl) (by omega) (fun v9 h6 hq9 => ?_)
        obtain ⟨r6, e9, vc⟩ := vc v9 h6 hq9
        subst e9
        show XW _ _ _ _ _ _ _ 43 _ [.int r6]
        refine xi_if_ne (by decide +kernel : decode mX11_choose.2.1 43 = .ok (.ifCond .ne 9, 3)) (by decide) (fun c => (?_ : XW _ _ _ _ _ _ _ 52 _ _)) (fun c => (?_ : XW _ _ _ _ _ _ _ 46 _ _))
        · replace vc := vc.1 c
          refine xi_aload_n (by decide +kernel : decode mX11_choose.2.1 52 = .ok (.aload_n 0, 1)) rfl rfl (?_ : XW _ _ _ _ _ _ _ 53 _ _)
          obtain ⟨Q1, sp, vc⟩ := vc
          refine xi_callV (b := 0) (bs := 0) (As := []) (st := []) (by decide +kernel : decode mX11_choose.2.1 53 = .ok (.invokevirtual 373, 3)) kX11_373 rfl rfl (by omega) rfl sp (by decide) (by decide) (Nat.le_of_ble_eq_true rfl) (by omega) (fun v9 h7 hq9 => ?_)
          obtain ⟨e9, vc⟩ := vc v9 h7 hq9
          subst e9
          show XW _ _ _ _ _ _ _ 56 _ []
          refine xi_aload_n (by decide +kernel : decode mX11_choose.2.1 56 = .ok (.aload_n 0, 1)) rfl rfl (?_ : XW _ _ _ _ _ _ _ 57 _ _)
          refine xi_iload (by decide +kernel : decode mX11_choose.2.1 57 = .ok (.iload 4, 2)) rfl (?_ : XW _ _ _ _ _ _ _ 59 _ _)
          refine xi_iconst (v := 1) (by decide +kernel : decode mX11_choose.2.1 59 = .ok (.iconst 1, 1)) (by decide) (?_ : XW _ _ _ _ _ _ _ 60 _ _)
          refine xi_isub (by decide +kernel : decode mX11_choose.2.1 60 = .ok (.isub, 1)) (?_ : XW _ _ _ _ _ _ _ 61 _ _)
          obtain ⟨Q1, sp, vc⟩ := vc
          refine xi_callV (b := 0) (bs := 0) (As := [.int (n - 1)]) (st := []) (by decide +kernel : decode mX11_choose.2.1 61 = .ok (.invokevirtual 440, 3)) kX11_440 rfl rfl (by omega) rfl sp (by decide) (by decide) (Nat.le_of_ble_eq_true rfl) (by omega) (fun v9 h8 hq9 => ?_)
          obtain ⟨e9, vc⟩ := vc v9 h8 hq9
          subst e9
          show XW _ _ _ _ _ _ _ 64 _ []
          refine xi_aload_n (by decide +kernel : decode mX11_choose.2.1 64 = .ok (.aload_n 0, 1)) rfl rfl (?_ : XW _ _ _ _ _ _ _ 65 _ _)
          obtain ⟨s1, vc⟩ := vc
          refine xi_getR (y := 81) (by decide +kernel : decode mX11_choose.2.1 65 = .ok (.getfield 106, 3)) fX11_106 rfl (by omega) rfl s1 (?_ : XW _ _ _ _ _ _ _ 68 _ _)
          refine xi_aload_n (by decide +kernel : decode mX11_choose.2.1 68 = .ok (.aload_n 0, 1)) rfl rfl (?_ : XW _ _ _ _ _ _ _ 69 _ _)
          obtain ⟨s1, vc⟩ := vc
          refine xi_getR (y := 67) (by decide +kernel : decode mX11_choose.2.1 69 = .ok (.getfield 61, 3)) fX11_61 rfl (by omega) rfl s1 (?_ : XW _ _ _ _ _ _ _ 72 _ _)
          refine xi_bipush (v := 101) (by decide +kernel : decode mX11_choose.2.1 72 = .ok (.bipush 101, 2)) (by decide) (?_ : XW _ _ _ _ _ _ _ 74 _ _)
          refine xi_iload_n (by decide +kernel : decode mX11_choose.2.1 74 = .ok (.iload_n 3, 1)) rfl rfl (?_ : XW _ _ _ _ _ _ _ 75 _ _)
          refine xi_imul (by decide +kernel : decode mX11_choose.2.1 75 = .ok (.imul, 1)) (?_ : XW _ _ _ _ _ _ _ 76 _ _)
          refine xi_iload_n (by decide +kernel : decode mX11_choose.2.1 76 = .ok (.iload_n 1, 1)) rfl rfl (?_ : XW _ _ _ _ _ _ _ 77 _ _)
          refine xi_iadd (by decide +kernel : decode mX11_choose.2.1 77 = .ok (.iadd, 1)) (?_ : XW _ _ _ _ _ _ _ 78 _ _)
          obtain ⟨s1, vc⟩ := vc
          refine xi_iald (by decide +kernel : decode mX11_choose.2.1 78 = .ok (.iaload, 1)) rfl (by omega) s1 (?_ : XW _ _ _ _ _ _ _ 79 _ _)
          obtain ⟨s1, vc⟩ := vc
          refine xi_lald (by decide +kernel : decode mX11_choose.2.1 79 = .ok (.laload, 1)) rfl (by omega) s1 (?_ : XW _ _ _ _ _ _ _ 80 _ _)
          refine xi_aload_n (by decide +kernel : decode mX11_choose.2.1 80 = .ok (.aload_n 0, 1)) rfl rfl (?_ : XW _ _ _ _ _ _ _ 81 _ _)
          obtain ⟨s1, vc⟩ := vc
          refine xi_getR (y := 81) (by decide +kernel : decode mX11_choose.2.1 81 = .ok (.getfield 106, 3)) fX11_106 rfl (by omega) rfl s1 (?_ : XW _ _ _ _ _ _ _ 84 _ _)
          refine xi_aload_n (by decide +kernel : decode mX11_choose.2.1 84 = .ok (.aload_n 0, 1)) rfl rfl (?_ : XW _ _ _ _ _ _ _ 85 _ _)
          obtain ⟨s1, vc⟩ := vc
          refine xi_getR (y := 67) (by decide +kernel : decode mX11_choose.2.1 85 = .ok (.getfield 61, 3)) fX11_61 rfl (by omega) rfl s1 (?_ : XW _ _ _ _ _ _ _ 88 _ _)
          refine xi_bipush (v := 101) (by decide +kernel : decode mX11_choose.2.1 88 = .ok (.bipush 101, 2)) (by decide) (?_ : XW _ _ _ _ _ _ _ 90 _ _)
          refine xi_iload_n (by decide +kernel : decode mX11_choose.2.1 90 = .ok (.iload_n 2, 1)) rfl rfl (?_ : XW _ _ _ _ _ _ _ 91 _ _)
          refine xi_imul (by decide +kernel : decode mX11_choose.2.1 91 = .ok (.imul, 1)) (?_ : XW _ _ _ _ _ _ _ 92 _ _)
          refine xi_iload_n (by decide +kernel : decode mX11_choose.2.1 92 = .ok (.iload_n 1, 1)) rfl rfl (?_ : XW _ _ _ _ _ _ _ 93 _ _)
          refine xi_iadd (by decide +kernel : decode mX11_choose.2.1 93 = .ok (.iadd, 1)) (?_ : XW _ _ _ _ _ _ _ 94 _ _)
          obtain ⟨s1, vc⟩ := vc
          refine xi_iald (by decide +kernel : decode mX11_choose.2.1 94 = .ok (.iaload, 1)) rfl (by omega) s1 (?_ : XW _ _ _ _ _ _ _ 95 _ _)
          obtain ⟨s1, vc⟩ := vc
          refine xi_lald (by decide +kernel : decode mX11_choose.2.1 95 = .ok (.laload, 1)) rfl (by omega) s1 (?_ : XW _ _ _ _ _ _ _ 96 _ _)
          refine xi_lcmp (by decide +kernel : decode mX11_choose.2.1 96 = .ok (.lcmp, 1)) (?_ : XW _ _ _ _ _ _ _ 97 _ _)
          refine xi_if_ge (by decide +kernel : decode mX11_choose.2.1 97 = .ok (.ifCond .ge 7, 3)) (by decide) (fun c => (?_ : XW _ _ _ _ _ _ _ 104 _ _)) (fun c => (?_ : XW _ _ _ _ _ _ _ 100 _ _))
          · replace vc := vc.1 c
            refine xi_iload_n (by decide +kernel : decode mX11_choose.2.1 104 = .ok (.iload_n 2, 1)) rfl rfl (?_ : XW _ _ _ _ _ _ _ 105 _ _)
            exact xi_iret (by decide +kernel : decode mX11_choose.2.1 105 = .ok (.ireturn, 1)) rfl rfl vc
          · replace vc := vc.2 c
            refine xi_iload_n (by decide +kernel : decode mX11_choose.2.1 100 = .ok (.iload_n 3, 1)) rfl rfl (?_ : XW _ _ _ _ _ _ _ 101 _ _)
            refine xi_goto (by decide +kernel : decode mX11_choose.2.1 101 = .ok (.goto 4, 3)) (by decide) (?_ : XW _ _ _ _ _ _ _ 105 _ _)
            exact xi_iret (by decide +kernel : decode mX11_choose.2.1 105 = .ok (.ireturn, 1)) rfl rfl vc
        · replace vc := vc.2 c
          refine xi_aload_n (by decide +kernel : decode mX11_choose.2.1 46 = .ok (.aload_n 0, 1)) rfl rfl (?_ : XW _ _ _ _ _ _ _ 47 _ _)
          refine xi_iconst (v := 2) (by decide +kernel : decode mX11_choose.2.1 47 = .ok (.iconst 2, 1)) (by decide) (?_ : XW _ _ _ _ _ _ _ 48 _ _)
          obtain ⟨Q1, sp, vc⟩ := vc
          refine xi_callV (b := 0) (bs := 0) (As := [.int 2]) (st := []) (by decide +kernel : decode mX11_choose.2.1 48 = .ok (.invokevirtual 311, 3)) kX11_311 rfl rfl (by omega) rfl sp (by decide) (by decide) (Nat.le_of_ble_eq_true rfl) (by omega) (fun v9 h9 hq9 => ?_)
          obtain ⟨r9, e9, vc⟩ := vc v9 h9 hq9
          subst e9
          show XW _ _ _ _ _ _ _ 51 _ [.int r9]
          exact xi_iret (by decide +kernel : decode mX11_choose.2.1 51 = .ok (.ireturn, 1)) rfl rfl vc
      · replace vc := vc.2 c
        refine xi_aload_n (by decide +kernel : decode mX11_choose.2.1 27 = .ok (.aload_n 0, 1)) rfl rfl (?_ : XW _ _ _ _ _ _ _ 28 _ _)
        refine xi_iconst (v := 1) (by decide +kernel : decode mX11_choose.2.1 28 = .ok (.iconst 1, 1)) (by decide) (?_ : XW _ _ _ _ _ _ _ 29 _ _)
        obtain ⟨Q1, sp, vc⟩ := vc
        refine xi_callV (b := 0) (bs := 0) (As := [.int 1]) (st := []) (by decide +kernel : decode mX11_choose.2.1 29 = .ok (.invokevirtual 311, 3)) kX11_311 rfl rfl (by omega) rfl sp (by decide) (by decide) (Nat.le_of_ble_eq_true rfl) (by omega) (fun v9 h10 hq9 => ?_)
        obtain ⟨r10, e9, vc⟩ := vc v9 h10 hq9
        subst e9
        show XW _ _ _ _ _ _ _ 32 _ [.int r10]
        exact xi_iret (by decide +kernel : decode mX11_choose.2.1 32 = .ok (.ireturn, 1)) rfl rfl vc

set_option maxRecDepth 20000 in
theorem v_X11_lessBy_0 {h : XH} {Q : Option Value → XH → Prop} {X : String → XH → Prop} (hM : xMod (xP h))  (f : Int32) (a : Int32) (b : Int32)
    (vc : (¬ a = (xI h 59 0) → (vp_in ((101 * f) + a) 707) ∧ ((vp_in ((41 * (xI h 67 ((101 * f) + a).toNatClampNeg)) + b) 1681) ∧ ((¬ b = (xI h 59 0) → (vp_in ((101 * f) + b) 707) ∧ ((vp_in ((41 * a) + (xI h 67 ((101 * f) + b).toNatClampNeg)) 1681) ∧ ((¬ (lg_cmp (xL h 85 ((41 * (xI h 67 ((101 * f) + a).toNatClampNeg)) + b).toNatClampNeg) (-1)) = 0 → (¬ (lg_cmp (xL h 85 ((41 * a) + (xI h 67 ((101 * f) + b).toNatClampNeg)).toNatClampNeg) (-1)) = 0 → Q (some (.long (if (xL h 85 ((41 * a) + (xI h 67 ((101 * f) + b).toNatClampNeg)).toNatClampNeg) < (xL h 85 ((41 * (xI h 67 ((101 * f) + a).toNatClampNeg)) + b).toNatClampNeg) then (xL h 85 ((41 * a) + (xI h 67 ((101 * f) + b).toNatClampNeg)).toNatClampNeg) else (xL h 85 ((41 * (xI h 67 ((101 * f) + a).toNatClampNeg)) + b).toNatClampNeg)))) h) ∧ ((lg_cmp (xL h 85 ((41 * a) + (xI h 67 ((101 * f) + b).toNatClampNeg)).toNatClampNeg) (-1)) = 0 → Q (some (.long (xL h 85 ((41 * (xI h 67 ((101 * f) + a).toNatClampNeg)) + b).toNatClampNeg))) h)) ∧ ((lg_cmp (xL h 85 ((41 * (xI h 67 ((101 * f) + a).toNatClampNeg)) + b).toNatClampNeg) (-1)) = 0 → Q (some (.long (xL h 85 ((41 * a) + (xI h 67 ((101 * f) + b).toNatClampNeg)).toNatClampNeg))) h)))) ∧ (b = (xI h 59 0) → (¬ (lg_cmp (xL h 85 ((41 * (xI h 67 ((101 * f) + a).toNatClampNeg)) + b).toNatClampNeg) (-1)) = 0 → (¬ (lg_cmp (-1) (-1)) = 0 → Q (some (.long (if (-1) < (xL h 85 ((41 * (xI h 67 ((101 * f) + a).toNatClampNeg)) + b).toNatClampNeg) then (-1) else (xL h 85 ((41 * (xI h 67 ((101 * f) + a).toNatClampNeg)) + b).toNatClampNeg)))) h) ∧ ((lg_cmp (-1) (-1)) = 0 → Q (some (.long (xL h 85 ((41 * (xI h 67 ((101 * f) + a).toNatClampNeg)) + b).toNatClampNeg))) h)) ∧ ((lg_cmp (xL h 85 ((41 * (xI h 67 ((101 * f) + a).toNatClampNeg)) + b).toNatClampNeg) (-1)) = 0 → Q (some (.long (-1))) h))))) ∧ (a = (xI h 59 0) → (¬ b = (xI h 59 0) → (vp_in ((101 * f) + b) 707) ∧ ((vp_in ((41 * a) + (xI h 67 ((101 * f) + b).toNatClampNeg)) 1681) ∧ ((¬ (lg_cmp (-1) (-1)) = 0 → (¬ (lg_cmp (xL h 85 ((41 * a) + (xI h 67 ((101 * f) + b).toNatClampNeg)).toNatClampNeg) (-1)) = 0 → Q (some (.long (if (xL h 85 ((41 * a) + (xI h 67 ((101 * f) + b).toNatClampNeg)).toNatClampNeg) < (-1) then (xL h 85 ((41 * a) + (xI h 67 ((101 * f) + b).toNatClampNeg)).toNatClampNeg) else (-1)))) h) ∧ ((lg_cmp (xL h 85 ((41 * a) + (xI h 67 ((101 * f) + b).toNatClampNeg)).toNatClampNeg) (-1)) = 0 → Q (some (.long (-1))) h)) ∧ ((lg_cmp (-1) (-1)) = 0 → Q (some (.long (xL h 85 ((41 * a) + (xI h 67 ((101 * f) + b).toNatClampNeg)).toNatClampNeg))) h)))) ∧ (b = (xI h 59 0) → (¬ (lg_cmp (-1) (-1)) = 0 → (¬ (lg_cmp (-1) (-1)) = 0 → Q (some (.long (if (-1) < (-1) then (-1) else (-1)))) h) ∧ ((lg_cmp (-1) (-1)) = 0 → Q (some (.long (-1))) h)) ∧ ((lg_cmp (-1) (-1)) = 0 → Q (some (.long (-1))) h)))) :
    XW (xrm 2 0 0) mX11_lessBy (xE 100 Q X 0 0) 100 0 0 h 0 [some (.ref 56), some (.int f), some (.int a), some (.int b), none, none, none, none] [] := by
  refine xi_iload_n (by decide +kernel : decode mX11_lessBy.2.1 0 = .ok (.iload_n 2, 1)) rfl rfl (?_ : XW _ _ _ _ _ _ _ 1 _ _)
  refine xi_aload_n (by decide +kernel : decode mX11_lessBy.2.1 1 = .ok (.aload_n 0, 1)) rfl rfl (?_ : XW _ _ _ _ _ _ _ 2 _ _)
  refine xi_getR (y := 59) (by decide +kernel : decode mX11_lessBy.2.1 2 = .ok (.getfield 32, 3)) fX11_32 rfl (by omega) rfl (mp_told hM) (?_ : XW _ _ _ _ _ _ _ 5 _ _)
  refine xi_iconst (v := 0) (by decide +kernel : decode mX11_lessBy.2.1 5 = .ok (.iconst 0, 1)) (by decide) (?_ : XW _ _ _ _ _ _ _ 6 _ _)
  refine xi_iald (by decide +kernel : decode mX11_lessBy.2.1 6 = .ok (.iaload, 1)) rfl (by omega) (by unfold vp_in; decide) (?_ : XW _ _ _ _ _ _ _ 7 _ [.int (xI h 59 0), .int a])
  refine xi_icmp_ne (by decide +kernel : decode mX11_lessBy.2.1 7 = .ok (.if_icmp .ne 9, 3)) (by decide) (fun c => (?_ : XW _ _ _ _ _ _ _ 16 _ _)) (fun c => (?_ : XW _ _ _ _ _ _ _ 10 _ _))
  · replace vc := vc.1 c
    refine xi_aload_n (by decide +kernel : decode mX11_lessBy.2.1 16 = .ok (.aload_n 0, 1)) rfl rfl (?_ : XW _ _ _ _ _ _ _ 17 _ _)
    refine xi_getR (y := 85) (by decide +kernel : decode mX11_lessBy.2.1 17 = .ok (.getfield 119, 3)) fX11_119 rfl (by omega) rfl (mp_both hM) (?_ : XW _ _ _ _ _ _ _ 20 _ _)
    refine xi_bipush (v := 41) (by decide +kernel : decode mX11_lessBy.2.1 20 = .ok (.bipush 41, 2)) (by decide) (?_ : XW _ _ _ _ _ _ _ 22 _ _)
    refine xi_aload_n (by decide +kernel : decode mX11_lessBy.2.1 22 = .ok (.aload_n 0, 1)) rfl rfl (?_ : XW _ _ _ _ _ _ _ 23 _ _)
    refine xi_getR (y := 67) (by decide +kernel : decode mX11_lessBy.2.1 23 = .ok (.getfield 61, 3)) fX11_61 rfl (by omega) rfl (mp_to hM) (?_ : XW _ _ _ _ _ _ _ 26 _ _)
    refine xi_bipush (v := 101) (by decide +kernel : decode mX11_lessBy.2.1 26 = .ok (.bipush 101, 2)) (by decide) (?_ : XW _ _ _ _ _ _ _ 28 _ _)
    refine xi_iload_n (by decide +kernel : decode mX11_lessBy.2.1 28 = .ok (.iload_n 1, 1)) rfl rfl (?_ : XW _ _ _ _ _ _ _ 29 _ _)
    refine xi_imul (by decide +kernel : decode mX11_lessBy.2.1 29 = .ok (.imul, 1)) (?_ : XW _ _ _ _ _ _ _ 30 _ _)
    refine xi_iload_n (by decide +kernel : decode mX11_lessBy.2.1 30 = .ok (.iload_n 2, 1)) rfl rfl (?_ : XW _ _ _ _ _ _ _ 31 _ _)
    refine xi_iadd (by decide +kernel : decode mX11_lessBy.2.1 31 = .ok (.iadd, 1)) (?_ : XW _ _ _ _ _ _ _ 32 _ _)
    obtain ⟨s1, vc⟩ := vc
    refine xi_iald (by decide +kernel : decode mX11_lessBy.2.1 32 = .ok (.iaload, 1)) rfl (by omega) s1 (?_ : XW _ _ _ _ _ _ _ 33 _ _)
    refine xi_imul (by decide +kernel : decode mX11_lessBy.2.1 33 = .ok (.imul, 1)) (?_ : XW _ _ _ _ _ _ _ 34 _ _)
    refine xi_iload_n (by decide +kernel : decode mX11_lessBy.2.1 34 = .ok (.iload_n 3, 1)) rfl rfl (?_ : XW _ _ _ _ _ _ _ 35 _ _)
    refine xi_iadd (by decide +kernel : decode mX11_lessBy.2.1 35 = .ok (.iadd, 1)) (?_ : XW _ _ _ _ _ _ _ 36 _ _)
    obtain ⟨s1, vc⟩ := vc
    refine xi_lald (by decide +kernel : decode mX11_lessBy.2.1 36 = .ok (.laload, 1)) rfl (by omega) s1 (?_ : XW _ _ _ _ _ _ _ 37 _ _)
    refine xi_lstore (ls' := [some (.ref 56), some (.int f), some (.int a), some (.int b), some (.long (xL h 85 ((41 * (xI h 67 ((101 * f) + a).toNatClampNeg)) + b).toNatClampNeg)), none, none, none]) (by decide +kernel : decode mX11_lessBy.2.1 37 = .ok (.lstore 4, 2)) (by decide) rfl (?_ : XW _ _ _ _ _ _ _ 39 _ _)
    refine xi_iload_n (by decide +kernel : decode mX11_lessBy.2.1 39 = .ok (.iload_n 3, 1)) rfl rfl (?_ : XW _ _ _ _ _ _ _ 40 _ _)
    refine xi_aload_n (by decide +kernel : decode mX11_lessBy.2.1 40 = .ok (.aload_n 0, 1)) rfl rfl (?_ : XW _ _ _ _ _ _ _ 41 _ _)
    refine xi_getR (y := 59) (by decide +kernel : decode mX11_lessBy.2.1 41 = .ok (.getfield 32, 3)) fX11_32 rfl (by omega) rfl (mp_told hM) (?_ : XW _ _ _ _ _ _ _ 44 _ _)
    refine xi_iconst (v := 0) (by decide +kernel : decode mX11_lessBy.2.1 44 = .ok (.iconst 0, 1)) (by decide) (?_ : XW _ _ _ _ _ _ _ 45 _ _)
    refine xi_iald (by decide +kernel : decode mX11_lessBy.2.1 45 = .ok (.iaload, 1)) rfl (by omega) (by unfold vp_in; decide) (?_ : XW _ _ _ _ _ _ _ 46 _ [.int (xI h 59 0), .int b])
    refine xi_icmp_ne (by decide +kernel : decode mX11_lessBy.2.1 46 = .ok (.if_icmp .ne 9, 3)) (by decide) (fun c => (?_ : XW _ _ _ _ _ _ _ 55 _ _)) (fun c => (?_ : XW _ _ _ _ _ _ _ 49 _ _))
    · replace vc := vc.1 c
      refine xi_aload_n (by decide +kernel : decode mX11_lessBy.2.1 55 = .ok (.aload_n 0, 1)) rfl rfl (?_ : XW _ _ _ _ _ _ _ 56 _ _)
      refine xi_getR (y := 85) (by decide +kernel : decode mX11_lessBy.2.1 56 = .ok (.getfield 119, 3)) fX11_119 rfl (by omega) rfl (mp_both hM) (?_ : XW _ _ _ _ _ _ _ 59 _ _)
      refine xi_bipush (v := 41) (by decide +kernel : decode mX11_lessBy.2.1 59 = .ok (.bipush 41, 2)) (by decide) (?_ : XW _ _ _ _ _ _ _ 61 _ _)
      refine xi_iload_n (by decide +kernel : decode mX11_lessBy.2.1 61 = .ok (.iload_n 2, 1)) rfl rfl (?_ : XW _ _ _ _ _ _ _ 62 _ _)
      refine xi_imul (by decide +kernel : decode mX11_lessBy.2.1 62 = .ok (.imul, 1)) (?_ : XW _ _ _ _ _ _ _ 63 _ _)
      refine xi_aload_n (by decide +kernel : decode mX11_lessBy.2.1 63 = .ok (.aload_n 0, 1)) rfl rfl (?_ : XW _ _ _ _ _ _ _ 64 _ _)
      refine xi_getR (y := 67) (by decide +kernel : decode mX11_lessBy.2.1 64 = .ok (.getfield 61, 3)) fX11_61 rfl (by omega) rfl (mp_to hM) (?_ : XW _ _ _ _ _ _ _ 67 _ _)
      refine xi_bipush (v := 101) (by decide +kernel : decode mX11_lessBy.2.1 67 = .ok (.bipush 101, 2)) (by decide) (?_ : XW _ _ _ _ _ _ _ 69 _ _)
      refine xi_iload_n (by decide +kernel : decode mX11_lessBy.2.1 69 = .ok (.iload_n 1, 1)) rfl rfl (?_ : XW _ _ _ _ _ _ _ 70 _ _)
      refine xi_imul (by decide +kernel : decode mX11_lessBy.2.1 70 = .ok (.imul, 1)) (?_ : XW _ _ _ _ _ _ _ 71 _ _)
      refine xi_iload_n (by decide +kernel : decode mX11_lessBy.2.1 71 = .ok (.iload_n 3, 1)) rfl rfl (?_ : XW _ _ _ _ _ _ _ 72 _ _)
      refine xi_iadd (by decide +kernel : decode mX11_lessBy.2.1 72 = .ok (.iadd, 1)) (?_ : XW _ _ _ _ _ _ _ 73 _ _)
      obtain ⟨s1, vc⟩ := vc
      refine xi_iald (by decide +kernel : decode mX11_lessBy.2.1 73 = .ok (.iaload, 1)) rfl (by omega) s1 (?_ : XW _ _ _ _ _ _ _ 74 _ _)
      refine xi_iadd (by decide +kernel : decode mX11_lessBy.2.1 74 = .ok (.iadd, 1)) (?_ : XW _ _ _ _ _ _ _ 75 _ _)
      obtain ⟨s1, vc⟩ := vc
      refine xi_lald (by decide +kernel : decode mX11_lessBy.2.1 75 = .ok (.laload, 1)) rfl (by omega) s1 (?_ : XW _ _ _ _ _ _ _ 76 _ _)
      refine xi_lstore (ls' := [some (.ref 56), some (.int f), some (.int a), some (.int b), some (.long (xL h 85 ((41 * (xI h 67 ((101 * f) + a).toNatClampNeg)) + b).toNatClampNeg)), none, some (.long (xL h 85 ((41 * a) + (xI h 67 ((101 * f) + b).toNatClampNeg)).toNatClampNeg)), none]) (by decide +kernel : decode mX11_lessBy.2.1 76 = .ok (.lstore 6, 2)) (by decide) rfl (?_ : XW _ _ _ _ _ _ _ 78 _ _)
      refine xi_lload (by decide +kernel : decode mX11_lessBy.2.1 78 = .ok (.lload 4, 2)) rfl (?_ : XW _ _ _ _ _ _ _ 80 _ _)
      refine xi_ldc2 (v := (-1)) (by decide +kernel : decode mX11_lessBy.2.1 80 = .ok (.ldc2_w 443, 3)) cK_X11_443 (?_ : XW _ _ _ _ _ _ _ 83 _ _)
      refine xi_lcmp (by decide +kernel : decode mX11_lessBy.2.1 83 = .ok (.lcmp, 1)) (?_ : XW _ _ _ _ _ _ _ 84 _ _)
      refine xi_if_ne (by decide +kernel : decode mX11_lessBy.2.1 84 = .ok (.ifCond .ne 8, 3)) (by decide) (fun c => (?_ : XW _ _ _ _ _ _ _ 92 _ _)) (fun c => (?_ : XW _ _ _ _ _ _ _ 87 _ _))
      · replace vc := vc.1 c
        refine xi_lload (by decide +kernel : decode mX11_lessBy.2.1 92 = .ok (.lload 6, 2)) rfl (?_ : XW _ _ _ _ _ _ _ 94 _ _)
        refine xi_ldc2 (v := (-1)) (by decide +kernel : decode mX11_lessBy.2.1 94 = .ok (.ldc2_w 443, 3)) cK_X11_443 (?_ : XW _ _ _ _ _ _ _ 97 _ _)
        refine xi_lcmp (by decide +kernel : decode mX11_lessBy.2.1 97 = .ok (.lcmp, 1)) (?_ : XW _ _ _ _ _ _ _ 98 _ _)
        refine xi_if_ne (by decide +kernel : decode mX11_lessBy.2.1 98 = .ok (.ifCond .ne 8, 3)) (by decide) (fun c => (?_ : XW _ _ _ _ _ _ _ 106 _ _)) (fun c => (?_ : XW _ _ _ _ _ _ _ 101 _ _))
        · replace vc := vc.1 c
          refine xi_lload (by decide +kernel : decode mX11_lessBy.2.1 106 = .ok (.lload 4, 2)) rfl (?_ : XW _ _ _ _ _ _ _ 108 _ _)
          refine xi_lload (by decide +kernel : decode mX11_lessBy.2.1 108 = .ok (.lload 6, 2)) rfl (?_ : XW _ _ _ _ _ _ _ 110 _ _)
          refine xi_mminl (by decide +kernel : decode mX11_lessBy.2.1 110 = .ok (.invokestatic 435, 3)) kX11_435.2.1 (by decide) (Nat.le_of_ble_eq_true rfl) (?_ : XW _ _ _ _ _ _ _ 113 _ _)
          exact xi_lret (by decide +kernel : decode mX11_lessBy.2.1 113 = .ok (.lreturn, 1)) rfl vc
        · replace vc := vc.2 c
          refine xi_lload (by decide +kernel : decode mX11_lessBy.2.1 101 = .ok (.lload 4, 2)) rfl (?_ : XW _ _ _ _ _ _ _ 103 _ _)
          refine xi_goto (by decide +kernel : decode mX11_lessBy.2.1 103 = .ok (.goto 10, 3)) (by decide) (?_ : XW _ _ _ _ _ _ _ 113 _ _)
          exact xi_lret (by decide +kernel : decode mX11_lessBy.2.1 113 = .ok (.lreturn, 1)) rfl vc
      · replace vc := vc.2 c
        refine xi_lload (by decide +kernel : decode mX11_lessBy.2.1 87 = .ok (.lload 6, 2)) rfl (?_ : XW _ _ _ _ _ _ _ 89 _ _)
        refine xi_goto (by decide +kernel : decode mX11_lessBy.2.1 89 = .ok (.goto 24, 3)) (by decide) (?_ : XW _ _ _ _ _ _ _ 113 _ _)
        exact xi_lret (by decide +kernel : decode mX11_lessBy.2.1 113 = .ok (.lreturn, 1)) rfl vc
    · replace vc := vc.2 c
      refine xi_ldc2 (v := (-1)) (by decide +kernel : decode mX11_lessBy.2.1 49 = .ok (.ldc2_w 443, 3)) cK_X11_443 (?_ : XW _ _ _ _ _ _ _ 52 _ _)
      refine xi_goto (by decide +kernel : decode mX11_lessBy.2.1 52 = .ok (.goto 24, 3)) (by decide) (?_ : XW _ _ _ _ _ _ _ 76 _ _)
      refine xi_lstore (ls' := [some (.ref 56), some (.int f), some (.int a), some (.int b), some (.long (xL h 85 ((41 * (xI h 67 ((101 * f) + a).toNatClampNeg)) + b).toNatClampNeg)), none, some (.long (-1)), none]) (by decide +kernel : decode mX11_lessBy.2.1 76 = .ok (.lstore 6, 2)) (by decide) rfl (?_ : XW _ _ _ _ _ _ _ 78 _ _)
      refine xi_lload (by decide +kernel : decode mX11_lessBy.2.1 78 = .ok (.lload 4, 2)) rfl (?_ : XW _ _ _ _ _ _ _ 80 _ _)
      refine xi_ldc2 (v := (-1)) (by decide +kernel : decode mX11_lessBy.2.1 80 = .ok (.ldc2_w 443, 3)) cK_X11_443 (?_ : XW _ _ _ _ _ _ _ 83 _ _)
      refine xi_lcmp (by decide +kernel : decode mX11_lessBy.2.1 83 = .ok (.lcmp, 1)) (?_ : XW _ _ _ _ _ _ _ 84 _ _)
      refine xi_if_ne (by decide +kernel : decode mX11_lessBy.2.1 84 = .ok (.ifCond .ne 8, 3)) (by decide) (fun c => (?_ : XW _ _ _ _ _ _ _ 92 _ _)) (fun c => (?_ : XW _ _ _ _ _ _ _ 87 _ _))
      · replace vc := vc.1 c
        refine xi_lload (by decide +kernel : decode mX11_lessBy.2.1 92 = .ok (.lload 6, 2)) rfl (?_ : XW _ _ _ _ _ _ _ 94 _ _)
        refine xi_ldc2 (v := (-1)) (by decide +kernel : decode mX11_lessBy.2.1 94 = .ok (.ldc2_w 443, 3)) cK_X11_443 (?_ : XW _ _ _ _ _ _ _ 97 _ _)
        refine xi_lcmp (by decide +kernel : decode mX11_lessBy.2.1 97 = .ok (.lcmp, 1)) (?_ : XW _ _ _ _ _ _ _ 98 _ _)
        refine xi_if_ne (by decide +kernel : decode mX11_lessBy.2.1 98 = .ok (.ifCond .ne 8, 3)) (by decide) (fun c => (?_ : XW _ _ _ _ _ _ _ 106 _ _)) (fun c => (?_ : XW _ _ _ _ _ _ _ 101 _ _))
        · replace vc := vc.1 c
          refine xi_lload (by decide +kernel : decode mX11_lessBy.2.1 106 = .ok (.lload 4, 2)) rfl (?_ : XW _ _ _ _ _ _ _ 108 _ _)
          refine xi_lload (by decide +kernel : decode mX11_lessBy.2.1 108 = .ok (.lload 6, 2)) rfl (?_ : XW _ _ _ _ _ _ _ 110 _ _)
          refine xi_mminl (by decide +kernel : decode mX11_lessBy.2.1 110 = .ok (.invokestatic 435, 3)) kX11_435.2.1 (by decide) (Nat.le_of_ble_eq_true rfl) (?_ : XW _ _ _ _ _ _ _ 113 _ _)
          exact xi_lret (by decide +kernel : decode mX11_lessBy.2.1 113 = .ok (.lreturn, 1)) rfl vc
        · replace vc := vc.2 c
          refine xi_lload (by decide +kernel : decode mX11_lessBy.2.1 101 = .ok (.lload 4, 2)) rfl (?_ : XW _ _ _ _ _ _ _ 103 _ _)
          refine xi_goto (by decide +kernel : decode mX11_lessBy.2.1 103 = .ok (.goto 10, 3)) (by decide) (?_ : XW _ _ _ _ _ _ _ 113 _ _)
          exact xi_lret (by decide +kernel : decode mX11_lessBy.2.1 113 = .ok (.lreturn, 1)) rfl vc
      · replace vc := vc.2 c
        refine xi_lload (by decide +kernel : decode mX11_lessBy.2.1 87 = .ok (.lload 6, 2)) rfl (?_ : XW _ _ _ _ _ _ _ 89 _ _)
        refine xi_goto (by decide +kernel : decode mX11_lessBy.2.1 89 = .ok (.goto 24, 3)) (by decide) (?_ : XW _ _ _ _ _ _ _ 113 _ _)
        exact xi_lret (by decide +kernel : decode mX11_lessBy.2.1 113 = .ok (.lreturn, 1)) rfl vc
  · replace vc := vc.2 c
    refine xi_ldc2 (v := (-1)) (by decide +kernel : decode mX11_lessBy.2.1 10 = .ok (.ldc2_w 443, 3)) cK_X11_443 (?_ : XW _ _ _ _ _ _ _ 13 _ _)
    refine xi_goto (by decide +kernel : decode mX11_lessBy.2.1 13 = .ok (.goto 24, 3)) (by decide) (?_ : XW _ _ _ _ _ _ _ 37 _ _)
    refine xi_lstore (ls' := [some (.ref 56), some (.int f), some (.int a), some (.int b), some (.long (-1)), none, none, none]) (by decide +kernel : decode mX11_lessBy.2.1 37 = .ok (.lstore 4, 2)) (by decide) rfl (?_ : XW _ _ _ _ _ _ _ 39 _ _)
    refine xi_iload_n (by decide +kernel : decode mX11_lessBy.2.1 39 = .ok (.iload_n 3, 1)) rfl rfl (?_ : XW _ _ _ _ _ _ _ 40 _ _)
    refine xi_aload_n (by decide +kernel : decode mX11_lessBy.2.1 40 = .ok (.aload_n 0, 1)) rfl rfl (?_ : XW _ _ _ _ _ _ _ 41 _ _)
    refine xi_getR (y := 59) (by decide +kernel : decode mX11_lessBy.2.1 41 = .ok (.getfield 32, 3)) fX11_32 rfl (by omega) rfl (mp_told hM) (?_ : XW _ _ _ _ _ _ _ 44 _ _)
    refine xi_iconst (v := 0) (by decide +kernel : decode mX11_lessBy.2.1 44 = .ok (.iconst 0, 1)) (by decide) (?_ : XW _ _ _ _ _ _ _ 45 _ _)
    refine xi_iald (by decide +kernel : decode mX11_lessBy.2.1 45 = .ok (.iaload, 1)) rfl (by omega) (by unfold vp_in; decide) (?_ : XW _ _ _ _ _ _ _ 46 _ [.int (xI h 59 0), .int b])
    refine xi_icmp_ne (by decide +kernel : decode mX11_lessBy.2.1 46 = .ok (.if_icmp .ne 9, 3)) (by decide) (fun c => (?_ : XW _ _ _ _ _ _ _ 55 _ _)) (fun c => (?_ : XW _ _ _ _ _ _ _ 49 _ _))
    · replace vc := vc.1 c
      refine xi_aload_n (by decide +kernel : decode mX11_lessBy.2.1 55 = .ok (.aload_n 0, 1)) rfl rfl (?_ : XW _ _ _ _ _ _ _ 56 _ _)
      refine xi_getR (y := 85) (by decide +kernel : decode mX11_lessBy.2.1 56 = .ok (.getfield 119, 3)) fX11_119 rfl (by omega) rfl (mp_both hM) (?_ : XW _ _ _ _ _ _ _ 59 _ _)
      refine xi_bipush (v := 41) (by decide +kernel : decode mX11_lessBy.2.1 59 = .ok (.bipush 41, 2)) (by decide) (?_ : XW _ _ _ _ _ _ _ 61 _ _)
      refine xi_iload_n (by decide +kernel : decode mX11_lessBy.2.1 61 = .ok (.iload_n 2, 1)) rfl rfl (?_ : XW _ _ _ _ _ _ _ 62 _ _)
      refine xi_imul (by decide +kernel : decode mX11_lessBy.2.1 62 = .ok (.imul, 1)) (?_ : XW _ _ _ _ _ _ _ 63 _ _)
      refine xi_aload_n (by decide +kernel : decode mX11_lessBy.2.1 63 = .ok (.aload_n 0, 1)) rfl rfl (?_ : XW _ _ _ _ _ _ _ 64 _ _)
      refine xi_getR (y := 67) (by decide +kernel : decode mX11_lessBy.2.1 64 = .ok (.getfield 61, 3)) fX11_61 rfl (by omega) rfl (mp_to hM) (?_ : XW _ _ _ _ _ _ _ 67 _ _)
      refine xi_bipush (v := 101) (by decide +kernel : decode mX11_lessBy.2.1 67 = .ok (.bipush 101, 2)) (by decide) (?_ : XW _ _ _ _ _ _ _ 69 _ _)
      refine xi_iload_n (by decide +kernel : decode mX11_lessBy.2.1 69 = .ok (.iload_n 1, 1)) rfl rfl (?_ : XW _ _ _ _ _ _ _ 70 _ _)
      refine xi_imul (by decide +kernel : decode mX11_lessBy.2.1 70 = .ok (.imul, 1)) (?_ : XW _ _ _ _ _ _ _ 71 _ _)
      refine xi_iload_n (by decide +kernel : decode mX11_lessBy.2.1 71 = .ok (.iload_n 3, 1)) rfl rfl (?_ : XW _ _ _ _ _ _ _ 72 _ _)
      refine xi_iadd (by decide +kernel : decode mX11_lessBy.2.1 72 = .ok (.iadd, 1)) (?_ : XW _ _ _ _ _ _ _ 73 _ _)
      obtain ⟨s1, vc⟩ := vc
      refine xi_iald (by decide +kernel : decode mX11_lessBy.2.1 73 = .ok (.iaload, 1)) rfl (by omega) s1 (?_ : XW _ _ _ _ _ _ _ 74 _ _)
      refine xi_iadd (by decide +kernel : decode mX11_lessBy.2.1 74 = .ok (.iadd, 1)) (?_ : XW _ _ _ _ _ _ _ 75 _ _)
      obtain ⟨s1, vc⟩ := vc
      refine xi_lald (by decide +kernel : decode mX11_lessBy.2.1 75 = .ok (.laload, 1)) rfl (by omega) s1 (?_ : XW _ _ _ _ _ _ _ 76 _ _)
      refine xi_lstore (ls' := [some (.ref 56), some (.int f), some (.int a), some (.int b), some (.long (-1)), none, some (.long (xL h 85 ((41 * a) + (xI h 67 ((101 * f) + b).toNatClampNeg)).toNatClampNeg)), none]) (by decide +kernel : decode mX11_lessBy.2.1 76 = .ok (.lstore 6, 2)) (by decide) rfl (?_ : XW _ _ _ _ _ _ _ 78 _ _)
      refine xi_lload (by decide +kernel : decode mX11_lessBy.2.1 78 = .ok (.lload 4, 2)) rfl (?_ : XW _ _ _ _ _ _ _ 80 _ _)
      refine xi_ldc2 (v := (-1)) (by decide +kernel : decode mX11_lessBy.2.1 80 = .ok (.ldc2_w 443, 3)) cK_X11_443 (?_ : XW _ _ _ _ _ _ _ 83 _ _)
      refine xi_lcmp (by decide +kernel : decode mX11_lessBy.2.1 83 = .ok (.lcmp, 1)) (?_ : XW _ _ _ _ _ _ _ 84 _ _)
      refine xi_if_ne (by decide +kernel : decode mX11_lessBy.2.1 84 = .ok (.ifCond .ne 8, 3)) (by decide) (fun c => (?_ : XW _ _ _ _ _ _ _ 92 _ _)) (fun c => (?_ : XW _ _ _ _ _ _ _ 87 _ _))
      · replace vc := vc.1 c
        refine xi_lload (by decide +kernel : decode mX11_lessBy.2.1 92 = .ok (.lload 6, 2)) rfl (?_ : XW _ _ _ _ _ _ _ 94 _ _)
        refine xi_ldc2 (v := (-1)) (by decide +kernel : decode mX11_lessBy.2.1 94 = .ok (.ldc2_w 443, 3)) cK_X11_443 (?_ : XW _ _ _ _ _ _ _ 97 _ _)
        refine xi_lcmp (by decide +kernel : decode mX11_lessBy.2.1 97 = .ok (.lcmp, 1)) (?_ : XW _ _ _ _ _ _ _ 98 _ _)
        refine xi_if_ne (by decide +kernel : decode mX11_lessBy.2.1 98 = .ok (.ifCond .ne 8, 3)) (by decide) (fun c => (?_ : XW _ _ _ _ _ _ _ 106 _ _)) (fun c => (?_ : XW _ _ _ _ _ _ _ 101 _ _))
        · replace vc := vc.1 c
          refine xi_lload (by decide +kernel : decode mX11_lessBy.2.1 106 = .ok (.lload 4, 2)) rfl (?_ : XW _ _ _ _ _ _ _ 108 _ _)
          refine xi_lload (by decide +kernel : decode mX11_lessBy.2.1 108 = .ok (.lload 6, 2)) rfl (?_ : XW _ _ _ _ _ _ _ 110 _ _)
          refine xi_mminl (by decide +kernel : decode mX11_lessBy.2.1 110 = .ok (.invokestatic 435, 3)) kX11_435.2.1 (by decide) (Nat.le_of_ble_eq_true rfl) (?_ : XW _ _ _ _ _ _ _ 113 _ _)
          exact xi_lret (by decide +kernel : decode mX11_lessBy.2.1 113 = .ok (.lreturn, 1)) rfl vc
        · replace vc := vc.2 c
          refine xi_lload (by decide +kernel : decode mX11_lessBy.2.1 101 = .ok (.lload 4, 2)) rfl (?_ : XW _ _ _ _ _ _ _ 103 _ _)
          refine xi_goto (by decide +kernel : decode mX11_lessBy.2.1 103 = .ok (.goto 10, 3)) (by decide) (?_ : XW _ _ _ _ _ _ _ 113 _ _)
          exact xi_lret (by decide +kernel : decode mX11_lessBy.2.1 113 = .ok (.lreturn, 1)) rfl vc
      · replace vc := vc.2 c
        refine xi_lload (by decide +kernel : decode mX11_lessBy.2.1 87 = .ok (.lload 6, 2)) rfl (?_ : XW _ _ _ _ _ _ _ 89 _ _)
        refine xi_goto (by decide +kernel : decode mX11_lessBy.2.1 89 = .ok (.goto 24, 3)) (by decide) (?_ : XW _ _ _ _ _ _ _ 113 _ _)
        exact xi_lret (by decide +kernel : decode mX11_lessBy.2.1 113 = .ok (.lreturn, 1)) rfl vc
    · replace vc := vc.2 c
      refine xi_ldc2 (v := (-1)) (by decide +kernel : decode mX11_lessBy.2.1 49 = .ok (.ldc2_w 443, 3)) cK_X11_443 (?_ : XW _ _ _ _ _ _ _ 52 _ _)
      refine xi_goto (by decide +kernel : decode mX11_lessBy.2.1 52 = .ok (.goto 24, 3)) (by decide) (?_ : XW _ _ _ _ _ _ _ 76 _ _)
      refine xi_lstore (ls' := [some (.ref 56), some (.int f), some (.int a), some (.int b), some (.long (-1)), none, some (.long (-1)), none]) (by decide +kernel : decode mX11_lessBy.2.1 76 = .ok (.lstore 6, 2)) (by decide) rfl (?_ : XW _ _ _ _ _ _ _ 78 _ _)
      refine xi_lload (by decide +kernel : decode mX11_lessBy.2.1 78 = .ok (.lload 4, 2)) rfl (?_ : XW _ _ _ _ _ _ _ 80 _ _)
      refine xi_ldc2 (v := (-1)) (by decide +kernel : decode mX11_lessBy.2.1 80 = .ok (.ldc2_w 443, 3)) cK_X11_443 (?_ : XW _ _ _ _ _ _ _ 83 _ _)
      refine xi_lcmp (by decide +kernel : decode mX11_lessBy.2.1 83 = .ok (.lcmp, 1)) (?_ : XW _ _ _ _ _ _ _ 84 _ _)
      refine xi_if_ne (by decide +kernel : decode mX11_lessBy.2.1 84 = .ok (.ifCond .ne 8, 3)) (by decide) (fun c => (?_ : XW _ _ _ _ _ _ _ 92 _ _)) (fun c => (?_ : XW _ _ _ _ _ _ _ 87 _ _))
      · replace vc := vc.1 c
        refine xi_lload (by decide +kernel : decode mX11_lessBy.2.1 92 = .ok (.lload 6, 2)) rfl (?_ : XW _ _ _ _ _ _ _ 94 _ _)
        refine xi_ldc2 (v := (-1)) (by decide +kernel : decode mX11_lessBy.2.1 94 = .ok (.ldc2_w 443, 3)) cK_X11_443 (?_ : XW _ _ _ _ _ _ _ 97 _ _)
        refine xi_lcmp (by decide +kernel : decode mX11_lessBy.2.1 97 = .ok (.lcmp, 1)) (?_ : XW _ _ _ _ _ _ _ 98 _ _)
        refine xi_if_ne (by decide +kernel : decode mX11_lessBy.2.1 98 = .ok (.ifCond .ne 8, 3)) (by decide) (fun c => (?_ : XW _ _ _ _ _ _ _ 106 _ _)) (fun c => (?_ : XW _ _ _ _ _ _ _ 101 _ _))
        · replace vc := vc.1 c
          refine xi_lload (by decide +kernel : decode mX11_lessBy.2.1 106 = .ok (.lload 4, 2)) rfl (?_ : XW _ _ _ _ _ _ _ 108 _ _)
          refine xi_lload (by decide +kernel : decode mX11_lessBy.2.1 108 = .ok (.lload 6, 2)) rfl (?_ : XW _ _ _ _ _ _ _ 110 _ _)
          refine xi_mminl (by decide +kernel : decode mX11_lessBy.2.1 110 = .ok (.invokestatic 435, 3)) kX11_435.2.1 (by decide) (Nat.le_of_ble_eq_true rfl) (?_ : XW _ _ _ _ _ _ _ 113 _ _)
          exact xi_lret (by decide +kernel : decode mX11_lessBy.2.1 113 = .ok (.lreturn, 1)) rfl vc
        · replace vc := vc.2 c
          refine xi_lload (by decide +kernel : decode mX11_lessBy.2.1 101 = .ok (.lload 4, 2)) rfl (?_ : XW _ _ _ _ _ _ _ 103 _ _)
          refine xi_goto (by decide +kernel : decode mX11_lessBy.2.1 103 = .ok (.goto 10, 3)) (by decide) (?_ : XW _ _ _ _ _ _ _ 113 _ _)
          exact xi_lret (by decide +kernel : decode mX11_lessBy.2.1 113 = .ok (.lreturn, 1)) rfl vc
      · replace vc := vc.2 c
        refine xi_lload (by decide +kernel : decode mX11_lessBy.2.1 87 = .ok (.lload 6, 2)) rfl (?_ : XW _ _ _ _ _ _ _ 89 _ _)
        refine xi_goto (by decide +kernel : decode mX11_lessBy.2.1 89 = .ok (.goto 24, 3)) (by decide) (?_ : XW _ _ _ _ _ _ _ 113 _ _)
        exact xi_lret (by decide +kernel : decode mX11_lessBy.2.1 113 = .ok (.lreturn, 1)) rfl vc

set_option maxRecDepth 20000 in
theorem v_X11_tellBoth_0 {h : XH} {Q : Option Value → XH → Prop} {X : String → XH → Prop} (hM : xMod (xP h))  (n : Int32)
    (vc : ∃ Q1, XSpec mX11_allOdds 1 0 0 100 100 [.ref 56] h Q1 xno ∧ ∀ v h1, Q1 v h1 → ∃ r1 : Int32, v = some (.int r1) ∧ (XW (xrm 3 0 0) mX11_tellBoth (xE 100 Q X 0 0) 100 0 0 h1 7 [some (.ref 56), some (.int n), some (.int r1), some (.int 0), none, none, none, none, none, none] [])) :
    XW (xrm 3 0 0) mX11_tellBoth (xE 100 Q X 0 0) 100 0 0 h 0 [some (.ref 56), some (.int n), none, none, none, none, none, none, none, none] [] := by
  refine xi_aload_n (by decide +kernel : decode mX11_tellBoth.2.1 0 = .ok (.aload_n 0, 1)) rfl rfl (?_ : XW _ _ _ _ _ _ _ 1 _ _)
  obtain ⟨Q1, sp, vc⟩ := vc
  refine xi_callV (b := 0) (bs := 0) (As := []) (st := []) (by decide +kernel : decode mX11_tellBoth.2.1 1 = .ok (.invokevirtual 388, 3)) kX11_388 rfl rfl (by omega) rfl sp (by decide) (by decide) (Nat.le_of_ble_eq_true rfl) (by omega) (fun v9 h1 hq9 => ?_)
  obtain ⟨r1, e9, vc⟩ := vc v9 h1 hq9
  subst e9
  show XW _ _ _ _ _ _ _ 4 _ [.int r1]
  refine xi_istore_n (ls' := [some (.ref 56), some (.int n), some (.int r1), none, none, none, none, none, none, none]) (by decide +kernel : decode mX11_tellBoth.2.1 4 = .ok (.istore_n 2, 1)) rfl (by decide) rfl (?_ : XW _ _ _ _ _ _ _ 5 _ _)
  refine xi_iconst (v := 0) (by decide +kernel : decode mX11_tellBoth.2.1 5 = .ok (.iconst 0, 1)) (by decide) (?_ : XW _ _ _ _ _ _ _ 6 _ _)
  refine xi_istore_n (ls' := [some (.ref 56), some (.int n), some (.int r1), some (.int 0), none, none, none, none, none, none]) (by decide +kernel : decode mX11_tellBoth.2.1 6 = .ok (.istore_n 3, 1)) rfl (by decide) rfl (?_ : XW _ _ _ _ _ _ _ 7 _ _)
  exact vc

set_option maxRecDepth 20000 in
theorem v_X11_tellBoth_7 {h : XH} {Q : Option Value → XH → Prop} {X : String → XH → Prop} (hM : xMod (xP h))  (x1 : Int32) (x2 : Int32) (x3 : Int32)
    (vc : (1681 ≤ x3 → XW (xrm 3 0 0) mX11_tellBoth (xE 100 Q X 0 0) 100 0 0 h 31 [some (.ref 56), some (.int x1), some (.int x2), some (.int 0), none, none, none, none, none, none] []) ∧ (¬ 1681 ≤ x3 → (vp_in x3 1681) ∧ (XW (xrm 3 0 0) mX11_tellBoth (xE 100 Q X 0 0) 100 0 0 (xSL 85 (va_up (xL h 85) x3.toNatClampNeg 0) h) 7 [some (.ref 56), some (.int x1), some (.int x2), some (.int (x3 + 1)), none, none, none, none, none, none] []))) :
    XW (xrm 3 0 0) mX11_tellBoth (xE 100 Q X 0 0) 100 0 0 h 7 [some (.ref 56), some (.int x1), some (.int x2), some (.int x3), none, none, none, none, none, none] [] := by
  refine xi_iload_n (by decide +kernel : decode mX11_tellBoth.2.1 7 = .ok (.iload_n 3, 1)) rfl rfl (?_ : XW _ _ _ _ _ _ _ 8 _ _)
  refine xi_aload_n (by decide +kernel : decode mX11_tellBoth.2.1 8 = .ok (.aload_n 0, 1)) rfl rfl (?_ : XW _ _ _ _ _ _ _ 9 _ _)
  refine xi_getR (y := 85) (by decide +kernel : decode mX11_tellBoth.2.1 9 = .ok (.getfield 119, 3)) fX11_119 rfl (by omega) rfl (mp_both hM) (?_ : XW _ _ _ _ _ _ _ 12 _ _)
  refine xi_alen (v := 1681) (by decide +kernel : decode mX11_tellBoth.2.1 12 = .ok (.arraylength, 1)) rfl (by omega) (Or.inr (Or.inl rfl)) rfl (?_ : XW _ _ _ _ _ _ _ 13 _ _)
  refine xi_icmp_ge (by decide +kernel : decode mX11_tellBoth.2.1 13 = .ok (.if_icmp .ge 16, 3)) (by decide) (fun c => (?_ : XW _ _ _ _ _ _ _ 29 _ _)) (fun c => (?_ : XW _ _ _ _ _ _ _ 16 _ _))
  · replace vc := vc.1 c
    refine xi_iconst (v := 0) (by decide +kernel : decode mX11_tellBoth.2.1 29 = .ok (.iconst 0, 1)) (by decide) (?_ : XW _ _ _ _ _ _ _ 30 _ _)
    refine xi_istore_n (ls' := [some (.ref 56), some (.int x1), some (.int x2), some (.int 0), none, none, none, none, none, none]) (by decide +kernel : decode mX11_tellBoth.2.1 30 = .ok (.istore_n 3, 1)) rfl (by decide) rfl (?_ : XW _ _ _ _ _ _ _ 31 _ _)
    exact vc
  · replace vc := vc.2 c
    refine xi_aload_n (by decide +kernel : decode mX11_tellBoth.2.1 16 = .ok (.aload_n 0, 1)) rfl rfl (?_ : XW _ _ _ _ _ _ _ 17 _ _)
    refine xi_getR (y := 85) (by decide +kernel : decode mX11_tellBoth.2.1 17 = .ok (.getfield 119, 3)) fX11_119 rfl (by omega) rfl (mp_both hM) (?_ : XW _ _ _ _ _ _ _ 20 _ _)
    refine xi_iload_n (by decide +kernel : decode mX11_tellBoth.2.1 20 = .ok (.iload_n 3, 1)) rfl rfl (?_ : XW _ _ _ _ _ _ _ 21 _ _)
    refine xi_lconst (v := 0) (by decide +kernel : decode mX11_tellBoth.2.1 21 = .ok (.lconst 0, 1)) (by decide) (?_ : XW _ _ _ _ _ _ _ 22 _ _)
    obtain ⟨s1, vc⟩ := vc
    refine xi_last (by decide +kernel : decode mX11_tellBoth.2.1 22 = .ok (.lastore, 1)) rfl (by omega) s1 (?_ : XW _ _ _ _ _ _ (xSL 85 (va_up (xL h 85) x3.toNatClampNeg 0) h) 23 _ _)
    refine xi_iinc (v := x3 + 1) (ls' := [some (.ref 56), some (.int x1), some (.int x2), some (.int (x3 + 1)), none, none, none, none, none, none]) (by decide +kernel : decode mX11_tellBoth.2.1 23 = .ok (.iinc 3 1, 3)) rfl rfl (by decide) rfl (?_ : XW _ _ _ _ _ _ _ 26 _ _)
    refine xi_goto (by decide +kernel : decode mX11_tellBoth.2.1 26 = .ok (.goto (-19), 3)) (by decide) (?_ : XW _ _ _ _ _ _ _ 7 _ _)
    exact vc

set_option maxRecDepth 20000 in
theorem v_X11_tellBoth_31 {h : XH} {Q : Option Value → XH → Prop} {X : String → XH → Prop} (hM : xMod (xP h))  (x1 : Int32) (x2 : Int32) (x3 : Int32)
    (vc : (x1 ≤ x3 → Q none h) ∧ (¬ x1 ≤ x3 → XW (xrm 3 0 0) mX11_tellBoth (xE 100 Q X 0 0) 100 0 0 h 39 [some (.ref 56), some (.int x1), some (.int x2), some (.int x3), some (.int 0), none, none, none, none, none] [])) :
    XW (xrm 3 0 0) mX11_tellBoth (xE 100 Q X 0 0) 100 0 0 h 31 [some (.ref 56), some (.int x1), some (.int x2), some (.int x3), none, none, none, none, none, none] [] := by
  refine xi_iload_n (by decide +kernel : decode mX11_tellBoth.2.1 31 = .ok (.iload_n 3, 1)) rfl rfl (?_ : XW _ _ _ _ _ _ _ 32 _ _)
  refine xi_iload_n (by decide +kernel : decode mX11_tellBoth.2.1 32 = .ok (.iload_n 1, 1)) rfl rfl (?_ : XW _ _ _ _ _ _ _ 33 _ _)
  refine xi_icmp_ge (by decide +kernel : decode mX11_tellBoth.2.1 33 = .ok (.if_icmp .ge 208, 3)) (by decide) (fun c => (?_ : XW _ _ _ _ _ _ _ 241 _ _)) (fun c => (?_ : XW _ _ _ _ _ _ _ 36 _ _))
  · replace vc := vc.1 c
    exact xi_vret (by decide +kernel : decode mX11_tellBoth.2.1 241 = .ok (.return_, 1)) rfl vc
  · replace vc := vc.2 c
    refine xi_iconst (v := 0) (by decide +kernel : decode mX11_tellBoth.2.1 36 = .ok (.iconst 0, 1)) (by decide) (?_ : XW _ _ _ _ _ _ _ 37 _ _)
    refine xi_istore (ls' := [some (.ref 56), some (.int x1), some (.int x2), some (.int x3), some (.int 0), none, none, none, none, none]) (by decide +kernel : decode mX11_tellBoth.2.1 37 = .ok (.istore 4, 2)) (by decide) rfl (?_ : XW _ _ _ _ _ _ _ 39 _ _)
    exact vc

set_option maxRecDepth 20000 in
theorem v_X11_tellBoth_39 {h : XH} {Q : Option Value → XH → Prop} {X : String → XH → Prop} (hM : xMod (xP h))  (x1 : Int32) (x2 : Int32) (x3 : Int32) (x4 : Int32)
    (vc : ((xI h 59 0) < x4 → XW (xrm 3 0 0) mX11_tellBoth (xE 100 Q X 0 0) 100 0 0 h 205 [some (.ref 56), some (.int x1), some (.int x2), some (.int x3), some (.int 0), none, none, none, none, none] []) ∧ (¬ (xI h 59 0) < x4 → XW (xrm 3 0 0) mX11_tellBoth (xE 100 Q X 0 0) 100 0 0 h 53 [some (.ref 56), some (.int x1), some (.int x2), some (.int x3), some (.int x4), some (.int 0), none, none, none, none] [])) :
    XW (xrm 3 0 0) mX11_tellBoth (xE 100 Q X 0 0) 100 0 0 h 39 [some (.ref 56), some (.int x1), some (.int x2), some (.int x3), some (.int x4), none, none, none, none, none] [] := by
  refine xi_iload (by decide +kernel : decode mX11_tellBoth.2.1 39 = .ok (.iload 4, 2)) rfl (?_ : XW _ _ _ _ _ _ _ 41 _ _)
  refine xi_aload_n (by decide +kernel : decode mX11_tellBoth.2.1 41 = .ok (.aload_n 0, 1)) rfl rfl (?_ : XW _ _ _ _ _ _ _ 42 _ _)
  refine xi_getR (y := 59) (by decide +kernel : decode mX11_tellBoth.2.1 42 = .ok (.getfield 32, 3)) fX11_32 rfl (by omega) rfl (mp_told hM) (?_ : XW _ _ _ _ _ _ _ 45 _ _)
  refine xi_iconst (v := 0) (by decide +kernel : decode mX11_tellBoth.2.1 45 = .ok (.iconst 0, 1)) (by decide) (?_ : XW _ _ _ _ _ _ _ 46 _ _)
  refine xi_iald (by decide +kernel : decode mX11_tellBoth.2.1 46 = .ok (.iaload, 1)) rfl (by omega) (by unfold vp_in; decide) (?_ : XW _ _ _ _ _ _ _ 47 _ [.int (xI h 59 0), .int x4])
  refine xi_icmp_gt (by decide +kernel : decode mX11_tellBoth.2.1 47 = .ok (.if_icmp .gt 155, 3)) (by decide) (fun c => (?_ : XW _ _ _ _ _ _ _ 202 _ _)) (fun c => (?_ : XW _ _ _ _ _ _ _ 50 _ _))
  · replace vc := vc.1 c
    refine xi_iconst (v := 0) (by decide +kernel : decode mX11_tellBoth.2.1 202 = .ok (.iconst 0, 1)) (by decide) (?_ : XW _ _ _ _ _ _ _ 203 _ _)
    refine xi_istore (ls' := [some (.ref 56), some (.int x1), some (.int x2), some (.int x3), some (.int 0), none, none, none, none, none]) (by decide +kernel : decode mX11_tellBoth.2.1 203 = .ok (.istore 4, 2)) (by decide) rfl (?_ : XW _ _ _ _ _ _ _ 205 _ _)
    exact vc
  · replace vc := vc.2 c
    refine xi_iconst (v := 0) (by decide +kernel : decode mX11_tellBoth.2.1 50 = .ok (.iconst 0, 1)) (by decide) (?_ : XW _ _ _ _ _ _ _ 51 _ _)
    refine xi_istore (ls' := [some (.ref 56), some (.int x1), some (.int x2), some (.int x3), some (.int x4), some (.int 0), none, none, none, none]) (by decide +kernel : decode mX11_tellBoth.2.1 51 = .ok (.istore 5, 2)) (by decide) rfl (?_ : XW _ _ _ _ _ _ _ 53 _ _)
    exact vc

set_option maxRecDepth 20000 in
theorem v_X11_tellBoth_205 {h : XH} {Q : Option Value → XH → Prop} {X : String → XH → Prop} (hM : xMod (xP h))  (x1 : Int32) (x2 : Int32) (x3 : Int32) (x4 : Int32)
    (vc : (1681 ≤ x4 → XW (xrm 3 0 0) mX11_tellBoth (xE 100 Q X 0 0) 100 0 0 h 31 [some (.ref 56), some (.int x1), some (.int x2), some (.int (x3 + 1)), none, none, none, none, none, none] []) ∧ (¬ 1681 ≤ x4 → (vp_in x4 1681) ∧ ((vp_in x4 1681) ∧ (XW (xrm 3 0 0) mX11_tellBoth (xE 100 Q X 0 0) 100 0 0 (xSL 85 (va_up (xL h 85) x4.toNatClampNeg (xL h 86 x4.toNatClampNeg)) h) 205 [some (.ref 56), some (.int x1), some (.int x2), some (.int x3), some (.int (x4 + 1)), none, none, none, none, none] [])))) :
    XW (xrm 3 0 0) mX11_tellBoth (xE 100 Q X 0 0) 100 0 0 h 205 [some (.ref 56), some (.int x1), some (.int x2), some (.int x3), some (.int x4), none, none, none, none, none] [] := by
  refine xi_iload (by decide +kernel : decode mX11_tellBoth.2.1 205 = .ok (.iload 4, 2)) rfl (?_ : XW _ _ _ _ _ _ _ 207 _ _)
  refine xi_aload_n (by decide +kernel : decode mX11_tellBoth.2.1 207 = .ok (.aload_n 0, 1)) rfl rfl (?_ : XW _ _ _ _ _ _ _ 208 _ _)
  refine xi_getR (y := 85) (by decide +kernel : decode mX11_tellBoth.2.1 208 = .ok (.getfield 119, 3)) fX11_119 rfl (by omega) rfl (mp_both hM) (?_ : XW _ _ _ _ _ _ _ 211 _ _)
  refine xi_alen (v := 1681) (by decide +kernel : decode mX11_tellBoth.2.1 211 = .ok (.arraylength, 1)) rfl (by omega) (Or.inr (Or.inl rfl)) rfl (?_ : XW _ _ _ _ _ _ _ 212 _ _)
  refine xi_icmp_ge (by decide +kernel : decode mX11_tellBoth.2.1 212 = .ok (.if_icmp .ge 23, 3)) (by decide) (fun c => (?_ : XW _ _ _ _ _ _ _ 235 _ _)) (fun c => (?_ : XW _ _ _ _ _ _ _ 215 _ _))
  · replace vc := vc.1 c
    refine xi_iinc (v := x3 + 1) (ls' := [some (.ref 56), some (.int x1), some (.int x2), some (.int (x3 + 1)), some (.int x4), none, none, none, none, none]) (by decide +kernel : decode mX11_tellBoth.2.1 235 = .ok (.iinc 3 1, 3)) rfl rfl (by decide) rfl (?_ : XW _ _ _ _ _ _ _ 238 _ _)
    refine xi_goto (by decide +kernel : decode mX11_tellBoth.2.1 238 = .ok (.goto (-207), 3)) (by decide) (?_ : XW _ _ _ _ _ _ _ 31 _ _)
    refine xw_drop 4 (ls' := [some (.ref 56), some (.int x1), some (.int x2), some (.int (x3 + 1)), none, none, none, none, none, none]) rfl ?_
    exact vc
  · replace vc := vc.2 c
    refine xi_aload_n (by decide +kernel : decode mX11_tellBoth.2.1 215 = .ok (.aload_n 0, 1)) rfl rfl (?_ : XW _ _ _ _ _ _ _ 216 _ _)
    refine xi_getR (y := 85) (by decide +kernel : decode mX11_tellBoth.2.1 216 = .ok (.getfield 119, 3)) fX11_119 rfl (by omega) rfl (mp_both hM) (?_ : XW _ _ _ _ _ _ _ 219 _ _)
    refine xi_iload (by decide +kernel : decode mX11_tellBoth.2.1 219 = .ok (.iload 4, 2)) rfl (?_ : XW _ _ _ _ _ _ _ 221 _ _)
    refine xi_aload_n (by decide +kernel : decode mX11_tellBoth.2.1 221 = .ok (.aload_n 0, 1)) rfl rfl (?_ : XW _ _ _ _ _ _ _ 222 _ _)
    refine xi_getR (y := 86) (by decide +kernel : decode mX11_tellBoth.2.1 222 = .ok (.getfield 122, 3)) fX11_122 rfl (by omega) rfl (mp_bothNext hM) (?_ : XW _ _ _ _ _ _ _ 225 _ _)
    refine xi_iload (by decide +kernel : decode mX11_tellBoth.2.1 225 = .ok (.iload 4, 2)) rfl (?_ : XW _ _ _ _ _ _ _ 227 _ _)
    obtain ⟨s1, vc⟩ := vc
    refine xi_lald (by decide +kernel : decode mX11_tellBoth.2.1 227 = .ok (.laload, 1)) rfl (by omega) s1 (?_ : XW _ _ _ _ _ _ _ 228 _ _)
    obtain ⟨s1, vc⟩ := vc
    refine xi_last (by decide +kernel : decode mX11_tellBoth.2.1 228 = .ok (.lastore, 1)) rfl (by omega) s1 (?_ : XW _ _ _ _ _ _ (xSL 85 (va_up (xL h 85) x4.toNatClampNeg (xL h 86 x4.toNatClampNeg)) h) 229 _ _)
    refine xi_iinc (v := x4 + 1) (ls' := [some (.ref 56), some (.int x1), some (.int x2), some (.int x3), some (.int (x4 + 1)), none, none, none, none, none]) (by decide +kernel : decode mX11_tellBoth.2.1 229 = .ok (.iinc 4 1, 3)) rfl rfl (by decide) rfl (?_ : XW _ _ _ _ _ _ _ 232 _ _)
    refine xi_goto (by decide +kernel : decode mX11_tellBoth.2.1 232 = .ok (.goto (-27), 3)) (by decide) (?_ : XW _ _ _ _ _ _ _ 205 _ _)
    exact vc

set_option maxRecDepth 20000 in
theorem v_X11_tellBoth_53 {h : XH} {Q : Option Value → XH → Prop} {X : String → XH → Prop} (hM : xMod (xP h))  (x1 : Int32) (x2 : Int32) (x3 : Int32) (x4 : Int32) (x5 : Int32)
    (vc : ((xI h 59 0) < x5 → XW (xrm 3 0 0) mX11_tellBoth (xE 100 Q X 0 0) 100 0 0 h 39 [some (.ref 56), some (.int x1), some (.int x2), some (.int x3), some (.int (x4 + 1)), none, none, none, none, none] []) ∧ (¬ (xI h 59 0) < x5 → (¬ x4 = (xI h 59 0) → XW (xrm 3 0 0) mX11_tellBoth (xE 100 Q X 0 0) 100 0 0 h 99 [some (.ref 56), some (.int x1), some (.int x2), some (.int x3), some (.int x4), some (.int x5), some (.long 0), none, some (.int 0), some (.int 1)] []) ∧ (x4 = (xI h 59 0) → (¬ x5 = (xI h 59 0) → XW (xrm 3 0 0) mX11_tellBoth (xE 100 Q X 0 0) 100 0 0 h 99 [some (.ref 56), some (.int x1), some (.int x2), some (.int x3), some (.int x4), some (.int x5), some (.long 0), none, some (.int 0), some (.int 1)] []) ∧ (x5 = (xI h 59 0) → XW (xrm 3 0 0) mX11_tellBoth (xE 100 Q X 0 0) 100 0 0 h 99 [some (.ref 56), some (.int x1), some (.int x2), some (.int x3), some (.int x4), some (.int x5), some (.long 0), none, some (.int 1), some (.int 1)] [])))) :
    XW (xrm 3 0 0) mX11_tellBoth (xE 100 Q X 0 0) 100 0 0 h 53 [some (.ref 56), some (.int x1), some (.int x2), some (.int x3), some (.int x4), some (.int x5), none, none, none, none] [] := by
  refine xi_iload (by decide +kernel : decode mX11_tellBoth.2.1 53 = .ok (.iload 5, 2)) rfl (?_ : XW _ _ _ _ _ _ _ 55 _ _)
  refine xi_aload_n (by decide +kernel : decode mX11_tellBoth.2.1 55 = .ok (.aload_n 0, 1)) rfl rfl (?_ : XW _ _ _ _ _ _ _ 56 _ _)
  refine xi_getR (y := 59) (by decide +kernel : decode mX11_tellBoth.2.1 56 = .ok (.getfield 32, 3)) fX11_32 rfl (by omega) rfl (mp_told hM) (?_ : XW _ _ _ _ _ _ _ 59 _ _)
  refine xi_iconst (v := 0) (by decide +kernel : decode mX11_tellBoth.2.1 59 = .ok (.iconst 0, 1)) (by decide) (?_ : XW _ _ _ _ _ _ _ 60 _ _)
  refine xi_iald (by decide +kernel : decode mX11_tellBoth.2.1 60 = .ok (.iaload, 1)) rfl (by omega) (by unfold vp_in; decide) (?_ : XW _ _ _ _ _ _ _ 61 _ [.int (xI h 59 0), .int x5])
  refine xi_icmp_gt (by decide +kernel : decode mX11_tellBoth.2.1 61 = .ok (.if_icmp .gt 135, 3)) (by decide) (fun c => (?_ : XW _ _ _ _ _ _ _ 196 _ _)) (fun c => (?_ : XW _ _ _ _ _ _ _ 64 _ _))
  · replace vc := vc.1 c
    refine xi_iinc (v := x4 + 1) (ls' := [some (.ref 56), some (.int x1), some (.int x2), some (.int x3), some (.int (x4 + 1)), some (.int x5), none, none, none, none]) (by decide +kernel : decode mX11_tellBoth.2.1 196 = .ok (.iinc 4 1, 3)) rfl rfl (by decide) rfl (?_ : XW _ _ _ _ _ _ _ 199 _ _)
    refine xi_goto (by decide +kernel : decode mX11_tellBoth.2.1 199 = .ok (.goto (-160), 3)) (by decide) (?_ : XW _ _ _ _ _ _ _ 39 _ _)
    refine xw_drop 5 (ls' := [some (.ref 56), some (.int x1), some (.int x2), some (.int x3), some (.int (x4 + 1)), none, none, none, none, none]) rfl ?_
    exact vc
  · replace vc := vc.2 c
    refine xi_lconst (v := 0) (by decide +kernel : decode mX11_tellBoth.2.1 64 = .ok (.lconst 0, 1)) (by decide) (?_ : XW _ _ _ _ _ _ _ 65 _ _)
    refine xi_lstore (ls' := [some (.ref 56), some (.int x1), some (.int x2), some (.int x3), some (.int x4), some (.int x5), some (.long 0), none, none, none]) (by decide +kernel : decode mX11_tellBoth.2.1 65 = .ok (.lstore 6, 2)) (by decide) rfl (?_ : XW _ _ _ _ _ _ _ 67 _ _)
    refine xi_iload (by decide +kernel : decode mX11_tellBoth.2.1 67 = .ok (.iload 4, 2)) rfl (?_ : XW _ _ _ _ _ _ _ 69 _ _)
    refine xi_aload_n (by decide +kernel : decode mX11_tellBoth.2.1 69 = .ok (.aload_n 0, 1)) rfl rfl (?_ : XW _ _ _ _ _ _ _ 70 _ _)
    refine xi_getR (y := 59) (by decide +kernel : decode mX11_tellBoth.2.1 70 = .ok (.getfield 32, 3)) fX11_32 rfl (by omega) rfl (mp_told hM) (?_ : XW _ _ _ _ _ _ _ 73 _ _)
    refine xi_iconst (v := 0) (by decide +kernel : decode mX11_tellBoth.2.1 73 = .ok (.iconst 0, 1)) (by decide) (?_ : XW _ _ _ _ _ _ _ 74 _ _)
    refine xi_iald (by decide +kernel : decode mX11_tellBoth.2.1 74 = .ok (.iaload, 1)) rfl (by omega) (by unfold vp_in; decide) (?_ : XW _ _ _ _ _ _ _ 75 _ [.int (xI h 59 0), .int x4])
    refine xi_icmp_ne (by decide +kernel : decode mX11_tellBoth.2.1 75 = .ok (.if_icmp .ne 18, 3)) (by decide) (fun c => (?_ : XW _ _ _ _ _ _ _ 93 _ _)) (fun c => (?_ : XW _ _ _ _ _ _ _ 78 _ _))
    · replace vc := vc.1 c
      refine xi_iconst (v := 0) (by decide +kernel : decode mX11_tellBoth.2.1 93 = .ok (.iconst 0, 1)) (by decide) (?_ : XW _ _ _ _ _ _ _ 94 _ _)
      refine xi_istore (ls' := [some (.ref 56), some (.int x1), some (.int x2), some (.int x3), some (.int x4), some (.int x5), some (.long 0), none, some (.int 0), none]) (by decide +kernel : decode mX11_tellBoth.2.1 94 = .ok (.istore 8, 2)) (by decide) rfl (?_ : XW _ _ _ _ _ _ _ 96 _ _)
      refine xi_iconst (v := 1) (by decide +kernel : decode mX11_tellBoth.2.1 96 = .ok (.iconst 1, 1)) (by decide) (?_ : XW _ _ _ _ _ _ _ 97 _ _)
      refine xi_istore (ls' := [some (.ref 56), some (.int x1), some (.int x2), some (.int x3), some (.int x4), some (.int x5), some (.long 0), none, some (.int 0), some (.int 1)]) (by decide +kernel : decode mX11_tellBoth.2.1 97 = .ok (.istore 9, 2)) (by decide) rfl (?_ : XW _ _ _ _ _ _ _ 99 _ _)
      exact vc
    · replace vc := vc.2 c
      refine xi_iload (by decide +kernel : decode mX11_tellBoth.2.1 78 = .ok (.iload 5, 2)) rfl (?_ : XW _ _ _ _ _ _ _ 80 _ _)
      refine xi_aload_n (by decide +kernel : decode mX11_tellBoth.2.1 80 = .ok (.aload_n 0, 1)) rfl rfl (?_ : XW _ _ _ _ _ _ _ 81 _ _)
      refine xi_getR (y := 59) (by decide +kernel : decode mX11_tellBoth.2.1 81 = .ok (.getfield 32, 3)) fX11_32 rfl (by omega) rfl (mp_told hM) (?_ : XW _ _ _ _ _ _ _ 84 _ _)
      refine xi_iconst (v := 0) (by decide +kernel : decode mX11_tellBoth.2.1 84 = .ok (.iconst 0, 1)) (by decide) (?_ : XW _ _ _ _ _ _ _ 85 _ _)
      refine xi_iald (by decide +kernel : decode mX11_tellBoth.2.1 85 = .ok (.iaload, 1)) rfl (by omega) (by unfold vp_in; decide) (?_ : XW _ _ _ _ _ _ _ 86 _ [.int (xI h 59 0), .int x5])
      refine xi_icmp_ne (by decide +kernel : decode mX11_tellBoth.2.1 86 = .ok (.if_icmp .ne 7, 3)) (by decide) (fun c => (?_ : XW _ _ _ _ _ _ _ 93 _ _)) (fun c => (?_ : XW _ _ _ _ _ _ _ 89 _ _))
      · replace vc := vc.1 c
        refine xi_iconst (v := 0) (by decide +kernel : decode mX11_tellBoth.2.1 93 = .ok (.iconst 0, 1)) (by decide) (?_ : XW _ _ _ _ _ _ _ 94 _ _)
        refine xi_istore (ls' := [some (.ref 56), some (.int x1), some (.int x2), some (.int x3), some (.int x4), some (.int x5), some (.long 0), none, some (.int 0), none]) (by decide +kernel : decode mX11_tellBoth.2.1 94 = .ok (.istore 8, 2)) (by decide) rfl (?_ : XW _ _ _ _ _ _ _ 96 _ _)
        refine xi_iconst (v := 1) (by decide +kernel : decode mX11_tellBoth.2.1 96 = .ok (.iconst 1, 1)) (by decide) (?_ : XW _ _ _ _ _ _ _ 97 _ _)
        refine xi_istore (ls' := [some (.ref 56), some (.int x1), some (.int x2), some (.int x3), some (.int x4), some (.int x5), some (.long 0), none, some (.int 0), some (.int 1)]) (by decide +kernel : decode mX11_tellBoth.2.1 97 = .ok (.istore 9, 2)) (by decide) rfl (?_ : XW _ _ _ _ _ _ _ 99 _ _)
        exact vc
      · replace vc := vc.2 c
        refine xi_iconst (v := 1) (by decide +kernel : decode mX11_tellBoth.2.1 89 = .ok (.iconst 1, 1)) (by decide) (?_ : XW _ _ _ _ _ _ _ 90 _ _)
        refine xi_goto (by decide +kernel : decode mX11_tellBoth.2.1 90 = .ok (.goto 4, 3)) (by decide) (?_ : XW _ _ _ _ _ _ _ 94 _ _)
        refine xi_istore (ls' := [some (.ref 56), some (.int x1), some (.int x2), some (.int x3), some (.int x4), some (.int x5), some (.long 0), none, some (.int 1), none]) (by decide +kernel : decode mX11_tellBoth.2.1 94 = .ok (.istore 8, 2)) (by decide) rfl (?_ : XW _ _ _ _ _ _ _ 96 _ _)
        refine xi_iconst (v := 1) (by decide +kernel : decode mX11_tellBoth.2.1 96 = .ok (.iconst 1, 1)) (by decide) (?_ : XW _ _ _ _ _ _ _ 97 _ _)
        refine xi_istore (ls' := [some (.ref 56), some (.int x1), some (.int x2), some (.int x3), some (.int x4), some (.int x5), some (.long 0), none, some (.int 1), some (.int 1)]) (by decide +kernel : decode mX11_tellBoth.2.1 97 = .ok (.istore 9, 2)) (by decide) rfl (?_ : XW _ _ _ _ _ _ _ 99 _ _)
        exact vc

set_option maxRecDepth 20000 in
theorem v_X11_tellBoth_99 {h : XH} {Q : Option Value → XH → Prop} {X : String → XH → Prop} (hM : xMod (xP h))  (x1 : Int32) (x2 : Int32) (x3 : Int32) (x4 : Int32) (x5 : Int32) (x6 : Int64) (x8 : Int32) (x9 : Int32)
    (vc : (6 < x9 → (x8 = 0 → (¬ (Int32.toInt64 x2) = 0) ∧ ((vp_in ((41 * x4) + x5) 1681) ∧ (XW (xrm 3 0 0) mX11_tellBoth (xE 100 Q X 0 0) 100 0 0 (xSL 86 (va_up (xL h 86) ((41 * x4) + x5).toNatClampNeg (1000000000 + (x6 / (Int32.toInt64 x2)))) h) 53 [some (.ref 56), some (.int x1), some (.int x2), some (.int x3), some (.int x4), some (.int (x5 + 1)), none, none, none, none] []))) ∧ (¬ x8 = 0 → (vp_in ((41 * x4) + x5) 1681) ∧ (XW (xrm 3 0 0) mX11_tellBoth (xE 100 Q X 0 0) 100 0 0 (xSL 86 (va_up (xL h 86) ((41 * x4) + x5).toNatClampNeg 0) h) 53 [some (.ref 56), some (.int x1), some (.int x2), some (.int x3), some (.int x4), some (.int (x5 + 1)), none, none, none, none] []))) ∧ (¬ 6 < x9 → (¬ x8 = 0 → (x8 = 0 → (¬ (Int32.toInt64 x2) = 0) ∧ ((vp_in ((41 * x4) + x5) 1681) ∧ (XW (xrm 3 0 0) mX11_tellBoth (xE 100 Q X 0 0) 100 0 0 (xSL 86 (va_up (xL h 86) ((41 * x4) + x5).toNatClampNeg (1000000000 + (x6 / (Int32.toInt64 x2)))) h) 53 [some (.ref 56), some (.int x1), some (.int x2), some (.int x3), some (.int x4), some (.int (x5 + 1)), none, none, none, none] []))) ∧ (¬ x8 = 0 → (vp_in ((41 * x4) + x5) 1681) ∧ (XW (xrm 3 0 0) mX11_tellBoth (xE 100 Q X 0 0) 100 0 0 (xSL 86 (va_up (xL h 86) ((41 * x4) + x5).toNatClampNeg 0) h) 53 [some (.ref 56), some (.int x1), some (.int x2), some (.int x3), some (.int x4), some (.int (x5 + 1)), none, none, none, none] []))) ∧ (x8 = 0 → (vp_in (x9 - 1) 12) ∧ ((¬ (xI h 60 (x9 - 1).toNatClampNeg) = 0 → (vp_in (x9 - 1) 12) ∧ (∃ Q1, XSpec mX11_lessBy 2 0 0 100 100 [.ref 56, .int x9, .int x4, .int x5] h Q1 xno ∧ ∀ v h2, Q1 v h2 → ∃ r2 : Int64, v = some (.long r2) ∧ (XW (xrm 3 0 0) mX11_tellBoth (xE 100 Q X 0 0) 100 0 0 h2 99 [some (.ref 56), some (.int x1), some (.int x2), some (.int x3), some (.int x4), some (.int x5), some (.long (x6 + ((Int32.toInt64 (xI h 60 (x9 - 1).toNatClampNeg)) * r2))), none, some (.int x8), some (.int (x9 + 1))] []))) ∧ ((xI h 60 (x9 - 1).toNatClampNeg) = 0 → XW (xrm 3 0 0) mX11_tellBoth (xE 100 Q X 0 0) 100 0 0 h 99 [some (.ref 56), some (.int x1), some (.int x2), some (.int x3), some (.int x4), some (.int x5), some (.long (x6 + 0)), none, some (.int x8), some (.int (x9 + 1))] []))))) :
    XW (xrm 3 0 0) mX11_tellBoth (xE 100 Q X 0 0) 100 0 0 h 99 [some (.ref 56), some (.int x1), some (.int x2), some (.int x3), some (.int x4), some (.int x5), some (.long x6), none, some (.int x8), some (.int x9)] [] := by
  refine xi_iload (by decide +kernel : decode mX11_tellBoth.2.1 99 = .ok (.iload 9, 2)) rfl (?_ : XW _ _ _ _ _ _ _ 101 _ _)
  refine xi_bipush (v := 6) (by decide +kernel : decode mX11_tellBoth.2.1 101 = .ok (.bipush 6, 2)) (by decide) (?_ : XW _ _ _ _ _ _ _ 103 _ _)
  refine xi_icmp_gt (by decide +kernel : decode mX11_tellBoth.2.1 103 = .ok (.if_icmp .gt 56, 3)) (by decide) (fun c => (?_ : XW _ _ _ _ _ _ _ 159 _ _)) (fun c => (?_ : XW _ _ _ _ _ _ _ 106 _ _))
  · replace vc := vc.1 c
    refine xi_aload_n (by decide +kernel : decode mX11_tellBoth.2.1 159 = .ok (.aload_n 0, 1)) rfl rfl (?_ : XW _ _ _ _ _ _ _ 160 _ _)
    refine xi_getR (y := 86) (by decide +kernel : decode mX11_tellBoth.2.1 160 = .ok (.getfield 122, 3)) fX11_122 rfl (by omega) rfl (mp_bothNext hM) (?_ : XW _ _ _ _ _ _ _ 163 _ _)
    refine xi_bipush (v := 41) (by decide +kernel : decode mX11_tellBoth.2.1 163 = .ok (.bipush 41, 2)) (by decide) (?_ : XW _ _ _ _ _ _ _ 165 _ _)
    refine xi_iload (by decide +kernel : decode mX11_tellBoth.2.1 165 = .ok (.iload 4, 2)) rfl (?_ : XW _ _ _ _ _ _ _ 167 _ _)
    refine xi_imul (by decide +kernel : decode mX11_tellBoth.2.1 167 = .ok (.imul, 1)) (?_ : XW _ _ _ _ _ _ _ 168 _ _)
    refine xi_iload (by decide +kernel : decode mX11_tellBoth.2.1 168 = .ok (.iload 5, 2)) rfl (?_ : XW _ _ _ _ _ _ _ 170 _ _)
    refine xi_iadd (by decide +kernel : decode mX11_tellBoth.2.1 170 = .ok (.iadd, 1)) (?_ : XW _ _ _ _ _ _ _ 171 _ _)
    refine xi_iload (by decide +kernel : decode mX11_tellBoth.2.1 171 = .ok (.iload 8, 2)) rfl (?_ : XW _ _ _ _ _ _ _ 173 _ _)
    refine xi_if_eq (by decide +kernel : decode mX11_tellBoth.2.1 173 = .ok (.ifCond .eq 7, 3)) (by decide) (fun c => (?_ : XW _ _ _ _ _ _ _ 180 _ _)) (fun c => (?_ : XW _ _ _ _ _ _ _ 176 _ _))
    · replace vc := vc.1 c
      refine xi_ldc2 (v := 1000000000) (by decide +kernel : decode mX11_tellBoth.2.1 180 = .ok (.ldc2_w 401, 3)) cK_X11_401 (?_ : XW _ _ _ _ _ _ _ 183 _ _)
      refine xi_lload (by decide +kernel : decode mX11_tellBoth.2.1 183 = .ok (.lload 6, 2)) rfl (?_ : XW _ _ _ _ _ _ _ 185 _ _)
      refine xi_iload_n (by decide +kernel : decode mX11_tellBoth.2.1 185 = .ok (.iload_n 2, 1)) rfl rfl (?_ : XW _ _ _ _ _ _ _ 186 _ _)
      refine xi_i2l (by decide +kernel : decode mX11_tellBoth.2.1 186 = .ok (.i2l, 1)) (?_ : XW _ _ _ _ _ _ _ 187 _ _)
      obtain ⟨s1, vc⟩ := vc
      refine xi_ldiv (by decide +kernel : decode mX11_tellBoth.2.1 187 = .ok (.ldiv, 1)) s1 (?_ : XW _ _ _ _ _ _ _ 188 _ _)
      refine xi_ladd (by decide +kernel : decode mX11_tellBoth.2.1 188 = .ok (.ladd, 1)) (?_ : XW _ _ _ _ _ _ _ 189 _ _)
      obtain ⟨s1, vc⟩ := vc
      refine xi_last (by decide +kernel : decode mX11_tellBoth.2.1 189 = .ok (.lastore, 1)) rfl (by omega) s1 (?_ : XW _ _ _ _ _ _ (xSL 86 (va_up (xL h 86) ((41 * x4) + x5).toNatClampNeg (1000000000 + (x6 / (Int32.toInt64 x2)))) h) 190 _ _)
      refine xi_iinc (v := x5 + 1) (ls' := [some (.ref 56), some (.int x1), some (.int x2), some (.int x3), some (.int x4), some (.int (x5 + 1)), some (.long x6), none, some (.int x8), some (.int x9)]) (by decide +kernel : decode mX11_tellBoth.2.1 190 = .ok (.iinc 5 1, 3)) rfl rfl (by decide) rfl (?_ : XW _ _ _ _ _ _ _ 193 _ _)
      refine xi_goto (by decide +kernel : decode mX11_tellBoth.2.1 193 = .ok (.goto (-140), 3)) (by decide) (?_ : XW _ _ _ _ _ _ _ 53 _ _)
      refine xw_drop 6 (ls' := [some (.ref 56), some (.int x1), some (.int x2), some (.int x3), some (.int x4), some (.int (x5 + 1)), none, none, some (.int x8), some (.int x9)]) rfl ?_
      refine xw_drop 8 (ls' := [some (.ref 56), some (.int x1), some (.int x2), some (.int x3), some (.int x4), some (.int (x5 + 1)), none, none, none, some (.int x9)]) rfl ?_
      refine xw_drop 9 (ls' := [some (.ref 56), some (.int x1), some (.int x2), some (.int x3), some (.int x4), some (.int (x5 + 1)), none, none, none, none]) rfl ?_
      exact vc
    · replace vc := vc.2 c
      refine xi_lconst (v := 0) (by decide +kernel : decode mX11_tellBoth.2.1 176 = .ok (.lconst 0, 1)) (by decide) (?_ : XW _ _ _ _ _ _ _ 177 _ _)
      refine xi_goto (by decide +kernel : decode mX11_tellBoth.2.1 177 = .ok (.goto 12, 3)) (by decide) (?_ : XW _ _ _ _ _ _ _ 189 _ _)
      obtain ⟨s1, vc⟩ := vc
      refine xi_last (by decide +kernel : decode mX11_tellBoth.2.1 189 = .ok (.lastore, 1)) rfl (by omega) s1 (?_ : XW _ _ _ _ _ _ (xSL 86 (va_up (xL h 86) ((41 * x4) + x5).toNatClampNeg 0) h) 190 _ _)
      refine xi_iinc (v := x5 + 1) (ls' := [some (.ref 56), some (.int x1), some (.int x2), some (.int x3), some (.int x4), some (.int (x5 + 1)), some (.long x6), none, some (.int x8), some (.int x9)]) (by decide +kernel : decode mX11_tellBoth.2.1 190 = .ok (.iinc 5 1, 3)) rfl rfl (by decide) rfl (?_ : XW _ _ _ _ _ _ _ 193 _ _)
      refine xi_goto (by decide +kernel : decode mX11_tellBoth.2.1 193 = .ok (.goto (-140), 3)) (by decide) (?_ : XW _ _ _ _ _ _ _ 53 _ _)
      refine xw_drop 6 (ls' := [some (.ref 56), some (.int x1), some (.int x2), some (.int x3), some (.int x4), some (.int (x5 + 1)), none, none, some (.int x8), some (.int x9)]) rfl ?_
      refine xw_drop 8 (ls' := [some (.ref 56), some (.int x1), some (.int x2), some (.int x3), some (.int x4), some (.int (x5 + 1)), none, none, none, some (.int x9)]) rfl ?_
      refine xw_drop 9 (ls' := [some (.ref 56), some (.int x1), some (.int x2), some (.int x3), some (.int x4), some (.int (x5 + 1)), none, none, none, none]) rfl ?_
      exact vc
  · replace vc := vc.2 c
    refine xi_iload (by decide +kernel : decode mX11_tellBoth.2.1 106 = .ok (.iload 8, 2)) rfl (?_ : XW _ _ _ _ _ _ _ 108 _ _)
    refine xi_if_ne (by decide +kernel : decode mX11_tellBoth.2.1 108 = .ok (.ifCond .ne 51, 3)) (by decide) (fun c => (?_ : XW _ _ _ _ _ _ _ 159 _ _)) (fun c => (?_ : XW _ _ _ _ _ _ _ 111 _ _))
    · replace vc := vc.1 c
      refine xi_aload_n (by decide +kernel : decode mX11_tellBoth.2.1 159 = .ok (.aload_n 0, 1)) rfl rfl (?_ : XW _ _ _ _ _ _ _ 160 _ _)
      refine xi_getR (y := 86) (by decide +kernel : decode mX11_tellBoth.2.1 160 = .ok (.getfield 122, 3)) fX11_122 rfl (by omega) rfl (mp_bothNext hM) (?_ : XW _ _ _ _ _ _ _ 163 _ _)
      refine xi_bipush (v := 41) (by decide +kernel : decode mX11_tellBoth.2.1 163 = .ok (.bipush 41, 2)) (by decide) (?_ : XW _ _ _ _ _ _ _ 165 _ _)
      refine xi_iload (by decide +kernel : decode mX11_tellBoth.2.1 165 = .ok (.iload 4, 2)) rfl (?_ : XW _ _ _ _ _ _ _ 167 _ _)
      refine xi_imul (by decide +kernel : decode mX11_tellBoth.2.1 167 = .ok (.imul, 1)) (?_ : XW _ _ _ _ _ _ _ 168 _ _)
      refine xi_iload (by decide +kernel : decode mX11_tellBoth.2.1 168 = .ok (.iload 5, 2)) rfl (?_ : XW _ _ _ _ _ _ _ 170 _ _)
      refine xi_iadd (by decide +kernel : decode mX11_tellBoth.2.1 170 = .ok (.iadd, 1)) (?_ : XW _ _ _ _ _ _ _ 171 _ _)
      refine xi_iload (by decide +kernel : decode mX11_tellBoth.2.1 171 = .ok (.iload 8, 2)) rfl (?_ : XW _ _ _ _ _ _ _ 173 _ _)
      refine xi_if_eq (by decide +kernel : decode mX11_tellBoth.2.1 173 = .ok (.ifCond .eq 7, 3)) (by decide) (fun c => (?_ : XW _ _ _ _ _ _ _ 180 _ _)) (fun c => (?_ : XW _ _ _ _ _ _ _ 176 _ _))
      · replace vc := vc.1 c
        refine xi_ldc2 (v := 1000000000) (by decide +kernel : decode mX11_tellBoth.2.1 180 = .ok (.ldc2_w 401, 3)) cK_X11_401 (?_ : XW _ _ _ _ _ _ _ 183 _ _)
        refine xi_lload (by decide +kernel : decode mX11_tellBoth.2.1 183 = .ok (.lload 6, 2)) rfl (?_ : XW _ _ _ _ _ _ _ 185 _ _)
        refine xi_iload_n (by decide +kernel : decode mX11_tellBoth.2.1 185 = .ok (.iload_n 2, 1)) rfl rfl (?_ : XW _ _ _ _ _ _ _ 186 _ _)
        refine xi_i2l (by decide +kernel : decode mX11_tellBoth.2.1 186 = .ok (.i2l, 1)) (?_ : XW _ _ _ _ _ _ _ 187 _ _)
        obtain ⟨s1, vc⟩ := vc
        refine xi_ldiv (by decide +kernel : decode mX11_tellBoth.2.1 187 = .ok (.ldiv, 1)) s1 (?_ : XW _ _ _ _ _ _ _ 188 _ _)
        refine xi_ladd (by decide +kernel : decode mX11_tellBoth.2.1 188 = .ok (.ladd, 1)) (?_ : XW _ _ _ _ _ _ _ 189 _ _)
        obtain ⟨s1, vc⟩ := vc
        refine xi_last (by decide +kernel : decode mX11_tellBoth.2.1 189 = .ok (.lastore, 1)) rfl (by omega) s1 (?_ : XW _ _ _ _ _ _ (xSL 86 (va_up (xL h 86) ((41 * x4) + x5).toNatClampNeg (1000000000 + (x6 / (Int32.toInt64 x2)))) h) 190 _ _)
        refine xi_iinc (v := x5 + 1) (ls' := [some (.ref 56), some (.int x1), some (.int x2), some (.int x3), some (.int x4), some (.int (x5 + 1)), some (.long x6), none, some (.int x8), some (.int x9)]) (by decide +kernel : decode mX11_tellBoth.2.1 190 = .ok (.iinc 5 1, 3)) rfl rfl (by decide) rfl (?_ : XW _ _ _ _ _ _ _ 193 _ _)
        refine xi_goto (by decide +kernel : decode mX11_tellBoth.2.1 193 = .ok (.goto (-140), 3)) (by decide) (?_ : XW _ _ _ _ _ _ _ 53 _ _)
        refine xw_drop 6 (ls' := [some (.ref 56), some (.int x1), some (.int x2), some (.int x3), some (.int x4), some (.int (x5 + 1)), none, none, some (.int x8), some (.int x9)]) rfl ?_
        refine xw_drop 8 (ls' := [some (.ref 56), some (.int x1), some (.int x2), some (.int x3), some (.int x4), some (.int (x5 + 1)), none, none, none, some (.int x9)]) rfl ?_
        refine xw_drop 9 (ls' := [some (.ref 56), some (.int x1), some (.int x2), some (.int x3), some (.int x4), some (.int (x5 + 1)), none, none, none, none]) rfl ?_
        exact vc
      · replace vc := vc.2 c
        refine xi_lconst (v := 0) (by decide +kernel : decode mX11_tellBoth.2.1 176 = .ok (.lconst 0, 1)) (by decide) (?_ : XW _ _ _ _ _ _ _ 177 _ _)
        refine xi_goto (by decide +kernel : decode mX11_tellBoth.2.1 177 = .ok (.goto 12, 3)) (by decide) (?_ : XW _ _ _ _ _ _ _ 189 _ _)
        obtain ⟨s1, vc⟩ := vc
        refine xi_last (by decide +kernel : decode mX11_tellBoth.2.1 189 = .ok (.lastore, 1)) rfl (by omega) s1 (?_ : XW _ _ _ _ _ _ (xSL 86 (va_up (xL h 86) ((41 * x4) + x5).toNatClampNeg 0) h) 190 _ _)
        refine xi_iinc (v := x5 + 1) (ls' := [some (.ref 56), some (.int x1), some (.int x2), some (.int x3), some (.int x4), some (.int (x5 + 1)), some (.long x6), none, some (.int x8), some (.int x9)]) (by decide +kernel : decode mX11_tellBoth.2.1 190 = .ok (.iinc 5 1, 3)) rfl rfl (by decide) rfl (?_ : XW _ _ _ _ _ _ _ 193 _ _)
        refine xi_goto (by decide +kernel : decode mX11_tellBoth.2.1 193 = .ok (.goto (-140), 3)) (by decide) (?_ : XW _ _ _ _ _ _ _ 53 _ _)
        refine xw_drop 6 (ls' := [some (.ref 56), some (.int x1), some (.int x2), some (.int x3), some (.int x4), some (.int (x5 + 1)), none, none, some (.int x8), some (.int x9)]) rfl ?_
        refine xw_drop 8 (ls' := [some (.ref 56), some (.int x1), some (.int x2), some (.int x3), some (.int x4), some (.int (x5 + 1)), none, none, none, some (.int x9)]) rfl ?_
        refine xw_drop 9 (ls' := [some (.ref 56), some (.int x1), some (.int x2), some (.int x3), some (.int x4), some (.int (x5 + 1)), none, none, none, none]) rfl ?_
        exact vc
    · replace vc := vc.2 c
      refine xi_lload (by decide +kernel : decode mX11_tellBoth.2.1 111 = .ok (.lload 6, 2)) rfl (?_ : XW _ _ _ _ _ _ _ 113 _ _)
      refine xi_aload_n (by decide +kernel : decode mX11_tellBoth.2.1 113 = .ok (.aload_n 0, 1)) rfl rfl (?_ : XW _ _ _ _ _ _ _ 114 _ _)
      refine xi_getR (y := 60) (by decide +kernel : decode mX11_tellBoth.2.1 114 = .ok (.getfield 36, 3)) fX11_36 rfl (by omega) rfl (mp_die hM) (?_ : XW _ _ _ _ _ _ _ 117 _ _)
      refine xi_iload (by decide +kernel : decode mX11_tellBoth.2.1 117 = .ok (.iload 9, 2)) rfl (?_ : XW _ _ _ _ _ _ _ 119 _ _)
      refine xi_iconst (v := 1) (by decide +kernel : decode mX11_tellBoth.2.1 119 = .ok (.iconst 1, 1)) (by decide) (?_ : XW _ _ _ _ _ _ _ 120 _ _)
      refine xi_isub (by decide +kernel : decode mX11_tellBoth.2.1 120 = .ok (.isub, 1)) (?_ : XW _ _ _ _ _ _ _ 121 _ _)
      obtain ⟨s1, vc⟩ := vc
      refine xi_iald (by decide +kernel : decode mX11_tellBoth.2.1 121 = .ok (.iaload, 1)) rfl (by omega) s1 (?_ : XW _ _ _ _ _ _ _ 122 _ _)
      refine xi_if_ne (by decide +kernel : decode mX11_tellBoth.2.1 122 = .ok (.ifCond .ne 7, 3)) (by decide) (fun c => (?_ : XW _ _ _ _ _ _ _ 129 _ _)) (fun c => (?_ : XW _ _ _ _ _ _ _ 125 _ _))
      · replace vc := vc.1 c
        refine xi_aload_n (by decide +kernel : decode mX11_tellBoth.2.1 129 = .ok (.aload_n 0, 1)) rfl rfl (?_ : XW _ _ _ _ _ _ _ 130 _ _)
        refine xi_getR (y := 60) (by decide +kernel : decode mX11_tellBoth.2.1 130 = .ok (.getfield 36, 3)) fX11_36 rfl (by omega) rfl (mp_die hM) (?_ : XW _ _ _ _ _ _ _ 133 _ _)
        refine xi_iload (by decide +kernel : decode mX11_tellBoth.2.1 133 = .ok (.iload 9, 2)) rfl (?_ : XW _ _ _ _ _ _ _ 135 _ _)
        refine xi_iconst (v := 1) (by decide +kernel : decode mX11_tellBoth.2.1 135 = .ok (.iconst 1, 1)) (by decide) (?_ : XW _ _ _ _ _ _ _ 136 _ _)
        refine xi_isub (by decide +kernel : decode mX11_tellBoth.2.1 136 = .ok (.isub, 1)) (?_ : XW _ _ _ _ _ _ _ 137 _ _)
        obtain ⟨s1, vc⟩ := vc
        refine xi_iald (by decide +kernel : decode mX11_tellBoth.2.1 137 = .ok (.iaload, 1)) rfl (by omega) s1 (?_ : XW _ _ _ _ _ _ _ 138 _ _)
        refine xi_i2l (by decide +kernel : decode mX11_tellBoth.2.1 138 = .ok (.i2l, 1)) (?_ : XW _ _ _ _ _ _ _ 139 _ _)
        refine xi_aload_n (by decide +kernel : decode mX11_tellBoth.2.1 139 = .ok (.aload_n 0, 1)) rfl rfl (?_ : XW _ _ _ _ _ _ _ 140 _ _)
        refine xi_iload (by decide +kernel : decode mX11_tellBoth.2.1 140 = .ok (.iload 9, 2)) rfl (?_ : XW _ _ _ _ _ _ _ 142 _ _)
        refine xi_iload (by decide +kernel : decode mX11_tellBoth.2.1 142 = .ok (.iload 4, 2)) rfl (?_ : XW _ _ _ _ _ _ _ 144 _ _)
        refine xi_iload (by decide +kernel : decode mX11_tellBoth.2.1 144 = .ok (.iload 5, 2)) rfl (?_ : XW _ _ _ _ _ _ _ 146 _ _)
        obtain ⟨Q1, sp, vc⟩ := vc
        refine xi_callV (b := 0) (bs := 0) (As := [.int x9, .int x4, .int x5]) (st := [.long (Int32.toInt64 (xI h 60 (x9 - 1).toNatClampNeg)), .long x6]) (by decide +kernel : decode mX11_tellBoth.2.1 146 = .ok (.invokevirtual 445, 3)) kX11_445 rfl rfl (by omega) rfl sp (by decide) (by decide) (Nat.le_of_ble_eq_true rfl) (by omega) (fun v9 h2 hq9 => ?_)
        obtain ⟨r2, e9, vc⟩ := vc v9 h2 hq9
        subst e9
        show XW _ _ _ _ _ _ _ 149 _ [.long r2, .long (Int32.toInt64 (xI h 60 (x9 - 1).toNatClampNeg)), .long x6]
        refine xi_lmul (by decide +kernel : decode mX11_tellBoth.2.1 149 = .ok (.lmul, 1)) (?_ : XW _ _ _ _ _ _ _ 150 _ _)
        refine xi_ladd (by decide +kernel : decode mX11_tellBoth.2.1 150 = .ok (.ladd, 1)) (?_ : XW _ _ _ _ _ _ _ 151 _ _)
        refine xi_lstore (ls' := [some (.ref 56), some (.int x1), some (.int x2), some (.int x3), some (.int x4), some (.int x5), some (.long (x6 + ((Int32.toInt64 (xI h 60 (x9 - 1).toNatClampNeg)) * r2))), none, some (.int x8), some (.int x9)]) (by decide +kernel : decode mX11_tellBoth.2.1 151 = .ok (.lstore 6, 2)) (by decide) rfl (?_ : XW _ _ _ _ _ _ _ 153 _ _)
        refine xi_iinc (v := x9 + 1) (ls' := [some (.ref 56), some (.int x1), some (.int x2), some (.int x3), some (.int x4), some (.int x5), some (.long (x6 + ((Int32.toInt64 (xI h 60 (x9 - 1).toNatClampNeg)) * r2))), none, some (.int x8), some (.int (x9 + 1))]) (by decide +kernel : decode mX11_tellBoth.2.1 153 = .ok (.iinc 9 1, 3)) rfl rfl (by decide) rfl (?_ : XW _ _ _ _ _ _ _ 156 _ _)
        refine xi_goto (by decide +kernel : decode mX11_tellBoth.2.1 156 = .ok (.goto (-57), 3)) (by decide) (?_ : XW _ _ _ _ _ _ _ 99 _ _)
        exact vc
      · replace vc := vc.2 c
        refine xi_lconst (v := 0) (by decide +kernel : decode mX11_tellBoth.2.1 125 = .ok (.lconst 0, 1)) (by decide) (?_ : XW _ _ _ _ _ _ _ 126 _ _)
        refine xi_goto (by decide +kernel : decode mX11_tellBoth.2.1 126 = .ok (.goto 24, 3)) (by decide) (?_ : XW _ _ _ _ _ _ _ 150 _ _)
        refine xi_ladd (by decide +kernel : decode mX11_tellBoth.2.1 150 = .ok (.ladd, 1)) (?_ : XW _ _ _ _ _ _ _ 151 _ _)
        refine xi_lstore (ls' := [some (.ref 56), some (.int x1), some (.int x2), some (.int x3), some (.int x4), some (.int x5), some (.long (x6 + 0)), none, some (.int x8), some (.int x9)]) (by decide +kernel : decode mX11_tellBoth.2.1 151 = .ok (.lstore 6, 2)) (by decide) rfl (?_ : XW _ _ _ _ _ _ _ 153 _ _)
        refine xi_iinc (v := x9 + 1) (ls' := [some (.ref 56), some (.int x1), some (.int x2), some (.int x3), some (.int x4), some (.int x5), some (.long (x6 + 0)), none, some (.int x8), some (.int (x9 + 1))]) (by decide +kernel : decode mX11_tellBoth.2.1 153 = .ok (.iinc 9 1, 3)) rfl rfl (by decide) rfl (?_ : XW _ _ _ _ _ _ _ 156 _ _)
        refine xi_goto (by decide +kernel : decode mX11_tellBoth.2.1 156 = .ok (.goto (-57), 3)) (by decide) (?_ : XW _ _ _ _ _ _ _ 99 _ _)
        exact vc

set_option maxRecDepth 20000 in
theorem v_X11_together_0 {h : XH} {Q : Option Value → XH → Prop} {X : String → XH → Prop} (hM : xMod (xP h))  (o : Int32) (t : Int32) (n : Int32)
    (vc : ∃ Q1, XSpec mX11_isSquare 2 0 0 100 100 [.ref 56, .int o] (xSI 56 (va_up (xI h 56) 2 0) h) Q1 xno ∧ ∀ v h1, Q1 v h1 → ∃ r1 : Int32, v = some (.int r1) ∧ ((r1 = 0 → ∃ Q1, XSpec mX11_fail 1 0 0 100 100 [.ref 56, .int 1] h1 Q1 xno ∧ ∀ v h2, Q1 v h2 → ∃ r2 : Int32, v = some (.int r2) ∧ (Q (some (.long (Int32.toInt64 r2))) h2)) ∧ (¬ r1 = 0 → ∃ Q1, XSpec mX11_isSquare 2 0 0 100 100 [.ref 56, .int t] h1 Q1 xno ∧ ∀ v h3, Q1 v h3 → ∃ r3 : Int32, v = some (.int r3) ∧ ((¬ r3 = 0 → ∃ Q1, XSpec mX11_isIn 1 0 0 100 100 [.long (Int32.toInt64 n), .long 0, .long 100] h3 Q1 xno ∧ ∀ v h4, Q1 v h4 → ∃ r4 : Int32, v = some (.int r4) ∧ ((¬ r4 = 0 → (xP h4 56 3 = some 59) ∧ ((40 < (xI h4 59 0) → Q (some (.long (-2))) h4) ∧ (¬ 40 < (xI h4 59 0) → (n ≤ 60 → ∃ Q1, XSpec mX11_tellBoard 5 0 0 100 100 [.ref 56] h4 Q1 xno ∧ ∀ v h5, Q1 v h5 → v = none ∧ (∃ Q1, XSpec mX11_tellBoth 3 0 0 100 100 [.ref 56, .int n] h5 Q1 xno ∧ ∀ v h6, Q1 v h6 → v = none ∧ ((xP h6 56 43 = some 85) ∧ ((vp_in ((41 * o) + t) 1681) ∧ (Q (some (.long (xL h6 85 ((41 * o) + t).toNatClampNeg))) h6))))) ∧ (¬ n ≤ 60 → Q (some (.long (-2))) h4)))) ∧ (r4 = 0 → ∃ Q1, XSpec mX11_fail 1 0 0 100 100 [.ref 56, .int 2] h4 Q1 xno ∧ ∀ v h7, Q1 v h7 → ∃ r7 : Int32, v = some (.int r7) ∧ (Q (some (.long (Int32.toInt64 r7))) h7)))) ∧ (r3 = 0 → ∃ Q1, XSpec mX11_fail 1 0 0 100 100 [.ref 56, .int 1] h3 Q1 xno ∧ ∀ v h8, Q1 v h8 → ∃ r8 : Int32, v = some (.int r8) ∧ (Q (some (.long (Int32.toInt64 r8))) h8)))))) :
    XW (xrm 6 0 0) mX11_together (xE 100 Q X 0 0) 100 0 0 h 0 [some (.ref 56), some (.int o), some (.int t), some (.int n)] [] := by
  refine xi_aload_n (by decide +kernel : decode mX11_together.2.1 0 = .ok (.aload_n 0, 1)) rfl rfl (?_ : XW _ _ _ _ _ _ _ 1 _ _)
  refine xi_iconst (v := 0) (by decide +kernel : decode mX11_together.2.1 1 = .ok (.iconst 0, 1)) (by decide) (?_ : XW _ _ _ _ _ _ _ 2 _ _)
  refine xi_putI (by decide +kernel : decode mX11_together.2.1 2 = .ok (.putfield 161, 3)) fX11_161 rfl (by omega) rfl rfl rfl (?_ : XW _ _ _ _ _ _ (xSI 56 (va_up (xI h 56) 2 0) h) 5 _ _)
  refine xi_aload_n (by decide +kernel : decode mX11_together.2.1 5 = .ok (.aload_n 0, 1)) rfl rfl (?_ : XW _ _ _ _ _ _ _ 6 _ _)
  refine xi_iload_n (by decide +kernel : decode mX11_together.2.1 6 = .ok (.iload_n 1, 1)) rfl rfl (?_ : XW _ _ _ _ _ _ _ 7 _ _)
  obtain ⟨Q1, sp, vc⟩ := vc
  refine xi_callV (b := 0) (bs := 0) (As := [.int o]) (st := []) (by decide +kernel : decode mX11_together.2.1 7 = .ok (.invokevirtual 367, 3)) kX11_367 rfl rfl (by omega) rfl sp (by decide) (by decide) (Nat.le_of_ble_eq_true rfl) (by omega) (fun v9 h1 hq9 => ?_)
  obtain ⟨r1, e9, vc⟩ := vc v9 h1 hq9
  subst e9
  show XW _ _ _ _ _ _ _ 10 _ [.int r1]
  refine xi_if_eq (by decide +kernel : decode mX11_together.2.1 10 = .ok (.ifCond .eq 11, 3)) (by decide) (fun c => (?_ : XW _ _ _ _ _ _ _ 21 _ _)) (fun c => (?_ : XW _ _ _ _ _ _ _ 13 _ _))
  · replace vc := vc.1 c
    refine xi_aload_n (by decide +kernel : decode mX11_together.2.1 21 = .ok (.aload_n 0, 1)) rfl rfl (?_ : XW _ _ _ _ _ _ _ 22 _ _)
    refine xi_iconst (v := 1) (by decide +kernel : decode mX11_together.2.1 22 = .ok (.iconst 1, 1)) (by decide) (?_ : XW _ _ _ _ _ _ _ 23 _ _)
    obtain ⟨Q1, sp, vc⟩ := vc
    refine xi_callV (b := 0) (bs := 0) (As := [.int 1]) (st := []) (by decide +kernel : decode mX11_together.2.1 23 = .ok (.invokevirtual 311, 3)) kX11_311 rfl rfl (by omega) rfl sp (by decide) (by decide) (Nat.le_of_ble_eq_true rfl) (by omega) (fun v9 h2 hq9 => ?_)
    obtain ⟨r2, e9, vc⟩ := vc v9 h2 hq9
    subst e9
    show XW _ _ _ _ _ _ _ 26 _ [.int r2]
    refine xi_i2l (by decide +kernel : decode mX11_together.2.1 26 = .ok (.i2l, 1)) (?_ : XW _ _ _ _ _ _ _ 27 _ _)
    exact xi_lret (by decide +kernel : decode mX11_together.2.1 27 = .ok (.lreturn, 1)) rfl vc
  · replace vc := vc.2 c
    refine xi_aload_n (by decide +kernel : decode mX11_together.2.1 13 = .ok (.aload_n 0, 1)) rfl rfl (?_ : XW _ _ _ _ _ _ _ 14 _ _)
    refine xi_iload_n (by decide +kernel : decode mX11_together.2.1 14 = .ok (.iload_n 2, 1)) rfl rfl (?_ : XW _ _ _ _ _ _ _ 15 _ _)
    obtain ⟨Q1, sp, vc⟩ := vc
    refine xi_callV (b := 0) (bs := 0) (As := [.int t]) (st := []) (by decide +kernel : decode mX11_together.2.1 15 = .ok (.invokevirtual 367, 3)) kX11_367 rfl rfl (by omega) rfl sp (by decide) (by decide) (Nat.le_of_ble_eq_true rfl) (by omega) (fun v9 h3 hq9 => ?_)
    obtain ⟨r3, e9, vc⟩ := vc v9 h3 hq9
    subst e9
    show XW _ _ _ _ _ _ _ 18 _ [.int r3]
    refine xi_if_ne (by decide +kernel : decode mX11_together.2.1 18 = .ok (.ifCond .ne 10, 3)) (by decide) (fun c => (?_ : XW _ _ _ _ _ _ _ 28 _ _)) (fun c => (?_ : XW _ _ _ _ _ _ _ 21 _ _))
    · replace vc := vc.1 c
      refine xi_iload_n (by decide +kernel : decode mX11_together.2.1 28 = .ok (.iload_n 3, 1)) rfl rfl (?_ : XW _ _ _ _ _ _ _ 29 _ _)
      refine xi_i2l (by decide +kernel : decode mX11_together.2.1 29 = .ok (.i2l, 1)) (?_ : XW _ _ _ _ _ _ _ 30 _ _)
      refine xi_lconst (v := 0) (by decide +kernel : decode mX11_together.2.1 30 = .ok (.lconst 0, 1)) (by decide) (?_ : XW _ _ _ _ _ _ _ 31 _ _)
      refine xi_ldc2 (v := 100) (by decide +kernel : decode mX11_together.2.1 31 = .ok (.ldc2_w 438, 3)) cK_X11_438 (?_ : XW _ _ _ _ _ _ _ 34 _ _)
      obtain ⟨Q1, sp, vc⟩ := vc
      refine xi_callS (b := 0) (bs := 0) (As := [.long (Int32.toInt64 n), .long 0, .long 100]) (st := []) (by decide +kernel : decode mX11_together.2.1 34 = .ok (.invokestatic 164, 3)) kX11_164 rfl rfl sp (by decide) (by decide) (Nat.le_of_ble_eq_true rfl) (by omega) (fun v9 h4 hq9 => ?_)
      obtain ⟨r4, e9, vc⟩ := vc v9 h4 hq9
      subst e9
      show XW _ _ _ _ _ _ _ 37 _ [.int r4]
      refine xi_if_ne (by decide +kernel : decode mX11_together.2.1 37 = .ok (.ifCond .ne 10, 3)) (by decide) (fun c => (?_ : XW _ _ _ _ _ _ _ 47 _ _)) (fun c => (?_ : XW _ _ _ _ _ _ _ 40 _ _))
      · replace vc := vc.1 c
        refine xi_aload_n (by decide +kernel : decode mX11_together.2.1 47 = .ok (.aload_n 0, 1)) rfl rfl (?_ : XW _ _ _ _ _ _ _ 48 _ _)
        obtain ⟨s1, vc⟩ := vc
        refine xi_getR (y := 59) (by decide +kernel : decode mX11_together.2.1 48 = .ok (.getfield 32, 3)) fX11_32 rfl (by omega) rfl s1 (?_ : XW _ _ _ _ _ _ _ 51 _ _)
        refine xi_iconst (v := 0) (by decide +kernel : decode mX11_together.2.1 51 = .ok (.iconst 0, 1)) (by decide) (?_ : XW _ _ _ _ _ _ _ 52 _ _)
        refine xi_iald (by decide +kernel : decode mX11_together.2.1 52 = .ok (.iaload, 1)) rfl (by omega) (by unfold vp_in; decide) (?_ : XW _ _ _ _ _ _ _ 53 _ [.int (xI h4 59 0)])
        refine xi_bipush (v := 40) (by decide +kernel : decode mX11_together.2.1 53 = .ok (.bipush 40, 2)) (by decide) (?_ : XW _ _ _ _ _ _ _ 55 _ _)
        refine xi_icmp_gt (by decide +kernel : decode mX11_together.2.1 55 = .ok (.if_icmp .gt 9, 3)) (by decide) (fun c => (?_ : XW _ _ _ _ _ _ _ 64 _ _)) (fun c => (?_ : XW _ _ _ _ _ _ _ 58 _ _))
        · replace vc := vc.1 c
          refine xi_ldc2 (v := (-2)) (by decide +kernel : decode mX11_together.2.1 64 = .ok (.ldc2_w 449, 3)) cK_X11_449 (?_ : XW _ _ _ _ _ _ _ 67 _ _)
          exact xi_lret (by decide +kernel : decode mX11_together.2.1 67 = .ok (.lreturn, 1)) rfl vc
        · replace vc := vc.2 c
          refine xi_iload_n (by decide +kernel : decode mX11_together.2.1 58 = .ok (.iload_n 3, 1)) rfl rfl (?_ : XW _ _ _ _ _ _ _ 59 _ _)
          refine xi_bipush (v := 60) (by decide +kernel : decode mX11_together.2.1 59 = .ok (.bipush 60, 2)) (by decide) (?_ : XW _ _ _ _ _ _ _ 61 _ _)
          refine xi_icmp_le (by decide +kernel : decode mX11_together.2.1 61 = .ok (.if_icmp .le 7, 3)) (by decide) (fun c => (?_ : XW _ _ _ _ _ _ _ 68 _ _)) (fun c => (?_ : XW _ _ _ _ _ _ _ 64 _ _))
          · replace vc := vc.1 c
            refine xi_aload_n (by decide +kernel : decode mX11_together.2.1 68 = .ok (.aload_n 0, 1)) rfl rfl (?_ : XW _ _ _ _ _ _ _ 69 _ _)
            obtain ⟨Q1, sp, vc⟩ := vc
            refine xi_callV (b := 0) (bs := 0) (As := []) (st := []) (by decide +kernel : decode mX11_together.2.1 69 = .ok (.invokevirtual 373, 3)) kX11_373 rfl rfl (by omega) rfl sp (by decide) (by decide) (Nat.le_of_ble_eq_true rfl) (by omega) (fun v9 h5 hq9 => ?_)
            obtain ⟨e9, vc⟩ := vc v9 h5 hq9
            subst e9
            show XW _ _ _ _ _ _ _ 72 _ []
            refine xi_aload_n (by decide +kernel : decode mX11_together.2.1 72 = .ok (.aload_n 0, 1)) rfl rfl (?_ : XW _ _ _ _ _ _ _ 73 _ _)
            refine xi_iload_n (by decide +kernel : decode mX11_together.2.1 73 = .ok (.iload_n 3, 1)) rfl rfl (?_ : XW _ _ _ _ _ _ _ 74 _ _)
            obtain ⟨Q1, sp, vc⟩ := vc
            refine xi_callV (b := 0) (bs := 0) (As := [.int n]) (st := []) (by decide +kernel : decode mX11_together.2.1 74 = .ok (.invokevirtual 451, 3)) kX11_451 rfl rfl (by omega) rfl sp (by decide) (by decide) (Nat.le_of_ble_eq_true rfl) (by omega) (fun v9 h6 hq9 => ?_)
            obtain ⟨e9, vc⟩ := vc v9 h6 hq9
            subst e9
            show XW _ _ _ _ _ _ _ 77 _ []
            refine xi_aload_n (by decide +kernel : decode mX11_together.2.1 77 = .ok (.aload_n 0, 1)) rfl rfl (?_ : XW _ _ _ _ _ _ _ 78 _ _)
            obtain ⟨s1, vc⟩ := vc
            refine xi_getR (y := 85) (by decide +kernel : decode mX11_together.2.1 78 = .ok (.getfield 119, 3)) fX11_119 rfl (by omega) rfl s1 (?_ : XW _ _ _ _ _ _ _ 81 _ _)
            refine xi_bipush (v := 41) (by decide +kernel : decode mX11_together.2.1 81 = .ok (.bipush 41, 2)) (by decide) (?_ : XW _ _ _ _ _ _ _ 83 _ _)
            refine xi_iload_n (by decide +kernel : decode mX11_together.2.1 83 = .ok (.iload_n 1, 1)) rfl rfl (?_ : XW _ _ _ _ _ _ _ 84 _ _)
            refine xi_imul (by decide +kernel : decode mX11_together.2.1 84 = .ok (.imul, 1)) (?_ : XW _ _ _ _ _ _ _ 85 _ _)
            refine xi_iload_n (by decide +kernel : decode mX11_together.2.1 85 = .ok (.iload_n 2, 1)) rfl rfl (?_ : XW _ _ _ _ _ _ _ 86 _ _)
            refine xi_iadd (by decide +kernel : decode mX11_together.2.1 86 = .ok (.iadd, 1)) (?_ : XW _ _ _ _ _ _ _ 87 _ _)
            obtain ⟨s1, vc⟩ := vc
            refine xi_lald (by decide +kernel : decode mX11_together.2.1 87 = .ok (.laload, 1)) rfl (by omega) s1 (?_ : XW _ _ _ _ _ _ _ 88 _ _)
            exact xi_lret (by decide +kernel : decode mX11_together.2.1 88 = .ok (.lreturn, 1)) rfl vc
          · replace vc := vc.2 c
            refine xi_ldc2 (v := (-2)) (by decide +kernel : decode mX11_together.2.1 64 = .ok (.ldc2_w 449, 3)) cK_X11_449 (?_ : XW _ _ _ _ _ _ _ 67 _ _)
            exact xi_lret (by decide +kernel : decode mX11_together.2.1 67 = .ok (.lreturn, 1)) rfl vc
      · replace vc := vc.2 c
        refine xi_aload_n (by decide +kernel : decode mX11_together.2.1 40 = .ok (.aload_n 0, 1)) rfl rfl (?_ : XW _ _ _ _ _ _ _ 41 _ _)
        refine xi_iconst (v := 2) (by decide +kernel : decode mX11_together.2.1 41 = .ok (.iconst 2, 1)) (by decide) (?_ : XW _ _ _ _ _ _ _ 42 _ _)
        obtain ⟨Q1, sp, vc⟩ := vc
        refine xi_callV (b := 0) (bs := 0) (As := [.int 2]) (st := []) (by decide +kernel : decode mX11_together.2.1 42 = .ok (.invokevirtual 311, 3)) kX11_311 rfl rfl (by omega) rfl sp (by decide) (by decide) (Nat.le_of_ble_eq_true rfl) (by omega) (fun v9 h7 hq9 => ?_)
        obtain ⟨r7, e9, vc⟩ := vc v9 h7 hq9
        subst e9
        show XW _ _ _ _ _ _ _ 45 _ [.int r7]
        refine xi_i2l (by decide +kernel : decode mX11_together.2.1 45 = .ok (.i2l, 1)) (?_ : XW _ _ _ _ _ _ _ 46 _ _)
        exact xi_lret (by decide +kernel : decode mX11_together.2.1 46 = .ok (.lreturn, 1)) rfl vc
    · replace vc := vc.2 c
      refine xi_aload_n (by decide +kernel : decode mX11_together.2.1 21 = .ok (.aload_n 0, 1)) rfl rfl (?_ : XW _ _ _ _ _ _ _ 22 _ _)
      refine xi_iconst (v := 1) (by decide +kernel : decode mX11_together.2.1 22 = .ok (.iconst 1, 1)) (by decide) (?_ : XW _ _ _ _ _ _ _ 23 _ _)
      obtain ⟨Q1, sp, vc⟩ := vc
      refine xi_callV (b := 0) (bs := 0) (As := [.int 1]) (st := []) (by decide +kernel : decode mX11_together.2.1 23 = .ok (.invokevirtual 311, 3)) kX11_311 rfl rfl (by omega) rfl sp (by decide) (by decide) (Nat.le_of_ble_eq_true rfl) (by omega) (fun v9 h8 hq9 => ?_)
      obtain ⟨r8, e9, vc⟩ := vc v9 h8 hq9
      subst e9
      show XW _ _ _ _ _ _ _ 26 _ [.int r8]
      refine xi_i2l (by decide +kernel : decode mX11_together.2.1 26 = .ok (.i2l, 1)) (?_ : XW _ _ _ _ _ _ _ 27 _ _)
      exact xi_lret (by decide +kernel : decode mX11_together.2.1 27 = .ok (.lreturn, 1)) rfl vc

set_option maxRecDepth 20000 in
theorem v_X11_whom_0 {h : XH} {Q : Option Value → XH → Prop} {X : String → XH → Prop} (hM : xMod (xP h))  (o : Int32) (t : Int32) (f : Int32) (n : Int32)
    (vc : ∃ Q1, XSpec mX11_isSquare 2 0 0 100 100 [.ref 56, .int o] (xSI 56 (va_up (xI h 56) 2 0) h) Q1 xno ∧ ∀ v h1, Q1 v h1 → ∃ r1 : Int32, v = some (.int r1) ∧ ((r1 = 0 → ∃ Q1, XSpec mX11_fail 1 0 0 100 100 [.ref 56, .int 1] h1 Q1 xno ∧ ∀ v h2, Q1 v h2 → ∃ r2 : Int32, v = some (.int r2) ∧ (Q (some (.int r2)) h2)) ∧ (¬ r1 = 0 → ∃ Q1, XSpec mX11_isSquare 2 0 0 100 100 [.ref 56, .int t] h1 Q1 xno ∧ ∀ v h3, Q1 v h3 → ∃ r3 : Int32, v = some (.int r3) ∧ ((r3 = 0 → ∃ Q1, XSpec mX11_fail 1 0 0 100 100 [.ref 56, .int 1] h3 Q1 xno ∧ ∀ v h4, Q1 v h4 → ∃ r4 : Int32, v = some (.int r4) ∧ (Q (some (.int r4)) h4)) ∧ (¬ r3 = 0 → ∃ Q1, XSpec mX11_isFace 2 0 0 100 100 [.int f] h3 Q1 xno ∧ ∀ v h5, Q1 v h5 → ∃ r5 : Int32, v = some (.int r5) ∧ ((¬ r5 = 0 → ∃ Q1, XSpec mX11_isIn 1 0 0 100 100 [.long (Int32.toInt64 n), .long 1, .long 100] h5 Q1 xno ∧ ∀ v h6, Q1 v h6 → ∃ r6 : Int32, v = some (.int r6) ∧ ((¬ r6 = 0 → (xP h6 56 3 = some 59) ∧ ((40 < (xI h6 59 0) → Q (some (.int (-2))) h6) ∧ (¬ 40 < (xI h6 59 0) → (n ≤ 60 → (xP h6 56 3 = some 59) ∧ ((¬ o = (xI h6 59 0) → (xP h6 56 3 = some 59) ∧ ((¬ t = (xI h6 59 0) → ∃ Q1, XSpec mX11_tellBoard 5 0 0 100 100 [.ref 56] h6 Q1 xno ∧ ∀ v h7, Q1 v h7 → v = none ∧ (∃ Q1, XSpec mX11_tellBoth 3 0 0 100 100 [.ref 56, .int (n - 1)] h7 Q1 xno ∧ ∀ v h8, Q1 v h8 → v = none ∧ ((xP h8 56 43 = some 85) ∧ ((xP h8 56 21 = some 67) ∧ ((vp_in ((101 * f) + t) 707) ∧ ((vp_in ((41 * o) + (xI h8 67 ((101 * f) + t).toNatClampNeg)) 1681) ∧ ((xP h8 56 43 = some 85) ∧ ((xP h8 56 21 = some 67) ∧ ((vp_in ((101 * f) + o) 707) ∧ ((vp_in ((41 * (xI h8 67 ((101 * f) + o).toNatClampNeg)) + t) 1681) ∧ ((0 ≤ (lg_cmp (xL h8 85 ((41 * o) + (xI h8 67 ((101 * f) + t).toNatClampNeg)).toNatClampNeg) (xL h8 85 ((41 * (xI h8 67 ((101 * f) + o).toNatClampNeg)) + t).toNatClampNeg)) → Q (some (.int 0)) h8) ∧ (¬ 0 ≤ (lg_cmp (xL h8 85 ((41 * o) + (xI h8 67 ((101 * f) + t).toNatClampNeg)).toNatClampNeg) (xL h8 85 ((41 * (xI h8 67 ((101 * f) + o).toNatClampNeg)) + t).toNatClampNeg)) → Q (some (.int 1)) h8)))))))))))) ∧ (t = (xI h6 59 0) → Q (some (.int 0)) h6))) ∧ (o = (xI h6 59 0) → (xP h6 56 3 = some 59) ∧ ((¬ t = (xI h6 59 0) → Q (some (.int 1)) h6) ∧ (t = (xI h6 59 0) → Q (some (.int (-1))) h6))))) ∧ (¬ n ≤ 60 → Q (some (.int (-2))) h6)))) ∧ (r6 = 0 → ∃ Q1, XSpec mX11_fail 1 0 0 100 100 [.ref 56, .int 2] h6 Q1 xno ∧ ∀ v h9, Q1 v h9 → ∃ r9 : Int32, v = some (.int r9) ∧ (Q (some (.int r9)) h9)))) ∧ (r5 = 0 → ∃ Q1, XSpec mX11_fail 1 0 0 100 100 [.ref 56, .int 1] h5 Q1 xno ∧ ∀ v h10, Q1 v h10 → ∃ r10 : Int32, v = some (.int r10) ∧ (Q (some (.int r10)) h10)))))))) :
    XW (xrm 6 0 0) mX11_whom (xE 100 Q X 0 0) 100 0 0 h 0 [some (.ref 56), some (.int o), some (.int t), some (.int f), some (.int n)] [] := by
  refine xi_aload_n (by decide +kernel : decode mX11_whom.2.1 0 = .ok (.aload_n 0, 1)) rfl rfl (?_ : XW _ _ _ _ _ _ _ 1 _ _)
  refine xi_iconst (v := 0) (by decide +kernel : decode mX11_whom.2.1 1 = .ok (.iconst 0, 1)) (by decide) (?_ : XW _ _ _ _ _ _ _ 2 _ _)
  refine xi_putI (by decide +kernel : decode mX11_whom.2.1 2 = .ok (.putfield 161, 3)) fX11_161 rfl (by omega) rfl rfl rfl (?_ : XW _ _ _ _ _ _ (xSI 56 (va_up (xI h 56) 2 0) h) 5 _ _)
  refine xi_aload_n (by decide +kernel : decode mX11_whom.2.1 5 = .ok (.aload_n 0, 1)) rfl rfl (?_ : XW _ _ _ _ _ _ _ 6 _ _)
  refine xi_iload_n (by decide +kernel : decode mX11_whom.2.1 6 = .ok (.iload_n 1, 1)) rfl rfl (?_ : XW _ _ _ _ _ _ _ 7 _ _)
  obtain ⟨Q1, sp, vc⟩ := vc
  refine xi_callV (b := 0) (bs := 0) (As := [.int o]) (st := []) (by decide +kernel : decode mX11_whom.2.1 7 = .ok (.invokevirtual 367, 3)) kX11_367 rfl rfl (by omega) rfl sp (by decide) (by decide) (Nat.le_of_ble_eq_true rfl) (by omega) (fun v9 h1 hq9 => ?_)
  obtain ⟨r1, e9, vc⟩ := vc v9 h1 hq9
  subst e9
  show XW _ _ _ _ _ _ _ 10 _ [.int r1]
  refine xi_if_eq (by decide +kernel : decode mX11_whom.2.1 10 = .ok (.ifCond .eq 18, 3)) (by decide) (fun c => (?_ : XW _ _ _ _ _ _ _ 28 _ _)) (fun c => (?_ : XW _ _ _ _ _ _ _ 13 _ _))
  · replace vc := vc.1 c
    refine xi_aload_n (by decide +kernel : decode mX11_whom.2.1 28 = .ok (.aload_n 0, 1)) rfl rfl (?_ : XW _ _ _ _ _ _ _ 29 _ _)
    refine xi_iconst (v := 1) (by decide +kernel : decode mX11_whom.2.1 29 = .ok (.iconst 1, 1)) (by decide) (?_ : XW _ _ _ _ _ _ _ 30 _ _)
    obtain ⟨Q1, sp, vc⟩ := vc
    refine xi_callV (b := 0) (bs := 0) (As := [.int 1]) (st := []) (by decide +kernel : decode mX11_whom.2.1 30 = .ok (.invokevirtual 311, 3)) kX11_311 rfl rfl (by omega) rfl sp (by decide) (by decide) (Nat.le_of_ble_eq_true rfl) (by omega) (fun v9 h2 hq9 => ?_)
    obtain ⟨r2, e9, vc⟩ := vc v9 h2 hq9
    subst e9
    show XW _ _ _ _ _ _ _ 33 _ [.int r2]
    exact xi_iret (by decide +kernel : decode mX11_whom.2.1 33 = .ok (.ireturn, 1)) rfl rfl vc
  · replace vc := vc.2 c
    refine xi_aload_n (by decide +kernel : decode mX11_whom.2.1 13 = .ok (.aload_n 0, 1)) rfl rfl (?_ : XW _ _ _ _ _ _ _ 14 _ _)
    refine xi_iload_n (by decide +kernel : decode mX11_whom.2.1 14 = .ok (.iload_n 2, 1)) rfl rfl (?_ : XW _ _ _ _ _ _ _ 15 _ _)
    obtain ⟨Q1, sp, vc⟩ := vc
    refine xi_callV (b := 0) (bs := 0) (As := [.int t]) (st := []) (by decide +kernel : decode mX11_whom.2.1 15 = .ok (.invokevirtual 367, 3)) kX11_367 rfl rfl (by omega) rfl sp (by decide) (by decide) (Nat.le_of_ble_eq_true rfl) (by omega) (fun v9 h3 hq9 => ?_)
    obtain ⟨r3, e9, vc⟩ := vc v9 h3 hq9
    subst e9
    show XW _ _ _ _ _ _ _ 18 _ [.int r3]
    refine xi_if_eq (by decide +kernel : decode mX11_whom.2.1 18 = .ok (.ifCond .eq 10, 3)) (by decide) (fun c => (?_ : XW _ _ _ _ _ _ _ 28 _ _)) (fun c => (?_ : XW _ _ _ _ _ _ _ 21 _ _))
    · replace vc := vc.1 c
      refine xi_aload_n (by decide +kernel : decode mX11_whom.2.1 28 = .ok (.aload_n 0, 1)) rfl rfl (?_ : XW _ _ _ _ _ _ _ 29 _ _)
      refine xi_iconst (v := 1) (by decide +kernel : decode mX11_whom.2.1 29 = .ok (.iconst 1, 1)) (by decide) (?_ : XW _ _ _ _ _ _ _ 30 _ _)
      obtain ⟨Q1, sp, vc⟩ := vc
      refine xi_callV (b := 0) (bs := 0) (As := [.int 1]) (st := []) (by decide +kernel : decode mX11_whom.2.1 30 = .ok (.invokevirtual 311, 3)) kX11_311 rfl rfl (by omega) rfl sp (by decide) (by decide) (Nat.le_of_ble_eq_true rfl) (by omega) (fun v9 h4 hq9 => ?_)
      obtain ⟨r4, e9, vc⟩ := vc v9 h4 hq9
      subst e9
      show XW _ _ _ _ _ _ _ 33 _ [.int r4]
      exact xi_iret (by decide +kernel : decode mX11_whom.2.1 33 = .ok (.ireturn, 1)) rfl rfl vc
    · replace vc := vc.2 c
      refine xi_iload_n (by decide +kernel : decode mX11_whom.2.1 21 = .ok (.iload_n 3, 1)) rfl rfl (?_ : XW _ _ _ _ _ _ _ 22 _ _)
      obtain ⟨Q1, sp, vc⟩ := vc
      refine xi_callS (b := 0) (bs := 0) (As := [.int f]) (st := []) (by decide +kernel : decode mX11_whom.2.1 22 = .ok (.invokestatic 370, 3)) kX11_370 rfl rfl sp (by decide) (by decide) (Nat.le_of_ble_eq_true rfl) (by omega) (fun v9 h5 hq9 => ?_)
      obtain ⟨r5, e9, vc⟩ := vc v9 h5 hq9
      subst e9
      show XW _ _ _ _ _ _ _ 25 _ [.int r5]
      refine xi_if_ne (by decide +kernel : decode mX11_whom.2.1 25 = .ok (.ifCond .ne 9, 3)) (by decide) (fun c => (?_ : XW _ _ _ _ _ _ _ 34 _ _)) (fun c => (?_ : XW _ _ _ _ _ _ _ 28 _ _))
      · replace vc := vc.1 c
        refine xi_iload (by decide +kernel : decode mX11_whom.2.1 34 = .ok (.iload 4, 2)) rfl (?_ : XW _ _ _ _ _ _ _ 36 _ _)
        refine xi_i2l (by decide +kernel : decode mX11_whom.2.1 36 = .ok (.i2l, 1)) (?_ : XW _ _ _ _ _ _ _ 37 _ _)
        refine xi_lconst (v := 1) (by decide +kernel : decode mX11_whom.2.1 37 = .ok (.lconst 1, 1)) (by decide) (?_ : XW _ _ _ _ _ _ _ 38 _ _)
        refine xi_ldc2 (v := 100) (by decide +kernel : decode mX11_whom.2.1 38 = .ok (.ldc2_w 438, 3)) cK_X11_438 (?_ : XW _ _ _ _ _ _ _ 41 _ _)
        obtain ⟨Q1, sp, vc⟩ := vc
        refine xi_callS (b := 0) (bs := 0) (As := [.long (Int32.toInt64 n), .long 1, .long 100]) (st := []) (by decide +kernel : decode mX11_whom.2.1 41 = .ok (.invokestatic 164, 3)) kX11_164 rfl rfl sp (by decide) (by decide) (Nat.le_of_ble_eq_true rfl) (by omega) (fun v9 h6 hq9 => ?_)
        obtain ⟨r6, e9, vc⟩ := vc v9 h6 hq9
        subst e9
        show XW _ _ _ _ _ _ _ 44 _ [.int r6]
        refine xi_if_ne (by decide +kernel : decode mX11_whom.2.1 44 = .ok (.ifCond .ne 9, 3)) (by decide) (fun c => (?_ : XW _ _ _ _ _ _ _ 53 _ _)) (fun c => (?_ : XW _ _ _ _ _ _ _ 47 _ _))
        · replace vc := vc.1 c
          refine xi_aload_n (by decide +kernel : decode mX11_whom.2.1 53 = .ok (.aload_n 0, 1)) rfl rfl (?_ : XW _ _ _ _ _ _ _ 54 _ _)
          obtain ⟨s1, vc⟩ := vc
          refine xi_getR (y := 59) (by decide +kernel : decode mX11_whom.2.1 54 = .ok (.getfield 32, 3)) fX11_32 rfl (by omega) rfl s1 (?_ : XW _ _ _ _ _ _ _ 57 _ _)
          refine xi_iconst (v := 0) (by decide +kernel : decode mX11_whom.2.1 57 = .ok (.iconst 0, 1)) (by decide) (?_ : XW _ _ _ _ _ _ _ 58 _ _)
          refine xi_iald (by decide +kernel : decode mX11_whom.2.1 58 = .ok (.iaload, 1)) rfl (by omega) (by unfold vp_in; decide) (?_ : XW _ _ _ _ _ _ _ 59 _ [.int (xI h6 59 0)])
          refine xi_bipush (v := 40) (by decide +kernel : decode mX11_whom.2.1 59 = .ok (.bipush 40, 2)) (by decide) (?_ : XW _ _ _ _ _ _ _ 61 _ _)
          refine xi_icmp_gt (by decide +kernel : decode mX11_whom.2.1 61 = .ok (.if_icmp .gt 10, 3)) (by decide) (fun c => (?_ : XW _ _ _ _ _ _ _ 71 _ _)) (fun c => (?_ : XW _ _ _ _ _ _ _ 64 _ _))
          · replace vc := vc.1 c
            refine xi_bipush (v := (-2)) (by decide +kernel : decode mX11_whom.2.1 71 = .ok (.bipush (-2), 2)) (by decide) (?_ : XW _ _ _ _ _ _ _ 73 _ _)
            exact xi_iret (by decide +kernel : decode mX11_whom.2.1 73 = .ok (.ireturn, 1)) rfl rfl vc
          · replace vc := vc.2 c
            refine xi_iload (by decide +kernel : decode mX11_whom.2.1 64 = .ok (.iload 4, 2)) rfl (?_ : XW _ _ _ _ _ _ _ 66 _ _)
            refine xi_bipush (v := 60) (by decide +kernel : decode mX11_whom.2.1 66 = .ok (.bipush 60, 2)) (by decide) (?_ : XW _ _ _ _ _ _ _ 68 _ _)
            refine xi_icmp_le (by decide +kernel : decode mX11_whom.2.1 68 = .ok (.if_icmp .le 6, 3)) (by decide) (fun c => (?_ : XW _ _ _ _ _ _ _ 74 _ _)) (fun c => (?_ : XW _ _ _ _ _ _ _ 71 _ _))
            · replace vc := vc.1 c
              refine xi_iload_n (by decide +kernel : decode mX11_whom.2.1 74 = .ok (.iload_n 1, 1)) rfl rfl (?_ : XW _ _ _ _ _ _ _ 75 _ _)
              refine xi_aload_n (by decide +kernel : decode mX11_whom.2.1 75 = .ok (.aload_n 0, 1)) rfl rfl (?_ : XW _ _ _ _ _ _ _ 76 _ _)
              obtain ⟨s1, vc⟩ := vc
              refine xi_getR (y := 59) (by decide +kernel : decode mX11_whom.2.1 76 = .ok (.getfield 32, 3)) fX11_32 rfl (by omega) rfl s1 (?_ : XW _ _ _ _ _ _ _ 79 _ _)
              refine xi_iconst (v := 0) (by decide +kernel : decode mX11_whom.2.1 79 = .ok (.iconst 0, 1)) (by decide) (?_ : XW _ _ _ _ _ _ _ 80 _ _)
              refine xi_iald (by decide +kernel : decode mX11_whom.2.1 80 = .ok (.iaload, 1)) rfl (by omega) (by unfold vp_in; decide) (?_ : XW _ _ _ _ _ _ _ 81 _ [.int (xI h6 59 0), .int o])
              refine xi_icmp_ne (by decide +kernel : decode mX11_whom.2.1 81 = .ok (.if_icmp .ne 19, 3)) (by decide) (fun c => (?_ : XW _ _ _ _ _ _ _ 100 _ _)) (fun c => (?_ : XW _ _ _ _ _ _ _ 84 _ _))
              · replace vc := vc.1 c
                refine xi_iload_n (by decide +kernel : decode mX11_whom.2.1 100 = .ok (.iload_n 2, 1)) rfl rfl (?_ : XW _ _ _ _ _ _ _ 101 _ _)
                refine xi_aload_n (by decide +kernel : decode mX11_whom.2.1 101 = .ok (.aload_n 0, 1)) rfl rfl (?_ : XW _ _ _ _ _ _ _ 102 _ _)
                obtain ⟨s1, vc⟩ := vc
                refine xi_getR (y := 59) (by decide +kernel : decode mX11_whom.2.1 102 = .ok (.getfield 32, 3)) fX11_32 rfl (by omega) rfl s1 (?_ : XW _ _ _ _ _ _ _ 105 _ _)
                refine xi_iconst (v := 0) (by decide +kernel : decode mX11_whom.2.1 105 = .ok (.iconst 0, 1)) (by decide) (?_ : XW _ _ _ _ _ _ _ 106 _ _)
                refine xi_iald (by decide +kernel : decode mX11_whom.2.1 106 = .ok (.iaload, 1)) rfl (by omega) (by unfold vp_in; decide) (?_ : XW _ _ _ _ _ _ _ 107 _ [.int (xI h6 59 0), .int t])
                refine xi_icmp_ne (by decide +kernel : decode mX11_whom.2.1 107 = .ok (.if_icmp .ne 5, 3)) (by decide) (fun c => (?_ : XW _ _ _ _ _ _ _ 112 _ _)) (fun c => (?_ : XW _ _ _ _ _ _ _ 110 _ _))
                · replace vc := vc.1 c
                  refine xi_aload_n (by decide +kernel : decode mX11_whom.2.1 112 = .ok (.aload_n 0, 1)) rfl rfl (?_ : XW _ _ _ _ _ _ _ 113 _ _)
                  obtain ⟨Q1, sp, vc⟩ := vc
                  refine xi_callV (b := 0) (bs := 0) (As := []) (st := []) (by decide +kernel : decode mX11_whom.2.1 113 = .ok (.invokevirtual 373, 3)) kX11_373 rfl rfl (by omega) rfl sp (by decide) (by decide) (Nat.le_of_ble_eq_true rfl) (by omega) (fun v9 h7 hq9 => ?_)
                  obtain ⟨e9, vc⟩ := vc v9 h7 hq9
                  subst e9
                  show XW _ _ _ _ _ _ _ 116 _ []
                  refine xi_aload_n (by decide +kernel : decode mX11_whom.2.1 116 = .ok (.aload_n 0, 1)) rfl rfl (?_ : XW _ _ _ _ _ _ _ 117 _ _)
                  refine xi_iload (by decide +kernel : decode mX11_whom.2.1 117 = .ok (.iload 4, 2)) rfl (?_ : XW _ _ _ _ _ _ _ 119 _ _)
                  refine xi_iconst (v := 1) (by decide +kernel : decode mX11_whom.2.1 119 = .ok (.iconst 1, 1)) (by decide) (?_ : XW _ _ _ _ _ _ _ 120 _ _)
                  refine xi_isub (by decide +kernel : decode mX11_whom.2.1 120 = .ok (.isub, 1)) (?_ : XW _ _ _ _ _ _ _ 121 _ _)
                  obtain ⟨Q1, sp, vc⟩ := vc
                  refine xi_callV (b := 0) (bs := 0) (As := [.int (n - 1)]) (st := []) (by decide +kernel : decode mX11_whom.2.1 121 = .ok (.invokevirtual 451, 3)) kX11_451 rfl rfl (by omega) rfl sp (by decide) (by decide) (Nat.le_of_ble_eq_true rfl) (by omega) (fun v9 h8 hq9 => ?_)
                  obtain ⟨e9, vc⟩ := vc v9 h8 hq9
                  subst e9
                  show XW _ _ _ _ _ _ _ 124 _ []
                  refine xi_aload_n (by decide +kernel : decode mX11_whom.2.1 124 = .ok (.aload_n 0, 1)) rfl rfl (?_ : XW _ _ _ _ _ _ _ 125 _ _)
                  obtain ⟨s1, vc⟩ := vc
                  refine xi_getR (y := 85) (by decide +kernel : decode mX11_whom.2.1 125 = .ok (.getfield 119, 3)) fX11_119 rfl (by omega) rfl s1 (?_ : XW _ _ _ _ _ _ _ 128 _ _)
                  refine xi_bipush (v := 41) (by decide +kernel : decode mX11_whom.2.1 128 = .ok (.bipush 41, 2)) (by decide) (?_ : XW _ _ _ _ _ _ _ 130 _ _)
                  refine xi_iload_n (by decide +kernel : decode mX11_whom.2.1 130 = .ok (.iload_n 1, 1)) rfl rfl (?_ : XW _ _ _ _ _ _ _ 131 _ _)
                  refine xi_imul (by decide +kernel : decode mX11_whom.2.1 131 = .ok (.imul, 1)) (?_ : XW _ _ _ _ _ _ _ 132 _ _)
                  refine xi_aload_n (by decide +kernel : decode mX11_whom.2.1 132 = .ok (.aload_n 0, 1)) rfl rfl (?_ : XW _ _ _ _ _ _ _ 133 _ _)
                  obtain ⟨s1, vc⟩ := vc
                  refine xi_getR (y := 67) (by decide +kernel : decode mX11_whom.2.1 133 = .ok (.getfield 61, 3)) fX11_61 rfl (by omega) rfl s1 (?_ : XW _ _ _ _ _ _ _ 136 _ _)
                  refine xi_bipush (v := 101) (by decide +kernel : decode mX11_whom.2.1 136 = .ok (.bipush 101, 2)) (by decide) (?_ : XW _ _ _ _ _ _ _ 138 _ _)
                  refine xi_iload_n (by decide +kernel : decode mX11_whom.2.1 138 = .ok (.iload_n 3, 1)) rfl rfl (?_ : XW _ _ _ _ _ _ _ 139 _ _)
                  refine xi_imul (by decide +kernel : decode mX11_whom.2.1 139 = .ok (.imul, 1)) (?_ : XW _ _ _ _ _ _ _ 140 _ _)
                  refine xi_iload_n (by decide +kernel : decode mX11_whom.2.1 140 = .ok (.iload_n 2, 1)) rfl rfl (?_ : XW _ _ _ _ _ _ _ 141 _ _)
                  refine xi_iadd (by decide +kernel : decode mX11_whom.2.1 141 = .ok (.iadd, 1)) (?_ : XW _ _ _ _ _ _ _ 142 _ _)
                  obtain ⟨s1, vc⟩ := vc
                  refine xi_iald (by decide +kernel : decode mX11_whom.2.1 142 = .ok (.iaload, 1)) rfl (by omega) s1 (?_ : XW _ _ _ _ _ _ _ 143 _ _)
                  refine xi_iadd (by decide +kernel : decode mX11_whom.2.1 143 = .ok (.iadd, 1)) (?_ : XW _ _ _ _ _ _ _ 144 _ _)
                  obtain ⟨s1, vc⟩ := vc
                  refine xi_lald (by decide +kernel : decode mX11_whom.2.1 144 = .ok (.laload, 1)) rfl (by omega) s1 (?_ : XW _ _ _ _ _ _ _ 145 _ _)
                  refine xi_aload_n (by decide +kernel : decode mX11_whom.2.1 145 = .ok (.aload_n 0, 1)) rfl rfl (?_ : XW _ _ _ _ _ _ _ 146 _ _)
                  obtain ⟨s1, vc⟩ := vc
                  refine xi_getR (y := 85) (by decide +kernel : decode mX11_whom.2.1 146 = .ok (.getfield 119, 3)) fX11_119 rfl (by omega) rfl s1 (?_ : XW _ _ _ _ _ _ _ 149 _ _)
                  refine xi_bipush (v := 41) (by decide +kernel : decode mX11_whom.2.1 149 = .ok (.bipush 41, 2)) (by decide) (?_ : XW _ _ _ _ _ _ _ 151 _ _)
                  refine xi_aload_n (by decide +kernel : decode mX11_whom.2.1 151 = .ok (.aload_n 0, 1)) rfl rfl (?_ : XW _ _ _ _ _ _ _ 152 _ _)
                  obtain ⟨s1, vc⟩ := vc
                  refine xi_getR (y := 67) (by decide +kernel : decode mX11_whom.2.1 152 = .ok (.getfield 61, 3)) fX11_61 rfl (by omega) rfl s1 (?_ : XW _ _ _ _ _ _ _ 155 _ _)
                  refine xi_bipush (v := 101) (by decide +kernel : decode mX11_whom.2.1 155 = .ok (.bipush 101, 2)) (by decide) (?_ : XW _ _ _ _ _ _ _ 157 _ _)
                  refine xi_iload_n (by decide +kernel : decode mX11_whom.2.1 157 = .ok (.iload_n 3, 1)) rfl rfl (?_ : XW _ _ _ _ _ _ _ 158 _ _)
                  refine xi_imul (by decide +kernel : decode mX11_whom.2.1 158 = .ok (.imul, 1)) (?_ : XW _ _ _ _ _ _ _ 159 _ _)
                  refine xi_iload_n (by decide +kernel : decode mX11_whom.2.1 159 = .ok (.iload_n 1, 1)) rfl rfl (?_ : XW _ _ _ _ _ _ _ 160 _ _)
                  refine xi_iadd (by decide +kernel : decode mX11_whom.2.1 160 = .ok (.iadd, 1)) (?_ : XW _ _ _ _ _ _ _ 161 _ _)
                  obtain ⟨s1, vc⟩ := vc
                  refine xi_iald (by decide +kernel : decode mX11_whom.2.1 161 = .ok (.iaload, 1)) rfl (by omega) s1 (?_ : XW _ _ _ _ _ _ _ 162 _ _)
                  refine xi_imul (by decide +kernel : decode mX11_whom.2.1 162 = .ok (.imul, 1)) (?_ : XW _ _ _ _ _ _ _ 163 _ _)
                  refine xi_iload_n (by decide +kernel : decode mX11_whom.2.1 163 = .ok (.iload_n 2, 1)) rfl rfl (?_ : XW _ _ _ _ _ _ _ 164 _ _)
                  refine xi_iadd (by decide +kernel : decode mX11_whom.2.1 164 = .ok (.iadd, 1)) (?_ : XW _ _ _ _ _ _ _ 165 _ _)
                  obtain ⟨s1, vc⟩ := vc
                  refine xi_lald (by decide +kernel : decode mX11_whom.2.1 165 = .ok (.laload, 1)) rfl (by omega) s1 (?_ : XW _ _ _ _ _ _ _ 166 _ _)
                  refine xi_lcmp (by decide +kernel : decode mX11_whom.2.1 166 = .ok (.lcmp, 1)) (?_ : XW _ _ _ _ _ _ _ 167 _ _)
                  refine xi_if_ge (by decide +kernel : decode mX11_whom.2.1 167 = .ok (.ifCond .ge 7, 3)) (by decide) (fun c => (?_ : XW _ _ _ _ _ _ _ 174 _ _)) (fun c => (?_ : XW _ _ _ _ _ _ _ 170 _ _))
                  · replace vc := vc.1 c
                    refine xi_iconst (v := 0) (by decide +kernel : decode mX11_whom.2.1 174 = .ok (.iconst 0, 1)) (by decide) (?_ : XW _ _ _ _ _ _ _ 175 _ _)
                    exact xi_iret (by decide +kernel : decode mX11_whom.2.1 175 = .ok (.ireturn, 1)) rfl rfl vc
                  · replace vc := vc.2 c
                    refine xi_iconst (v := 1) (by decide +kernel : decode mX11_whom.2.1 170 = .ok (.iconst 1, 1)) (by decide) (?_ : XW _ _ _ _ _ _ _ 171 _ _)
                    refine xi_goto (by decide +kernel : decode mX11_whom.2.1 171 = .ok (.goto 4, 3)) (by decide) (?_ : XW _ _ _ _ _ _ _ 175 _ _)
                    exact xi_iret (by decide +kernel : decode mX11_whom.2.1 175 = .ok (.ireturn, 1)) rfl rfl vc
                · replace vc := vc.2 c
                  refine xi_iconst (v := 0) (by decide +kernel : decode mX11_whom.2.1 110 = .ok (.iconst 0, 1)) (by decide) (?_ : XW _ _ _ _ _ _ _ 111 _ _)
                  exact xi_iret (by decide +kernel : decode mX11_whom.2.1 111 = .ok (.ireturn, 1)) rfl rfl vc
              · replace vc := vc.2 c
                refine xi_iload_n (by decide +kernel : decode mX11_whom.2.1 84 = .ok (.iload_n 2, 1)) rfl rfl (?_ : XW _ _ _ _ _ _ _ 85 _ _)
                refine xi_aload_n (by decide +kernel : decode mX11_whom.2.1 85 = .ok (.aload_n 0, 1)) rfl rfl (?_ : XW _ _ _ _ _ _ _ 86 _ _)
                obtain ⟨s1, vc⟩ := vc
                refine xi_getR (y := 59) (by decide +kernel : decode mX11_whom.2.1 86 = .ok (.getfield 32, 3)) fX11_32 rfl (by omega) rfl s1 (?_ : XW _ _ _ _ _ _ _ 89 _ _)
                refine xi_iconst (v := 0) (by decide +kernel : decode mX11_whom.2.1 89 = .ok (.iconst 0, 1)) (by decide) (?_ : XW _ _ _ _ _ _ _ 90 _ _)
                refine xi_iald (by decide +kernel : decode mX11_whom.2.1 90 = .ok (.iaload, 1)) rfl (by omega) (by unfold vp_in; decide) (?_ : XW _ _ _ _ _ _ _ 91 _ [.int (xI h6 59 0), .int t])
                refine xi_icmp_ne (by decide +kernel : decode mX11_whom.2.1 91 = .ok (.if_icmp .ne 7, 3)) (by decide) (fun c => (?_ : XW _ _ _ _ _ _ _ 98 _ _)) (fun c => (?_ : XW _ _ _ _ _ _ _ 94 _ _))
                · replace vc := vc.1 c
                  refine xi_iconst (v := 1) (by decide +kernel : decode mX11_whom.2.1 98 = .ok (.iconst 1, 1)) (by decide) (?_ : XW _ _ _ _ _ _ _ 99 _ _)
                  exact xi_iret (by decide +kernel : decode mX11_whom.2.1 99 = .ok (.ireturn, 1)) rfl rfl vc
                · replace vc := vc.2 c
                  refine xi_iconst (v := (-1)) (by decide +kernel : decode mX11_whom.2.1 94 = .ok (.iconst (-1), 1)) (by decide) (?_ : XW _ _ _ _ _ _ _ 95 _ _)
                  refine xi_goto (by decide +kernel : decode mX11_whom.2.1 95 = .ok (.goto 4, 3)) (by decide) (?_ : XW _ _ _ _ _ _ _ 99 _ _)
                  exact xi_iret (by decide +kernel : decode mX11_whom.2.1 99 = .ok (.ireturn, 1)) rfl rfl vc
            · replace vc := vc.2 c
              refine xi_bipush (v := (-2)) (by decide +kernel : decode mX11_whom.2.1 71 = .ok (.bipush (-2), 2)) (by decide) (?_ : XW _ _ _ _ _ _ _ 73 _ _)
              exact xi_iret (by decide +kernel : decode mX11_whom.2.1 73 = .ok (.ireturn, 1)) rfl rfl vc
        · replace vc := vc.2 c
          refine xi_aload_n (by decide +kernel : decode mX11_whom.2.1 47 = .ok (.aload_n 0, 1)) rfl rfl (?_ : XW _ _ _ _ _ _ _ 48 _ _)
          refine xi_iconst (v := 2) (by decide +kernel : decode mX11_whom.2.1 48 = .ok (.iconst 2, 1)) (by decide) (?_ : XW _ _ _ _ _ _ _ 49 _ _)
          obtain ⟨Q1, sp, vc⟩ := vc
          refine xi_callV (b := 0) (bs := 0) (As := [.int 2]) (st := []) (by decide +kernel : decode mX11_whom.2.1 49 = .ok (.invokevirtual 311, 3)) kX11_311 rfl rfl (by omega) rfl sp (by decide) (by decide) (Nat.le_of_ble_eq_true rfl) (by omega) (fun v9 h9 hq9 => ?_)
          obtain ⟨r9, e9, vc⟩ := vc v9 h9 hq9
          subst e9
          show XW _ _ _ _ _ _ _ 52 _ [.int r9]
          exact xi_iret (by decide +kernel : decode mX11_whom.2.1 52 = .ok (.ireturn, 1)) rfl rfl vc
      · replace vc := vc.2 c
        refine xi_aload_n (by decide +kernel : decode mX11_whom.2.1 28 = .ok (.aload_n 0, 1)) rfl rfl (?_ : XW _ _ _ _ _ _ _ 29 _ _)
        refine xi_iconst (v := 1) (by decide +kernel : decode mX11_whom.2.1 29 = .ok (.iconst 1, 1)) (by decide) (?_ : XW _ _ _ _ _ _ _ 30 _ _)
        obtain ⟨Q1, sp, vc⟩ := vc
        refine xi_callV (b := 0) (bs := 0) (As := [.int 1]) (st := []) (by decide +kernel : decode mX11_whom.2.1 30 = .ok (.invokevirtual 311, 3)) kX11_311 rfl rfl (by omega) rfl sp (by decide) (by decide) (Nat.le_of_ble_eq_true rfl) (by omega) (fun v9 h10 hq9 => ?_)
        obtain ⟨r10, e9, vc⟩ := vc v9 h10 hq9
        subst e9
        show XW _ _ _ _ _ _ _ 33 _ [.int r10]
        exact xi_iret (by decide +kernel : decode mX11_whom.2.1 33 = .ok (.ireturn, 1)) rfl rfl vc

