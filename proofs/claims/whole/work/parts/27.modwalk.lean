/-! THE REFERENCE: where one goes -/
set_option maxRecDepth 20000 in
theorem v_X11_reckon_0 {h : XH} {Q : Option Value → XH → Prop} {X : String → XH → Prop} (n : Nat)  (c : Int32) (x : Int32) (y : Int32)
    (vc : (c = (-26) → (x = 0 → Q (some (.int 0)) h) ∧ (¬ x = 0 → (y = 0 → Q (some (.int 0)) h) ∧ (¬ y = 0 → Q (some (.int 1)) h))) ∧ (c = (-25) → (¬ x = y → Q (some (.int 0)) h) ∧ (x = y → Q (some (.int 1)) h)) ∧ (c = (-24) → (y ≤ x → Q (some (.int 0)) h) ∧ (¬ y ≤ x → Q (some (.int 1)) h)) ∧ (c = (-23) → (¬ y = 0 → (¬ y = 0) ∧ (Q (some (.int (x / y))) h)) ∧ (y = 0 → Q (some (.int 0)) h)) ∧ (c = (-22) → Q (some (.int (x * y))) h) ∧ (c = (-21) → Q (some (.int (x - y))) h) ∧ (c = (-20) → Q (some (.int (x + y))) h) ∧ ((c.toInt < -26 ∨ -20 < c.toInt) → (¬ x = 0 → Q (some (.int 1)) h) ∧ (x = 0 → (y = 0 → Q (some (.int 0)) h) ∧ (¬ y = 0 → Q (some (.int 1)) h)))) :
    XW (xrm 1 0 0) mX11_reckon (xE n Q X 0 0) n 0 0 h 0 [some (.int c), some (.int x), some (.int y)] [] := by
  refine xi_iload_n (by decide +kernel : decode mX11_reckon.2.1 0 = .ok (.iload_n 0, 1)) rfl rfl (?_ : XW _ _ _ _ _ _ _ 1 _ _)
  by_cases c9 : c.toInt < -26 ∨ -20 < c.toInt
  · replace vc := vc.2.2.2.2.2.2.2 c9
    refine xi_tableOut (by decide +kernel : decode mX11_reckon.2.1 1 = .ok (.tableswitch 103 (-26) (-20) #[89, 78, 67, 55, 51, 47, 43], 43)) c9 (by decide) (?_ : XW _ _ _ _ _ _ _ 104 _ _)
    refine xi_iload_n (by decide +kernel : decode mX11_reckon.2.1 104 = .ok (.iload_n 1, 1)) rfl rfl (?_ : XW _ _ _ _ _ _ _ 105 _ _)
    refine xi_if_ne (by decide +kernel : decode mX11_reckon.2.1 105 = .ok (.ifCond .ne 7, 3)) (by decide) (fun c => (?_ : XW _ _ _ _ _ _ _ 112 _ _)) (fun c => (?_ : XW _ _ _ _ _ _ _ 108 _ _))
    · replace vc := vc.1 c
      refine xi_iconst (v := 1) (by decide +kernel : decode mX11_reckon.2.1 112 = .ok (.iconst 1, 1)) (by decide) (?_ : XW _ _ _ _ _ _ _ 113 _ _)
      refine xi_goto (by decide +kernel : decode mX11_reckon.2.1 113 = .ok (.goto 4, 3)) (by decide) (?_ : XW _ _ _ _ _ _ _ 117 _ _)
      exact xi_iret (by decide +kernel : decode mX11_reckon.2.1 117 = .ok (.ireturn, 1)) rfl rfl vc
    · replace vc := vc.2 c
      refine xi_iload_n (by decide +kernel : decode mX11_reckon.2.1 108 = .ok (.iload_n 2, 1)) rfl rfl (?_ : XW _ _ _ _ _ _ _ 109 _ _)
      refine xi_if_eq (by decide +kernel : decode mX11_reckon.2.1 109 = .ok (.ifCond .eq 7, 3)) (by decide) (fun c => (?_ : XW _ _ _ _ _ _ _ 116 _ _)) (fun c => (?_ : XW _ _ _ _ _ _ _ 112 _ _))
      · replace vc := vc.1 c
        refine xi_iconst (v := 0) (by decide +kernel : decode mX11_reckon.2.1 116 = .ok (.iconst 0, 1)) (by decide) (?_ : XW _ _ _ _ _ _ _ 117 _ _)
        exact xi_iret (by decide +kernel : decode mX11_reckon.2.1 117 = .ok (.ireturn, 1)) rfl rfl vc
      · replace vc := vc.2 c
        refine xi_iconst (v := 1) (by decide +kernel : decode mX11_reckon.2.1 112 = .ok (.iconst 1, 1)) (by decide) (?_ : XW _ _ _ _ _ _ _ 113 _ _)
        refine xi_goto (by decide +kernel : decode mX11_reckon.2.1 113 = .ok (.goto 4, 3)) (by decide) (?_ : XW _ _ _ _ _ _ _ 117 _ _)
        exact xi_iret (by decide +kernel : decode mX11_reckon.2.1 117 = .ok (.ireturn, 1)) rfl rfl vc
  · have c8 := x_tabcases (lo := -26) (hi := -20) (by omega) (by omega) c9
    obtain ⟨j, hj, c7⟩ := c8
    have hj2 : j < 7 := by omega
    by_cases e0 : j = 0
    · subst e0
      have c6 : c = (-26) := c7.trans (by decide)
      replace vc := vc.1 c6
      refine xi_tableIn (off := 89) (by decide +kernel : decode mX11_reckon.2.1 1 = .ok (.tableswitch 103 (-26) (-20) #[89, 78, 67, 55, 51, 47, 43], 43)) (by omega) (by omega) (by rw [c6]; decide) (by decide) (?_ : XW _ _ _ _ _ _ _ 90 _ _)
      refine xi_iload_n (by decide +kernel : decode mX11_reckon.2.1 90 = .ok (.iload_n 1, 1)) rfl rfl (?_ : XW _ _ _ _ _ _ _ 91 _ _)
      refine xi_if_eq (by decide +kernel : decode mX11_reckon.2.1 91 = .ok (.ifCond .eq 11, 3)) (by decide) (fun c => (?_ : XW _ _ _ _ _ _ _ 102 _ _)) (fun c => (?_ : XW _ _ _ _ _ _ _ 94 _ _))
      · replace vc := vc.1 c
        refine xi_iconst (v := 0) (by decide +kernel : decode mX11_reckon.2.1 102 = .ok (.iconst 0, 1)) (by decide) (?_ : XW _ _ _ _ _ _ _ 103 _ _)
        exact xi_iret (by decide +kernel : decode mX11_reckon.2.1 103 = .ok (.ireturn, 1)) rfl rfl vc
      · replace vc := vc.2 c
        refine xi_iload_n (by decide +kernel : decode mX11_reckon.2.1 94 = .ok (.iload_n 2, 1)) rfl rfl (?_ : XW _ _ _ _ _ _ _ 95 _ _)
        refine xi_if_eq (by decide +kernel : decode mX11_reckon.2.1 95 = .ok (.ifCond .eq 7, 3)) (by decide) (fun c => (?_ : XW _ _ _ _ _ _ _ 102 _ _)) (fun c => (?_ : XW _ _ _ _ _ _ _ 98 _ _))
        · replace vc := vc.1 c
          refine xi_iconst (v := 0) (by decide +kernel : decode mX11_reckon.2.1 102 = .ok (.iconst 0, 1)) (by decide) (?_ : XW _ _ _ _ _ _ _ 103 _ _)
          exact xi_iret (by decide +kernel : decode mX11_reckon.2.1 103 = .ok (.ireturn, 1)) rfl rfl vc
        · replace vc := vc.2 c
          refine xi_iconst (v := 1) (by decide +kernel : decode mX11_reckon.2.1 98 = .ok (.iconst 1, 1)) (by decide) (?_ : XW _ _ _ _ _ _ _ 99 _ _)
          refine xi_goto (by decide +kernel : decode mX11_reckon.2.1 99 = .ok (.goto 4, 3)) (by decide) (?_ : XW _ _ _ _ _ _ _ 103 _ _)
          exact xi_iret (by decide +kernel : decode mX11_reckon.2.1 103 = .ok (.ireturn, 1)) rfl rfl vc
    by_cases e1 : j = 1
    · subst e1
      have c6 : c = (-25) := c7.trans (by decide)
      replace vc := vc.2.1 c6
      refine xi_tableIn (off := 78) (by decide +kernel : decode mX11_reckon.2.1 1 = .ok (.tableswitch 103 (-26) (-20) #[89, 78, 67, 55, 51, 47, 43], 43)) (by omega) (by omega) (by rw [c6]; decide) (by decide) (?_ : XW _ _ _ _ _ _ _ 79 _ _)
      refine xi_iload_n (by decide +kernel : decode mX11_reckon.2.1 79 = .ok (.iload_n 1, 1)) rfl rfl (?_ : XW _ _ _ _ _ _ _ 80 _ _)
      refine xi_iload_n (by decide +kernel : decode mX11_reckon.2.1 80 = .ok (.iload_n 2, 1)) rfl rfl (?_ : XW _ _ _ _ _ _ _ 81 _ _)
      refine xi_icmp_ne (by decide +kernel : decode mX11_reckon.2.1 81 = .ok (.if_icmp .ne 7, 3)) (by decide) (fun c => (?_ : XW _ _ _ _ _ _ _ 88 _ _)) (fun c => (?_ : XW _ _ _ _ _ _ _ 84 _ _))
      · replace vc := vc.1 c
        refine xi_iconst (v := 0) (by decide +kernel : decode mX11_reckon.2.1 88 = .ok (.iconst 0, 1)) (by decide) (?_ : XW _ _ _ _ _ _ _ 89 _ _)
        exact xi_iret (by decide +kernel : decode mX11_reckon.2.1 89 = .ok (.ireturn, 1)) rfl rfl vc
      · replace vc := vc.2 c
        refine xi_iconst (v := 1) (by decide +kernel : decode mX11_reckon.2.1 84 = .ok (.iconst 1, 1)) (by decide) (?_ : XW _ _ _ _ _ _ _ 85 _ _)
        refine xi_goto (by decide +kernel : decode mX11_reckon.2.1 85 = .ok (.goto 4, 3)) (by decide) (?_ : XW _ _ _ _ _ _ _ 89 _ _)
        exact xi_iret (by decide +kernel : decode mX11_reckon.2.1 89 = .ok (.ireturn, 1)) rfl rfl vc
    by_cases e2 : j = 2
    · subst e2
      have c6 : c = (-24) := c7.trans (by decide)
      replace vc := vc.2.2.1 c6
      refine xi_tableIn (off := 67) (by decide +kernel : decode mX11_reckon.2.1 1 = .ok (.tableswitch 103 (-26) (-20) #[89, 78, 67, 55, 51, 47, 43], 43)) (by omega) (by omega) (by rw [c6]; decide) (by decide) (?_ : XW _ _ _ _ _ _ _ 68 _ _)
      refine xi_iload_n (by decide +kernel : decode mX11_reckon.2.1 68 = .ok (.iload_n 1, 1)) rfl rfl (?_ : XW _ _ _ _ _ _ _ 69 _ _)
      refine xi_iload_n (by decide +kernel : decode mX11_reckon.2.1 69 = .ok (.iload_n 2, 1)) rfl rfl (?_ : XW _ _ _ _ _ _ _ 70 _ _)
      refine xi_icmp_ge (by decide +kernel : decode mX11_reckon.2.1 70 = .ok (.if_icmp .ge 7, 3)) (by decide) (fun c => (?_ : XW _ _ _ _ _ _ _ 77 _ _)) (fun c => (?_ : XW _ _ _ _ _ _ _ 73 _ _))
      · replace vc := vc.1 c
        refine xi_iconst (v := 0) (by decide +kernel : decode mX11_reckon.2.1 77 = .ok (.iconst 0, 1)) (by decide) (?_ : XW _ _ _ _ _ _ _ 78 _ _)
        exact xi_iret (by decide +kernel : decode mX11_reckon.2.1 78 = .ok (.ireturn, 1)) rfl rfl vc
      · replace vc := vc.2 c
        refine xi_iconst (v := 1) (by decide +kernel : decode mX11_reckon.2.1 73 = .ok (.iconst 1, 1)) (by decide) (?_ : XW _ _ _ _ _ _ _ 74 _ _)
        refine xi_goto (by decide +kernel : decode mX11_reckon.2.1 74 = .ok (.goto 4, 3)) (by decide) (?_ : XW _ _ _ _ _ _ _ 78 _ _)
        exact xi_iret (by decide +kernel : decode mX11_reckon.2.1 78 = .ok (.ireturn, 1)) rfl rfl vc
    by_cases e3 : j = 3
    · subst e3
      have c6 : c = (-23) := c7.trans (by decide)
      replace vc := vc.2.2.2.1 c6
      refine xi_tableIn (off := 55) (by decide +kernel : decode mX11_reckon.2.1 1 = .ok (.tableswitch 103 (-26) (-20) #[89, 78, 67, 55, 51, 47, 43], 43)) (by omega) (by omega) (by rw [c6]; decide) (by decide) (?_ : XW _ _ _ _ _ _ _ 56 _ _)
      refine xi_iload_n (by decide +kernel : decode mX11_reckon.2.1 56 = .ok (.iload_n 2, 1)) rfl rfl (?_ : XW _ _ _ _ _ _ _ 57 _ _)
      refine xi_if_ne (by decide +kernel : decode mX11_reckon.2.1 57 = .ok (.ifCond .ne 7, 3)) (by decide) (fun c => (?_ : XW _ _ _ _ _ _ _ 64 _ _)) (fun c => (?_ : XW _ _ _ _ _ _ _ 60 _ _))
      · replace vc := vc.1 c
        refine xi_iload_n (by decide +kernel : decode mX11_reckon.2.1 64 = .ok (.iload_n 1, 1)) rfl rfl (?_ : XW _ _ _ _ _ _ _ 65 _ _)
        refine xi_iload_n (by decide +kernel : decode mX11_reckon.2.1 65 = .ok (.iload_n 2, 1)) rfl rfl (?_ : XW _ _ _ _ _ _ _ 66 _ _)
        obtain ⟨s1, vc⟩ := vc
        refine xi_idiv (by decide +kernel : decode mX11_reckon.2.1 66 = .ok (.idiv, 1)) s1 (?_ : XW _ _ _ _ _ _ _ 67 _ _)
        exact xi_iret (by decide +kernel : decode mX11_reckon.2.1 67 = .ok (.ireturn, 1)) rfl rfl vc
      · replace vc := vc.2 c
        refine xi_iconst (v := 0) (by decide +kernel : decode mX11_reckon.2.1 60 = .ok (.iconst 0, 1)) (by decide) (?_ : XW _ _ _ _ _ _ _ 61 _ _)
        refine xi_goto (by decide +kernel : decode mX11_reckon.2.1 61 = .ok (.goto 6, 3)) (by decide) (?_ : XW _ _ _ _ _ _ _ 67 _ _)
        exact xi_iret (by decide +kernel : decode mX11_reckon.2.1 67 = .ok (.ireturn, 1)) rfl rfl vc
    by_cases e4 : j = 4
    · subst e4
      have c6 : c = (-22) := c7.trans (by decide)
      replace vc := vc.2.2.2.2.1 c6
      refine xi_tableIn (off := 51) (by decide +kernel : decode mX11_reckon.2.1 1 = .ok (.tableswitch 103 (-26) (-20) #[89, 78, 67, 55, 51, 47, 43], 43)) (by omega) (by omega) (by rw [c6]; decide) (by decide) (?_ : XW _ _ _ _ _ _ _ 52 _ _)
      refine xi_iload_n (by decide +kernel : decode mX11_reckon.2.1 52 = .ok (.iload_n 1, 1)) rfl rfl (?_ : XW _ _ _ _ _ _ _ 53 _ _)
      refine xi_iload_n (by decide +kernel : decode mX11_reckon.2.1 53 = .ok (.iload_n 2, 1)) rfl rfl (?_ : XW _ _ _ _ _ _ _ 54 _ _)
      refine xi_imul (by decide +kernel : decode mX11_reckon.2.1 54 = .ok (.imul, 1)) (?_ : XW _ _ _ _ _ _ _ 55 _ _)
      exact xi_iret (by decide +kernel : decode mX11_reckon.2.1 55 = .ok (.ireturn, 1)) rfl rfl vc
    by_cases e5 : j = 5
    · subst e5
      have c6 : c = (-21) := c7.trans (by decide)
      replace vc := vc.2.2.2.2.2.1 c6
      refine xi_tableIn (off := 47) (by decide +kernel : decode mX11_reckon.2.1 1 = .ok (.tableswitch 103 (-26) (-20) #[89, 78, 67, 55, 51, 47, 43], 43)) (by omega) (by omega) (by rw [c6]; decide) (by decide) (?_ : XW _ _ _ _ _ _ _ 48 _ _)
      refine xi_iload_n (by decide +kernel : decode mX11_reckon.2.1 48 = .ok (.iload_n 1, 1)) rfl rfl (?_ : XW _ _ _ _ _ _ _ 49 _ _)
      refine xi_iload_n (by decide +kernel : decode mX11_reckon.2.1 49 = .ok (.iload_n 2, 1)) rfl rfl (?_ : XW _ _ _ _ _ _ _ 50 _ _)
      refine xi_isub (by decide +kernel : decode mX11_reckon.2.1 50 = .ok (.isub, 1)) (?_ : XW _ _ _ _ _ _ _ 51 _ _)
      exact xi_iret (by decide +kernel : decode mX11_reckon.2.1 51 = .ok (.ireturn, 1)) rfl rfl vc
    by_cases e6 : j = 6
    · subst e6
      have c6 : c = (-20) := c7.trans (by decide)
      replace vc := vc.2.2.2.2.2.2.1 c6
      refine xi_tableIn (off := 43) (by decide +kernel : decode mX11_reckon.2.1 1 = .ok (.tableswitch 103 (-26) (-20) #[89, 78, 67, 55, 51, 47, 43], 43)) (by omega) (by omega) (by rw [c6]; decide) (by decide) (?_ : XW _ _ _ _ _ _ _ 44 _ _)
      refine xi_iload_n (by decide +kernel : decode mX11_reckon.2.1 44 = .ok (.iload_n 1, 1)) rfl rfl (?_ : XW _ _ _ _ _ _ _ 45 _ _)
      refine xi_iload_n (by decide +kernel : decode mX11_reckon.2.1 45 = .ok (.iload_n 2, 1)) rfl rfl (?_ : XW _ _ _ _ _ _ _ 46 _ _)
      refine xi_iadd (by decide +kernel : decode mX11_reckon.2.1 46 = .ok (.iadd, 1)) (?_ : XW _ _ _ _ _ _ _ 47 _ _)
      exact xi_iret (by decide +kernel : decode mX11_reckon.2.1 47 = .ok (.ireturn, 1)) rfl rfl vc
    omega

set_option maxRecDepth 20000 in
theorem v_X11_farBy_0 {h : XH} {Q : Option Value → XH → Prop} {X : String → XH → Prop} (hM : xMod (xP h))  (fc : Int32) (sq : Int32)
    (vc : (¬ (xI h 59 6) = 0 → XW (xrm 2 0 0) mX11_farBy (xE 100 Q X 0 0) 100 0 0 (xSI 70 (va_up (va_up (va_up (va_up (xI h 70) 0 fc) 1 sq) 2 (xI h 59 0)) 3 0) (xSI 70 (va_up (va_up (va_up (xI h 70) 0 fc) 1 sq) 2 (xI h 59 0)) (xSI 70 (va_up (va_up (xI h 70) 0 fc) 1 sq) (xSI 70 (va_up (xI h 70) 0 fc) h)))) 49 [some (.ref 56), none, none, some (.int (sq + 1)), none, none] []) ∧ ((xI h 59 6) = 0 → Q (some (.int fc)) h)) :
    XW (xrm 2 0 0) mX11_farBy (xE 100 Q X 0 0) 100 0 0 h 0 [some (.ref 56), some (.int fc), some (.int sq), none, none, none] [] := by
  refine xi_aload_n (by decide +kernel : decode mX11_farBy.2.1 0 = .ok (.aload_n 0, 1)) rfl rfl (?_ : XW _ _ _ _ _ _ _ 1 _ _)
  refine xi_getR (y := 59) (by decide +kernel : decode mX11_farBy.2.1 1 = .ok (.getfield 32, 3)) fX11_32 rfl (by omega) rfl (mp_told hM) (?_ : XW _ _ _ _ _ _ _ 4 _ _)
  refine xi_bipush (v := 6) (by decide +kernel : decode mX11_farBy.2.1 4 = .ok (.bipush 6, 2)) (by decide) (?_ : XW _ _ _ _ _ _ _ 6 _ _)
  refine xi_iald (by decide +kernel : decode mX11_farBy.2.1 6 = .ok (.iaload, 1)) rfl (by omega) (by unfold vp_in; decide) (?_ : XW _ _ _ _ _ _ _ 7 _ [.int (xI h 59 6)])
  refine xi_if_ne (by decide +kernel : decode mX11_farBy.2.1 7 = .ok (.ifCond .ne 5, 3)) (by decide) (fun c => (?_ : XW _ _ _ _ _ _ _ 12 _ _)) (fun c => (?_ : XW _ _ _ _ _ _ _ 10 _ _))
  · replace vc := vc.1 c
    refine xi_aload_n (by decide +kernel : decode mX11_farBy.2.1 12 = .ok (.aload_n 0, 1)) rfl rfl (?_ : XW _ _ _ _ _ _ _ 13 _ _)
    refine xi_getR (y := 70) (by decide +kernel : decode mX11_farBy.2.1 13 = .ok (.getfield 70, 3)) fX11_70 rfl (by omega) rfl (mp_asked hM) (?_ : XW _ _ _ _ _ _ _ 16 _ _)
    refine xi_iconst (v := 0) (by decide +kernel : decode mX11_farBy.2.1 16 = .ok (.iconst 0, 1)) (by decide) (?_ : XW _ _ _ _ _ _ _ 17 _ _)
    refine xi_iload_n (by decide +kernel : decode mX11_farBy.2.1 17 = .ok (.iload_n 1, 1)) rfl rfl (?_ : XW _ _ _ _ _ _ _ 18 _ _)
    refine xi_iast (by decide +kernel : decode mX11_farBy.2.1 18 = .ok (.iastore, 1)) rfl (by omega) (by unfold vp_in; decide) (?_ : XW _ _ _ _ _ _ (xSI 70 (va_up (xI h 70) 0 fc) h) 19 _ _)
    refine xi_aload_n (by decide +kernel : decode mX11_farBy.2.1 19 = .ok (.aload_n 0, 1)) rfl rfl (?_ : XW _ _ _ _ _ _ _ 20 _ _)
    refine xi_getR (y := 70) (by decide +kernel : decode mX11_farBy.2.1 20 = .ok (.getfield 70, 3)) fX11_70 rfl (by omega) rfl (mp_asked hM) (?_ : XW _ _ _ _ _ _ _ 23 _ _)
    refine xi_iconst (v := 1) (by decide +kernel : decode mX11_farBy.2.1 23 = .ok (.iconst 1, 1)) (by decide) (?_ : XW _ _ _ _ _ _ _ 24 _ _)
    refine xi_iload_n (by decide +kernel : decode mX11_farBy.2.1 24 = .ok (.iload_n 2, 1)) rfl rfl (?_ : XW _ _ _ _ _ _ _ 25 _ _)
    refine xi_iast (by decide +kernel : decode mX11_farBy.2.1 25 = .ok (.iastore, 1)) rfl (by omega) (by unfold vp_in; decide) (?_ : XW _ _ _ _ _ _ (xSI 70 (va_up (va_up (xI h 70) 0 fc) 1 sq) (xSI 70 (va_up (xI h 70) 0 fc) h)) 26 _ _)
    refine xi_aload_n (by decide +kernel : decode mX11_farBy.2.1 26 = .ok (.aload_n 0, 1)) rfl rfl (?_ : XW _ _ _ _ _ _ _ 27 _ _)
    refine xi_getR (y := 70) (by decide +kernel : decode mX11_farBy.2.1 27 = .ok (.getfield 70, 3)) fX11_70 rfl (by omega) rfl (mp_asked hM) (?_ : XW _ _ _ _ _ _ _ 30 _ _)
    refine xi_iconst (v := 2) (by decide +kernel : decode mX11_farBy.2.1 30 = .ok (.iconst 2, 1)) (by decide) (?_ : XW _ _ _ _ _ _ _ 31 _ _)
    refine xi_aload_n (by decide +kernel : decode mX11_farBy.2.1 31 = .ok (.aload_n 0, 1)) rfl rfl (?_ : XW _ _ _ _ _ _ _ 32 _ _)
    refine xi_getR (y := 59) (by decide +kernel : decode mX11_farBy.2.1 32 = .ok (.getfield 32, 3)) fX11_32 rfl (by omega) rfl (mp_told hM) (?_ : XW _ _ _ _ _ _ _ 35 _ _)
    refine xi_iconst (v := 0) (by decide +kernel : decode mX11_farBy.2.1 35 = .ok (.iconst 0, 1)) (by decide) (?_ : XW _ _ _ _ _ _ _ 36 _ _)
    refine xi_iald (by decide +kernel : decode mX11_farBy.2.1 36 = .ok (.iaload, 1)) rfl (by omega) (by unfold vp_in; decide) (?_ : XW _ _ _ _ _ _ _ 37 _ [.int (xI h 59 0), .int 2, .ref 70])
    refine xi_iast (by decide +kernel : decode mX11_farBy.2.1 37 = .ok (.iastore, 1)) rfl (by omega) (by unfold vp_in; decide) (?_ : XW _ _ _ _ _ _ (xSI 70 (va_up (va_up (va_up (xI h 70) 0 fc) 1 sq) 2 (xI h 59 0)) (xSI 70 (va_up (va_up (xI h 70) 0 fc) 1 sq) (xSI 70 (va_up (xI h 70) 0 fc) h))) 38 _ _)
    refine xi_aload_n (by decide +kernel : decode mX11_farBy.2.1 38 = .ok (.aload_n 0, 1)) rfl rfl (?_ : XW _ _ _ _ _ _ _ 39 _ _)
    refine xi_getR (y := 70) (by decide +kernel : decode mX11_farBy.2.1 39 = .ok (.getfield 70, 3)) fX11_70 rfl (by omega) rfl (mp_asked hM) (?_ : XW _ _ _ _ _ _ _ 42 _ _)
    refine xi_iconst (v := 3) (by decide +kernel : decode mX11_farBy.2.1 42 = .ok (.iconst 3, 1)) (by decide) (?_ : XW _ _ _ _ _ _ _ 43 _ _)
    refine xi_iconst (v := 0) (by decide +kernel : decode mX11_farBy.2.1 43 = .ok (.iconst 0, 1)) (by decide) (?_ : XW _ _ _ _ _ _ _ 44 _ _)
    refine xi_iast (by decide +kernel : decode mX11_farBy.2.1 44 = .ok (.iastore, 1)) rfl (by omega) (by unfold vp_in; decide) (?_ : XW _ _ _ _ _ _ (xSI 70 (va_up (va_up (va_up (va_up (xI h 70) 0 fc) 1 sq) 2 (xI h 59 0)) 3 0) (xSI 70 (va_up (va_up (va_up (xI h 70) 0 fc) 1 sq) 2 (xI h 59 0)) (xSI 70 (va_up (va_up (xI h 70) 0 fc) 1 sq) (xSI 70 (va_up (xI h 70) 0 fc) h)))) 45 _ _)
    refine xi_iload_n (by decide +kernel : decode mX11_farBy.2.1 45 = .ok (.iload_n 2, 1)) rfl rfl (?_ : XW _ _ _ _ _ _ _ 46 _ _)
    refine xi_iconst (v := 1) (by decide +kernel : decode mX11_farBy.2.1 46 = .ok (.iconst 1, 1)) (by decide) (?_ : XW _ _ _ _ _ _ _ 47 _ _)
    refine xi_iadd (by decide +kernel : decode mX11_farBy.2.1 47 = .ok (.iadd, 1)) (?_ : XW _ _ _ _ _ _ _ 48 _ _)
    refine xi_istore_n (ls' := [some (.ref 56), some (.int fc), some (.int sq), some (.int (sq + 1)), none, none]) (by decide +kernel : decode mX11_farBy.2.1 48 = .ok (.istore_n 3, 1)) rfl (by decide) rfl (?_ : XW _ _ _ _ _ _ _ 49 _ _)
    refine xw_drop 1 (ls' := [some (.ref 56), none, some (.int sq), some (.int (sq + 1)), none, none]) rfl ?_
    refine xw_drop 2 (ls' := [some (.ref 56), none, none, some (.int (sq + 1)), none, none]) rfl ?_
    exact vc
  · replace vc := vc.2 c
    refine xi_iload_n (by decide +kernel : decode mX11_farBy.2.1 10 = .ok (.iload_n 1, 1)) rfl rfl (?_ : XW _ _ _ _ _ _ _ 11 _ _)
    exact xi_iret (by decide +kernel : decode mX11_farBy.2.1 11 = .ok (.ireturn, 1)) rfl rfl vc

set_option maxRecDepth 20000 in
theorem v_X11_farBy_49 {h : XH} {Q : Option Value → XH → Prop} {X : String → XH → Prop} (hM : xMod (xP h))  (x3 : Int32)
    (vc : ((xI h 59 0) ≤ x3 → XW (xrm 2 0 0) mX11_farBy (xE 100 Q X 0 0) 100 0 0 h 93 [some (.ref 56), none, none, some (.int 0), some (.int 0), none] []) ∧ (¬ (xI h 59 0) ≤ x3 → (vp_in x3 101) ∧ ((¬ (xI h 68 x3.toNatClampNeg) = 0 → XW (xrm 2 0 0) mX11_farBy (xE 100 Q X 0 0) 100 0 0 (xSI 70 (va_up (xI h 70) 3 ((xI h 70 3) + 1)) h) 49 [some (.ref 56), none, none, some (.int (x3 + 1)), none, none] []) ∧ ((xI h 68 x3.toNatClampNeg) = 0 → XW (xrm 2 0 0) mX11_farBy (xE 100 Q X 0 0) 100 0 0 (xSI 70 (va_up (xI h 70) 3 ((xI h 70 3) + 0)) h) 49 [some (.ref 56), none, none, some (.int (x3 + 1)), none, none] [])))) :
    XW (xrm 2 0 0) mX11_farBy (xE 100 Q X 0 0) 100 0 0 h 49 [some (.ref 56), none, none, some (.int x3), none, none] [] := by
  refine xi_iload_n (by decide +kernel : decode mX11_farBy.2.1 49 = .ok (.iload_n 3, 1)) rfl rfl (?_ : XW _ _ _ _ _ _ _ 50 _ _)
  refine xi_aload_n (by decide +kernel : decode mX11_farBy.2.1 50 = .ok (.aload_n 0, 1)) rfl rfl (?_ : XW _ _ _ _ _ _ _ 51 _ _)
  refine xi_getR (y := 59) (by decide +kernel : decode mX11_farBy.2.1 51 = .ok (.getfield 32, 3)) fX11_32 rfl (by omega) rfl (mp_told hM) (?_ : XW _ _ _ _ _ _ _ 54 _ _)
  refine xi_iconst (v := 0) (by decide +kernel : decode mX11_farBy.2.1 54 = .ok (.iconst 0, 1)) (by decide) (?_ : XW _ _ _ _ _ _ _ 55 _ _)
  refine xi_iald (by decide +kernel : decode mX11_farBy.2.1 55 = .ok (.iaload, 1)) rfl (by omega) (by unfold vp_in; decide) (?_ : XW _ _ _ _ _ _ _ 56 _ [.int (xI h 59 0), .int x3])
  refine xi_icmp_ge (by decide +kernel : decode mX11_farBy.2.1 56 = .ok (.if_icmp .ge 32, 3)) (by decide) (fun c => (?_ : XW _ _ _ _ _ _ _ 88 _ _)) (fun c => (?_ : XW _ _ _ _ _ _ _ 59 _ _))
  · replace vc := vc.1 c
    refine xi_iconst (v := 0) (by decide +kernel : decode mX11_farBy.2.1 88 = .ok (.iconst 0, 1)) (by decide) (?_ : XW _ _ _ _ _ _ _ 89 _ _)
    refine xi_istore_n (ls' := [some (.ref 56), none, none, some (.int 0), none, none]) (by decide +kernel : decode mX11_farBy.2.1 89 = .ok (.istore_n 3, 1)) rfl (by decide) rfl (?_ : XW _ _ _ _ _ _ _ 90 _ _)
    refine xi_iconst (v := 0) (by decide +kernel : decode mX11_farBy.2.1 90 = .ok (.iconst 0, 1)) (by decide) (?_ : XW _ _ _ _ _ _ _ 91 _ _)
    refine xi_istore (ls' := [some (.ref 56), none, none, some (.int 0), some (.int 0), none]) (by decide +kernel : decode mX11_farBy.2.1 91 = .ok (.istore 4, 2)) (by decide) rfl (?_ : XW _ _ _ _ _ _ _ 93 _ _)
    exact vc
  · replace vc := vc.2 c
    refine xi_aload_n (by decide +kernel : decode mX11_farBy.2.1 59 = .ok (.aload_n 0, 1)) rfl rfl (?_ : XW _ _ _ _ _ _ _ 60 _ _)
    refine xi_getR (y := 70) (by decide +kernel : decode mX11_farBy.2.1 60 = .ok (.getfield 70, 3)) fX11_70 rfl (by omega) rfl (mp_asked hM) (?_ : XW _ _ _ _ _ _ _ 63 _ _)
    refine xi_iconst (v := 3) (by decide +kernel : decode mX11_farBy.2.1 63 = .ok (.iconst 3, 1)) (by decide) (?_ : XW _ _ _ _ _ _ _ 64 _ _)
    refine xi_dup2 (by decide +kernel : decode mX11_farBy.2.1 64 = .ok (.dup2, 1)) rfl rfl (?_ : XW _ _ _ _ _ _ _ 65 _ _)
    refine xi_iald (by decide +kernel : decode mX11_farBy.2.1 65 = .ok (.iaload, 1)) rfl (by omega) (by unfold vp_in; decide) (?_ : XW _ _ _ _ _ _ _ 66 _ [.int (xI h 70 3), .int 3, .ref 70])
    refine xi_aload_n (by decide +kernel : decode mX11_farBy.2.1 66 = .ok (.aload_n 0, 1)) rfl rfl (?_ : XW _ _ _ _ _ _ _ 67 _ _)
    refine xi_getR (y := 68) (by decide +kernel : decode mX11_farBy.2.1 67 = .ok (.getfield 64, 3)) fX11_64 rfl (by omega) rfl (mp_jump hM) (?_ : XW _ _ _ _ _ _ _ 70 _ _)
    refine xi_iload_n (by decide +kernel : decode mX11_farBy.2.1 70 = .ok (.iload_n 3, 1)) rfl rfl (?_ : XW _ _ _ _ _ _ _ 71 _ _)
    obtain ⟨s1, vc⟩ := vc
    refine xi_iald (by decide +kernel : decode mX11_farBy.2.1 71 = .ok (.iaload, 1)) rfl (by omega) s1 (?_ : XW _ _ _ _ _ _ _ 72 _ _)
    refine xi_if_ne (by decide +kernel : decode mX11_farBy.2.1 72 = .ok (.ifCond .ne 7, 3)) (by decide) (fun c => (?_ : XW _ _ _ _ _ _ _ 79 _ _)) (fun c => (?_ : XW _ _ _ _ _ _ _ 75 _ _))
    · replace vc := vc.1 c
      refine xi_iconst (v := 1) (by decide +kernel : decode mX11_farBy.2.1 79 = .ok (.iconst 1, 1)) (by decide) (?_ : XW _ _ _ _ _ _ _ 80 _ _)
      refine xi_iadd (by decide +kernel : decode mX11_farBy.2.1 80 = .ok (.iadd, 1)) (?_ : XW _ _ _ _ _ _ _ 81 _ _)
      refine xi_iast (by decide +kernel : decode mX11_farBy.2.1 81 = .ok (.iastore, 1)) rfl (by omega) (by unfold vp_in; decide) (?_ : XW _ _ _ _ _ _ (xSI 70 (va_up (xI h 70) 3 ((xI h 70 3) + 1)) h) 82 _ _)
      refine xi_iinc (v := x3 + 1) (ls' := [some (.ref 56), none, none, some (.int (x3 + 1)), none, none]) (by decide +kernel : decode mX11_farBy.2.1 82 = .ok (.iinc 3 1, 3)) rfl rfl (by decide) rfl (?_ : XW _ _ _ _ _ _ _ 85 _ _)
      refine xi_goto (by decide +kernel : decode mX11_farBy.2.1 85 = .ok (.goto (-36), 3)) (by decide) (?_ : XW _ _ _ _ _ _ _ 49 _ _)
      exact vc
    · replace vc := vc.2 c
      refine xi_iconst (v := 0) (by decide +kernel : decode mX11_farBy.2.1 75 = .ok (.iconst 0, 1)) (by decide) (?_ : XW _ _ _ _ _ _ _ 76 _ _)
      refine xi_goto (by decide +kernel : decode mX11_farBy.2.1 76 = .ok (.goto 4, 3)) (by decide) (?_ : XW _ _ _ _ _ _ _ 80 _ _)
      refine xi_iadd (by decide +kernel : decode mX11_farBy.2.1 80 = .ok (.iadd, 1)) (?_ : XW _ _ _ _ _ _ _ 81 _ _)
      refine xi_iast (by decide +kernel : decode mX11_farBy.2.1 81 = .ok (.iastore, 1)) rfl (by omega) (by unfold vp_in; decide) (?_ : XW _ _ _ _ _ _ (xSI 70 (va_up (xI h 70) 3 ((xI h 70 3) + 0)) h) 82 _ _)
      refine xi_iinc (v := x3 + 1) (ls' := [some (.ref 56), none, none, some (.int (x3 + 1)), none, none]) (by decide +kernel : decode mX11_farBy.2.1 82 = .ok (.iinc 3 1, 3)) rfl rfl (by decide) rfl (?_ : XW _ _ _ _ _ _ _ 85 _ _)
      refine xi_goto (by decide +kernel : decode mX11_farBy.2.1 85 = .ok (.goto (-36), 3)) (by decide) (?_ : XW _ _ _ _ _ _ _ 49 _ _)
      exact vc

set_option maxRecDepth 20000 in
theorem v_X11_farBy_93 {h : XH} {Q : Option Value → XH → Prop} {X : String → XH → Prop} (hM : xMod (xP h))  (x3 : Int32) (x4 : Int32)
    (vc : ((xI h 59 6) ≤ x4 → Q (some (.int (if (-200) < (if (xI h 69 0) < 200 then (xI h 69 0) else 200) then (if (xI h 69 0) < 200 then (xI h 69 0) else 200) else (-200)))) h) ∧ (¬ (xI h 59 6) ≤ x4 → (vp_in x4 1000) ∧ (((xI h 63 x4.toNatClampNeg) ≤ (-20) → (¬ (xI h 63 x4.toNatClampNeg) = (-28) → (vp_in ((x3 + (-1)) - 1) 64) ∧ ((vp_in (x3 + (-1)) 64) ∧ (∃ Q1, XSpec mX11_reckon 1 0 0 100 100 [.int (xI h 63 x4.toNatClampNeg), .int (xI h 69 ((x3 + (-1)) - 1).toNatClampNeg), .int (xI h 69 (x3 + (-1)).toNatClampNeg)] h Q1 xno ∧ ∀ v h1, Q1 v h1 → ∃ r1 : Int32, v = some (.int r1) ∧ ((vp_in ((x3 + (-1)) - 1) 64) ∧ (XW (xrm 2 0 0) mX11_farBy (xE 100 Q X 0 0) 100 0 0 (xSI 69 (va_up (xI h1 69) ((x3 + (-1)) - 1).toNatClampNeg r1) h1) 93 [some (.ref 56), none, none, some (.int (x3 + (-1))), some (.int (x4 + 1)), none] []))))) ∧ ((xI h 63 x4.toNatClampNeg) = (-28) → (vp_in (x3 - 1) 64) ∧ (((xI h 69 (x3 - 1).toNatClampNeg) = 0 → (vp_in (x3 - 1) 64) ∧ (XW (xrm 2 0 0) mX11_farBy (xE 100 Q X 0 0) 100 0 0 (xSI 69 (va_up (xI h 69) (x3 - 1).toNatClampNeg 1) h) 93 [some (.ref 56), none, none, some (.int x3), some (.int (x4 + 1)), none] [])) ∧ (¬ (xI h 69 (x3 - 1).toNatClampNeg) = 0 → (vp_in (x3 - 1) 64) ∧ (XW (xrm 2 0 0) mX11_farBy (xE 100 Q X 0 0) 100 0 0 (xSI 69 (va_up (xI h 69) (x3 - 1).toNatClampNeg 0) h) 93 [some (.ref 56), none, none, some (.int x3), some (.int (x4 + 1)), none] []))))) ∧ (¬ (xI h 63 x4.toNatClampNeg) ≤ (-20) → ((xI h 63 x4.toNatClampNeg) < 0 → (vp_in ((-1) - (xI h 63 x4.toNatClampNeg)) 4) ∧ ((vp_in x3 64) ∧ (XW (xrm 2 0 0) mX11_farBy (xE 100 Q X 0 0) 100 0 0 (xSI 69 (va_up (xI h 69) x3.toNatClampNeg (xI h 70 ((-1) - (xI h 63 x4.toNatClampNeg)).toNatClampNeg)) h) 93 [some (.ref 56), none, none, some (.int (x3 + 1)), some (.int (x4 + 1)), none] []))) ∧ (¬ (xI h 63 x4.toNatClampNeg) < 0 → (vp_in x3 64) ∧ (XW (xrm 2 0 0) mX11_farBy (xE 100 Q X 0 0) 100 0 0 (xSI 69 (va_up (xI h 69) x3.toNatClampNeg (xI h 63 x4.toNatClampNeg)) h) 93 [some (.ref 56), none, none, some (.int (x3 + 1)), some (.int (x4 + 1)), none] [])))))) :
    XW (xrm 2 0 0) mX11_farBy (xE 100 Q X 0 0) 100 0 0 h 93 [some (.ref 56), none, none, some (.int x3), some (.int x4), none] [] := by
  refine xi_iload (by decide +kernel : decode mX11_farBy.2.1 93 = .ok (.iload 4, 2)) rfl (?_ : XW _ _ _ _ _ _ _ 95 _ _)
  refine xi_aload_n (by decide +kernel : decode mX11_farBy.2.1 95 = .ok (.aload_n 0, 1)) rfl rfl (?_ : XW _ _ _ _ _ _ _ 96 _ _)
  refine xi_getR (y := 59) (by decide +kernel : decode mX11_farBy.2.1 96 = .ok (.getfield 32, 3)) fX11_32 rfl (by omega) rfl (mp_told hM) (?_ : XW _ _ _ _ _ _ _ 99 _ _)
  refine xi_bipush (v := 6) (by decide +kernel : decode mX11_farBy.2.1 99 = .ok (.bipush 6, 2)) (by decide) (?_ : XW _ _ _ _ _ _ _ 101 _ _)
  refine xi_iald (by decide +kernel : decode mX11_farBy.2.1 101 = .ok (.iaload, 1)) rfl (by omega) (by unfold vp_in; decide) (?_ : XW _ _ _ _ _ _ _ 102 _ [.int (xI h 59 6), .int x4])
  refine xi_icmp_ge (by decide +kernel : decode mX11_farBy.2.1 102 = .ok (.if_icmp .ge 120, 3)) (by decide) (fun c => (?_ : XW _ _ _ _ _ _ _ 222 _ _)) (fun c => (?_ : XW _ _ _ _ _ _ _ 105 _ _))
  · replace vc := vc.1 c
    refine xi_sipush (v := (-200)) (by decide +kernel : decode mX11_farBy.2.1 222 = .ok (.sipush (-200), 3)) (by decide) (?_ : XW _ _ _ _ _ _ _ 225 _ _)
    refine xi_sipush (v := 200) (by decide +kernel : decode mX11_farBy.2.1 225 = .ok (.sipush 200, 3)) (by decide) (?_ : XW _ _ _ _ _ _ _ 228 _ _)
    refine xi_aload_n (by decide +kernel : decode mX11_farBy.2.1 228 = .ok (.aload_n 0, 1)) rfl rfl (?_ : XW _ _ _ _ _ _ _ 229 _ _)
    refine xi_getR (y := 69) (by decide +kernel : decode mX11_farBy.2.1 229 = .ok (.getfield 67, 3)) fX11_67 rfl (by omega) rfl (mp_stack hM) (?_ : XW _ _ _ _ _ _ _ 232 _ _)
    refine xi_iconst (v := 0) (by decide +kernel : decode mX11_farBy.2.1 232 = .ok (.iconst 0, 1)) (by decide) (?_ : XW _ _ _ _ _ _ _ 233 _ _)
    refine xi_iald (by decide +kernel : decode mX11_farBy.2.1 233 = .ok (.iaload, 1)) rfl (by omega) (by unfold vp_in; decide) (?_ : XW _ _ _ _ _ _ _ 234 _ [.int (xI h 69 0), .int 200, .int (-200)])
    refine xi_mmin (by decide +kernel : decode mX11_farBy.2.1 234 = .ok (.invokestatic 199, 3)) kX11_199.2.1 (by decide) (Nat.le_of_ble_eq_true rfl) (?_ : XW _ _ _ _ _ _ _ 237 _ _)
    refine xi_mmax (by decide +kernel : decode mX11_farBy.2.1 237 = .ok (.invokestatic 344, 3)) kX11_344.2.1 (by decide) (Nat.le_of_ble_eq_true rfl) (?_ : XW _ _ _ _ _ _ _ 240 _ _)
    exact xi_iret (by decide +kernel : decode mX11_farBy.2.1 240 = .ok (.ireturn, 1)) rfl rfl vc
  · replace vc := vc.2 c
    refine xi_aload_n (by decide +kernel : decode mX11_farBy.2.1 105 = .ok (.aload_n 0, 1)) rfl rfl (?_ : XW _ _ _ _ _ _ _ 106 _ _)
    refine xi_getR (y := 63) (by decide +kernel : decode mX11_farBy.2.1 106 = .ok (.getfield 45, 3)) fX11_45 rfl (by omega) rfl (mp_signs hM) (?_ : XW _ _ _ _ _ _ _ 109 _ _)
    refine xi_iload (by decide +kernel : decode mX11_farBy.2.1 109 = .ok (.iload 4, 2)) rfl (?_ : XW _ _ _ _ _ _ _ 111 _ _)
    obtain ⟨s1, vc⟩ := vc
    refine xi_iald (by decide +kernel : decode mX11_farBy.2.1 111 = .ok (.iaload, 1)) rfl (by omega) s1 (?_ : XW _ _ _ _ _ _ _ 112 _ _)
    refine xi_istore (ls' := [some (.ref 56), none, none, some (.int x3), some (.int x4), some (.int (xI h 63 x4.toNatClampNeg))]) (by decide +kernel : decode mX11_farBy.2.1 112 = .ok (.istore 5, 2)) (by decide) rfl (?_ : XW _ _ _ _ _ _ _ 114 _ _)
    refine xi_iload (by decide +kernel : decode mX11_farBy.2.1 114 = .ok (.iload 5, 2)) rfl (?_ : XW _ _ _ _ _ _ _ 116 _ _)
    refine xi_bipush (v := (-20)) (by decide +kernel : decode mX11_farBy.2.1 116 = .ok (.bipush (-20), 2)) (by decide) (?_ : XW _ _ _ _ _ _ _ 118 _ _)
    refine xi_icmp_le (by decide +kernel : decode mX11_farBy.2.1 118 = .ok (.if_icmp .le 34, 3)) (by decide) (fun c => (?_ : XW _ _ _ _ _ _ _ 152 _ _)) (fun c => (?_ : XW _ _ _ _ _ _ _ 121 _ _))
    · replace vc := vc.1 c
      refine xi_iload (by decide +kernel : decode mX11_farBy.2.1 152 = .ok (.iload 5, 2)) rfl (?_ : XW _ _ _ _ _ _ _ 154 _ _)
      refine xi_bipush (v := (-28)) (by decide +kernel : decode mX11_farBy.2.1 154 = .ok (.bipush (-28), 2)) (by decide) (?_ : XW _ _ _ _ _ _ _ 156 _ _)
      refine xi_icmp_ne (by decide +kernel : decode mX11_farBy.2.1 156 = .ok (.if_icmp .ne 30, 3)) (by decide) (fun c => (?_ : XW _ _ _ _ _ _ _ 186 _ _)) (fun c => (?_ : XW _ _ _ _ _ _ _ 159 _ _))
      · replace vc := vc.1 c
        refine xi_iinc (v := x3 + (-1)) (ls' := [some (.ref 56), none, none, some (.int (x3 + (-1))), some (.int x4), some (.int (xI h 63 x4.toNatClampNeg))]) (by decide +kernel : decode mX11_farBy.2.1 186 = .ok (.iinc 3 (-1), 3)) rfl rfl (by decide) rfl (?_ : XW _ _ _ _ _ _ _ 189 _ _)
        refine xi_aload_n (by decide +kernel : decode mX11_farBy.2.1 189 = .ok (.aload_n 0, 1)) rfl rfl (?_ : XW _ _ _ _ _ _ _ 190 _ _)
        refine xi_getR (y := 69) (by decide +kernel : decode mX11_farBy.2.1 190 = .ok (.getfield 67, 3)) fX11_67 rfl (by omega) rfl (mp_stack hM) (?_ : XW _ _ _ _ _ _ _ 193 _ _)
        refine xi_iload_n (by decide +kernel : decode mX11_farBy.2.1 193 = .ok (.iload_n 3, 1)) rfl rfl (?_ : XW _ _ _ _ _ _ _ 194 _ _)
        refine xi_iconst (v := 1) (by decide +kernel : decode mX11_farBy.2.1 194 = .ok (.iconst 1, 1)) (by decide) (?_ : XW _ _ _ _ _ _ _ 195 _ _)
        refine xi_isub (by decide +kernel : decode mX11_farBy.2.1 195 = .ok (.isub, 1)) (?_ : XW _ _ _ _ _ _ _ 196 _ _)
        refine xi_iload (by decide +kernel : decode mX11_farBy.2.1 196 = .ok (.iload 5, 2)) rfl (?_ : XW _ _ _ _ _ _ _ 198 _ _)
        refine xi_aload_n (by decide +kernel : decode mX11_farBy.2.1 198 = .ok (.aload_n 0, 1)) rfl rfl (?_ : XW _ _ _ _ _ _ _ 199 _ _)
        refine xi_getR (y := 69) (by decide +kernel : decode mX11_farBy.2.1 199 = .ok (.getfield 67, 3)) fX11_67 rfl (by omega) rfl (mp_stack hM) (?_ : XW _ _ _ _ _ _ _ 202 _ _)
        refine xi_iload_n (by decide +kernel : decode mX11_farBy.2.1 202 = .ok (.iload_n 3, 1)) rfl rfl (?_ : XW _ _ _ _ _ _ _ 203 _ _)
        refine xi_iconst (v := 1) (by decide +kernel : decode mX11_farBy.2.1 203 = .ok (.iconst 1, 1)) (by decide) (?_ : XW _ _ _ _ _ _ _ 204 _ _)
        refine xi_isub (by decide +kernel : decode mX11_farBy.2.1 204 = .ok (.isub, 1)) (?_ : XW _ _ _ _ _ _ _ 205 _ _)
        obtain ⟨s1, vc⟩ := vc
        refine xi_iald (by decide +kernel : decode mX11_farBy.2.1 205 = .ok (.iaload, 1)) rfl (by omega) s1 (?_ : XW _ _ _ _ _ _ _ 206 _ _)
        refine xi_aload_n (by decide +kernel : decode mX11_farBy.2.1 206 = .ok (.aload_n 0, 1)) rfl rfl (?_ : XW _ _ _ _ _ _ _ 207 _ _)
        refine xi_getR (y := 69) (by decide +kernel : decode mX11_farBy.2.1 207 = .ok (.getfield 67, 3)) fX11_67 rfl (by omega) rfl (mp_stack hM) (?_ : XW _ _ _ _ _ _ _ 210 _ _)
        refine xi_iload_n (by decide +kernel : decode mX11_farBy.2.1 210 = .ok (.iload_n 3, 1)) rfl rfl (?_ : XW _ _ _ _ _ _ _ 211 _ _)
        obtain ⟨s1, vc⟩ := vc
        refine xi_iald (by decide +kernel : decode mX11_farBy.2.1 211 = .ok (.iaload, 1)) rfl (by omega) s1 (?_ : XW _ _ _ _ _ _ _ 212 _ _)
        obtain ⟨Q1, sp, vc⟩ := vc
        refine xi_callS (b := 0) (bs := 0) (As := [.int (xI h 63 x4.toNatClampNeg), .int (xI h 69 ((x3 + (-1)) - 1).toNatClampNeg), .int (xI h 69 (x3 + (-1)).toNatClampNeg)]) (st := [.int ((x3 + (-1)) - 1), .ref 69]) (by decide +kernel : decode mX11_farBy.2.1 212 = .ok (.invokestatic 340, 3)) kX11_340 rfl rfl sp (by decide) (by decide) (Nat.le_of_ble_eq_true rfl) (by omega) (fun v9 h1 hq9 => ?_)
        obtain ⟨r1, e9, vc⟩ := vc v9 h1 hq9
        subst e9
        show XW _ _ _ _ _ _ _ 215 _ [.int r1, .int ((x3 + (-1)) - 1), .ref 69]
        obtain ⟨s1, vc⟩ := vc
        refine xi_iast (by decide +kernel : decode mX11_farBy.2.1 215 = .ok (.iastore, 1)) rfl (by omega) s1 (?_ : XW _ _ _ _ _ _ (xSI 69 (va_up (xI h1 69) ((x3 + (-1)) - 1).toNatClampNeg r1) h1) 216 _ _)
        refine xi_iinc (v := x4 + 1) (ls' := [some (.ref 56), none, none, some (.int (x3 + (-1))), some (.int (x4 + 1)), some (.int (xI h 63 x4.toNatClampNeg))]) (by decide +kernel : decode mX11_farBy.2.1 216 = .ok (.iinc 4 1, 3)) rfl rfl (by decide) rfl (?_ : XW _ _ _ _ _ _ _ 219 _ _)
        refine xi_goto (by decide +kernel : decode mX11_farBy.2.1 219 = .ok (.goto (-126), 3)) (by decide) (?_ : XW _ _ _ _ _ _ _ 93 _ _)
        refine xw_drop 5 (ls' := [some (.ref 56), none, none, some (.int (x3 + (-1))), some (.int (x4 + 1)), none]) rfl ?_
        exact vc
      · replace vc := vc.2 c
        refine xi_aload_n (by decide +kernel : decode mX11_farBy.2.1 159 = .ok (.aload_n 0, 1)) rfl rfl (?_ : XW _ _ _ _ _ _ _ 160 _ _)
        refine xi_getR (y := 69) (by decide +kernel : decode mX11_farBy.2.1 160 = .ok (.getfield 67, 3)) fX11_67 rfl (by omega) rfl (mp_stack hM) (?_ : XW _ _ _ _ _ _ _ 163 _ _)
        refine xi_iload_n (by decide +kernel : decode mX11_farBy.2.1 163 = .ok (.iload_n 3, 1)) rfl rfl (?_ : XW _ _ _ _ _ _ _ 164 _ _)
        refine xi_iconst (v := 1) (by decide +kernel : decode mX11_farBy.2.1 164 = .ok (.iconst 1, 1)) (by decide) (?_ : XW _ _ _ _ _ _ _ 165 _ _)
        refine xi_isub (by decide +kernel : decode mX11_farBy.2.1 165 = .ok (.isub, 1)) (?_ : XW _ _ _ _ _ _ _ 166 _ _)
        refine xi_aload_n (by decide +kernel : decode mX11_farBy.2.1 166 = .ok (.aload_n 0, 1)) rfl rfl (?_ : XW _ _ _ _ _ _ _ 167 _ _)
        refine xi_getR (y := 69) (by decide +kernel : decode mX11_farBy.2.1 167 = .ok (.getfield 67, 3)) fX11_67 rfl (by omega) rfl (mp_stack hM) (?_ : XW _ _ _ _ _ _ _ 170 _ _)
        refine xi_iload_n (by decide +kernel : decode mX11_farBy.2.1 170 = .ok (.iload_n 3, 1)) rfl rfl (?_ : XW _ _ _ _ _ _ _ 171 _ _)
        refine xi_iconst (v := 1) (by decide +kernel : decode mX11_farBy.2.1 171 = .ok (.iconst 1, 1)) (by decide) (?_ : XW _ _ _ _ _ _ _ 172 _ _)
        refine xi_isub (by decide +kernel : decode mX11_farBy.2.1 172 = .ok (.isub, 1)) (?_ : XW _ _ _ _ _ _ _ 173 _ _)
        obtain ⟨s1, vc⟩ := vc
        refine xi_iald (by decide +kernel : decode mX11_farBy.2.1 173 = .ok (.iaload, 1)) rfl (by omega) s1 (?_ : XW _ _ _ _ _ _ _ 174 _ _)
        refine xi_if_eq (by decide +kernel : decode mX11_farBy.2.1 174 = .ok (.ifCond .eq 7, 3)) (by decide) (fun c => (?_ : XW _ _ _ _ _ _ _ 181 _ _)) (fun c => (?_ : XW _ _ _ _ _ _ _ 177 _ _))
        · replace vc := vc.1 c
          refine xi_iconst (v := 1) (by decide +kernel : decode mX11_farBy.2.1 181 = .ok (.iconst 1, 1)) (by decide) (?_ : XW _ _ _ _ _ _ _ 182 _ _)
          obtain ⟨s1, vc⟩ := vc
          refine xi_iast (by decide +kernel : decode mX11_farBy.2.1 182 = .ok (.iastore, 1)) rfl (by omega) s1 (?_ : XW _ _ _ _ _ _ (xSI 69 (va_up (xI h 69) (x3 - 1).toNatClampNeg 1) h) 183 _ _)
          refine xi_goto (by decide +kernel : decode mX11_farBy.2.1 183 = .ok (.goto 33, 3)) (by decide) (?_ : XW _ _ _ _ _ _ _ 216 _ _)
          refine xi_iinc (v := x4 + 1) (ls' := [some (.ref 56), none, none, some (.int x3), some (.int (x4 + 1)), some (.int (xI h 63 x4.toNatClampNeg))]) (by decide +kernel : decode mX11_farBy.2.1 216 = .ok (.iinc 4 1, 3)) rfl rfl (by decide) rfl (?_ : XW _ _ _ _ _ _ _ 219 _ _)
          refine xi_goto (by decide +kernel : decode mX11_farBy.2.1 219 = .ok (.goto (-126), 3)) (by decide) (?_ : XW _ _ _ _ _ _ _ 93 _ _)
          refine xw_drop 5 (ls' := [some (.ref 56), none, none, some (.int x3), some (.int (x4 + 1)), none]) rfl ?_
          exact vc
        · replace vc := vc.2 c
          refine xi_iconst (v := 0) (by decide +kernel : decode mX11_farBy.2.1 177 = .ok (.iconst 0, 1)) (by decide) (?_ : XW _ _ _ _ _ _ _ 178 _ _)
          refine xi_goto (by decide +kernel : decode mX11_farBy.2.1 178 = .ok (.goto 4, 3)) (by decide) (?_ : XW _ _ _ _ _ _ _ 182 _ _)
          obtain ⟨s1, vc⟩ := vc
          refine xi_iast (by decide +kernel : decode mX11_farBy.2.1 182 = .ok (.iastore, 1)) rfl (by omega) s1 (?_ : XW _ _ _ _ _ _ (xSI 69 (va_up (xI h 69) (x3 - 1).toNatClampNeg 0) h) 183 _ _)
          refine xi_goto (by decide +kernel : decode mX11_farBy.2.1 183 = .ok (.goto 33, 3)) (by decide) (?_ : XW _ _ _ _ _ _ _ 216 _ _)
          refine xi_iinc (v := x4 + 1) (ls' := [some (.ref 56), none, none, some (.int x3), some (.int (x4 + 1)), some (.int (xI h 63 x4.toNatClampNeg))]) (by decide +kernel : decode mX11_farBy.2.1 216 = .ok (.iinc 4 1, 3)) rfl rfl (by decide) rfl (?_ : XW _ _ _ _ _ _ _ 219 _ _)
          refine xi_goto (by decide +kernel : decode mX11_farBy.2.1 219 = .ok (.goto (-126), 3)) (by decide) (?_ : XW _ _ _ _ _ _ _ 93 _ _)
          refine xw_drop 5 (ls' := [some (.ref 56), none, none, some (.int x3), some (.int (x4 + 1)), none]) rfl ?_
          exact vc
    · replace vc := vc.2 c
      refine xi_aload_n (by decide +kernel : decode mX11_farBy.2.1 121 = .ok (.aload_n 0, 1)) rfl rfl (?_ : XW _ _ _ _ _ _ _ 122 _ _)
      refine xi_getR (y := 69) (by decide +kernel : decode mX11_farBy.2.1 122 = .ok (.getfield 67, 3)) fX11_67 rfl (by omega) rfl (mp_stack hM) (?_ : XW _ _ _ _ _ _ _ 125 _ _)
      refine xi_iload_n (by decide +kernel : decode mX11_farBy.2.1 125 = .ok (.iload_n 3, 1)) rfl rfl (?_ : XW _ _ _ _ _ _ _ 126 _ _)
      refine xi_iload (by decide +kernel : decode mX11_farBy.2.1 126 = .ok (.iload 5, 2)) rfl (?_ : XW _ _ _ _ _ _ _ 128 _ _)
      refine xi_if_lt (by decide +kernel : decode mX11_farBy.2.1 128 = .ok (.ifCond .lt 8, 3)) (by decide) (fun c => (?_ : XW _ _ _ _ _ _ _ 136 _ _)) (fun c => (?_ : XW _ _ _ _ _ _ _ 131 _ _))
      · replace vc := vc.1 c
        refine xi_aload_n (by decide +kernel : decode mX11_farBy.2.1 136 = .ok (.aload_n 0, 1)) rfl rfl (?_ : XW _ _ _ _ _ _ _ 137 _ _)
        refine xi_getR (y := 70) (by decide +kernel : decode mX11_farBy.2.1 137 = .ok (.getfield 70, 3)) fX11_70 rfl (by omega) rfl (mp_asked hM) (?_ : XW _ _ _ _ _ _ _ 140 _ _)
        refine xi_iconst (v := (-1)) (by decide +kernel : decode mX11_farBy.2.1 140 = .ok (.iconst (-1), 1)) (by decide) (?_ : XW _ _ _ _ _ _ _ 141 _ _)
        refine xi_iload (by decide +kernel : decode mX11_farBy.2.1 141 = .ok (.iload 5, 2)) rfl (?_ : XW _ _ _ _ _ _ _ 143 _ _)
        refine xi_isub (by decide +kernel : decode mX11_farBy.2.1 143 = .ok (.isub, 1)) (?_ : XW _ _ _ _ _ _ _ 144 _ _)
        obtain ⟨s1, vc⟩ := vc
        refine xi_iald (by decide +kernel : decode mX11_farBy.2.1 144 = .ok (.iaload, 1)) rfl (by omega) s1 (?_ : XW _ _ _ _ _ _ _ 145 _ _)
        obtain ⟨s1, vc⟩ := vc
        refine xi_iast (by decide +kernel : decode mX11_farBy.2.1 145 = .ok (.iastore, 1)) rfl (by omega) s1 (?_ : XW _ _ _ _ _ _ (xSI 69 (va_up (xI h 69) x3.toNatClampNeg (xI h 70 ((-1) - (xI h 63 x4.toNatClampNeg)).toNatClampNeg)) h) 146 _ _)
        refine xi_iinc (v := x3 + 1) (ls' := [some (.ref 56), none, none, some (.int (x3 + 1)), some (.int x4), some (.int (xI h 63 x4.toNatClampNeg))]) (by decide +kernel : decode mX11_farBy.2.1 146 = .ok (.iinc 3 1, 3)) rfl rfl (by decide) rfl (?_ : XW _ _ _ _ _ _ _ 149 _ _)
        refine xi_goto (by decide +kernel : decode mX11_farBy.2.1 149 = .ok (.goto 67, 3)) (by decide) (?_ : XW _ _ _ _ _ _ _ 216 _ _)
        refine xi_iinc (v := x4 + 1) (ls' := [some (.ref 56), none, none, some (.int (x3 + 1)), some (.int (x4 + 1)), some (.int (xI h 63 x4.toNatClampNeg))]) (by decide +kernel : decode mX11_farBy.2.1 216 = .ok (.iinc 4 1, 3)) rfl rfl (by decide) rfl (?_ : XW _ _ _ _ _ _ _ 219 _ _)
        refine xi_goto (by decide +kernel : decode mX11_farBy.2.1 219 = .ok (.goto (-126), 3)) (by decide) (?_ : XW _ _ _ _ _ _ _ 93 _ _)
        refine xw_drop 5 (ls' := [some (.ref 56), none, none, some (.int (x3 + 1)), some (.int (x4 + 1)), none]) rfl ?_
        exact vc
      · replace vc := vc.2 c
        refine xi_iload (by decide +kernel : decode mX11_farBy.2.1 131 = .ok (.iload 5, 2)) rfl (?_ : XW _ _ _ _ _ _ _ 133 _ _)
        refine xi_goto (by decide +kernel : decode mX11_farBy.2.1 133 = .ok (.goto 12, 3)) (by decide) (?_ : XW _ _ _ _ _ _ _ 145 _ _)
        obtain ⟨s1, vc⟩ := vc
        refine xi_iast (by decide +kernel : decode mX11_farBy.2.1 145 = .ok (.iastore, 1)) rfl (by omega) s1 (?_ : XW _ _ _ _ _ _ (xSI 69 (va_up (xI h 69) x3.toNatClampNeg (xI h 63 x4.toNatClampNeg)) h) 146 _ _)
        refine xi_iinc (v := x3 + 1) (ls' := [some (.ref 56), none, none, some (.int (x3 + 1)), some (.int x4), some (.int (xI h 63 x4.toNatClampNeg))]) (by decide +kernel : decode mX11_farBy.2.1 146 = .ok (.iinc 3 1, 3)) rfl rfl (by decide) rfl (?_ : XW _ _ _ _ _ _ _ 149 _ _)
        refine xi_goto (by decide +kernel : decode mX11_farBy.2.1 149 = .ok (.goto 67, 3)) (by decide) (?_ : XW _ _ _ _ _ _ _ 216 _ _)
        refine xi_iinc (v := x4 + 1) (ls' := [some (.ref 56), none, none, some (.int (x3 + 1)), some (.int (x4 + 1)), some (.int (xI h 63 x4.toNatClampNeg))]) (by decide +kernel : decode mX11_farBy.2.1 216 = .ok (.iinc 4 1, 3)) rfl rfl (by decide) rfl (?_ : XW _ _ _ _ _ _ _ 219 _ _)
        refine xi_goto (by decide +kernel : decode mX11_farBy.2.1 219 = .ok (.goto (-126), 3)) (by decide) (?_ : XW _ _ _ _ _ _ _ 93 _ _)
        refine xw_drop 5 (ls' := [some (.ref 56), none, none, some (.int (x3 + 1)), some (.int (x4 + 1)), none]) rfl ?_
        exact vc

set_option maxRecDepth 20000 in
theorem v_X11_leads_0 {h : XH} {Q : Option Value → XH → Prop} {X : String → XH → Prop} (hM : xMod (xP h))  (fc : Int32) (sq : Int32) (ed : Int32)
    (vc : (¬ sq = (xI h 59 0) → ∃ Q1, XSpec mX11_farBy 2 0 0 100 100 [.ref 56, .int fc, .int sq] h Q1 xno ∧ ∀ v h1, Q1 v h1 → ∃ r1 : Int32, v = some (.int r1) ∧ ((xP h1 56 3 = some 59) ∧ (((sq + r1) ≤ (xI h1 59 0) → (xP h1 56 22 = some 68) ∧ ((vp_in (if 0 < (sq + r1) then (sq + r1) else 0) 101) ∧ ((¬ (xI h1 68 (if 0 < (sq + r1) then (sq + r1) else 0).toNatClampNeg) = 0 → (xP h1 56 22 = some 68) ∧ ((vp_in (if 0 < (sq + r1) then (sq + r1) else 0) 101) ∧ (Q (some (.int (xI h1 68 (if 0 < (sq + r1) then (sq + r1) else 0).toNatClampNeg))) h1))) ∧ ((xI h1 68 (if 0 < (sq + r1) then (sq + r1) else 0).toNatClampNeg) = 0 → Q (some (.int (if 0 < (sq + r1) then (sq + r1) else 0))) h1)))) ∧ (¬ (sq + r1) ≤ (xI h1 59 0) → (¬ ed = 0 → (¬ ed = 2 → (xP h1 56 3 = some 59) ∧ ((xP h1 56 22 = some 68) ∧ ((vp_in (if 0 < ((2 * (xI h1 59 0)) - (sq + r1)) then ((2 * (xI h1 59 0)) - (sq + r1)) else 0) 101) ∧ ((¬ (xI h1 68 (if 0 < ((2 * (xI h1 59 0)) - (sq + r1)) then ((2 * (xI h1 59 0)) - (sq + r1)) else 0).toNatClampNeg) = 0 → (xP h1 56 22 = some 68) ∧ ((vp_in (if 0 < ((2 * (xI h1 59 0)) - (sq + r1)) then ((2 * (xI h1 59 0)) - (sq + r1)) else 0) 101) ∧ (Q (some (.int (xI h1 68 (if 0 < ((2 * (xI h1 59 0)) - (sq + r1)) then ((2 * (xI h1 59 0)) - (sq + r1)) else 0).toNatClampNeg))) h1))) ∧ ((xI h1 68 (if 0 < ((2 * (xI h1 59 0)) - (sq + r1)) then ((2 * (xI h1 59 0)) - (sq + r1)) else 0).toNatClampNeg) = 0 → Q (some (.int (if 0 < ((2 * (xI h1 59 0)) - (sq + r1)) then ((2 * (xI h1 59 0)) - (sq + r1)) else 0))) h1))))) ∧ (ed = 2 → (xP h1 56 3 = some 59) ∧ ((xP h1 56 22 = some 68) ∧ ((vp_in (if 0 < (xI h1 59 0) then (xI h1 59 0) else 0) 101) ∧ ((¬ (xI h1 68 (if 0 < (xI h1 59 0) then (xI h1 59 0) else 0).toNatClampNeg) = 0 → (xP h1 56 22 = some 68) ∧ ((vp_in (if 0 < (xI h1 59 0) then (xI h1 59 0) else 0) 101) ∧ (Q (some (.int (xI h1 68 (if 0 < (xI h1 59 0) then (xI h1 59 0) else 0).toNatClampNeg))) h1))) ∧ ((xI h1 68 (if 0 < (xI h1 59 0) then (xI h1 59 0) else 0).toNatClampNeg) = 0 → Q (some (.int (if 0 < (xI h1 59 0) then (xI h1 59 0) else 0))) h1)))))) ∧ (ed = 0 → Q (some (.int sq)) h1))))) ∧ (sq = (xI h 59 0) → Q (some (.int sq)) h)) :
    XW (xrm 3 0 0) mX11_leads (xE 100 Q X 0 0) 100 0 0 h 0 [some (.ref 56), some (.int fc), some (.int sq), some (.int ed), none] [] := by
  refine xi_iload_n (by decide +kernel : decode mX11_leads.2.1 0 = .ok (.iload_n 2, 1)) rfl rfl (?_ : XW _ _ _ _ _ _ _ 1 _ _)
  refine xi_aload_n (by decide +kernel : decode mX11_leads.2.1 1 = .ok (.aload_n 0, 1)) rfl rfl (?_ : XW _ _ _ _ _ _ _ 2 _ _)
  refine xi_getR (y := 59) (by decide +kernel : decode mX11_leads.2.1 2 = .ok (.getfield 32, 3)) fX11_32 rfl (by omega) rfl (mp_told hM) (?_ : XW _ _ _ _ _ _ _ 5 _ _)
  refine xi_iconst (v := 0) (by decide +kernel : decode mX11_leads.2.1 5 = .ok (.iconst 0, 1)) (by decide) (?_ : XW _ _ _ _ _ _ _ 6 _ _)
  refine xi_iald (by decide +kernel : decode mX11_leads.2.1 6 = .ok (.iaload, 1)) rfl (by omega) (by unfold vp_in; decide) (?_ : XW _ _ _ _ _ _ _ 7 _ [.int (xI h 59 0), .int sq])
  refine xi_icmp_ne (by decide +kernel : decode mX11_leads.2.1 7 = .ok (.if_icmp .ne 5, 3)) (by decide) (fun c => (?_ : XW _ _ _ _ _ _ _ 12 _ _)) (fun c => (?_ : XW _ _ _ _ _ _ _ 10 _ _))
  · replace vc := vc.1 c
    refine xi_iload_n (by decide +kernel : decode mX11_leads.2.1 12 = .ok (.iload_n 2, 1)) rfl rfl (?_ : XW _ _ _ _ _ _ _ 13 _ _)
    refine xi_aload_n (by decide +kernel : decode mX11_leads.2.1 13 = .ok (.aload_n 0, 1)) rfl rfl (?_ : XW _ _ _ _ _ _ _ 14 _ _)
    refine xi_iload_n (by decide +kernel : decode mX11_leads.2.1 14 = .ok (.iload_n 1, 1)) rfl rfl (?_ : XW _ _ _ _ _ _ _ 15 _ _)
    refine xi_iload_n (by decide +kernel : decode mX11_leads.2.1 15 = .ok (.iload_n 2, 1)) rfl rfl (?_ : XW _ _ _ _ _ _ _ 16 _ _)
    obtain ⟨Q1, sp, vc⟩ := vc
    refine xi_callV (b := 0) (bs := 0) (As := [.int fc, .int sq]) (st := [.int sq]) (by decide +kernel : decode mX11_leads.2.1 16 = .ok (.invokevirtual 347, 3)) kX11_347 rfl rfl (by omega) rfl sp (by decide) (by decide) (Nat.le_of_ble_eq_true rfl) (by omega) (fun v9 h1 hq9 => ?_)
    obtain ⟨r1, e9, vc⟩ := vc v9 h1 hq9
    subst e9
    show XW _ _ _ _ _ _ _ 19 _ [.int r1, .int sq]
    refine xi_iadd (by decide +kernel : decode mX11_leads.2.1 19 = .ok (.iadd, 1)) (?_ : XW _ _ _ _ _ _ _ 20 _ _)
    refine xi_istore (ls' := [some (.ref 56), some (.int fc), some (.int sq), some (.int ed), some (.int (sq + r1))]) (by decide +kernel : decode mX11_leads.2.1 20 = .ok (.istore 4, 2)) (by decide) rfl (?_ : XW _ _ _ _ _ _ _ 22 _ _)
    refine xi_iload (by decide +kernel : decode mX11_leads.2.1 22 = .ok (.iload 4, 2)) rfl (?_ : XW _ _ _ _ _ _ _ 24 _ _)
    refine xi_aload_n (by decide +kernel : decode mX11_leads.2.1 24 = .ok (.aload_n 0, 1)) rfl rfl (?_ : XW _ _ _ _ _ _ _ 25 _ _)
    obtain ⟨s1, vc⟩ := vc
    refine xi_getR (y := 59) (by decide +kernel : decode mX11_leads.2.1 25 = .ok (.getfield 32, 3)) fX11_32 rfl (by omega) rfl s1 (?_ : XW _ _ _ _ _ _ _ 28 _ _)
    refine xi_iconst (v := 0) (by decide +kernel : decode mX11_leads.2.1 28 = .ok (.iconst 0, 1)) (by decide) (?_ : XW _ _ _ _ _ _ _ 29 _ _)
    refine xi_iald (by decide +kernel : decode mX11_leads.2.1 29 = .ok (.iaload, 1)) rfl (by omega) (by unfold vp_in; decide) (?_ : XW _ _ _ _ _ _ _ 30 _ [.int (xI h1 59 0), .int (sq + r1)])
    refine xi_icmp_le (by decide +kernel : decode mX11_leads.2.1 30 = .ok (.if_icmp .le 36, 3)) (by decide) (fun c => (?_ : XW _ _ _ _ _ _ _ 66 _ _)) (fun c => (?_ : XW _ _ _ _ _ _ _ 33 _ _))
    · replace vc := vc.1 c
      refine xi_iconst (v := 0) (by decide +kernel : decode mX11_leads.2.1 66 = .ok (.iconst 0, 1)) (by decide) (?_ : XW _ _ _ _ _ _ _ 67 _ _)
      refine xi_iload (by decide +kernel : decode mX11_leads.2.1 67 = .ok (.iload 4, 2)) rfl (?_ : XW _ _ _ _ _ _ _ 69 _ _)
      refine xi_mmax (by decide +kernel : decode mX11_leads.2.1 69 = .ok (.invokestatic 344, 3)) kX11_344.2.1 (by decide) (Nat.le_of_ble_eq_true rfl) (?_ : XW _ _ _ _ _ _ _ 72 _ _)
      refine xi_istore (ls' := [some (.ref 56), some (.int fc), some (.int sq), some (.int ed), some (.int (if 0 < (sq + r1) then (sq + r1) else 0))]) (by decide +kernel : decode mX11_leads.2.1 72 = .ok (.istore 4, 2)) (by decide) rfl (?_ : XW _ _ _ _ _ _ _ 74 _ _)
      refine xi_aload_n (by decide +kernel : decode mX11_leads.2.1 74 = .ok (.aload_n 0, 1)) rfl rfl (?_ : XW _ _ _ _ _ _ _ 75 _ _)
      obtain ⟨s1, vc⟩ := vc
      refine xi_getR (y := 68) (by decide +kernel : decode mX11_leads.2.1 75 = .ok (.getfield 64, 3)) fX11_64 rfl (by omega) rfl s1 (?_ : XW _ _ _ _ _ _ _ 78 _ _)
      refine xi_iload (by decide +kernel : decode mX11_leads.2.1 78 = .ok (.iload 4, 2)) rfl (?_ : XW _ _ _ _ _ _ _ 80 _ _)
      obtain ⟨s1, vc⟩ := vc
      refine xi_iald (by decide +kernel : decode mX11_leads.2.1 80 = .ok (.iaload, 1)) rfl (by omega) s1 (?_ : XW _ _ _ _ _ _ _ 81 _ _)
      refine xi_if_ne (by decide +kernel : decode mX11_leads.2.1 81 = .ok (.ifCond .ne 8, 3)) (by decide) (fun c => (?_ : XW _ _ _ _ _ _ _ 89 _ _)) (fun c => (?_ : XW _ _ _ _ _ _ _ 84 _ _))
      · replace vc := vc.1 c
        refine xi_aload_n (by decide +kernel : decode mX11_leads.2.1 89 = .ok (.aload_n 0, 1)) rfl rfl (?_ : XW _ _ _ _ _ _ _ 90 _ _)
        obtain ⟨s1, vc⟩ := vc
        refine xi_getR (y := 68) (by decide +kernel : decode mX11_leads.2.1 90 = .ok (.getfield 64, 3)) fX11_64 rfl (by omega) rfl s1 (?_ : XW _ _ _ _ _ _ _ 93 _ _)
        refine xi_iload (by decide +kernel : decode mX11_leads.2.1 93 = .ok (.iload 4, 2)) rfl (?_ : XW _ _ _ _ _ _ _ 95 _ _)
        obtain ⟨s1, vc⟩ := vc
        refine xi_iald (by decide +kernel : decode mX11_leads.2.1 95 = .ok (.iaload, 1)) rfl (by omega) s1 (?_ : XW _ _ _ _ _ _ _ 96 _ _)
        exact xi_iret (by decide +kernel : decode mX11_leads.2.1 96 = .ok (.ireturn, 1)) rfl rfl vc
      · replace vc := vc.2 c
        refine xi_iload (by decide +kernel : decode mX11_leads.2.1 84 = .ok (.iload 4, 2)) rfl (?_ : XW _ _ _ _ _ _ _ 86 _ _)
        refine xi_goto (by decide +kernel : decode mX11_leads.2.1 86 = .ok (.goto 10, 3)) (by decide) (?_ : XW _ _ _ _ _ _ _ 96 _ _)
        exact xi_iret (by decide +kernel : decode mX11_leads.2.1 96 = .ok (.ireturn, 1)) rfl rfl vc
    · replace vc := vc.2 c
      refine xi_iload_n (by decide +kernel : decode mX11_leads.2.1 33 = .ok (.iload_n 3, 1)) rfl rfl (?_ : XW _ _ _ _ _ _ _ 34 _ _)
      refine xi_if_ne (by decide +kernel : decode mX11_leads.2.1 34 = .ok (.ifCond .ne 5, 3)) (by decide) (fun c => (?_ : XW _ _ _ _ _ _ _ 39 _ _)) (fun c => (?_ : XW _ _ _ _ _ _ _ 37 _ _))
      · replace vc := vc.1 c
        refine xi_iload_n (by decide +kernel : decode mX11_leads.2.1 39 = .ok (.iload_n 3, 1)) rfl rfl (?_ : XW _ _ _ _ _ _ _ 40 _ _)
        refine xi_iconst (v := 2) (by decide +kernel : decode mX11_leads.2.1 40 = .ok (.iconst 2, 1)) (by decide) (?_ : XW _ _ _ _ _ _ _ 41 _ _)
        refine xi_icmp_ne (by decide +kernel : decode mX11_leads.2.1 41 = .ok (.if_icmp .ne 12, 3)) (by decide) (fun c => (?_ : XW _ _ _ _ _ _ _ 53 _ _)) (fun c => (?_ : XW _ _ _ _ _ _ _ 44 _ _))
        · replace vc := vc.1 c
          refine xi_iconst (v := 2) (by decide +kernel : decode mX11_leads.2.1 53 = .ok (.iconst 2, 1)) (by decide) (?_ : XW _ _ _ _ _ _ _ 54 _ _)
          refine xi_aload_n (by decide +kernel : decode mX11_leads.2.1 54 = .ok (.aload_n 0, 1)) rfl rfl (?_ : XW _ _ _ _ _ _ _ 55 _ _)
          obtain ⟨s1, vc⟩ := vc
          refine xi_getR (y := 59) (by decide +kernel : decode mX11_leads.2.1 55 = .ok (.getfield 32, 3)) fX11_32 rfl (by omega) rfl s1 (?_ : XW _ _ _ _ _ _ _ 58 _ _)
          refine xi_iconst (v := 0) (by decide +kernel : decode mX11_leads.2.1 58 = .ok (.iconst 0, 1)) (by decide) (?_ : XW _ _ _ _ _ _ _ 59 _ _)
          refine xi_iald (by decide +kernel : decode mX11_leads.2.1 59 = .ok (.iaload, 1)) rfl (by omega) (by unfold vp_in; decide) (?_ : XW _ _ _ _ _ _ _ 60 _ [.int (xI h1 59 0), .int 2])
          refine xi_imul (by decide +kernel : decode mX11_leads.2.1 60 = .ok (.imul, 1)) (?_ : XW _ _ _ _ _ _ _ 61 _ _)
          refine xi_iload (by decide +kernel : decode mX11_leads.2.1 61 = .ok (.iload 4, 2)) rfl (?_ : XW _ _ _ _ _ _ _ 63 _ _)
          refine xi_isub (by decide +kernel : decode mX11_leads.2.1 63 = .ok (.isub, 1)) (?_ : XW _ _ _ _ _ _ _ 64 _ _)
          refine xi_istore (ls' := [some (.ref 56), some (.int fc), some (.int sq), some (.int ed), some (.int ((2 * (xI h1 59 0)) - (sq + r1)))]) (by decide +kernel : decode mX11_leads.2.1 64 = .ok (.istore 4, 2)) (by decide) rfl (?_ : XW _ _ _ _ _ _ _ 66 _ _)
          refine xi_iconst (v := 0) (by decide +kernel : decode mX11_leads.2.1 66 = .ok (.iconst 0, 1)) (by decide) (?_ : XW _ _ _ _ _ _ _ 67 _ _)
          refine xi_iload (by decide +kernel : decode mX11_leads.2.1 67 = .ok (.iload 4, 2)) rfl (?_ : XW _ _ _ _ _ _ _ 69 _ _)
          refine xi_mmax (by decide +kernel : decode mX11_leads.2.1 69 = .ok (.invokestatic 344, 3)) kX11_344.2.1 (by decide) (Nat.le_of_ble_eq_true rfl) (?_ : XW _ _ _ _ _ _ _ 72 _ _)
          refine xi_istore (ls' := [some (.ref 56), some (.int fc), some (.int sq), some (.int ed), some (.int (if 0 < ((2 * (xI h1 59 0)) - (sq + r1)) then ((2 * (xI h1 59 0)) - (sq + r1)) else 0))]) (by decide +kernel : decode mX11_leads.2.1 72 = .ok (.istore 4, 2)) (by decide) rfl (?_ : XW _ _ _ _ _ _ _ 74 _ _)
          refine xi_aload_n (by decide +kernel : decode mX11_leads.2.1 74 = .ok (.aload_n 0, 1)) rfl rfl (?_ : XW _ _ _ _ _ _ _ 75 _ _)
          obtain ⟨s1, vc⟩ := vc
          refine xi_getR (y := 68) (by decide +kernel : decode mX11_leads.2.1 75 = .ok (.getfield 64, 3)) fX11_64 rfl (by omega) rfl s1 (?_ : XW _ _ _ _ _ _ _ 78 _ _)
          refine xi_iload (by decide +kernel : decode mX11_leads.2.1 78 = .ok (.iload 4, 2)) rfl (?_ : XW _ _ _ _ _ _ _ 80 _ _)
          obtain ⟨s1, vc⟩ := vc
          refine xi_iald (by decide +kernel : decode mX11_leads.2.1 80 = .ok (.iaload, 1)) rfl (by omega) s1 (?_ : XW _ _ _ _ _ _ _ 81 _ _)
          refine xi_if_ne (by decide +kernel : decode mX11_leads.2.1 81 = .ok (.ifCond .ne 8, 3)) (by decide) (fun c => (?_ : XW _ _ _ _ _ _ _ 89 _ _)) (fun c => (?_ : XW _ _ _ _ _ _ _ 84 _ _))
          · replace vc := vc.1 c
            refine xi_aload_n (by decide +kernel : decode mX11_leads.2.1 89 = .ok (.aload_n 0, 1)) rfl rfl (?_ : XW _ _ _ _ _ _ _ 90 _ _)
            obtain ⟨s1, vc⟩ := vc
            refine xi_getR (y := 68) (by decide +kernel : decode mX11_leads.2.1 90 = .ok (.getfield 64, 3)) fX11_64 rfl (by omega) rfl s1 (?_ : XW _ _ _ _ _ _ _ 93 _ _)
            refine xi_iload (by decide +kernel : decode mX11_leads.2.1 93 = .ok (.iload 4, 2)) rfl (?_ : XW _ _ _ _ _ _ _ 95 _ _)
            obtain ⟨s1, vc⟩ := vc
            refine xi_iald (by decide +kernel : decode mX11_leads.2.1 95 = .ok (.iaload, 1)) rfl (by omega) s1 (?_ : XW _ _ _ _ _ _ _ 96 _ _)
            exact xi_iret (by decide +kernel : decode mX11_leads.2.1 96 = .ok (.ireturn, 1)) rfl rfl vc
          · replace vc := vc.2 c
            refine xi_iload (by decide +kernel : decode mX11_leads.2.1 84 = .ok (.iload 4, 2)) rfl (?_ : XW _ _ _ _ _ _ _ 86 _ _)
            refine xi_goto (by decide +kernel : decode mX11_leads.2.1 86 = .ok (.goto 10, 3)) (by decide) (?_ : XW _ _ _ _ _ _ _ 96 _ _)
            exact xi_iret (by decide +kernel : decode mX11_leads.2.1 96 = .ok (.ireturn, 1)) rfl rfl vc
        · replace vc := vc.2 c
          refine xi_aload_n (by decide +kernel : decode mX11_leads.2.1 44 = .ok (.aload_n 0, 1)) rfl rfl (?_ : XW _ _ _ _ _ _ _ 45 _ _)
          obtain ⟨s1, vc⟩ := vc
          refine xi_getR (y := 59) (by decide +kernel : decode mX11_leads.2.1 45 = .ok (.getfield 32, 3)) fX11_32 rfl (by omega) rfl s1 (?_ : XW _ _ _ _ _ _ _ 48 _ _)
          refine xi_iconst (v := 0) (by decide +kernel : decode mX11_leads.2.1 48 = .ok (.iconst 0, 1)) (by decide) (?_ : XW _ _ _ _ _ _ _ 49 _ _)
          refine xi_iald (by decide +kernel : decode mX11_leads.2.1 49 = .ok (.iaload, 1)) rfl (by omega) (by unfold vp_in; decide) (?_ : XW _ _ _ _ _ _ _ 50 _ [.int (xI h1 59 0)])
          refine xi_goto (by decide +kernel : decode mX11_leads.2.1 50 = .ok (.goto 14, 3)) (by decide) (?_ : XW _ _ _ _ _ _ _ 64 _ _)
          refine xi_istore (ls' := [some (.ref 56), some (.int fc), some (.int sq), some (.int ed), some (.int (xI h1 59 0))]) (by decide +kernel : decode mX11_leads.2.1 64 = .ok (.istore 4, 2)) (by decide) rfl (?_ : XW _ _ _ _ _ _ _ 66 _ _)
          refine xi_iconst (v := 0) (by decide +kernel : decode mX11_leads.2.1 66 = .ok (.iconst 0, 1)) (by decide) (?_ : XW _ _ _ _ _ _ _ 67 _ _)
          refine xi_iload (by decide +kernel : decode mX11_leads.2.1 67 = .ok (.iload 4, 2)) rfl (?_ : XW _ _ _ _ _ _ _ 69 _ _)
          refine xi_mmax (by decide +kernel : decode mX11_leads.2.1 69 = .ok (.invokestatic 344, 3)) kX11_344.2.1 (by decide) (Nat.le_of_ble_eq_true rfl) (?_ : XW _ _ _ _ _ _ _ 72 _ _)
          refine xi_istore (ls' := [some (.ref 56), some (.int fc), some (.int sq), some (.int ed), some (.int (if 0 < (xI h1 59 0) then (xI h1 59 0) else 0))]) (by decide +kernel : decode mX11_leads.2.1 72 = .ok (.istore 4, 2)) (by decide) rfl (?_ : XW _ _ _ _ _ _ _ 74 _ _)
          refine xi_aload_n (by decide +kernel : decode mX11_leads.2.1 74 = .ok (.aload_n 0, 1)) rfl rfl (?_ : XW _ _ _ _ _ _ _ 75 _ _)
          obtain ⟨s1, vc⟩ := vc
          refine xi_getR (y := 68) (by decide +kernel : decode mX11_leads.2.1 75 = .ok (.getfield 64, 3)) fX11_64 rfl (by omega) rfl s1 (?_ : XW _ _ _ _ _ _ _ 78 _ _)
          refine xi_iload (by decide +kernel : decode mX11_leads.2.1 78 = .ok (.iload 4, 2)) rfl (?_ : XW _ _ _ _ _ _ _ 80 _ _)
          obtain ⟨s1, vc⟩ := vc
          refine xi_iald (by decide +kernel : decode mX11_leads.2.1 80 = .ok (.iaload, 1)) rfl (by omega) s1 (?_ : XW _ _ _ _ _ _ _ 81 _ _)
          refine xi_if_ne (by decide +kernel : decode mX11_leads.2.1 81 = .ok (.ifCond .ne 8, 3)) (by decide) (fun c => (?_ : XW _ _ _ _ _ _ _ 89 _ _)) (fun c => (?_ : XW _ _ _ _ _ _ _ 84 _ _))
          · replace vc := vc.1 c
            refine xi_aload_n (by decide +kernel : decode mX11_leads.2.1 89 = .ok (.aload_n 0, 1)) rfl rfl (?_ : XW _ _ _ _ _ _ _ 90 _ _)
            obtain ⟨s1, vc⟩ := vc
            refine xi_getR (y := 68) (by decide +kernel : decode mX11_leads.2.1 90 = .ok (.getfield 64, 3)) fX11_64 rfl (by omega) rfl s1 (?_ : XW _ _ _ _ _ _ _ 93 _ _)
            refine xi_iload (by decide +kernel : decode mX11_leads.2.1 93 = .ok (.iload 4, 2)) rfl (?_ : XW _ _ _ _ _ _ _ 95 _ _)
            obtain ⟨s1, vc⟩ := vc
            refine xi_iald (by decide +kernel : decode mX11_leads.2.1 95 = .ok (.iaload, 1)) rfl (by omega) s1 (?_ : XW _ _ _ _ _ _ _ 96 _ _)
            exact xi_iret (by decide +kernel : decode mX11_leads.2.1 96 = .ok (.ireturn, 1)) rfl rfl vc
          · replace vc := vc.2 c
            refine xi_iload (by decide +kernel : decode mX11_leads.2.1 84 = .ok (.iload 4, 2)) rfl (?_ : XW _ _ _ _ _ _ _ 86 _ _)
            refine xi_goto (by decide +kernel : decode mX11_leads.2.1 86 = .ok (.goto 10, 3)) (by decide) (?_ : XW _ _ _ _ _ _ _ 96 _ _)
            exact xi_iret (by decide +kernel : decode mX11_leads.2.1 96 = .ok (.ireturn, 1)) rfl rfl vc
      · replace vc := vc.2 c
        refine xi_iload_n (by decide +kernel : decode mX11_leads.2.1 37 = .ok (.iload_n 2, 1)) rfl rfl (?_ : XW _ _ _ _ _ _ _ 38 _ _)
        exact xi_iret (by decide +kernel : decode mX11_leads.2.1 38 = .ok (.ireturn, 1)) rfl rfl vc
  · replace vc := vc.2 c
    refine xi_iload_n (by decide +kernel : decode mX11_leads.2.1 10 = .ok (.iload_n 2, 1)) rfl rfl (?_ : XW _ _ _ _ _ _ _ 11 _ _)
    exact xi_iret (by decide +kernel : decode mX11_leads.2.1 11 = .ok (.ireturn, 1)) rfl rfl vc

set_option maxRecDepth 20000 in
theorem v_X11_tellTable_0 {h : XH} {Q : Option Value → XH → Prop} {X : String → XH → Prop} (hM : xMod (xP h))  (wo : Int32) (of : Int32) (oh : Int32) (ed : Int32)
    (vc : XW (xrm 4 0 0) mX11_tellTable (xE 100 Q X 0 0) 100 0 0 h 3 [some (.ref 56), some (.int wo), some (.int of), some (.int oh), some (.int ed), some (.int 0), none] []) :
    XW (xrm 4 0 0) mX11_tellTable (xE 100 Q X 0 0) 100 0 0 h 0 [some (.ref 56), some (.int wo), some (.int of), some (.int oh), some (.int ed), none, none] [] := by
  refine xi_iconst (v := 0) (by decide +kernel : decode mX11_tellTable.2.1 0 = .ok (.iconst 0, 1)) (by decide) (?_ : XW _ _ _ _ _ _ _ 1 _ _)
  refine xi_istore (ls' := [some (.ref 56), some (.int wo), some (.int of), some (.int oh), some (.int ed), some (.int 0), none]) (by decide +kernel : decode mX11_tellTable.2.1 1 = .ok (.istore 5, 2)) (by decide) rfl (?_ : XW _ _ _ _ _ _ _ 3 _ _)
  exact vc

set_option maxRecDepth 20000 in
theorem v_X11_tellTable_3 {h : XH} {Q : Option Value → XH → Prop} {X : String → XH → Prop} (hM : xMod (xP h))  (x1 : Int32) (x2 : Int32) (x3 : Int32) (x4 : Int32) (x5 : Int32)
    (vc : (101 ≤ x5 → XW (xrm 4 0 0) mX11_tellTable (xE 100 Q X 0 0) 100 0 0 h 27 [some (.ref 56), some (.int x1), some (.int x2), some (.int x3), some (.int x4), some (.int 0), none] []) ∧ (¬ 101 ≤ x5 → (vp_in x5 101) ∧ (XW (xrm 4 0 0) mX11_tellTable (xE 100 Q X 0 0) 100 0 0 (xSI 68 (va_up (xI h 68) x5.toNatClampNeg 0) h) 3 [some (.ref 56), some (.int x1), some (.int x2), some (.int x3), some (.int x4), some (.int (x5 + 1)), none] []))) :
    XW (xrm 4 0 0) mX11_tellTable (xE 100 Q X 0 0) 100 0 0 h 3 [some (.ref 56), some (.int x1), some (.int x2), some (.int x3), some (.int x4), some (.int x5), none] [] := by
  refine xi_iload (by decide +kernel : decode mX11_tellTable.2.1 3 = .ok (.iload 5, 2)) rfl (?_ : XW _ _ _ _ _ _ _ 5 _ _)
  refine xi_bipush (v := 101) (by decide +kernel : decode mX11_tellTable.2.1 5 = .ok (.bipush 101, 2)) (by decide) (?_ : XW _ _ _ _ _ _ _ 7 _ _)
  refine xi_icmp_ge (by decide +kernel : decode mX11_tellTable.2.1 7 = .ok (.if_icmp .ge 17, 3)) (by decide) (fun c => (?_ : XW _ _ _ _ _ _ _ 24 _ _)) (fun c => (?_ : XW _ _ _ _ _ _ _ 10 _ _))
  · replace vc := vc.1 c
    refine xi_iconst (v := 0) (by decide +kernel : decode mX11_tellTable.2.1 24 = .ok (.iconst 0, 1)) (by decide) (?_ : XW _ _ _ _ _ _ _ 25 _ _)
    refine xi_istore (ls' := [some (.ref 56), some (.int x1), some (.int x2), some (.int x3), some (.int x4), some (.int 0), none]) (by decide +kernel : decode mX11_tellTable.2.1 25 = .ok (.istore 5, 2)) (by decide) rfl (?_ : XW _ _ _ _ _ _ _ 27 _ _)
    exact vc
  · replace vc := vc.2 c
    refine xi_aload_n (by decide +kernel : decode mX11_tellTable.2.1 10 = .ok (.aload_n 0, 1)) rfl rfl (?_ : XW _ _ _ _ _ _ _ 11 _ _)
    refine xi_getR (y := 68) (by decide +kernel : decode mX11_tellTable.2.1 11 = .ok (.getfield 64, 3)) fX11_64 rfl (by omega) rfl (mp_jump hM) (?_ : XW _ _ _ _ _ _ _ 14 _ _)
    refine xi_iload (by decide +kernel : decode mX11_tellTable.2.1 14 = .ok (.iload 5, 2)) rfl (?_ : XW _ _ _ _ _ _ _ 16 _ _)
    refine xi_iconst (v := 0) (by decide +kernel : decode mX11_tellTable.2.1 16 = .ok (.iconst 0, 1)) (by decide) (?_ : XW _ _ _ _ _ _ _ 17 _ _)
    obtain ⟨s1, vc⟩ := vc
    refine xi_iast (by decide +kernel : decode mX11_tellTable.2.1 17 = .ok (.iastore, 1)) rfl (by omega) s1 (?_ : XW _ _ _ _ _ _ (xSI 68 (va_up (xI h 68) x5.toNatClampNeg 0) h) 18 _ _)
    refine xi_iinc (v := x5 + 1) (ls' := [some (.ref 56), some (.int x1), some (.int x2), some (.int x3), some (.int x4), some (.int (x5 + 1)), none]) (by decide +kernel : decode mX11_tellTable.2.1 18 = .ok (.iinc 5 1, 3)) rfl rfl (by decide) rfl (?_ : XW _ _ _ _ _ _ _ 21 _ _)
    refine xi_goto (by decide +kernel : decode mX11_tellTable.2.1 21 = .ok (.goto (-18), 3)) (by decide) (?_ : XW _ _ _ _ _ _ _ 3 _ _)
    exact vc

set_option maxRecDepth 20000 in
theorem v_X11_tellTable_27 {h : XH} {Q : Option Value → XH → Prop} {X : String → XH → Prop} (hM : xMod (xP h))  (x1 : Int32) (x2 : Int32) (x3 : Int32) (x4 : Int32) (x5 : Int32)
    (vc : ((xI h 59 1) ≤ x5 → (x2 ≤ 0 → XW (xrm 4 0 0) mX11_tellTable (xE 100 Q X 0 0) 100 0 0 h 83 [some (.ref 56), none, none, none, some (.int x4), some (.int 0), none] []) ∧ (¬ x2 ≤ 0 → (vp_in x2 101) ∧ (XW (xrm 4 0 0) mX11_tellTable (xE 100 Q X 0 0) 100 0 0 (xSI 68 (va_up (xI h 68) x2.toNatClampNeg x3) h) 83 [some (.ref 56), none, none, none, some (.int x4), some (.int 0), none] []))) ∧ (¬ (xI h 59 1) ≤ x5 → (x5 = x1 → XW (xrm 4 0 0) mX11_tellTable (xE 100 Q X 0 0) 100 0 0 h 27 [some (.ref 56), some (.int x1), some (.int x2), some (.int x3), some (.int x4), some (.int (x5 + 1)), none] []) ∧ (¬ x5 = x1 → (vp_in x5 48) ∧ ((vp_in x5 48) ∧ ((vp_in (xI h 61 x5.toNatClampNeg) 101) ∧ (XW (xrm 4 0 0) mX11_tellTable (xE 100 Q X 0 0) 100 0 0 (xSI 68 (va_up (xI h 68) (xI h 61 x5.toNatClampNeg).toNatClampNeg (xI h 62 x5.toNatClampNeg)) h) 27 [some (.ref 56), some (.int x1), some (.int x2), some (.int x3), some (.int x4), some (.int (x5 + 1)), none] [])))))) :
    XW (xrm 4 0 0) mX11_tellTable (xE 100 Q X 0 0) 100 0 0 h 27 [some (.ref 56), some (.int x1), some (.int x2), some (.int x3), some (.int x4), some (.int x5), none] [] := by
  refine xi_iload (by decide +kernel : decode mX11_tellTable.2.1 27 = .ok (.iload 5, 2)) rfl (?_ : XW _ _ _ _ _ _ _ 29 _ _)
  refine xi_aload_n (by decide +kernel : decode mX11_tellTable.2.1 29 = .ok (.aload_n 0, 1)) rfl rfl (?_ : XW _ _ _ _ _ _ _ 30 _ _)
  refine xi_getR (y := 59) (by decide +kernel : decode mX11_tellTable.2.1 30 = .ok (.getfield 32, 3)) fX11_32 rfl (by omega) rfl (mp_told hM) (?_ : XW _ _ _ _ _ _ _ 33 _ _)
  refine xi_iconst (v := 1) (by decide +kernel : decode mX11_tellTable.2.1 33 = .ok (.iconst 1, 1)) (by decide) (?_ : XW _ _ _ _ _ _ _ 34 _ _)
  refine xi_iald (by decide +kernel : decode mX11_tellTable.2.1 34 = .ok (.iaload, 1)) rfl (by omega) (by unfold vp_in; decide) (?_ : XW _ _ _ _ _ _ _ 35 _ [.int (xI h 59 1), .int x5])
  refine xi_icmp_ge (by decide +kernel : decode mX11_tellTable.2.1 35 = .ok (.if_icmp .ge 34, 3)) (by decide) (fun c => (?_ : XW _ _ _ _ _ _ _ 69 _ _)) (fun c => (?_ : XW _ _ _ _ _ _ _ 38 _ _))
  · replace vc := vc.1 c
    refine xi_iload_n (by decide +kernel : decode mX11_tellTable.2.1 69 = .ok (.iload_n 2, 1)) rfl rfl (?_ : XW _ _ _ _ _ _ _ 70 _ _)
    refine xi_if_le (by decide +kernel : decode mX11_tellTable.2.1 70 = .ok (.ifCond .le 10, 3)) (by decide) (fun c => (?_ : XW _ _ _ _ _ _ _ 80 _ _)) (fun c => (?_ : XW _ _ _ _ _ _ _ 73 _ _))
    · replace vc := vc.1 c
      refine xi_iconst (v := 0) (by decide +kernel : decode mX11_tellTable.2.1 80 = .ok (.iconst 0, 1)) (by decide) (?_ : XW _ _ _ _ _ _ _ 81 _ _)
      refine xi_istore (ls' := [some (.ref 56), some (.int x1), some (.int x2), some (.int x3), some (.int x4), some (.int 0), none]) (by decide +kernel : decode mX11_tellTable.2.1 81 = .ok (.istore 5, 2)) (by decide) rfl (?_ : XW _ _ _ _ _ _ _ 83 _ _)
      refine xw_drop 1 (ls' := [some (.ref 56), none, some (.int x2), some (.int x3), some (.int x4), some (.int 0), none]) rfl ?_
      refine xw_drop 2 (ls' := [some (.ref 56), none, none, some (.int x3), some (.int x4), some (.int 0), none]) rfl ?_
      refine xw_drop 3 (ls' := [some (.ref 56), none, none, none, some (.int x4), some (.int 0), none]) rfl ?_
      exact vc
    · replace vc := vc.2 c
      refine xi_aload_n (by decide +kernel : decode mX11_tellTable.2.1 73 = .ok (.aload_n 0, 1)) rfl rfl (?_ : XW _ _ _ _ _ _ _ 74 _ _)
      refine xi_getR (y := 68) (by decide +kernel : decode mX11_tellTable.2.1 74 = .ok (.getfield 64, 3)) fX11_64 rfl (by omega) rfl (mp_jump hM) (?_ : XW _ _ _ _ _ _ _ 77 _ _)
      refine xi_iload_n (by decide +kernel : decode mX11_tellTable.2.1 77 = .ok (.iload_n 2, 1)) rfl rfl (?_ : XW _ _ _ _ _ _ _ 78 _ _)
      refine xi_iload_n (by decide +kernel : decode mX11_tellTable.2.1 78 = .ok (.iload_n 3, 1)) rfl rfl (?_ : XW _ _ _ _ _ _ _ 79 _ _)
      obtain ⟨s1, vc⟩ := vc
      refine xi_iast (by decide +kernel : decode mX11_tellTable.2.1 79 = .ok (.iastore, 1)) rfl (by omega) s1 (?_ : XW _ _ _ _ _ _ (xSI 68 (va_up (xI h 68) x2.toNatClampNeg x3) h) 80 _ _)
      refine xi_iconst (v := 0) (by decide +kernel : decode mX11_tellTable.2.1 80 = .ok (.iconst 0, 1)) (by decide) (?_ : XW _ _ _ _ _ _ _ 81 _ _)
      refine xi_istore (ls' := [some (.ref 56), some (.int x1), some (.int x2), some (.int x3), some (.int x4), some (.int 0), none]) (by decide +kernel : decode mX11_tellTable.2.1 81 = .ok (.istore 5, 2)) (by decide) rfl (?_ : XW _ _ _ _ _ _ _ 83 _ _)
      refine xw_drop 1 (ls' := [some (.ref 56), none, some (.int x2), some (.int x3), some (.int x4), some (.int 0), none]) rfl ?_
      refine xw_drop 2 (ls' := [some (.ref 56), none, none, some (.int x3), some (.int x4), some (.int 0), none]) rfl ?_
      refine xw_drop 3 (ls' := [some (.ref 56), none, none, none, some (.int x4), some (.int 0), none]) rfl ?_
      exact vc
  · replace vc := vc.2 c
    refine xi_iload (by decide +kernel : decode mX11_tellTable.2.1 38 = .ok (.iload 5, 2)) rfl (?_ : XW _ _ _ _ _ _ _ 40 _ _)
    refine xi_iload_n (by decide +kernel : decode mX11_tellTable.2.1 40 = .ok (.iload_n 1, 1)) rfl rfl (?_ : XW _ _ _ _ _ _ _ 41 _ _)
    refine xi_icmp_eq (by decide +kernel : decode mX11_tellTable.2.1 41 = .ok (.if_icmp .eq 22, 3)) (by decide) (fun c => (?_ : XW _ _ _ _ _ _ _ 63 _ _)) (fun c => (?_ : XW _ _ _ _ _ _ _ 44 _ _))
    · replace vc := vc.1 c
      refine xi_iinc (v := x5 + 1) (ls' := [some (.ref 56), some (.int x1), some (.int x2), some (.int x3), some (.int x4), some (.int (x5 + 1)), none]) (by decide +kernel : decode mX11_tellTable.2.1 63 = .ok (.iinc 5 1, 3)) rfl rfl (by decide) rfl (?_ : XW _ _ _ _ _ _ _ 66 _ _)
      refine xi_goto (by decide +kernel : decode mX11_tellTable.2.1 66 = .ok (.goto (-39), 3)) (by decide) (?_ : XW _ _ _ _ _ _ _ 27 _ _)
      exact vc
    · replace vc := vc.2 c
      refine xi_aload_n (by decide +kernel : decode mX11_tellTable.2.1 44 = .ok (.aload_n 0, 1)) rfl rfl (?_ : XW _ _ _ _ _ _ _ 45 _ _)
      refine xi_getR (y := 68) (by decide +kernel : decode mX11_tellTable.2.1 45 = .ok (.getfield 64, 3)) fX11_64 rfl (by omega) rfl (mp_jump hM) (?_ : XW _ _ _ _ _ _ _ 48 _ _)
      refine xi_aload_n (by decide +kernel : decode mX11_tellTable.2.1 48 = .ok (.aload_n 0, 1)) rfl rfl (?_ : XW _ _ _ _ _ _ _ 49 _ _)
      refine xi_getR (y := 61) (by decide +kernel : decode mX11_tellTable.2.1 49 = .ok (.getfield 39, 3)) fX11_39 rfl (by omega) rfl (mp_foot hM) (?_ : XW _ _ _ _ _ _ _ 52 _ _)
      refine xi_iload (by decide +kernel : decode mX11_tellTable.2.1 52 = .ok (.iload 5, 2)) rfl (?_ : XW _ _ _ _ _ _ _ 54 _ _)
      obtain ⟨s1, vc⟩ := vc
      refine xi_iald (by decide +kernel : decode mX11_tellTable.2.1 54 = .ok (.iaload, 1)) rfl (by omega) s1 (?_ : XW _ _ _ _ _ _ _ 55 _ _)
      refine xi_aload_n (by decide +kernel : decode mX11_tellTable.2.1 55 = .ok (.aload_n 0, 1)) rfl rfl (?_ : XW _ _ _ _ _ _ _ 56 _ _)
      refine xi_getR (y := 62) (by decide +kernel : decode mX11_tellTable.2.1 56 = .ok (.getfield 42, 3)) fX11_42 rfl (by omega) rfl (mp_head hM) (?_ : XW _ _ _ _ _ _ _ 59 _ _)
      refine xi_iload (by decide +kernel : decode mX11_tellTable.2.1 59 = .ok (.iload 5, 2)) rfl (?_ : XW _ _ _ _ _ _ _ 61 _ _)
      obtain ⟨s1, vc⟩ := vc
      refine xi_iald (by decide +kernel : decode mX11_tellTable.2.1 61 = .ok (.iaload, 1)) rfl (by omega) s1 (?_ : XW _ _ _ _ _ _ _ 62 _ _)
      obtain ⟨s1, vc⟩ := vc
      refine xi_iast (by decide +kernel : decode mX11_tellTable.2.1 62 = .ok (.iastore, 1)) rfl (by omega) s1 (?_ : XW _ _ _ _ _ _ (xSI 68 (va_up (xI h 68) (xI h 61 x5.toNatClampNeg).toNatClampNeg (xI h 62 x5.toNatClampNeg)) h) 63 _ _)
      refine xi_iinc (v := x5 + 1) (ls' := [some (.ref 56), some (.int x1), some (.int x2), some (.int x3), some (.int x4), some (.int (x5 + 1)), none]) (by decide +kernel : decode mX11_tellTable.2.1 63 = .ok (.iinc 5 1, 3)) rfl rfl (by decide) rfl (?_ : XW _ _ _ _ _ _ _ 66 _ _)
      refine xi_goto (by decide +kernel : decode mX11_tellTable.2.1 66 = .ok (.goto (-39), 3)) (by decide) (?_ : XW _ _ _ _ _ _ _ 27 _ _)
      exact vc

set_option maxRecDepth 20000 in
theorem v_X11_tellTable_83 {h : XH} {Q : Option Value → XH → Prop} {X : String → XH → Prop} (hM : xMod (xP h))  (x4 : Int32) (x5 : Int32)
    (vc : (6 < x5 → Q none h) ∧ (¬ 6 < x5 → XW (xrm 4 0 0) mX11_tellTable (xE 100 Q X 0 0) 100 0 0 h 93 [some (.ref 56), none, none, none, some (.int x4), some (.int x5), some (.int 0)] [])) :
    XW (xrm 4 0 0) mX11_tellTable (xE 100 Q X 0 0) 100 0 0 h 83 [some (.ref 56), none, none, none, some (.int x4), some (.int x5), none] [] := by
  refine xi_iload (by decide +kernel : decode mX11_tellTable.2.1 83 = .ok (.iload 5, 2)) rfl (?_ : XW _ _ _ _ _ _ _ 85 _ _)
  refine xi_bipush (v := 6) (by decide +kernel : decode mX11_tellTable.2.1 85 = .ok (.bipush 6, 2)) (by decide) (?_ : XW _ _ _ _ _ _ _ 87 _ _)
  refine xi_icmp_gt (by decide +kernel : decode mX11_tellTable.2.1 87 = .ok (.if_icmp .gt 52, 3)) (by decide) (fun c => (?_ : XW _ _ _ _ _ _ _ 139 _ _)) (fun c => (?_ : XW _ _ _ _ _ _ _ 90 _ _))
  · replace vc := vc.1 c
    exact xi_vret (by decide +kernel : decode mX11_tellTable.2.1 139 = .ok (.return_, 1)) rfl vc
  · replace vc := vc.2 c
    refine xi_iconst (v := 0) (by decide +kernel : decode mX11_tellTable.2.1 90 = .ok (.iconst 0, 1)) (by decide) (?_ : XW _ _ _ _ _ _ _ 91 _ _)
    refine xi_istore (ls' := [some (.ref 56), none, none, none, some (.int x4), some (.int x5), some (.int 0)]) (by decide +kernel : decode mX11_tellTable.2.1 91 = .ok (.istore 6, 2)) (by decide) rfl (?_ : XW _ _ _ _ _ _ _ 93 _ _)
    exact vc

set_option maxRecDepth 20000 in
theorem v_X11_tellTable_93 {h : XH} {Q : Option Value → XH → Prop} {X : String → XH → Prop} (hM : xMod (xP h))  (x4 : Int32) (x5 : Int32) (x6 : Int32)
    (vc : ((xI h 59 0) < x6 → XW (xrm 4 0 0) mX11_tellTable (xE 100 Q X 0 0) 100 0 0 h 83 [some (.ref 56), none, none, none, some (.int x4), some (.int (x5 + 1)), none] []) ∧ (¬ (xI h 59 0) < x6 → ∃ Q1, XSpec mX11_leads 3 0 0 100 100 [.ref 56, .int x5, .int x6, .int x4] h Q1 xno ∧ ∀ v h1, Q1 v h1 → ∃ r1 : Int32, v = some (.int r1) ∧ ((vp_in ((101 * x5) + x6) 707) ∧ (XW (xrm 4 0 0) mX11_tellTable (xE 100 Q X 0 0) 100 0 0 (xSI 67 (va_up (xI h1 67) ((101 * x5) + x6).toNatClampNeg r1) h1) 93 [some (.ref 56), none, none, none, some (.int x4), some (.int x5), some (.int (x6 + 1))] [])))) :
    XW (xrm 4 0 0) mX11_tellTable (xE 100 Q X 0 0) 100 0 0 h 93 [some (.ref 56), none, none, none, some (.int x4), some (.int x5), some (.int x6)] [] := by
  refine xi_iload (by decide +kernel : decode mX11_tellTable.2.1 93 = .ok (.iload 6, 2)) rfl (?_ : XW _ _ _ _ _ _ _ 95 _ _)
  refine xi_aload_n (by decide +kernel : decode mX11_tellTable.2.1 95 = .ok (.aload_n 0, 1)) rfl rfl (?_ : XW _ _ _ _ _ _ _ 96 _ _)
  refine xi_getR (y := 59) (by decide +kernel : decode mX11_tellTable.2.1 96 = .ok (.getfield 32, 3)) fX11_32 rfl (by omega) rfl (mp_told hM) (?_ : XW _ _ _ _ _ _ _ 99 _ _)
  refine xi_iconst (v := 0) (by decide +kernel : decode mX11_tellTable.2.1 99 = .ok (.iconst 0, 1)) (by decide) (?_ : XW _ _ _ _ _ _ _ 100 _ _)
  refine xi_iald (by decide +kernel : decode mX11_tellTable.2.1 100 = .ok (.iaload, 1)) rfl (by omega) (by unfold vp_in; decide) (?_ : XW _ _ _ _ _ _ _ 101 _ [.int (xI h 59 0), .int x6])
  refine xi_icmp_gt (by decide +kernel : decode mX11_tellTable.2.1 101 = .ok (.if_icmp .gt 32, 3)) (by decide) (fun c => (?_ : XW _ _ _ _ _ _ _ 133 _ _)) (fun c => (?_ : XW _ _ _ _ _ _ _ 104 _ _))
  · replace vc := vc.1 c
    refine xi_iinc (v := x5 + 1) (ls' := [some (.ref 56), none, none, none, some (.int x4), some (.int (x5 + 1)), some (.int x6)]) (by decide +kernel : decode mX11_tellTable.2.1 133 = .ok (.iinc 5 1, 3)) rfl rfl (by decide) rfl (?_ : XW _ _ _ _ _ _ _ 136 _ _)
    refine xi_goto (by decide +kernel : decode mX11_tellTable.2.1 136 = .ok (.goto (-53), 3)) (by decide) (?_ : XW _ _ _ _ _ _ _ 83 _ _)
    refine xw_drop 6 (ls' := [some (.ref 56), none, none, none, some (.int x4), some (.int (x5 + 1)), none]) rfl ?_
    exact vc
  · replace vc := vc.2 c
    refine xi_aload_n (by decide +kernel : decode mX11_tellTable.2.1 104 = .ok (.aload_n 0, 1)) rfl rfl (?_ : XW _ _ _ _ _ _ _ 105 _ _)
    refine xi_getR (y := 67) (by decide +kernel : decode mX11_tellTable.2.1 105 = .ok (.getfield 61, 3)) fX11_61 rfl (by omega) rfl (mp_to hM) (?_ : XW _ _ _ _ _ _ _ 108 _ _)
    refine xi_bipush (v := 101) (by decide +kernel : decode mX11_tellTable.2.1 108 = .ok (.bipush 101, 2)) (by decide) (?_ : XW _ _ _ _ _ _ _ 110 _ _)
    refine xi_iload (by decide +kernel : decode mX11_tellTable.2.1 110 = .ok (.iload 5, 2)) rfl (?_ : XW _ _ _ _ _ _ _ 112 _ _)
    refine xi_imul (by decide +kernel : decode mX11_tellTable.2.1 112 = .ok (.imul, 1)) (?_ : XW _ _ _ _ _ _ _ 113 _ _)
    refine xi_iload (by decide +kernel : decode mX11_tellTable.2.1 113 = .ok (.iload 6, 2)) rfl (?_ : XW _ _ _ _ _ _ _ 115 _ _)
    refine xi_iadd (by decide +kernel : decode mX11_tellTable.2.1 115 = .ok (.iadd, 1)) (?_ : XW _ _ _ _ _ _ _ 116 _ _)
    refine xi_aload_n (by decide +kernel : decode mX11_tellTable.2.1 116 = .ok (.aload_n 0, 1)) rfl rfl (?_ : XW _ _ _ _ _ _ _ 117 _ _)
    refine xi_iload (by decide +kernel : decode mX11_tellTable.2.1 117 = .ok (.iload 5, 2)) rfl (?_ : XW _ _ _ _ _ _ _ 119 _ _)
    refine xi_iload (by decide +kernel : decode mX11_tellTable.2.1 119 = .ok (.iload 6, 2)) rfl (?_ : XW _ _ _ _ _ _ _ 121 _ _)
    refine xi_iload (by decide +kernel : decode mX11_tellTable.2.1 121 = .ok (.iload 4, 2)) rfl (?_ : XW _ _ _ _ _ _ _ 123 _ _)
    obtain ⟨Q1, sp, vc⟩ := vc
    refine xi_callV (b := 0) (bs := 0) (As := [.int x5, .int x6, .int x4]) (st := [.int ((101 * x5) + x6), .ref 67]) (by decide +kernel : decode mX11_tellTable.2.1 123 = .ok (.invokevirtual 350, 3)) kX11_350 rfl rfl (by omega) rfl sp (by decide) (by decide) (Nat.le_of_ble_eq_true rfl) (by omega) (fun v9 h1 hq9 => ?_)
    obtain ⟨r1, e9, vc⟩ := vc v9 h1 hq9
    subst e9
    show XW _ _ _ _ _ _ _ 126 _ [.int r1, .int ((101 * x5) + x6), .ref 67]
    obtain ⟨s1, vc⟩ := vc
    refine xi_iast (by decide +kernel : decode mX11_tellTable.2.1 126 = .ok (.iastore, 1)) rfl (by omega) s1 (?_ : XW _ _ _ _ _ _ (xSI 67 (va_up (xI h1 67) ((101 * x5) + x6).toNatClampNeg r1) h1) 127 _ _)
    refine xi_iinc (v := x6 + 1) (ls' := [some (.ref 56), none, none, none, some (.int x4), some (.int x5), some (.int (x6 + 1))]) (by decide +kernel : decode mX11_tellTable.2.1 127 = .ok (.iinc 6 1, 3)) rfl rfl (by decide) rfl (?_ : XW _ _ _ _ _ _ _ 130 _ _)
    refine xi_goto (by decide +kernel : decode mX11_tellTable.2.1 130 = .ok (.goto (-37), 3)) (by decide) (?_ : XW _ _ _ _ _ _ _ 93 _ _)
    exact vc

set_option maxRecDepth 20000 in
theorem v_X11_tellBoard_0 {h : XH} {Q : Option Value → XH → Prop} {X : String → XH → Prop} (hM : xMod (xP h)) 
    (vc : ∃ Q1, XSpec mX11_tellTable 4 0 0 100 100 [.ref 56, .int (-1), .int 0, .int 0, .int (xI h 59 3)] h Q1 xno ∧ ∀ v h1, Q1 v h1 → v = none ∧ (Q none h1)) :
    XW (xrm 5 0 0) mX11_tellBoard (xE 100 Q X 0 0) 100 0 0 h 0 [some (.ref 56)] [] := by
  refine xi_aload_n (by decide +kernel : decode mX11_tellBoard.2.1 0 = .ok (.aload_n 0, 1)) rfl rfl (?_ : XW _ _ _ _ _ _ _ 1 _ _)
  refine xi_iconst (v := (-1)) (by decide +kernel : decode mX11_tellBoard.2.1 1 = .ok (.iconst (-1), 1)) (by decide) (?_ : XW _ _ _ _ _ _ _ 2 _ _)
  refine xi_iconst (v := 0) (by decide +kernel : decode mX11_tellBoard.2.1 2 = .ok (.iconst 0, 1)) (by decide) (?_ : XW _ _ _ _ _ _ _ 3 _ _)
  refine xi_iconst (v := 0) (by decide +kernel : decode mX11_tellBoard.2.1 3 = .ok (.iconst 0, 1)) (by decide) (?_ : XW _ _ _ _ _ _ _ 4 _ _)
  refine xi_aload_n (by decide +kernel : decode mX11_tellBoard.2.1 4 = .ok (.aload_n 0, 1)) rfl rfl (?_ : XW _ _ _ _ _ _ _ 5 _ _)
  refine xi_getR (y := 59) (by decide +kernel : decode mX11_tellBoard.2.1 5 = .ok (.getfield 32, 3)) fX11_32 rfl (by omega) rfl (mp_told hM) (?_ : XW _ _ _ _ _ _ _ 8 _ _)
  refine xi_iconst (v := 3) (by decide +kernel : decode mX11_tellBoard.2.1 8 = .ok (.iconst 3, 1)) (by decide) (?_ : XW _ _ _ _ _ _ _ 9 _ _)
  refine xi_iald (by decide +kernel : decode mX11_tellBoard.2.1 9 = .ok (.iaload, 1)) rfl (by omega) (by unfold vp_in; decide) (?_ : XW _ _ _ _ _ _ _ 10 _ [.int (xI h 59 3), .int 0, .int 0, .int (-1), .ref 56])
  obtain ⟨Q1, sp, vc⟩ := vc
  refine xi_callV (b := 0) (bs := 0) (As := [.int (-1), .int 0, .int 0, .int (xI h 59 3)]) (st := []) (by decide +kernel : decode mX11_tellBoard.2.1 10 = .ok (.invokevirtual 353, 3)) kX11_353 rfl rfl (by omega) rfl sp (by decide) (by decide) (Nat.le_of_ble_eq_true rfl) (by omega) (fun v9 h1 hq9 => ?_)
  obtain ⟨e9, vc⟩ := vc v9 h1 hq9
  subst e9
  show XW _ _ _ _ _ _ _ 13 _ []
  exact xi_vret (by decide +kernel : decode mX11_tellBoard.2.1 13 = .ok (.return_, 1)) rfl vc

