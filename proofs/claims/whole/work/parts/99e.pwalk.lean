/-! READ: the walks -/
theorem xrm_f {d e mc ms : Nat} (h : d < e) : d + 1 ≤ (xrm e mc ms).frames := h
theorem xrm_l {d e mc ms L : Nat} (h : d < e) (hL : L ≤ 45) : 64 * d + L + 19 ≤ (xrm e mc ms).locals := by
  show 64 * d + L + 19 ≤ 64 * e
  omega
set_option maxRecDepth 20000 in
theorem v_X4_isLetter_0 {h : XH} {Q : Option Value → XH → Prop} {X : String → XH → Prop}  (cx : Int32)
    (vc : (cx < 97 → Q (some (.int 0)) h) ∧ (¬ cx < 97 → (122 < cx → Q (some (.int 0)) h) ∧ (¬ 122 < cx → Q (some (.int 1)) h))) :
    XW (xrm 1 0 0) mX4_isLetter (xE 100 Q X 0 0) 100 0 0 h 0 [some (.int cx)] [] := by
  refine xi_iload_n (by decide +kernel : decode mX4_isLetter.2.1 0 = .ok (.iload_n 0, 1)) rfl rfl (?_ : XW _ _ _ _ _ _ _ 1 _ _)
  refine xi_bipush (v := 97) (by decide +kernel : decode mX4_isLetter.2.1 1 = .ok (.bipush 97, 2)) (by decide) (?_ : XW _ _ _ _ _ _ _ 3 _ _)
  refine xi_icmp_lt (by decide +kernel : decode mX4_isLetter.2.1 3 = .ok (.if_icmp .lt 13, 3)) (by decide) (fun c => (?_ : XW _ _ _ _ _ _ _ 16 _ _)) (fun c => (?_ : XW _ _ _ _ _ _ _ 6 _ _))
  · replace vc := vc.1 c
    refine xi_iconst (v := 0) (by decide +kernel : decode mX4_isLetter.2.1 16 = .ok (.iconst 0, 1)) (by decide) (?_ : XW _ _ _ _ _ _ _ 17 _ _)
    exact xi_iret (by decide +kernel : decode mX4_isLetter.2.1 17 = .ok (.ireturn, 1)) rfl rfl vc
  · replace vc := vc.2 c
    refine xi_iload_n (by decide +kernel : decode mX4_isLetter.2.1 6 = .ok (.iload_n 0, 1)) rfl rfl (?_ : XW _ _ _ _ _ _ _ 7 _ _)
    refine xi_bipush (v := 122) (by decide +kernel : decode mX4_isLetter.2.1 7 = .ok (.bipush 122, 2)) (by decide) (?_ : XW _ _ _ _ _ _ _ 9 _ _)
    refine xi_icmp_gt (by decide +kernel : decode mX4_isLetter.2.1 9 = .ok (.if_icmp .gt 7, 3)) (by decide) (fun c => (?_ : XW _ _ _ _ _ _ _ 16 _ _)) (fun c => (?_ : XW _ _ _ _ _ _ _ 12 _ _))
    · replace vc := vc.1 c
      refine xi_iconst (v := 0) (by decide +kernel : decode mX4_isLetter.2.1 16 = .ok (.iconst 0, 1)) (by decide) (?_ : XW _ _ _ _ _ _ _ 17 _ _)
      exact xi_iret (by decide +kernel : decode mX4_isLetter.2.1 17 = .ok (.ireturn, 1)) rfl rfl vc
    · replace vc := vc.2 c
      refine xi_iconst (v := 1) (by decide +kernel : decode mX4_isLetter.2.1 12 = .ok (.iconst 1, 1)) (by decide) (?_ : XW _ _ _ _ _ _ _ 13 _ _)
      refine xi_goto (by decide +kernel : decode mX4_isLetter.2.1 13 = .ok (.goto 4, 3)) (by decide) (?_ : XW _ _ _ _ _ _ _ 17 _ _)
      exact xi_iret (by decide +kernel : decode mX4_isLetter.2.1 17 = .ok (.ireturn, 1)) rfl rfl vc

set_option maxRecDepth 20000 in
theorem v_X4_isDigit_0 {h : XH} {Q : Option Value → XH → Prop} {X : String → XH → Prop}  (cx : Int32)
    (vc : (cx < 48 → Q (some (.int 0)) h) ∧ (¬ cx < 48 → (57 < cx → Q (some (.int 0)) h) ∧ (¬ 57 < cx → Q (some (.int 1)) h))) :
    XW (xrm 1 0 0) mX4_isDigit (xE 100 Q X 0 0) 100 0 0 h 0 [some (.int cx)] [] := by
  refine xi_iload_n (by decide +kernel : decode mX4_isDigit.2.1 0 = .ok (.iload_n 0, 1)) rfl rfl (?_ : XW _ _ _ _ _ _ _ 1 _ _)
  refine xi_bipush (v := 48) (by decide +kernel : decode mX4_isDigit.2.1 1 = .ok (.bipush 48, 2)) (by decide) (?_ : XW _ _ _ _ _ _ _ 3 _ _)
  refine xi_icmp_lt (by decide +kernel : decode mX4_isDigit.2.1 3 = .ok (.if_icmp .lt 13, 3)) (by decide) (fun c => (?_ : XW _ _ _ _ _ _ _ 16 _ _)) (fun c => (?_ : XW _ _ _ _ _ _ _ 6 _ _))
  · replace vc := vc.1 c
    refine xi_iconst (v := 0) (by decide +kernel : decode mX4_isDigit.2.1 16 = .ok (.iconst 0, 1)) (by decide) (?_ : XW _ _ _ _ _ _ _ 17 _ _)
    exact xi_iret (by decide +kernel : decode mX4_isDigit.2.1 17 = .ok (.ireturn, 1)) rfl rfl vc
  · replace vc := vc.2 c
    refine xi_iload_n (by decide +kernel : decode mX4_isDigit.2.1 6 = .ok (.iload_n 0, 1)) rfl rfl (?_ : XW _ _ _ _ _ _ _ 7 _ _)
    refine xi_bipush (v := 57) (by decide +kernel : decode mX4_isDigit.2.1 7 = .ok (.bipush 57, 2)) (by decide) (?_ : XW _ _ _ _ _ _ _ 9 _ _)
    refine xi_icmp_gt (by decide +kernel : decode mX4_isDigit.2.1 9 = .ok (.if_icmp .gt 7, 3)) (by decide) (fun c => (?_ : XW _ _ _ _ _ _ _ 16 _ _)) (fun c => (?_ : XW _ _ _ _ _ _ _ 12 _ _))
    · replace vc := vc.1 c
      refine xi_iconst (v := 0) (by decide +kernel : decode mX4_isDigit.2.1 16 = .ok (.iconst 0, 1)) (by decide) (?_ : XW _ _ _ _ _ _ _ 17 _ _)
      exact xi_iret (by decide +kernel : decode mX4_isDigit.2.1 17 = .ok (.ireturn, 1)) rfl rfl vc
    · replace vc := vc.2 c
      refine xi_iconst (v := 1) (by decide +kernel : decode mX4_isDigit.2.1 12 = .ok (.iconst 1, 1)) (by decide) (?_ : XW _ _ _ _ _ _ _ 13 _ _)
      refine xi_goto (by decide +kernel : decode mX4_isDigit.2.1 13 = .ok (.goto 4, 3)) (by decide) (?_ : XW _ _ _ _ _ _ _ 17 _ _)
      exact xi_iret (by decide +kernel : decode mX4_isDigit.2.1 17 = .ok (.ireturn, 1)) rfl rfl vc

set_option maxRecDepth 20000 in
theorem v_X4_isBlank_0 {h : XH} {Q : Option Value → XH → Prop} {X : String → XH → Prop}  (cx : Int32)
    (vc : (cx = 32 → Q (some (.int 1)) h) ∧ (¬ cx = 32 → (¬ cx = 10 → Q (some (.int 0)) h) ∧ (cx = 10 → Q (some (.int 1)) h))) :
    XW (xrm 1 0 0) mX4_isBlank (xE 100 Q X 0 0) 100 0 0 h 0 [some (.int cx)] [] := by
  refine xi_iload_n (by decide +kernel : decode mX4_isBlank.2.1 0 = .ok (.iload_n 0, 1)) rfl rfl (?_ : XW _ _ _ _ _ _ _ 1 _ _)
  refine xi_bipush (v := 32) (by decide +kernel : decode mX4_isBlank.2.1 1 = .ok (.bipush 32, 2)) (by decide) (?_ : XW _ _ _ _ _ _ _ 3 _ _)
  refine xi_icmp_eq (by decide +kernel : decode mX4_isBlank.2.1 3 = .ok (.if_icmp .eq 9, 3)) (by decide) (fun c => (?_ : XW _ _ _ _ _ _ _ 12 _ _)) (fun c => (?_ : XW _ _ _ _ _ _ _ 6 _ _))
  · replace vc := vc.1 c
    refine xi_iconst (v := 1) (by decide +kernel : decode mX4_isBlank.2.1 12 = .ok (.iconst 1, 1)) (by decide) (?_ : XW _ _ _ _ _ _ _ 13 _ _)
    refine xi_goto (by decide +kernel : decode mX4_isBlank.2.1 13 = .ok (.goto 4, 3)) (by decide) (?_ : XW _ _ _ _ _ _ _ 17 _ _)
    exact xi_iret (by decide +kernel : decode mX4_isBlank.2.1 17 = .ok (.ireturn, 1)) rfl rfl vc
  · replace vc := vc.2 c
    refine xi_iload_n (by decide +kernel : decode mX4_isBlank.2.1 6 = .ok (.iload_n 0, 1)) rfl rfl (?_ : XW _ _ _ _ _ _ _ 7 _ _)
    refine xi_bipush (v := 10) (by decide +kernel : decode mX4_isBlank.2.1 7 = .ok (.bipush 10, 2)) (by decide) (?_ : XW _ _ _ _ _ _ _ 9 _ _)
    refine xi_icmp_ne (by decide +kernel : decode mX4_isBlank.2.1 9 = .ok (.if_icmp .ne 7, 3)) (by decide) (fun c => (?_ : XW _ _ _ _ _ _ _ 16 _ _)) (fun c => (?_ : XW _ _ _ _ _ _ _ 12 _ _))
    · replace vc := vc.1 c
      refine xi_iconst (v := 0) (by decide +kernel : decode mX4_isBlank.2.1 16 = .ok (.iconst 0, 1)) (by decide) (?_ : XW _ _ _ _ _ _ _ 17 _ _)
      exact xi_iret (by decide +kernel : decode mX4_isBlank.2.1 17 = .ok (.ireturn, 1)) rfl rfl vc
    · replace vc := vc.2 c
      refine xi_iconst (v := 1) (by decide +kernel : decode mX4_isBlank.2.1 12 = .ok (.iconst 1, 1)) (by decide) (?_ : XW _ _ _ _ _ _ _ 13 _ _)
      refine xi_goto (by decide +kernel : decode mX4_isBlank.2.1 13 = .ok (.goto 4, 3)) (by decide) (?_ : XW _ _ _ _ _ _ _ 17 _ _)
      exact xi_iret (by decide +kernel : decode mX4_isBlank.2.1 17 = .ok (.ireturn, 1)) rfl rfl vc

set_option maxRecDepth 20000 in
theorem v_X4_signAt_0 {h : XH} {Q : Option Value → XH → Prop} {X : String → XH → Prop} (r : Nat) (hrd : xRdr r (xP h)) (hr : xRul r (xP h)) (hnr : r + 9 ≤ 100)  (k : Int32)
    (vc : (k < 0 → Q (some (.int 0)) h) ∧ (¬ k < 0 → ((xI h 11 2) ≤ k → Q (some (.int 0)) h) ∧ (¬ (xI h 11 2) ≤ k → (500 ≤ k → Q (some (.int 0)) h) ∧ (¬ 500 ≤ k → (vp_in k 500) ∧ ((narrow .char (.int (xI h 1 k.toNatClampNeg)) = .int (xI h 1 k.toNatClampNeg)) ∧ (Q (some (.int (xI h 1 k.toNatClampNeg))) h)))))) :
    XW (xrm 1 0 0) mX4_signAt (xE 100 Q X 0 0) 100 0 0 h 0 [some (.ref 11), some (.int k)] [] := by
  refine xi_iload_n (by decide +kernel : decode mX4_signAt.2.1 0 = .ok (.iload_n 1, 1)) rfl rfl (?_ : XW _ _ _ _ _ _ _ 1 _ _)
  refine xi_if_lt (by decide +kernel : decode mX4_signAt.2.1 1 = .ok (.ifCond .lt 29, 3)) (by decide) (fun c => (?_ : XW _ _ _ _ _ _ _ 30 _ _)) (fun c => (?_ : XW _ _ _ _ _ _ _ 4 _ _))
  · replace vc := vc.1 c
    refine xi_iconst (v := 0) (by decide +kernel : decode mX4_signAt.2.1 30 = .ok (.iconst 0, 1)) (by decide) (?_ : XW _ _ _ _ _ _ _ 31 _ _)
    exact xi_iret (by decide +kernel : decode mX4_signAt.2.1 31 = .ok (.ireturn, 1)) rfl rfl vc
  · replace vc := vc.2 c
    refine xi_iload_n (by decide +kernel : decode mX4_signAt.2.1 4 = .ok (.iload_n 1, 1)) rfl rfl (?_ : XW _ _ _ _ _ _ _ 5 _ _)
    refine xi_aload_n (by decide +kernel : decode mX4_signAt.2.1 5 = .ok (.aload_n 0, 1)) rfl rfl (?_ : XW _ _ _ _ _ _ _ 6 _ _)
    refine xi_getI (by decide +kernel : decode mX4_signAt.2.1 6 = .ok (.getfield 31, 3)) fX4_31 rfl (by omega) rfl (?_ : XW _ _ _ _ _ _ _ 9 _ _)
    refine xi_icmp_ge (by decide +kernel : decode mX4_signAt.2.1 9 = .ok (.if_icmp .ge 21, 3)) (by decide) (fun c => (?_ : XW _ _ _ _ _ _ _ 30 _ _)) (fun c => (?_ : XW _ _ _ _ _ _ _ 12 _ _))
    · replace vc := vc.1 c
      refine xi_iconst (v := 0) (by decide +kernel : decode mX4_signAt.2.1 30 = .ok (.iconst 0, 1)) (by decide) (?_ : XW _ _ _ _ _ _ _ 31 _ _)
      exact xi_iret (by decide +kernel : decode mX4_signAt.2.1 31 = .ok (.ireturn, 1)) rfl rfl vc
    · replace vc := vc.2 c
      refine xi_iload_n (by decide +kernel : decode mX4_signAt.2.1 12 = .ok (.iload_n 1, 1)) rfl rfl (?_ : XW _ _ _ _ _ _ _ 13 _ _)
      refine xi_aload_n (by decide +kernel : decode mX4_signAt.2.1 13 = .ok (.aload_n 0, 1)) rfl rfl (?_ : XW _ _ _ _ _ _ _ 14 _ _)
      refine xi_getR (y := 1) (by decide +kernel : decode mX4_signAt.2.1 14 = .ok (.getfield 18, 3)) fX4_18 rfl (by omega) rfl hrd.1 (?_ : XW _ _ _ _ _ _ _ 17 _ _)
      refine xi_alen (v := 500) (by decide +kernel : decode mX4_signAt.2.1 17 = .ok (.arraylength, 1)) rfl (by omega) (Or.inl rfl) rfl (?_ : XW _ _ _ _ _ _ _ 18 _ _)
      refine xi_icmp_ge (by decide +kernel : decode mX4_signAt.2.1 18 = .ok (.if_icmp .ge 12, 3)) (by decide) (fun c => (?_ : XW _ _ _ _ _ _ _ 30 _ _)) (fun c => (?_ : XW _ _ _ _ _ _ _ 21 _ _))
      · replace vc := vc.1 c
        refine xi_iconst (v := 0) (by decide +kernel : decode mX4_signAt.2.1 30 = .ok (.iconst 0, 1)) (by decide) (?_ : XW _ _ _ _ _ _ _ 31 _ _)
        exact xi_iret (by decide +kernel : decode mX4_signAt.2.1 31 = .ok (.ireturn, 1)) rfl rfl vc
      · replace vc := vc.2 c
        refine xi_aload_n (by decide +kernel : decode mX4_signAt.2.1 21 = .ok (.aload_n 0, 1)) rfl rfl (?_ : XW _ _ _ _ _ _ _ 22 _ _)
        refine xi_getR (y := 1) (by decide +kernel : decode mX4_signAt.2.1 22 = .ok (.getfield 18, 3)) fX4_18 rfl (by omega) rfl hrd.1 (?_ : XW _ _ _ _ _ _ _ 25 _ _)
        refine xi_iload_n (by decide +kernel : decode mX4_signAt.2.1 25 = .ok (.iload_n 1, 1)) rfl rfl (?_ : XW _ _ _ _ _ _ _ 26 _ _)
        obtain ⟨s1, vc⟩ := vc
        refine xi_cald (by decide +kernel : decode mX4_signAt.2.1 26 = .ok (.caload, 1)) rfl (by omega) s1 (?_ : XW _ _ _ _ _ _ _ 27 _ _)
        refine xi_goto (by decide +kernel : decode mX4_signAt.2.1 27 = .ok (.goto 4, 3)) (by decide) (?_ : XW _ _ _ _ _ _ _ 31 _ _)
        obtain ⟨s1, vc⟩ := vc
        exact xi_iret (by decide +kernel : decode mX4_signAt.2.1 31 = .ok (.ireturn, 1)) rfl s1 vc

set_option maxRecDepth 20000 in
theorem v_X4_fail_0 {h : XH} {Q : Option Value → XH → Prop} {X : String → XH → Prop} (r : Nat) (hrd : xRdr r (xP h)) (hr : xRul r (xP h)) (hnr : r + 9 ≤ 100)  (k : Int32)
    (vc : Q (some (.int 0)) (xSI 11 (va_up (xI h 11) 5 k) h)) :
    XW (xrm 1 0 0) mX4_fail (xE 100 Q X 0 0) 100 0 0 h 0 [some (.ref 11), some (.int k)] [] := by
  refine xi_aload_n (by decide +kernel : decode mX4_fail.2.1 0 = .ok (.aload_n 0, 1)) rfl rfl (?_ : XW _ _ _ _ _ _ _ 1 _ _)
  refine xi_iload_n (by decide +kernel : decode mX4_fail.2.1 1 = .ok (.iload_n 1, 1)) rfl rfl (?_ : XW _ _ _ _ _ _ _ 2 _ _)
  refine xi_putI (by decide +kernel : decode mX4_fail.2.1 2 = .ok (.putfield 38, 3)) fX4_38 rfl (by omega) rfl rfl rfl (?_ : XW _ _ _ _ _ _ (xSI 11 (va_up (xI h 11) 5 k) h) 5 _ _)
  refine xi_iconst (v := 0) (by decide +kernel : decode mX4_fail.2.1 5 = .ok (.iconst 0, 1)) (by decide) (?_ : XW _ _ _ _ _ _ _ 6 _ _)
  exact xi_iret (by decide +kernel : decode mX4_fail.2.1 6 = .ok (.ireturn, 1)) rfl rfl vc

set_option maxRecDepth 20000 in
theorem v_X4_readOn_0 {h : XH} {Q : Option Value → XH → Prop} {X : String → XH → Prop} (r : Nat) (hrd : xRdr r (xP h)) (hr : xRul r (xP h)) (hnr : r + 9 ≤ 100) 
    (vc : XW (xrm 14 0 0) mX4_readOn (xE 100 Q X 0 0) 100 0 0 (xSI 11 (va_up (xI h 11) 0 (xI h 11 3)) h) 8 [some (.ref 11), none] []) :
    XW (xrm 14 0 0) mX4_readOn (xE 100 Q X 0 0) 100 0 0 h 0 [some (.ref 11), none] [] := by
  refine xi_aload_n (by decide +kernel : decode mX4_readOn.2.1 0 = .ok (.aload_n 0, 1)) rfl rfl (?_ : XW _ _ _ _ _ _ _ 1 _ _)
  refine xi_aload_n (by decide +kernel : decode mX4_readOn.2.1 1 = .ok (.aload_n 0, 1)) rfl rfl (?_ : XW _ _ _ _ _ _ _ 2 _ _)
  refine xi_getI (by decide +kernel : decode mX4_readOn.2.1 2 = .ok (.getfield 44, 3)) fX4_44 rfl (by omega) rfl (?_ : XW _ _ _ _ _ _ _ 5 _ _)
  refine xi_putI (by decide +kernel : decode mX4_readOn.2.1 5 = .ok (.putfield 66, 3)) fX4_66 rfl (by omega) rfl rfl rfl (?_ : XW _ _ _ _ _ _ (xSI 11 (va_up (xI h 11) 0 (xI h 11 3)) h) 8 _ _)
  exact vc

set_option maxRecDepth 20000 in
theorem v_X4_readOn_8 {h : XH} {Q : Option Value → XH → Prop} {X : String → XH → Prop} (r : Nat) (hrd : xRdr r (xP h)) (hr : xRul r (xP h)) (hnr : r + 9 ≤ 100) 
    (vc : ((xI h 11 2) ≤ (xI h 11 0) → XW (xrm 14 0 0) mX4_readOn (xE 100 Q X 0 0) 100 0 0 h 46 [some (.ref 11), none] []) ∧ (¬ (xI h 11 2) ≤ (xI h 11 0) → ∃ Q1, XSpec mX4_signAt 1 0 0 100 100 [.ref 11, .int (xI h 11 0)] h Q1 xno ∧ ∀ v h1, Q1 v h1 → ∃ r1 : Int32, v = some (.int r1) ∧ (∃ Q1, XSpec mX4_isBlank 1 0 0 100 100 [.int r1] h1 Q1 xno ∧ ∀ v h2, Q1 v h2 → ∃ r2 : Int32, v = some (.int r2) ∧ ((r2 = 0 → XW (xrm 14 0 0) mX4_readOn (xE 100 Q X 0 0) 100 0 0 h2 46 [some (.ref 11), none] []) ∧ (¬ r2 = 0 → XW (xrm 14 0 0) mX4_readOn (xE 100 Q X 0 0) 100 0 0 (xSI 11 (va_up (xI h2 11) 0 ((xI h2 11 0) + 1)) h2) 8 [some (.ref 11), none] []))))) :
    XW (xrm 14 0 0) mX4_readOn (xE 100 Q X 0 0) 100 0 0 h 8 [some (.ref 11), none] [] := by
  refine xi_aload_n (by decide +kernel : decode mX4_readOn.2.1 8 = .ok (.aload_n 0, 1)) rfl rfl (?_ : XW _ _ _ _ _ _ _ 9 _ _)
  refine xi_getI (by decide +kernel : decode mX4_readOn.2.1 9 = .ok (.getfield 66, 3)) fX4_66 rfl (by omega) rfl (?_ : XW _ _ _ _ _ _ _ 12 _ _)
  refine xi_aload_n (by decide +kernel : decode mX4_readOn.2.1 12 = .ok (.aload_n 0, 1)) rfl rfl (?_ : XW _ _ _ _ _ _ _ 13 _ _)
  refine xi_getI (by decide +kernel : decode mX4_readOn.2.1 13 = .ok (.getfield 31, 3)) fX4_31 rfl (by omega) rfl (?_ : XW _ _ _ _ _ _ _ 16 _ _)
  refine xi_icmp_ge (by decide +kernel : decode mX4_readOn.2.1 16 = .ok (.if_icmp .ge 30, 3)) (by decide) (fun c => (?_ : XW _ _ _ _ _ _ _ 46 _ _)) (fun c => (?_ : XW _ _ _ _ _ _ _ 19 _ _))
  · replace vc := vc.1 c
    exact vc
  · replace vc := vc.2 c
    refine xi_aload_n (by decide +kernel : decode mX4_readOn.2.1 19 = .ok (.aload_n 0, 1)) rfl rfl (?_ : XW _ _ _ _ _ _ _ 20 _ _)
    refine xi_aload_n (by decide +kernel : decode mX4_readOn.2.1 20 = .ok (.aload_n 0, 1)) rfl rfl (?_ : XW _ _ _ _ _ _ _ 21 _ _)
    refine xi_getI (by decide +kernel : decode mX4_readOn.2.1 21 = .ok (.getfield 66, 3)) fX4_66 rfl (by omega) rfl (?_ : XW _ _ _ _ _ _ _ 24 _ _)
    obtain ⟨Q1, sp, vc⟩ := vc
    refine xi_callV (b := 0) (bs := 0) (As := [.int (xI h 11 0)]) (st := []) (by decide +kernel : decode mX4_readOn.2.1 24 = .ok (.invokevirtual 69, 3)) kX4_69 rfl rfl (by omega) rfl sp (by decide) (by decide) (Nat.le_of_ble_eq_true rfl) (by omega) (fun v9 h1 hq9 => ?_)
    obtain ⟨r1, e9, vc⟩ := vc v9 h1 hq9
    subst e9
    show XW _ _ _ _ _ _ _ 27 _ [.int r1]
    obtain ⟨Q1, sp, vc⟩ := vc
    refine xi_callS (b := 0) (bs := 0) (As := [.int r1]) (st := []) (by decide +kernel : decode mX4_readOn.2.1 27 = .ok (.invokestatic 73, 3)) kX4_73 rfl rfl sp (by decide) (by decide) (Nat.le_of_ble_eq_true rfl) (by omega) (fun v9 h2 hq9 => ?_)
    obtain ⟨r2, e9, vc⟩ := vc v9 h2 hq9
    subst e9
    show XW _ _ _ _ _ _ _ 30 _ [.int r2]
    refine xi_if_eq (by decide +kernel : decode mX4_readOn.2.1 30 = .ok (.ifCond .eq 16, 3)) (by decide) (fun c => (?_ : XW _ _ _ _ _ _ _ 46 _ _)) (fun c => (?_ : XW _ _ _ _ _ _ _ 33 _ _))
    · replace vc := vc.1 c
      exact vc
    · replace vc := vc.2 c
      refine xi_aload_n (by decide +kernel : decode mX4_readOn.2.1 33 = .ok (.aload_n 0, 1)) rfl rfl (?_ : XW _ _ _ _ _ _ _ 34 _ _)
      refine xi_dup (by decide +kernel : decode mX4_readOn.2.1 34 = .ok (.dup, 1)) rfl (?_ : XW _ _ _ _ _ _ _ 35 _ _)
      refine xi_getI (by decide +kernel : decode mX4_readOn.2.1 35 = .ok (.getfield 66, 3)) fX4_66 rfl (by omega) rfl (?_ : XW _ _ _ _ _ _ _ 38 _ _)
      refine xi_iconst (v := 1) (by decide +kernel : decode mX4_readOn.2.1 38 = .ok (.iconst 1, 1)) (by decide) (?_ : XW _ _ _ _ _ _ _ 39 _ _)
      refine xi_iadd (by decide +kernel : decode mX4_readOn.2.1 39 = .ok (.iadd, 1)) (?_ : XW _ _ _ _ _ _ _ 40 _ _)
      refine xi_putI (by decide +kernel : decode mX4_readOn.2.1 40 = .ok (.putfield 66, 3)) fX4_66 rfl (by omega) rfl rfl rfl (?_ : XW _ _ _ _ _ _ (xSI 11 (va_up (xI h2 11) 0 ((xI h2 11 0) + 1)) h2) 43 _ _)
      refine xi_goto (by decide +kernel : decode mX4_readOn.2.1 43 = .ok (.goto (-35), 3)) (by decide) (?_ : XW _ _ _ _ _ _ _ 8 _ _)
      exact vc

set_option maxRecDepth 20000 in
theorem v_X4_readOn_46 {h : XH} {Q : Option Value → XH → Prop} {X : String → XH → Prop} (r : Nat) (hrd : xRdr r (xP h)) (hr : xRul r (xP h)) (hnr : r + 9 ≤ 100) 
    (vc : ∃ Q1, XSpec mX4_signAt 1 0 0 100 100 [.ref 11, .int (va_up (xI h 11) 3 (xI h 11 0) 0)] (xSI 11 (va_up (xI h 11) 3 (xI h 11 0)) h) Q1 xno ∧ ∀ v h3, Q1 v h3 → ∃ r3 : Int32, v = some (.int r3) ∧ (((xI h3 11 0) < (xI h3 11 2) → ∃ Q1, XSpec mX4_isLetter 1 0 0 100 100 [.int r3] h3 Q1 xno ∧ ∀ v h4, Q1 v h4 → ∃ r4 : Int32, v = some (.int r4) ∧ ((r4 = 0 → ∃ Q1, XSpec mX4_isDigit 1 0 0 100 100 [.int r3] h4 Q1 xno ∧ ∀ v h5, Q1 v h5 → ∃ r5 : Int32, v = some (.int r5) ∧ ((r5 = 0 → ∃ Q1, XSpec mJ0_indexOf_0f7a4 4 0 0 100 100 [.ref (1000 + 0), .int r3] h5 Q1 xno ∧ ∀ v h6, Q1 v h6 → ∃ r6 : Int32, v = some (.int r6) ∧ ((r6 < 0 → XW (xrm 14 0 0) mX4_readOn (xE 100 Q X 0 0) 100 0 0 (xSI 11 (va_up (va_up (xI h6 11) 4 4) 3 ((va_up (xI h6 11) 4 4 3) + 1)) (xSI 11 (va_up (xI h6 11) 4 4) h6)) 210 [none, none] []) ∧ (¬ r6 < 0 → XW (xrm 14 0 0) mX4_readOn (xE 100 Q X 0 0) 100 0 0 (xSI 11 (va_up (va_up (xI h6 11) 4 3) 3 ((va_up (xI h6 11) 4 3 3) + 1)) (xSI 11 (va_up (xI h6 11) 4 3) h6)) 210 [none, none] []))) ∧ (¬ r5 = 0 → XW (xrm 14 0 0) mX4_readOn (xE 100 Q X 0 0) 100 0 0 (xSI 11 (va_up (xI h5 11) 4 2) h5) 144 [some (.ref 11), none] []))) ∧ (¬ r4 = 0 → XW (xrm 14 0 0) mX4_readOn (xE 100 Q X 0 0) 100 0 0 (xSI 11 (va_up (xI h4 11) 4 1) h4) 94 [some (.ref 11), none] []))) ∧ (¬ (xI h3 11 0) < (xI h3 11 2) → XW (xrm 14 0 0) mX4_readOn (xE 100 Q X 0 0) 100 0 0 (xSI 11 (va_up (xI h3 11) 4 0) h3) 210 [none, none] []))) :
    XW (xrm 14 0 0) mX4_readOn (xE 100 Q X 0 0) 100 0 0 h 46 [some (.ref 11), none] [] := by
  refine xi_aload_n (by decide +kernel : decode mX4_readOn.2.1 46 = .ok (.aload_n 0, 1)) rfl rfl (?_ : XW _ _ _ _ _ _ _ 47 _ _)
  refine xi_aload_n (by decide +kernel : decode mX4_readOn.2.1 47 = .ok (.aload_n 0, 1)) rfl rfl (?_ : XW _ _ _ _ _ _ _ 48 _ _)
  refine xi_getI (by decide +kernel : decode mX4_readOn.2.1 48 = .ok (.getfield 66, 3)) fX4_66 rfl (by omega) rfl (?_ : XW _ _ _ _ _ _ _ 51 _ _)
  refine xi_putI (by decide +kernel : decode mX4_readOn.2.1 51 = .ok (.putfield 44, 3)) fX4_44 rfl (by omega) rfl rfl rfl (?_ : XW _ _ _ _ _ _ (xSI 11 (va_up (xI h 11) 3 (xI h 11 0)) h) 54 _ _)
  refine xi_aload_n (by decide +kernel : decode mX4_readOn.2.1 54 = .ok (.aload_n 0, 1)) rfl rfl (?_ : XW _ _ _ _ _ _ _ 55 _ _)
  refine xi_aload_n (by decide +kernel : decode mX4_readOn.2.1 55 = .ok (.aload_n 0, 1)) rfl rfl (?_ : XW _ _ _ _ _ _ _ 56 _ _)
  refine xi_getI (by decide +kernel : decode mX4_readOn.2.1 56 = .ok (.getfield 66, 3)) fX4_66 rfl (by omega) rfl (?_ : XW _ _ _ _ _ _ _ 59 _ [.int (va_up (xI h 11) 3 (xI h 11 0) 0), .ref 11])
  obtain ⟨Q1, sp, vc⟩ := vc
  refine xi_callV (b := 0) (bs := 0) (As := [.int (va_up (xI h 11) 3 (xI h 11 0) 0)]) (st := []) (by decide +kernel : decode mX4_readOn.2.1 59 = .ok (.invokevirtual 69, 3)) kX4_69 rfl rfl (by omega) rfl sp (by decide) (by decide) (Nat.le_of_ble_eq_true rfl) (by omega) (fun v9 h3 hq9 => ?_)
  obtain ⟨r3, e9, vc⟩ := vc v9 h3 hq9
  subst e9
  show XW _ _ _ _ _ _ _ 62 _ [.int r3]
  refine xi_istore_n (ls' := [some (.ref 11), some (.int r3)]) (by decide +kernel : decode mX4_readOn.2.1 62 = .ok (.istore_n 1, 1)) rfl (by decide) rfl (?_ : XW _ _ _ _ _ _ _ 63 _ _)
  refine xi_aload_n (by decide +kernel : decode mX4_readOn.2.1 63 = .ok (.aload_n 0, 1)) rfl rfl (?_ : XW _ _ _ _ _ _ _ 64 _ _)
  refine xi_getI (by decide +kernel : decode mX4_readOn.2.1 64 = .ok (.getfield 66, 3)) fX4_66 rfl (by omega) rfl (?_ : XW _ _ _ _ _ _ _ 67 _ _)
  refine xi_aload_n (by decide +kernel : decode mX4_readOn.2.1 67 = .ok (.aload_n 0, 1)) rfl rfl (?_ : XW _ _ _ _ _ _ _ 68 _ _)
  refine xi_getI (by decide +kernel : decode mX4_readOn.2.1 68 = .ok (.getfield 31, 3)) fX4_31 rfl (by omega) rfl (?_ : XW _ _ _ _ _ _ _ 71 _ _)
  refine xi_icmp_lt (by decide +kernel : decode mX4_readOn.2.1 71 = .ok (.if_icmp .lt 11, 3)) (by decide) (fun c => (?_ : XW _ _ _ _ _ _ _ 82 _ _)) (fun c => (?_ : XW _ _ _ _ _ _ _ 74 _ _))
  · replace vc := vc.1 c
    refine xi_iload_n (by decide +kernel : decode mX4_readOn.2.1 82 = .ok (.iload_n 1, 1)) rfl rfl (?_ : XW _ _ _ _ _ _ _ 83 _ _)
    obtain ⟨Q1, sp, vc⟩ := vc
    refine xi_callS (b := 0) (bs := 0) (As := [.int r3]) (st := []) (by decide +kernel : decode mX4_readOn.2.1 83 = .ok (.invokestatic 77, 3)) kX4_77 rfl rfl sp (by decide) (by decide) (Nat.le_of_ble_eq_true rfl) (by omega) (fun v9 h4 hq9 => ?_)
    obtain ⟨r4, e9, vc⟩ := vc v9 h4 hq9
    subst e9
    show XW _ _ _ _ _ _ _ 86 _ [.int r4]
    refine xi_if_eq (by decide +kernel : decode mX4_readOn.2.1 86 = .ok (.ifCond .eq 46, 3)) (by decide) (fun c => (?_ : XW _ _ _ _ _ _ _ 132 _ _)) (fun c => (?_ : XW _ _ _ _ _ _ _ 89 _ _))
    · replace vc := vc.1 c
      refine xi_iload_n (by decide +kernel : decode mX4_readOn.2.1 132 = .ok (.iload_n 1, 1)) rfl rfl (?_ : XW _ _ _ _ _ _ _ 133 _ _)
      obtain ⟨Q1, sp, vc⟩ := vc
      refine xi_callS (b := 0) (bs := 0) (As := [.int r3]) (st := []) (by decide +kernel : decode mX4_readOn.2.1 133 = .ok (.invokestatic 80, 3)) kX4_80 rfl rfl sp (by decide) (by decide) (Nat.le_of_ble_eq_true rfl) (by omega) (fun v9 h5 hq9 => ?_)
      obtain ⟨r5, e9, vc⟩ := vc v9 h5 hq9
      subst e9
      show XW _ _ _ _ _ _ _ 136 _ [.int r5]
      refine xi_if_eq (by decide +kernel : decode mX4_readOn.2.1 136 = .ok (.ifCond .eq 46, 3)) (by decide) (fun c => (?_ : XW _ _ _ _ _ _ _ 182 _ _)) (fun c => (?_ : XW _ _ _ _ _ _ _ 139 _ _))
      · replace vc := vc.1 c
        refine xi_aload_n (by decide +kernel : decode mX4_readOn.2.1 182 = .ok (.aload_n 0, 1)) rfl rfl (?_ : XW _ _ _ _ _ _ _ 183 _ _)
        refine xi_ldcS (j := 0) (by decide +kernel : decode mX4_readOn.2.1 183 = .ok (.ldc 83, 2)) rfl (by decide) (?_ : XW _ _ _ _ _ _ _ 185 _ _)
        refine xi_iload_n (by decide +kernel : decode mX4_readOn.2.1 185 = .ok (.iload_n 1, 1)) rfl rfl (?_ : XW _ _ _ _ _ _ _ 186 _ _)
        obtain ⟨Q1, sp, vc⟩ := vc
        refine xi_callVs (b := 0) (bs := 0) (As := [.int r3]) (st := [.ref 11]) (by decide +kernel : decode mX4_readOn.2.1 186 = .ok (.invokevirtual 85, 3)) (xVs.of (own := RX4) (y := mJ0_indexOf_0f7a4) cM_X4_85 cI_J0_indexOf_0f7a4 cE_J0_indexOf_0f7a4 cN_J0 cC_J0_indexOf_0f7a4 cD_J0_indexOf_0f7a4) rfl (by decide) rfl sp (by decide) (by decide) (Nat.le_of_ble_eq_true rfl) (by omega) (fun v9 h6 hq9 => ?_)
        obtain ⟨r6, e9, vc⟩ := vc v9 h6 hq9
        subst e9
        show XW _ _ _ _ _ _ _ 189 _ [.int r6, .ref 11]
        refine xi_if_lt (by decide +kernel : decode mX4_readOn.2.1 189 = .ok (.ifCond .lt 7, 3)) (by decide) (fun c => (?_ : XW _ _ _ _ _ _ _ 196 _ _)) (fun c => (?_ : XW _ _ _ _ _ _ _ 192 _ _))
        · replace vc := vc.1 c
          refine xi_iconst (v := 4) (by decide +kernel : decode mX4_readOn.2.1 196 = .ok (.iconst 4, 1)) (by decide) (?_ : XW _ _ _ _ _ _ _ 197 _ _)
          refine xi_putI (by decide +kernel : decode mX4_readOn.2.1 197 = .ok (.putfield 60, 3)) fX4_60 rfl (by omega) rfl rfl rfl (?_ : XW _ _ _ _ _ _ (xSI 11 (va_up (xI h6 11) 4 4) h6) 200 _ _)
          refine xi_aload_n (by decide +kernel : decode mX4_readOn.2.1 200 = .ok (.aload_n 0, 1)) rfl rfl (?_ : XW _ _ _ _ _ _ _ 201 _ _)
          refine xi_dup (by decide +kernel : decode mX4_readOn.2.1 201 = .ok (.dup, 1)) rfl (?_ : XW _ _ _ _ _ _ _ 202 _ _)
          refine xi_getI (by decide +kernel : decode mX4_readOn.2.1 202 = .ok (.getfield 44, 3)) fX4_44 rfl (by omega) rfl (?_ : XW _ _ _ _ _ _ _ 205 _ [.int (va_up (xI h6 11) 4 4 3), .ref 11])
          refine xi_iconst (v := 1) (by decide +kernel : decode mX4_readOn.2.1 205 = .ok (.iconst 1, 1)) (by decide) (?_ : XW _ _ _ _ _ _ _ 206 _ _)
          refine xi_iadd (by decide +kernel : decode mX4_readOn.2.1 206 = .ok (.iadd, 1)) (?_ : XW _ _ _ _ _ _ _ 207 _ _)
          refine xi_putI (by decide +kernel : decode mX4_readOn.2.1 207 = .ok (.putfield 44, 3)) fX4_44 rfl (by omega) rfl rfl rfl (?_ : XW _ _ _ _ _ _ (xSI 11 (va_up (va_up (xI h6 11) 4 4) 3 ((va_up (xI h6 11) 4 4 3) + 1)) (xSI 11 (va_up (xI h6 11) 4 4) h6)) 210 _ _)
          refine xw_drop 0 (ls' := [none, some (.int r3)]) rfl ?_
          refine xw_drop 1 (ls' := [none, none]) rfl ?_
          exact vc
        · replace vc := vc.2 c
          refine xi_iconst (v := 3) (by decide +kernel : decode mX4_readOn.2.1 192 = .ok (.iconst 3, 1)) (by decide) (?_ : XW _ _ _ _ _ _ _ 193 _ _)
          refine xi_goto (by decide +kernel : decode mX4_readOn.2.1 193 = .ok (.goto 4, 3)) (by decide) (?_ : XW _ _ _ _ _ _ _ 197 _ _)
          refine xi_putI (by decide +kernel : decode mX4_readOn.2.1 197 = .ok (.putfield 60, 3)) fX4_60 rfl (by omega) rfl rfl rfl (?_ : XW _ _ _ _ _ _ (xSI 11 (va_up (xI h6 11) 4 3) h6) 200 _ _)
          refine xi_aload_n (by decide +kernel : decode mX4_readOn.2.1 200 = .ok (.aload_n 0, 1)) rfl rfl (?_ : XW _ _ _ _ _ _ _ 201 _ _)
          refine xi_dup (by decide +kernel : decode mX4_readOn.2.1 201 = .ok (.dup, 1)) rfl (?_ : XW _ _ _ _ _ _ _ 202 _ _)
          refine xi_getI (by decide +kernel : decode mX4_readOn.2.1 202 = .ok (.getfield 44, 3)) fX4_44 rfl (by omega) rfl (?_ : XW _ _ _ _ _ _ _ 205 _ [.int (va_up (xI h6 11) 4 3 3), .ref 11])
          refine xi_iconst (v := 1) (by decide +kernel : decode mX4_readOn.2.1 205 = .ok (.iconst 1, 1)) (by decide) (?_ : XW _ _ _ _ _ _ _ 206 _ _)
          refine xi_iadd (by decide +kernel : decode mX4_readOn.2.1 206 = .ok (.iadd, 1)) (?_ : XW _ _ _ _ _ _ _ 207 _ _)
          refine xi_putI (by decide +kernel : decode mX4_readOn.2.1 207 = .ok (.putfield 44, 3)) fX4_44 rfl (by omega) rfl rfl rfl (?_ : XW _ _ _ _ _ _ (xSI 11 (va_up (va_up (xI h6 11) 4 3) 3 ((va_up (xI h6 11) 4 3 3) + 1)) (xSI 11 (va_up (xI h6 11) 4 3) h6)) 210 _ _)
          refine xw_drop 0 (ls' := [none, some (.int r3)]) rfl ?_
          refine xw_drop 1 (ls' := [none, none]) rfl ?_
          exact vc
      · replace vc := vc.2 c
        refine xi_aload_n (by decide +kernel : decode mX4_readOn.2.1 139 = .ok (.aload_n 0, 1)) rfl rfl (?_ : XW _ _ _ _ _ _ _ 140 _ _)
        refine xi_iconst (v := 2) (by decide +kernel : decode mX4_readOn.2.1 140 = .ok (.iconst 2, 1)) (by decide) (?_ : XW _ _ _ _ _ _ _ 141 _ _)
        refine xi_putI (by decide +kernel : decode mX4_readOn.2.1 141 = .ok (.putfield 60, 3)) fX4_60 rfl (by omega) rfl rfl rfl (?_ : XW _ _ _ _ _ _ (xSI 11 (va_up (xI h5 11) 4 2) h5) 144 _ _)
        refine xw_drop 1 (ls' := [some (.ref 11), none]) rfl ?_
        exact vc
    · replace vc := vc.2 c
      refine xi_aload_n (by decide +kernel : decode mX4_readOn.2.1 89 = .ok (.aload_n 0, 1)) rfl rfl (?_ : XW _ _ _ _ _ _ _ 90 _ _)
      refine xi_iconst (v := 1) (by decide +kernel : decode mX4_readOn.2.1 90 = .ok (.iconst 1, 1)) (by decide) (?_ : XW _ _ _ _ _ _ _ 91 _ _)
      refine xi_putI (by decide +kernel : decode mX4_readOn.2.1 91 = .ok (.putfield 60, 3)) fX4_60 rfl (by omega) rfl rfl rfl (?_ : XW _ _ _ _ _ _ (xSI 11 (va_up (xI h4 11) 4 1) h4) 94 _ _)
      refine xw_drop 1 (ls' := [some (.ref 11), none]) rfl ?_
      exact vc
  · replace vc := vc.2 c
    refine xi_aload_n (by decide +kernel : decode mX4_readOn.2.1 74 = .ok (.aload_n 0, 1)) rfl rfl (?_ : XW _ _ _ _ _ _ _ 75 _ _)
    refine xi_iconst (v := 0) (by decide +kernel : decode mX4_readOn.2.1 75 = .ok (.iconst 0, 1)) (by decide) (?_ : XW _ _ _ _ _ _ _ 76 _ _)
    refine xi_putI (by decide +kernel : decode mX4_readOn.2.1 76 = .ok (.putfield 60, 3)) fX4_60 rfl (by omega) rfl rfl rfl (?_ : XW _ _ _ _ _ _ (xSI 11 (va_up (xI h3 11) 4 0) h3) 79 _ _)
    refine xi_goto (by decide +kernel : decode mX4_readOn.2.1 79 = .ok (.goto 131, 3)) (by decide) (?_ : XW _ _ _ _ _ _ _ 210 _ _)
    refine xw_drop 0 (ls' := [none, some (.int r3)]) rfl ?_
    refine xw_drop 1 (ls' := [none, none]) rfl ?_
    exact vc

set_option maxRecDepth 20000 in
theorem v_X4_readOn_210 {h : XH} {Q : Option Value → XH → Prop} {X : String → XH → Prop} (r : Nat) (hrd : xRdr r (xP h)) (hr : xRul r (xP h)) (hnr : r + 9 ≤ 100) 
    (vc : Q none h) :
    XW (xrm 14 0 0) mX4_readOn (xE 100 Q X 0 0) 100 0 0 h 210 [none, none] [] := by
  exact xi_vret (by decide +kernel : decode mX4_readOn.2.1 210 = .ok (.return_, 1)) rfl vc

set_option maxRecDepth 20000 in
theorem v_X4_readOn_144 {h : XH} {Q : Option Value → XH → Prop} {X : String → XH → Prop} (r : Nat) (hrd : xRdr r (xP h)) (hr : xRul r (xP h)) (hnr : r + 9 ≤ 100) 
    (vc : ((xI h 11 2) ≤ (xI h 11 3) → XW (xrm 14 0 0) mX4_readOn (xE 100 Q X 0 0) 100 0 0 h 210 [none, none] []) ∧ (¬ (xI h 11 2) ≤ (xI h 11 3) → ∃ Q1, XSpec mX4_signAt 1 0 0 100 100 [.ref 11, .int (xI h 11 3)] h Q1 xno ∧ ∀ v h7, Q1 v h7 → ∃ r7 : Int32, v = some (.int r7) ∧ (∃ Q1, XSpec mX4_isDigit 1 0 0 100 100 [.int r7] h7 Q1 xno ∧ ∀ v h8, Q1 v h8 → ∃ r8 : Int32, v = some (.int r8) ∧ ((r8 = 0 → XW (xrm 14 0 0) mX4_readOn (xE 100 Q X 0 0) 100 0 0 h8 210 [none, none] []) ∧ (¬ r8 = 0 → XW (xrm 14 0 0) mX4_readOn (xE 100 Q X 0 0) 100 0 0 (xSI 11 (va_up (xI h8 11) 3 ((xI h8 11 3) + 1)) h8) 144 [some (.ref 11), none] []))))) :
    XW (xrm 14 0 0) mX4_readOn (xE 100 Q X 0 0) 100 0 0 h 144 [some (.ref 11), none] [] := by
  refine xi_aload_n (by decide +kernel : decode mX4_readOn.2.1 144 = .ok (.aload_n 0, 1)) rfl rfl (?_ : XW _ _ _ _ _ _ _ 145 _ _)
  refine xi_getI (by decide +kernel : decode mX4_readOn.2.1 145 = .ok (.getfield 44, 3)) fX4_44 rfl (by omega) rfl (?_ : XW _ _ _ _ _ _ _ 148 _ _)
  refine xi_aload_n (by decide +kernel : decode mX4_readOn.2.1 148 = .ok (.aload_n 0, 1)) rfl rfl (?_ : XW _ _ _ _ _ _ _ 149 _ _)
  refine xi_getI (by decide +kernel : decode mX4_readOn.2.1 149 = .ok (.getfield 31, 3)) fX4_31 rfl (by omega) rfl (?_ : XW _ _ _ _ _ _ _ 152 _ _)
  refine xi_icmp_ge (by decide +kernel : decode mX4_readOn.2.1 152 = .ok (.if_icmp .ge 58, 3)) (by decide) (fun c => (?_ : XW _ _ _ _ _ _ _ 210 _ _)) (fun c => (?_ : XW _ _ _ _ _ _ _ 155 _ _))
  · replace vc := vc.1 c
    refine xw_drop 0 (ls' := [none, none]) rfl ?_
    exact vc
  · replace vc := vc.2 c
    refine xi_aload_n (by decide +kernel : decode mX4_readOn.2.1 155 = .ok (.aload_n 0, 1)) rfl rfl (?_ : XW _ _ _ _ _ _ _ 156 _ _)
    refine xi_aload_n (by decide +kernel : decode mX4_readOn.2.1 156 = .ok (.aload_n 0, 1)) rfl rfl (?_ : XW _ _ _ _ _ _ _ 157 _ _)
    refine xi_getI (by decide +kernel : decode mX4_readOn.2.1 157 = .ok (.getfield 44, 3)) fX4_44 rfl (by omega) rfl (?_ : XW _ _ _ _ _ _ _ 160 _ _)
    obtain ⟨Q1, sp, vc⟩ := vc
    refine xi_callV (b := 0) (bs := 0) (As := [.int (xI h 11 3)]) (st := []) (by decide +kernel : decode mX4_readOn.2.1 160 = .ok (.invokevirtual 69, 3)) kX4_69 rfl rfl (by omega) rfl sp (by decide) (by decide) (Nat.le_of_ble_eq_true rfl) (by omega) (fun v9 h7 hq9 => ?_)
    obtain ⟨r7, e9, vc⟩ := vc v9 h7 hq9
    subst e9
    show XW _ _ _ _ _ _ _ 163 _ [.int r7]
    obtain ⟨Q1, sp, vc⟩ := vc
    refine xi_callS (b := 0) (bs := 0) (As := [.int r7]) (st := []) (by decide +kernel : decode mX4_readOn.2.1 163 = .ok (.invokestatic 80, 3)) kX4_80 rfl rfl sp (by decide) (by decide) (Nat.le_of_ble_eq_true rfl) (by omega) (fun v9 h8 hq9 => ?_)
    obtain ⟨r8, e9, vc⟩ := vc v9 h8 hq9
    subst e9
    show XW _ _ _ _ _ _ _ 166 _ [.int r8]
    refine xi_if_eq (by decide +kernel : decode mX4_readOn.2.1 166 = .ok (.ifCond .eq 44, 3)) (by decide) (fun c => (?_ : XW _ _ _ _ _ _ _ 210 _ _)) (fun c => (?_ : XW _ _ _ _ _ _ _ 169 _ _))
    · replace vc := vc.1 c
      refine xw_drop 0 (ls' := [none, none]) rfl ?_
      exact vc
    · replace vc := vc.2 c
      refine xi_aload_n (by decide +kernel : decode mX4_readOn.2.1 169 = .ok (.aload_n 0, 1)) rfl rfl (?_ : XW _ _ _ _ _ _ _ 170 _ _)
      refine xi_dup (by decide +kernel : decode mX4_readOn.2.1 170 = .ok (.dup, 1)) rfl (?_ : XW _ _ _ _ _ _ _ 171 _ _)
      refine xi_getI (by decide +kernel : decode mX4_readOn.2.1 171 = .ok (.getfield 44, 3)) fX4_44 rfl (by omega) rfl (?_ : XW _ _ _ _ _ _ _ 174 _ _)
      refine xi_iconst (v := 1) (by decide +kernel : decode mX4_readOn.2.1 174 = .ok (.iconst 1, 1)) (by decide) (?_ : XW _ _ _ _ _ _ _ 175 _ _)
      refine xi_iadd (by decide +kernel : decode mX4_readOn.2.1 175 = .ok (.iadd, 1)) (?_ : XW _ _ _ _ _ _ _ 176 _ _)
      refine xi_putI (by decide +kernel : decode mX4_readOn.2.1 176 = .ok (.putfield 44, 3)) fX4_44 rfl (by omega) rfl rfl rfl (?_ : XW _ _ _ _ _ _ (xSI 11 (va_up (xI h8 11) 3 ((xI h8 11 3) + 1)) h8) 179 _ _)
      refine xi_goto (by decide +kernel : decode mX4_readOn.2.1 179 = .ok (.goto (-35), 3)) (by decide) (?_ : XW _ _ _ _ _ _ _ 144 _ _)
      exact vc

set_option maxRecDepth 20000 in
theorem v_X4_readOn_94 {h : XH} {Q : Option Value → XH → Prop} {X : String → XH → Prop} (r : Nat) (hrd : xRdr r (xP h)) (hr : xRul r (xP h)) (hnr : r + 9 ≤ 100) 
    (vc : ((xI h 11 2) ≤ (xI h 11 3) → XW (xrm 14 0 0) mX4_readOn (xE 100 Q X 0 0) 100 0 0 h 210 [none, none] []) ∧ (¬ (xI h 11 2) ≤ (xI h 11 3) → ∃ Q1, XSpec mX4_signAt 1 0 0 100 100 [.ref 11, .int (xI h 11 3)] h Q1 xno ∧ ∀ v h9, Q1 v h9 → ∃ r9 : Int32, v = some (.int r9) ∧ (∃ Q1, XSpec mX4_isLetter 1 0 0 100 100 [.int r9] h9 Q1 xno ∧ ∀ v h10, Q1 v h10 → ∃ r10 : Int32, v = some (.int r10) ∧ ((r10 = 0 → XW (xrm 14 0 0) mX4_readOn (xE 100 Q X 0 0) 100 0 0 h10 210 [none, none] []) ∧ (¬ r10 = 0 → XW (xrm 14 0 0) mX4_readOn (xE 100 Q X 0 0) 100 0 0 (xSI 11 (va_up (xI h10 11) 3 ((xI h10 11 3) + 1)) h10) 94 [some (.ref 11), none] []))))) :
    XW (xrm 14 0 0) mX4_readOn (xE 100 Q X 0 0) 100 0 0 h 94 [some (.ref 11), none] [] := by
  refine xi_aload_n (by decide +kernel : decode mX4_readOn.2.1 94 = .ok (.aload_n 0, 1)) rfl rfl (?_ : XW _ _ _ _ _ _ _ 95 _ _)
  refine xi_getI (by decide +kernel : decode mX4_readOn.2.1 95 = .ok (.getfield 44, 3)) fX4_44 rfl (by omega) rfl (?_ : XW _ _ _ _ _ _ _ 98 _ _)
  refine xi_aload_n (by decide +kernel : decode mX4_readOn.2.1 98 = .ok (.aload_n 0, 1)) rfl rfl (?_ : XW _ _ _ _ _ _ _ 99 _ _)
  refine xi_getI (by decide +kernel : decode mX4_readOn.2.1 99 = .ok (.getfield 31, 3)) fX4_31 rfl (by omega) rfl (?_ : XW _ _ _ _ _ _ _ 102 _ _)
  refine xi_icmp_ge (by decide +kernel : decode mX4_readOn.2.1 102 = .ok (.if_icmp .ge 108, 3)) (by decide) (fun c => (?_ : XW _ _ _ _ _ _ _ 210 _ _)) (fun c => (?_ : XW _ _ _ _ _ _ _ 105 _ _))
  · replace vc := vc.1 c
    refine xw_drop 0 (ls' := [none, none]) rfl ?_
    exact vc
  · replace vc := vc.2 c
    refine xi_aload_n (by decide +kernel : decode mX4_readOn.2.1 105 = .ok (.aload_n 0, 1)) rfl rfl (?_ : XW _ _ _ _ _ _ _ 106 _ _)
    refine xi_aload_n (by decide +kernel : decode mX4_readOn.2.1 106 = .ok (.aload_n 0, 1)) rfl rfl (?_ : XW _ _ _ _ _ _ _ 107 _ _)
    refine xi_getI (by decide +kernel : decode mX4_readOn.2.1 107 = .ok (.getfield 44, 3)) fX4_44 rfl (by omega) rfl (?_ : XW _ _ _ _ _ _ _ 110 _ _)
    obtain ⟨Q1, sp, vc⟩ := vc
    refine xi_callV (b := 0) (bs := 0) (As := [.int (xI h 11 3)]) (st := []) (by decide +kernel : decode mX4_readOn.2.1 110 = .ok (.invokevirtual 69, 3)) kX4_69 rfl rfl (by omega) rfl sp (by decide) (by decide) (Nat.le_of_ble_eq_true rfl) (by omega) (fun v9 h9 hq9 => ?_)
    obtain ⟨r9, e9, vc⟩ := vc v9 h9 hq9
    subst e9
    show XW _ _ _ _ _ _ _ 113 _ [.int r9]
    obtain ⟨Q1, sp, vc⟩ := vc
    refine xi_callS (b := 0) (bs := 0) (As := [.int r9]) (st := []) (by decide +kernel : decode mX4_readOn.2.1 113 = .ok (.invokestatic 77, 3)) kX4_77 rfl rfl sp (by decide) (by decide) (Nat.le_of_ble_eq_true rfl) (by omega) (fun v9 h10 hq9 => ?_)
    obtain ⟨r10, e9, vc⟩ := vc v9 h10 hq9
    subst e9
    show XW _ _ _ _ _ _ _ 116 _ [.int r10]
    refine xi_if_eq (by decide +kernel : decode mX4_readOn.2.1 116 = .ok (.ifCond .eq 94, 3)) (by decide) (fun c => (?_ : XW _ _ _ _ _ _ _ 210 _ _)) (fun c => (?_ : XW _ _ _ _ _ _ _ 119 _ _))
    · replace vc := vc.1 c
      refine xw_drop 0 (ls' := [none, none]) rfl ?_
      exact vc
    · replace vc := vc.2 c
      refine xi_aload_n (by decide +kernel : decode mX4_readOn.2.1 119 = .ok (.aload_n 0, 1)) rfl rfl (?_ : XW _ _ _ _ _ _ _ 120 _ _)
      refine xi_dup (by decide +kernel : decode mX4_readOn.2.1 120 = .ok (.dup, 1)) rfl (?_ : XW _ _ _ _ _ _ _ 121 _ _)
      refine xi_getI (by decide +kernel : decode mX4_readOn.2.1 121 = .ok (.getfield 44, 3)) fX4_44 rfl (by omega) rfl (?_ : XW _ _ _ _ _ _ _ 124 _ _)
      refine xi_iconst (v := 1) (by decide +kernel : decode mX4_readOn.2.1 124 = .ok (.iconst 1, 1)) (by decide) (?_ : XW _ _ _ _ _ _ _ 125 _ _)
      refine xi_iadd (by decide +kernel : decode mX4_readOn.2.1 125 = .ok (.iadd, 1)) (?_ : XW _ _ _ _ _ _ _ 126 _ _)
      refine xi_putI (by decide +kernel : decode mX4_readOn.2.1 126 = .ok (.putfield 44, 3)) fX4_44 rfl (by omega) rfl rfl rfl (?_ : XW _ _ _ _ _ _ (xSI 11 (va_up (xI h10 11) 3 ((xI h10 11 3) + 1)) h10) 129 _ _)
      refine xi_goto (by decide +kernel : decode mX4_readOn.2.1 129 = .ok (.goto (-35), 3)) (by decide) (?_ : XW _ _ _ _ _ _ _ 94 _ _)
      exact vc

set_option maxRecDepth 20000 in
theorem v_X4_isSign_0 {h : XH} {Q : Option Value → XH → Prop} {X : String → XH → Prop} (r : Nat) (hrd : xRdr r (xP h)) (hr : xRul r (xP h)) (hnr : r + 9 ≤ 100)  (cx : Int32)
    (vc : (¬ (xI h 11 4) = 3 → Q (some (.int 0)) h) ∧ ((xI h 11 4) = 3 → ∃ Q1, XSpec mX4_signAt 1 0 0 100 100 [.ref 11, .int (xI h 11 0)] h Q1 xno ∧ ∀ v h1, Q1 v h1 → ∃ r1 : Int32, v = some (.int r1) ∧ ((¬ r1 = cx → Q (some (.int 0)) h1) ∧ (r1 = cx → Q (some (.int 1)) h1)))) :
    XW (xrm 2 0 0) mX4_isSign (xE 100 Q X 0 0) 100 0 0 h 0 [some (.ref 11), some (.int cx)] [] := by
  refine xi_aload_n (by decide +kernel : decode mX4_isSign.2.1 0 = .ok (.aload_n 0, 1)) rfl rfl (?_ : XW _ _ _ _ _ _ _ 1 _ _)
  refine xi_getI (by decide +kernel : decode mX4_isSign.2.1 1 = .ok (.getfield 60, 3)) fX4_60 rfl (by omega) rfl (?_ : XW _ _ _ _ _ _ _ 4 _ _)
  refine xi_iconst (v := 3) (by decide +kernel : decode mX4_isSign.2.1 4 = .ok (.iconst 3, 1)) (by decide) (?_ : XW _ _ _ _ _ _ _ 5 _ _)
  refine xi_icmp_ne (by decide +kernel : decode mX4_isSign.2.1 5 = .ok (.if_icmp .ne 19, 3)) (by decide) (fun c => (?_ : XW _ _ _ _ _ _ _ 24 _ _)) (fun c => (?_ : XW _ _ _ _ _ _ _ 8 _ _))
  · replace vc := vc.1 c
    refine xi_iconst (v := 0) (by decide +kernel : decode mX4_isSign.2.1 24 = .ok (.iconst 0, 1)) (by decide) (?_ : XW _ _ _ _ _ _ _ 25 _ _)
    exact xi_iret (by decide +kernel : decode mX4_isSign.2.1 25 = .ok (.ireturn, 1)) rfl rfl vc
  · replace vc := vc.2 c
    refine xi_aload_n (by decide +kernel : decode mX4_isSign.2.1 8 = .ok (.aload_n 0, 1)) rfl rfl (?_ : XW _ _ _ _ _ _ _ 9 _ _)
    refine xi_aload_n (by decide +kernel : decode mX4_isSign.2.1 9 = .ok (.aload_n 0, 1)) rfl rfl (?_ : XW _ _ _ _ _ _ _ 10 _ _)
    refine xi_getI (by decide +kernel : decode mX4_isSign.2.1 10 = .ok (.getfield 66, 3)) fX4_66 rfl (by omega) rfl (?_ : XW _ _ _ _ _ _ _ 13 _ _)
    obtain ⟨Q1, sp, vc⟩ := vc
    refine xi_callV (b := 0) (bs := 0) (As := [.int (xI h 11 0)]) (st := []) (by decide +kernel : decode mX4_isSign.2.1 13 = .ok (.invokevirtual 69, 3)) kX4_69 rfl rfl (by omega) rfl sp (by decide) (by decide) (Nat.le_of_ble_eq_true rfl) (by omega) (fun v9 h1 hq9 => ?_)
    obtain ⟨r1, e9, vc⟩ := vc v9 h1 hq9
    subst e9
    show XW _ _ _ _ _ _ _ 16 _ [.int r1]
    refine xi_iload_n (by decide +kernel : decode mX4_isSign.2.1 16 = .ok (.iload_n 1, 1)) rfl rfl (?_ : XW _ _ _ _ _ _ _ 17 _ _)
    refine xi_icmp_ne (by decide +kernel : decode mX4_isSign.2.1 17 = .ok (.if_icmp .ne 7, 3)) (by decide) (fun c => (?_ : XW _ _ _ _ _ _ _ 24 _ _)) (fun c => (?_ : XW _ _ _ _ _ _ _ 20 _ _))
    · replace vc := vc.1 c
      refine xi_iconst (v := 0) (by decide +kernel : decode mX4_isSign.2.1 24 = .ok (.iconst 0, 1)) (by decide) (?_ : XW _ _ _ _ _ _ _ 25 _ _)
      exact xi_iret (by decide +kernel : decode mX4_isSign.2.1 25 = .ok (.ireturn, 1)) rfl rfl vc
    · replace vc := vc.2 c
      refine xi_iconst (v := 1) (by decide +kernel : decode mX4_isSign.2.1 20 = .ok (.iconst 1, 1)) (by decide) (?_ : XW _ _ _ _ _ _ _ 21 _ _)
      refine xi_goto (by decide +kernel : decode mX4_isSign.2.1 21 = .ok (.goto 4, 3)) (by decide) (?_ : XW _ _ _ _ _ _ _ 25 _ _)
      exact xi_iret (by decide +kernel : decode mX4_isSign.2.1 25 = .ok (.ireturn, 1)) rfl rfl vc

set_option maxRecDepth 20000 in
theorem v_X4_takeSign_0 {h : XH} {Q : Option Value → XH → Prop} {X : String → XH → Prop} (r : Nat) (hrd : xRdr r (xP h)) (hr : xRul r (xP h)) (hnr : r + 9 ≤ 100)  (cx : Int32)
    (vc : ∃ Q1, XSpec mX4_isSign 2 0 0 100 100 [.ref 11, .int cx] h Q1 xno ∧ ∀ v h1, Q1 v h1 → ∃ r1 : Int32, v = some (.int r1) ∧ ((¬ r1 = 0 → ∃ Q1, XSpec mX4_readOn 14 0 0 100 100 [.ref 11] h1 Q1 xno ∧ ∀ v h2, Q1 v h2 → v = none ∧ (Q (some (.int 1)) h2)) ∧ (r1 = 0 → ∃ Q1, XSpec mX4_fail 1 0 0 100 100 [.ref 11, .int 1] h1 Q1 xno ∧ ∀ v h3, Q1 v h3 → ∃ r3 : Int32, v = some (.int r3) ∧ ((narrow .boolean (.int r3) = .int r3) ∧ (Q (some (.int r3)) h3))))) :
    XW (xrm 15 0 0) mX4_takeSign (xE 100 Q X 0 0) 100 0 0 h 0 [some (.ref 11), some (.int cx)] [] := by
  refine xi_aload_n (by decide +kernel : decode mX4_takeSign.2.1 0 = .ok (.aload_n 0, 1)) rfl rfl (?_ : XW _ _ _ _ _ _ _ 1 _ _)
  refine xi_iload_n (by decide +kernel : decode mX4_takeSign.2.1 1 = .ok (.iload_n 1, 1)) rfl rfl (?_ : XW _ _ _ _ _ _ _ 2 _ _)
  obtain ⟨Q1, sp, vc⟩ := vc
  refine xi_callV (b := 0) (bs := 0) (As := [.int cx]) (st := []) (by decide +kernel : decode mX4_takeSign.2.1 2 = .ok (.invokevirtual 98, 3)) kX4_98 rfl rfl (by omega) rfl sp (by decide) (by decide) (Nat.le_of_ble_eq_true rfl) (by omega) (fun v9 h1 hq9 => ?_)
  obtain ⟨r1, e9, vc⟩ := vc v9 h1 hq9
  subst e9
  show XW _ _ _ _ _ _ _ 5 _ [.int r1]
  refine xi_if_ne (by decide +kernel : decode mX4_takeSign.2.1 5 = .ok (.ifCond .ne 9, 3)) (by decide) (fun c => (?_ : XW _ _ _ _ _ _ _ 14 _ _)) (fun c => (?_ : XW _ _ _ _ _ _ _ 8 _ _))
  · replace vc := vc.1 c
    refine xi_aload_n (by decide +kernel : decode mX4_takeSign.2.1 14 = .ok (.aload_n 0, 1)) rfl rfl (?_ : XW _ _ _ _ _ _ _ 15 _ _)
    obtain ⟨Q1, sp, vc⟩ := vc
    refine xi_callV (b := 0) (bs := 0) (As := []) (st := []) (by decide +kernel : decode mX4_takeSign.2.1 15 = .ok (.invokevirtual 47, 3)) kX4_47 rfl rfl (by omega) rfl sp (by decide) (by decide) (Nat.le_of_ble_eq_true rfl) (by omega) (fun v9 h2 hq9 => ?_)
    obtain ⟨e9, vc⟩ := vc v9 h2 hq9
    subst e9
    show XW _ _ _ _ _ _ _ 18 _ []
    refine xi_iconst (v := 1) (by decide +kernel : decode mX4_takeSign.2.1 18 = .ok (.iconst 1, 1)) (by decide) (?_ : XW _ _ _ _ _ _ _ 19 _ _)
    exact xi_iret (by decide +kernel : decode mX4_takeSign.2.1 19 = .ok (.ireturn, 1)) rfl rfl vc
  · replace vc := vc.2 c
    refine xi_aload_n (by decide +kernel : decode mX4_takeSign.2.1 8 = .ok (.aload_n 0, 1)) rfl rfl (?_ : XW _ _ _ _ _ _ _ 9 _ _)
    refine xi_iconst (v := 1) (by decide +kernel : decode mX4_takeSign.2.1 9 = .ok (.iconst 1, 1)) (by decide) (?_ : XW _ _ _ _ _ _ _ 10 _ _)
    obtain ⟨Q1, sp, vc⟩ := vc
    refine xi_callV (b := 0) (bs := 0) (As := [.int 1]) (st := []) (by decide +kernel : decode mX4_takeSign.2.1 10 = .ok (.invokevirtual 101, 3)) kX4_101 rfl rfl (by omega) rfl sp (by decide) (by decide) (Nat.le_of_ble_eq_true rfl) (by omega) (fun v9 h3 hq9 => ?_)
    obtain ⟨r3, e9, vc⟩ := vc v9 h3 hq9
    subst e9
    show XW _ _ _ _ _ _ _ 13 _ [.int r3]
    obtain ⟨s1, vc⟩ := vc
    exact xi_iret (by decide +kernel : decode mX4_takeSign.2.1 13 = .ok (.ireturn, 1)) rfl s1 vc

set_option maxRecDepth 20000 in
theorem v_X4_numberHere_0 {h : XH} {Q : Option Value → XH → Prop} {X : String → XH → Prop} (r : Nat) (hrd : xRdr r (xP h)) (hr : xRul r (xP h)) (hnr : r + 9 ≤ 100) 
    (vc : (((xI h 11 3) - (xI h 11 0)) ≤ 4 → XW (xrm 2 0 0) mX4_numberHere (xE 100 Q X 0 0) 100 0 0 h 22 [some (.ref 11), some (.int 0), some (.int (xI h 11 0))] []) ∧ (¬ ((xI h 11 3) - (xI h 11 0)) ≤ 4 → Q (some (.int (-1))) h)) :
    XW (xrm 2 0 0) mX4_numberHere (xE 100 Q X 0 0) 100 0 0 h 0 [some (.ref 11), none, none] [] := by
  refine xi_aload_n (by decide +kernel : decode mX4_numberHere.2.1 0 = .ok (.aload_n 0, 1)) rfl rfl (?_ : XW _ _ _ _ _ _ _ 1 _ _)
  refine xi_getI (by decide +kernel : decode mX4_numberHere.2.1 1 = .ok (.getfield 44, 3)) fX4_44 rfl (by omega) rfl (?_ : XW _ _ _ _ _ _ _ 4 _ _)
  refine xi_aload_n (by decide +kernel : decode mX4_numberHere.2.1 4 = .ok (.aload_n 0, 1)) rfl rfl (?_ : XW _ _ _ _ _ _ _ 5 _ _)
  refine xi_getI (by decide +kernel : decode mX4_numberHere.2.1 5 = .ok (.getfield 66, 3)) fX4_66 rfl (by omega) rfl (?_ : XW _ _ _ _ _ _ _ 8 _ _)
  refine xi_isub (by decide +kernel : decode mX4_numberHere.2.1 8 = .ok (.isub, 1)) (?_ : XW _ _ _ _ _ _ _ 9 _ _)
  refine xi_iconst (v := 4) (by decide +kernel : decode mX4_numberHere.2.1 9 = .ok (.iconst 4, 1)) (by decide) (?_ : XW _ _ _ _ _ _ _ 10 _ _)
  refine xi_icmp_le (by decide +kernel : decode mX4_numberHere.2.1 10 = .ok (.if_icmp .le 5, 3)) (by decide) (fun c => (?_ : XW _ _ _ _ _ _ _ 15 _ _)) (fun c => (?_ : XW _ _ _ _ _ _ _ 13 _ _))
  · replace vc := vc.1 c
    refine xi_iconst (v := 0) (by decide +kernel : decode mX4_numberHere.2.1 15 = .ok (.iconst 0, 1)) (by decide) (?_ : XW _ _ _ _ _ _ _ 16 _ _)
    refine xi_istore_n (ls' := [some (.ref 11), some (.int 0), none]) (by decide +kernel : decode mX4_numberHere.2.1 16 = .ok (.istore_n 1, 1)) rfl (by decide) rfl (?_ : XW _ _ _ _ _ _ _ 17 _ _)
    refine xi_aload_n (by decide +kernel : decode mX4_numberHere.2.1 17 = .ok (.aload_n 0, 1)) rfl rfl (?_ : XW _ _ _ _ _ _ _ 18 _ _)
    refine xi_getI (by decide +kernel : decode mX4_numberHere.2.1 18 = .ok (.getfield 66, 3)) fX4_66 rfl (by omega) rfl (?_ : XW _ _ _ _ _ _ _ 21 _ _)
    refine xi_istore_n (ls' := [some (.ref 11), some (.int 0), some (.int (xI h 11 0))]) (by decide +kernel : decode mX4_numberHere.2.1 21 = .ok (.istore_n 2, 1)) rfl (by decide) rfl (?_ : XW _ _ _ _ _ _ _ 22 _ _)
    exact vc
  · replace vc := vc.2 c
    refine xi_iconst (v := (-1)) (by decide +kernel : decode mX4_numberHere.2.1 13 = .ok (.iconst (-1), 1)) (by decide) (?_ : XW _ _ _ _ _ _ _ 14 _ _)
    exact xi_iret (by decide +kernel : decode mX4_numberHere.2.1 14 = .ok (.ireturn, 1)) rfl rfl vc

set_option maxRecDepth 20000 in
theorem v_X4_numberHere_22 {h : XH} {Q : Option Value → XH → Prop} {X : String → XH → Prop} (r : Nat) (hrd : xRdr r (xP h)) (hr : xRul r (xP h)) (hnr : r + 9 ≤ 100)  (x1 : Int32) (x2 : Int32)
    (vc : ((xI h 11 3) ≤ x2 → Q (some (.int x1)) h) ∧ (¬ (xI h 11 3) ≤ x2 → ∃ Q1, XSpec mX4_signAt 1 0 0 100 100 [.ref 11, .int x2] h Q1 xno ∧ ∀ v h1, Q1 v h1 → ∃ r1 : Int32, v = some (.int r1) ∧ (XW (xrm 2 0 0) mX4_numberHere (xE 100 Q X 0 0) 100 0 0 h1 22 [some (.ref 11), some (.int ((x1 * 10) + (r1 - 48))), some (.int (x2 + 1))] []))) :
    XW (xrm 2 0 0) mX4_numberHere (xE 100 Q X 0 0) 100 0 0 h 22 [some (.ref 11), some (.int x1), some (.int x2)] [] := by
  refine xi_iload_n (by decide +kernel : decode mX4_numberHere.2.1 22 = .ok (.iload_n 2, 1)) rfl rfl (?_ : XW _ _ _ _ _ _ _ 23 _ _)
  refine xi_aload_n (by decide +kernel : decode mX4_numberHere.2.1 23 = .ok (.aload_n 0, 1)) rfl rfl (?_ : XW _ _ _ _ _ _ _ 24 _ _)
  refine xi_getI (by decide +kernel : decode mX4_numberHere.2.1 24 = .ok (.getfield 44, 3)) fX4_44 rfl (by omega) rfl (?_ : XW _ _ _ _ _ _ _ 27 _ _)
  refine xi_icmp_ge (by decide +kernel : decode mX4_numberHere.2.1 27 = .ok (.if_icmp .ge 23, 3)) (by decide) (fun c => (?_ : XW _ _ _ _ _ _ _ 50 _ _)) (fun c => (?_ : XW _ _ _ _ _ _ _ 30 _ _))
  · replace vc := vc.1 c
    refine xi_iload_n (by decide +kernel : decode mX4_numberHere.2.1 50 = .ok (.iload_n 1, 1)) rfl rfl (?_ : XW _ _ _ _ _ _ _ 51 _ _)
    exact xi_iret (by decide +kernel : decode mX4_numberHere.2.1 51 = .ok (.ireturn, 1)) rfl rfl vc
  · replace vc := vc.2 c
    refine xi_iload_n (by decide +kernel : decode mX4_numberHere.2.1 30 = .ok (.iload_n 1, 1)) rfl rfl (?_ : XW _ _ _ _ _ _ _ 31 _ _)
    refine xi_bipush (v := 10) (by decide +kernel : decode mX4_numberHere.2.1 31 = .ok (.bipush 10, 2)) (by decide) (?_ : XW _ _ _ _ _ _ _ 33 _ _)
    refine xi_imul (by decide +kernel : decode mX4_numberHere.2.1 33 = .ok (.imul, 1)) (?_ : XW _ _ _ _ _ _ _ 34 _ _)
    refine xi_aload_n (by decide +kernel : decode mX4_numberHere.2.1 34 = .ok (.aload_n 0, 1)) rfl rfl (?_ : XW _ _ _ _ _ _ _ 35 _ _)
    refine xi_iload_n (by decide +kernel : decode mX4_numberHere.2.1 35 = .ok (.iload_n 2, 1)) rfl rfl (?_ : XW _ _ _ _ _ _ _ 36 _ _)
    obtain ⟨Q1, sp, vc⟩ := vc
    refine xi_callV (b := 0) (bs := 0) (As := [.int x2]) (st := [.int (x1 * 10)]) (by decide +kernel : decode mX4_numberHere.2.1 36 = .ok (.invokevirtual 69, 3)) kX4_69 rfl rfl (by omega) rfl sp (by decide) (by decide) (Nat.le_of_ble_eq_true rfl) (by omega) (fun v9 h1 hq9 => ?_)
    obtain ⟨r1, e9, vc⟩ := vc v9 h1 hq9
    subst e9
    show XW _ _ _ _ _ _ _ 39 _ [.int r1, .int (x1 * 10)]
    refine xi_bipush (v := 48) (by decide +kernel : decode mX4_numberHere.2.1 39 = .ok (.bipush 48, 2)) (by decide) (?_ : XW _ _ _ _ _ _ _ 41 _ _)
    refine xi_isub (by decide +kernel : decode mX4_numberHere.2.1 41 = .ok (.isub, 1)) (?_ : XW _ _ _ _ _ _ _ 42 _ _)
    refine xi_iadd (by decide +kernel : decode mX4_numberHere.2.1 42 = .ok (.iadd, 1)) (?_ : XW _ _ _ _ _ _ _ 43 _ _)
    refine xi_istore_n (ls' := [some (.ref 11), some (.int ((x1 * 10) + (r1 - 48))), some (.int x2)]) (by decide +kernel : decode mX4_numberHere.2.1 43 = .ok (.istore_n 1, 1)) rfl (by decide) rfl (?_ : XW _ _ _ _ _ _ _ 44 _ _)
    refine xi_iinc (v := x2 + 1) (ls' := [some (.ref 11), some (.int ((x1 * 10) + (r1 - 48))), some (.int (x2 + 1))]) (by decide +kernel : decode mX4_numberHere.2.1 44 = .ok (.iinc 2 1, 3)) rfl rfl (by decide) rfl (?_ : XW _ _ _ _ _ _ _ 47 _ _)
    refine xi_goto (by decide +kernel : decode mX4_numberHere.2.1 47 = .ok (.goto (-25), 3)) (by decide) (?_ : XW _ _ _ _ _ _ _ 22 _ _)
    exact vc

set_option maxRecDepth 20000 in
theorem v_X4_checkedNumber_0 {h : XH} {Q : Option Value → XH → Prop} {X : String → XH → Prop} (r : Nat) (hrd : xRdr r (xP h)) (hr : xRul r (xP h)) (hnr : r + 9 ≤ 100)  (ax : Int32) (bx : Int32)
    (vc : ((xI h 11 4) = 2 → ∃ Q1, XSpec mX4_numberHere 2 0 0 100 100 [.ref 11] h Q1 xno ∧ ∀ v h1, Q1 v h1 → ∃ r1 : Int32, v = some (.int r1) ∧ ((r1 < ax → ∃ Q1, XSpec mX4_fail 1 0 0 100 100 [.ref 11, .int 2] h1 Q1 xno ∧ ∀ v h2, Q1 v h2 → ∃ r2 : Int32, v = some (.int r2) ∧ (Q (some (.int (-1))) h2)) ∧ (¬ r1 < ax → (r1 ≤ bx → Q (some (.int r1)) h1) ∧ (¬ r1 ≤ bx → ∃ Q1, XSpec mX4_fail 1 0 0 100 100 [.ref 11, .int 2] h1 Q1 xno ∧ ∀ v h3, Q1 v h3 → ∃ r3 : Int32, v = some (.int r3) ∧ (Q (some (.int (-1))) h3))))) ∧ (¬ (xI h 11 4) = 2 → ∃ Q1, XSpec mX4_fail 1 0 0 100 100 [.ref 11, .int 1] h Q1 xno ∧ ∀ v h4, Q1 v h4 → ∃ r4 : Int32, v = some (.int r4) ∧ (Q (some (.int (-1))) h4))) :
    XW (xrm 3 0 0) mX4_checkedNumber (xE 100 Q X 0 0) 100 0 0 h 0 [some (.ref 11), some (.int ax), some (.int bx), none] [] := by
  refine xi_aload_n (by decide +kernel : decode mX4_checkedNumber.2.1 0 = .ok (.aload_n 0, 1)) rfl rfl (?_ : XW _ _ _ _ _ _ _ 1 _ _)
  refine xi_getI (by decide +kernel : decode mX4_checkedNumber.2.1 1 = .ok (.getfield 60, 3)) fX4_60 rfl (by omega) rfl (?_ : XW _ _ _ _ _ _ _ 4 _ _)
  refine xi_iconst (v := 2) (by decide +kernel : decode mX4_checkedNumber.2.1 4 = .ok (.iconst 2, 1)) (by decide) (?_ : XW _ _ _ _ _ _ _ 5 _ _)
  refine xi_icmp_eq (by decide +kernel : decode mX4_checkedNumber.2.1 5 = .ok (.if_icmp .eq 11, 3)) (by decide) (fun c => (?_ : XW _ _ _ _ _ _ _ 16 _ _)) (fun c => (?_ : XW _ _ _ _ _ _ _ 8 _ _))
  · replace vc := vc.1 c
    refine xi_aload_n (by decide +kernel : decode mX4_checkedNumber.2.1 16 = .ok (.aload_n 0, 1)) rfl rfl (?_ : XW _ _ _ _ _ _ _ 17 _ _)
    obtain ⟨Q1, sp, vc⟩ := vc
    refine xi_callV (b := 0) (bs := 0) (As := []) (st := []) (by decide +kernel : decode mX4_checkedNumber.2.1 17 = .ok (.invokevirtual 105, 3)) kX4_105 rfl rfl (by omega) rfl sp (by decide) (by decide) (Nat.le_of_ble_eq_true rfl) (by omega) (fun v9 h1 hq9 => ?_)
    obtain ⟨r1, e9, vc⟩ := vc v9 h1 hq9
    subst e9
    show XW _ _ _ _ _ _ _ 20 _ [.int r1]
    refine xi_istore_n (ls' := [some (.ref 11), some (.int ax), some (.int bx), some (.int r1)]) (by decide +kernel : decode mX4_checkedNumber.2.1 20 = .ok (.istore_n 3, 1)) rfl (by decide) rfl (?_ : XW _ _ _ _ _ _ _ 21 _ _)
    refine xi_iload_n (by decide +kernel : decode mX4_checkedNumber.2.1 21 = .ok (.iload_n 3, 1)) rfl rfl (?_ : XW _ _ _ _ _ _ _ 22 _ _)
    refine xi_iload_n (by decide +kernel : decode mX4_checkedNumber.2.1 22 = .ok (.iload_n 1, 1)) rfl rfl (?_ : XW _ _ _ _ _ _ _ 23 _ _)
    refine xi_icmp_lt (by decide +kernel : decode mX4_checkedNumber.2.1 23 = .ok (.if_icmp .lt 8, 3)) (by decide) (fun c => (?_ : XW _ _ _ _ _ _ _ 31 _ _)) (fun c => (?_ : XW _ _ _ _ _ _ _ 26 _ _))
    · replace vc := vc.1 c
      refine xi_aload_n (by decide +kernel : decode mX4_checkedNumber.2.1 31 = .ok (.aload_n 0, 1)) rfl rfl (?_ : XW _ _ _ _ _ _ _ 32 _ _)
      refine xi_iconst (v := 2) (by decide +kernel : decode mX4_checkedNumber.2.1 32 = .ok (.iconst 2, 1)) (by decide) (?_ : XW _ _ _ _ _ _ _ 33 _ _)
      obtain ⟨Q1, sp, vc⟩ := vc
      refine xi_callV (b := 0) (bs := 0) (As := [.int 2]) (st := []) (by decide +kernel : decode mX4_checkedNumber.2.1 33 = .ok (.invokevirtual 101, 3)) kX4_101 rfl rfl (by omega) rfl sp (by decide) (by decide) (Nat.le_of_ble_eq_true rfl) (by omega) (fun v9 h2 hq9 => ?_)
      obtain ⟨r2, e9, vc⟩ := vc v9 h2 hq9
      subst e9
      show XW _ _ _ _ _ _ _ 36 _ [.int r2]
      refine xi_pop (by decide +kernel : decode mX4_checkedNumber.2.1 36 = .ok (.pop, 1)) rfl (?_ : XW _ _ _ _ _ _ _ 37 _ _)
      refine xi_iconst (v := (-1)) (by decide +kernel : decode mX4_checkedNumber.2.1 37 = .ok (.iconst (-1), 1)) (by decide) (?_ : XW _ _ _ _ _ _ _ 38 _ _)
      exact xi_iret (by decide +kernel : decode mX4_checkedNumber.2.1 38 = .ok (.ireturn, 1)) rfl rfl vc
    · replace vc := vc.2 c
      refine xi_iload_n (by decide +kernel : decode mX4_checkedNumber.2.1 26 = .ok (.iload_n 3, 1)) rfl rfl (?_ : XW _ _ _ _ _ _ _ 27 _ _)
      refine xi_iload_n (by decide +kernel : decode mX4_checkedNumber.2.1 27 = .ok (.iload_n 2, 1)) rfl rfl (?_ : XW _ _ _ _ _ _ _ 28 _ _)
      refine xi_icmp_le (by decide +kernel : decode mX4_checkedNumber.2.1 28 = .ok (.if_icmp .le 11, 3)) (by decide) (fun c => (?_ : XW _ _ _ _ _ _ _ 39 _ _)) (fun c => (?_ : XW _ _ _ _ _ _ _ 31 _ _))
      · replace vc := vc.1 c
        refine xi_iload_n (by decide +kernel : decode mX4_checkedNumber.2.1 39 = .ok (.iload_n 3, 1)) rfl rfl (?_ : XW _ _ _ _ _ _ _ 40 _ _)
        exact xi_iret (by decide +kernel : decode mX4_checkedNumber.2.1 40 = .ok (.ireturn, 1)) rfl rfl vc
      · replace vc := vc.2 c
        refine xi_aload_n (by decide +kernel : decode mX4_checkedNumber.2.1 31 = .ok (.aload_n 0, 1)) rfl rfl (?_ : XW _ _ _ _ _ _ _ 32 _ _)
        refine xi_iconst (v := 2) (by decide +kernel : decode mX4_checkedNumber.2.1 32 = .ok (.iconst 2, 1)) (by decide) (?_ : XW _ _ _ _ _ _ _ 33 _ _)
        obtain ⟨Q1, sp, vc⟩ := vc
        refine xi_callV (b := 0) (bs := 0) (As := [.int 2]) (st := []) (by decide +kernel : decode mX4_checkedNumber.2.1 33 = .ok (.invokevirtual 101, 3)) kX4_101 rfl rfl (by omega) rfl sp (by decide) (by decide) (Nat.le_of_ble_eq_true rfl) (by omega) (fun v9 h3 hq9 => ?_)
        obtain ⟨r3, e9, vc⟩ := vc v9 h3 hq9
        subst e9
        show XW _ _ _ _ _ _ _ 36 _ [.int r3]
        refine xi_pop (by decide +kernel : decode mX4_checkedNumber.2.1 36 = .ok (.pop, 1)) rfl (?_ : XW _ _ _ _ _ _ _ 37 _ _)
        refine xi_iconst (v := (-1)) (by decide +kernel : decode mX4_checkedNumber.2.1 37 = .ok (.iconst (-1), 1)) (by decide) (?_ : XW _ _ _ _ _ _ _ 38 _ _)
        exact xi_iret (by decide +kernel : decode mX4_checkedNumber.2.1 38 = .ok (.ireturn, 1)) rfl rfl vc
  · replace vc := vc.2 c
    refine xi_aload_n (by decide +kernel : decode mX4_checkedNumber.2.1 8 = .ok (.aload_n 0, 1)) rfl rfl (?_ : XW _ _ _ _ _ _ _ 9 _ _)
    refine xi_iconst (v := 1) (by decide +kernel : decode mX4_checkedNumber.2.1 9 = .ok (.iconst 1, 1)) (by decide) (?_ : XW _ _ _ _ _ _ _ 10 _ _)
    obtain ⟨Q1, sp, vc⟩ := vc
    refine xi_callV (b := 0) (bs := 0) (As := [.int 1]) (st := []) (by decide +kernel : decode mX4_checkedNumber.2.1 10 = .ok (.invokevirtual 101, 3)) kX4_101 rfl rfl (by omega) rfl sp (by decide) (by decide) (Nat.le_of_ble_eq_true rfl) (by omega) (fun v9 h4 hq9 => ?_)
    obtain ⟨r4, e9, vc⟩ := vc v9 h4 hq9
    subst e9
    show XW _ _ _ _ _ _ _ 13 _ [.int r4]
    refine xi_pop (by decide +kernel : decode mX4_checkedNumber.2.1 13 = .ok (.pop, 1)) rfl (?_ : XW _ _ _ _ _ _ _ 14 _ _)
    refine xi_iconst (v := (-1)) (by decide +kernel : decode mX4_checkedNumber.2.1 14 = .ok (.iconst (-1), 1)) (by decide) (?_ : XW _ _ _ _ _ _ _ 15 _ _)
    exact xi_iret (by decide +kernel : decode mX4_checkedNumber.2.1 15 = .ok (.ireturn, 1)) rfl rfl vc

set_option maxRecDepth 20000 in
theorem v_X4_isWord_0 {h : XH} {Q : Option Value → XH → Prop} {X : String → XH → Prop} (i : Nat) (hi : i < jsN) (r : Nat) (hrd : xRdr r (xP h)) (hr : xRul r (xP h)) (hnr : r + 9 ≤ 100) 
    (vc : (¬ (xI h 11 4) = 1 → Q (some (.int 0)) h) ∧ ((xI h 11 4) = 1 → ∃ Q1, XSpec mJ0_length_8abf5 2 0 0 100 100 [.ref (1000 + i)] h Q1 xno ∧ ∀ v h1, Q1 v h1 → ∃ r1 : Int32, v = some (.int r1) ∧ ((((xI h 11 3) - (xI h 11 0)) = r1 → XW (xrm 12 0 0) mX4_isWord (xE 100 Q X 0 0) 100 0 0 h1 28 [some (.ref 11), some (.ref (1000 + i)), some (.int 0)] []) ∧ (¬ ((xI h 11 3) - (xI h 11 0)) = r1 → Q (some (.int 0)) h1)))) :
    XW (xrm 12 0 0) mX4_isWord (xE 100 Q X 0 0) 100 0 0 h 0 [some (.ref 11), some (.ref (1000 + i)), none] [] := by
  refine xi_aload_n (by decide +kernel : decode mX4_isWord.2.1 0 = .ok (.aload_n 0, 1)) rfl rfl (?_ : XW _ _ _ _ _ _ _ 1 _ _)
  refine xi_getI (by decide +kernel : decode mX4_isWord.2.1 1 = .ok (.getfield 60, 3)) fX4_60 rfl (by omega) rfl (?_ : XW _ _ _ _ _ _ _ 4 _ _)
  refine xi_iconst (v := 1) (by decide +kernel : decode mX4_isWord.2.1 4 = .ok (.iconst 1, 1)) (by decide) (?_ : XW _ _ _ _ _ _ _ 5 _ _)
  refine xi_icmp_ne (by decide +kernel : decode mX4_isWord.2.1 5 = .ok (.if_icmp .ne 19, 3)) (by decide) (fun c => (?_ : XW _ _ _ _ _ _ _ 24 _ _)) (fun c => (?_ : XW _ _ _ _ _ _ _ 8 _ _))
  · replace vc := vc.1 c
    refine xi_iconst (v := 0) (by decide +kernel : decode mX4_isWord.2.1 24 = .ok (.iconst 0, 1)) (by decide) (?_ : XW _ _ _ _ _ _ _ 25 _ _)
    exact xi_iret (by decide +kernel : decode mX4_isWord.2.1 25 = .ok (.ireturn, 1)) rfl rfl vc
  · replace vc := vc.2 c
    refine xi_aload_n (by decide +kernel : decode mX4_isWord.2.1 8 = .ok (.aload_n 0, 1)) rfl rfl (?_ : XW _ _ _ _ _ _ _ 9 _ _)
    refine xi_getI (by decide +kernel : decode mX4_isWord.2.1 9 = .ok (.getfield 44, 3)) fX4_44 rfl (by omega) rfl (?_ : XW _ _ _ _ _ _ _ 12 _ _)
    refine xi_aload_n (by decide +kernel : decode mX4_isWord.2.1 12 = .ok (.aload_n 0, 1)) rfl rfl (?_ : XW _ _ _ _ _ _ _ 13 _ _)
    refine xi_getI (by decide +kernel : decode mX4_isWord.2.1 13 = .ok (.getfield 66, 3)) fX4_66 rfl (by omega) rfl (?_ : XW _ _ _ _ _ _ _ 16 _ _)
    refine xi_isub (by decide +kernel : decode mX4_isWord.2.1 16 = .ok (.isub, 1)) (?_ : XW _ _ _ _ _ _ _ 17 _ _)
    refine xi_aload_n (by decide +kernel : decode mX4_isWord.2.1 17 = .ok (.aload_n 1, 1)) rfl rfl (?_ : XW _ _ _ _ _ _ _ 18 _ _)
    obtain ⟨Q1, sp, vc⟩ := vc
    refine xi_callVs (b := 0) (bs := 0) (As := []) (st := [.int ((xI h 11 3) - (xI h 11 0))]) (by decide +kernel : decode mX4_isWord.2.1 18 = .ok (.invokevirtual 91, 3)) (xVs.of (own := RX4) (y := mJ0_length_8abf5) cM_X4_91 cI_J0_length_8abf5 cE_J0_length_8abf5 cN_J0 cC_J0_length_8abf5 cD_J0_length_8abf5) rfl hi rfl sp (by decide) (by decide) (Nat.le_of_ble_eq_true rfl) (by omega) (fun v9 h1 hq9 => ?_)
    obtain ⟨r1, e9, vc⟩ := vc v9 h1 hq9
    subst e9
    show XW _ _ _ _ _ _ _ 21 _ [.int r1, .int ((xI h 11 3) - (xI h 11 0))]
    refine xi_icmp_eq (by decide +kernel : decode mX4_isWord.2.1 21 = .ok (.if_icmp .eq 5, 3)) (by decide) (fun c => (?_ : XW _ _ _ _ _ _ _ 26 _ _)) (fun c => (?_ : XW _ _ _ _ _ _ _ 24 _ _))
    · replace vc := vc.1 c
      refine xi_iconst (v := 0) (by decide +kernel : decode mX4_isWord.2.1 26 = .ok (.iconst 0, 1)) (by decide) (?_ : XW _ _ _ _ _ _ _ 27 _ _)
      refine xi_istore_n (ls' := [some (.ref 11), some (.ref (1000 + i)), some (.int 0)]) (by decide +kernel : decode mX4_isWord.2.1 27 = .ok (.istore_n 2, 1)) rfl (by decide) rfl (?_ : XW _ _ _ _ _ _ _ 28 _ _)
      exact vc
    · replace vc := vc.2 c
      refine xi_iconst (v := 0) (by decide +kernel : decode mX4_isWord.2.1 24 = .ok (.iconst 0, 1)) (by decide) (?_ : XW _ _ _ _ _ _ _ 25 _ _)
      exact xi_iret (by decide +kernel : decode mX4_isWord.2.1 25 = .ok (.ireturn, 1)) rfl rfl vc

set_option maxRecDepth 20000 in
theorem v_X4_isWord_28 {h : XH} {Q : Option Value → XH → Prop} {X : String → XH → Prop} (i : Nat) (hi : i < jsN) (r : Nat) (hrd : xRdr r (xP h)) (hr : xRul r (xP h)) (hnr : r + 9 ≤ 100)  (x2 : Int32)
    (vc : ∃ Q1, XSpec mJ0_length_8abf5 2 0 0 100 100 [.ref (1000 + i)] h Q1 xno ∧ ∀ v h2, Q1 v h2 → ∃ r2 : Int32, v = some (.int r2) ∧ ((r2 ≤ x2 → Q (some (.int 1)) h2) ∧ (¬ r2 ≤ x2 → ∃ Q1, XSpec mX4_signAt 1 0 0 100 100 [.ref 11, .int ((xI h2 11 0) + x2)] h2 Q1 xno ∧ ∀ v h3, Q1 v h3 → ∃ r3 : Int32, v = some (.int r3) ∧ (∃ Q1, XSpec mJ0_charAt_5068e 4 0 0 100 100 [.ref (1000 + i), .int x2] h3 Q1 xno ∧ ∀ v h4, Q1 v h4 → ∃ r4 : Int32, v = some (.int r4) ∧ ((r3 = r4 → XW (xrm 12 0 0) mX4_isWord (xE 100 Q X 0 0) 100 0 0 h4 28 [some (.ref 11), some (.ref (1000 + i)), some (.int (x2 + 1))] []) ∧ (¬ r3 = r4 → Q (some (.int 0)) h4)))))) :
    XW (xrm 12 0 0) mX4_isWord (xE 100 Q X 0 0) 100 0 0 h 28 [some (.ref 11), some (.ref (1000 + i)), some (.int x2)] [] := by
  refine xi_iload_n (by decide +kernel : decode mX4_isWord.2.1 28 = .ok (.iload_n 2, 1)) rfl rfl (?_ : XW _ _ _ _ _ _ _ 29 _ _)
  refine xi_aload_n (by decide +kernel : decode mX4_isWord.2.1 29 = .ok (.aload_n 1, 1)) rfl rfl (?_ : XW _ _ _ _ _ _ _ 30 _ _)
  obtain ⟨Q1, sp, vc⟩ := vc
  refine xi_callVs (b := 0) (bs := 0) (As := []) (st := [.int x2]) (by decide +kernel : decode mX4_isWord.2.1 30 = .ok (.invokevirtual 91, 3)) (xVs.of (own := RX4) (y := mJ0_length_8abf5) cM_X4_91 cI_J0_length_8abf5 cE_J0_length_8abf5 cN_J0 cC_J0_length_8abf5 cD_J0_length_8abf5) rfl hi rfl sp (by decide) (by decide) (Nat.le_of_ble_eq_true rfl) (by omega) (fun v9 h2 hq9 => ?_)
  obtain ⟨r2, e9, vc⟩ := vc v9 h2 hq9
  subst e9
  show XW _ _ _ _ _ _ _ 33 _ [.int r2, .int x2]
  refine xi_icmp_ge (by decide +kernel : decode mX4_isWord.2.1 33 = .ok (.if_icmp .ge 29, 3)) (by decide) (fun c => (?_ : XW _ _ _ _ _ _ _ 62 _ _)) (fun c => (?_ : XW _ _ _ _ _ _ _ 36 _ _))
  · replace vc := vc.1 c
    refine xi_iconst (v := 1) (by decide +kernel : decode mX4_isWord.2.1 62 = .ok (.iconst 1, 1)) (by decide) (?_ : XW _ _ _ _ _ _ _ 63 _ _)
    exact xi_iret (by decide +kernel : decode mX4_isWord.2.1 63 = .ok (.ireturn, 1)) rfl rfl vc
  · replace vc := vc.2 c
    refine xi_aload_n (by decide +kernel : decode mX4_isWord.2.1 36 = .ok (.aload_n 0, 1)) rfl rfl (?_ : XW _ _ _ _ _ _ _ 37 _ _)
    refine xi_aload_n (by decide +kernel : decode mX4_isWord.2.1 37 = .ok (.aload_n 0, 1)) rfl rfl (?_ : XW _ _ _ _ _ _ _ 38 _ _)
    refine xi_getI (by decide +kernel : decode mX4_isWord.2.1 38 = .ok (.getfield 66, 3)) fX4_66 rfl (by omega) rfl (?_ : XW _ _ _ _ _ _ _ 41 _ _)
    refine xi_iload_n (by decide +kernel : decode mX4_isWord.2.1 41 = .ok (.iload_n 2, 1)) rfl rfl (?_ : XW _ _ _ _ _ _ _ 42 _ _)
    refine xi_iadd (by decide +kernel : decode mX4_isWord.2.1 42 = .ok (.iadd, 1)) (?_ : XW _ _ _ _ _ _ _ 43 _ _)
    obtain ⟨Q1, sp, vc⟩ := vc
    refine xi_callV (b := 0) (bs := 0) (As := [.int ((xI h2 11 0) + x2)]) (st := []) (by decide +kernel : decode mX4_isWord.2.1 43 = .ok (.invokevirtual 69, 3)) kX4_69 rfl rfl (by omega) rfl sp (by decide) (by decide) (Nat.le_of_ble_eq_true rfl) (by omega) (fun v9 h3 hq9 => ?_)
    obtain ⟨r3, e9, vc⟩ := vc v9 h3 hq9
    subst e9
    show XW _ _ _ _ _ _ _ 46 _ [.int r3]
    refine xi_aload_n (by decide +kernel : decode mX4_isWord.2.1 46 = .ok (.aload_n 1, 1)) rfl rfl (?_ : XW _ _ _ _ _ _ _ 47 _ _)
    refine xi_iload_n (by decide +kernel : decode mX4_isWord.2.1 47 = .ok (.iload_n 2, 1)) rfl rfl (?_ : XW _ _ _ _ _ _ _ 48 _ _)
    obtain ⟨Q1, sp, vc⟩ := vc
    refine xi_callVs (b := 0) (bs := 0) (As := [.int x2]) (st := [.int r3]) (by decide +kernel : decode mX4_isWord.2.1 48 = .ok (.invokevirtual 95, 3)) (xVs.of (own := RX4) (y := mJ0_charAt_5068e) cM_X4_95 cI_J0_charAt_5068e cE_J0_charAt_5068e cN_J0 cC_J0_charAt_5068e cD_J0_charAt_5068e) rfl hi rfl sp (by decide) (by decide) (Nat.le_of_ble_eq_true rfl) (by omega) (fun v9 h4 hq9 => ?_)
    obtain ⟨r4, e9, vc⟩ := vc v9 h4 hq9
    subst e9
    show XW _ _ _ _ _ _ _ 51 _ [.int r4, .int r3]
    refine xi_icmp_eq (by decide +kernel : decode mX4_isWord.2.1 51 = .ok (.if_icmp .eq 5, 3)) (by decide) (fun c => (?_ : XW _ _ _ _ _ _ _ 56 _ _)) (fun c => (?_ : XW _ _ _ _ _ _ _ 54 _ _))
    · replace vc := vc.1 c
      refine xi_iinc (v := x2 + 1) (ls' := [some (.ref 11), some (.ref (1000 + i)), some (.int (x2 + 1))]) (by decide +kernel : decode mX4_isWord.2.1 56 = .ok (.iinc 2 1, 3)) rfl rfl (by decide) rfl (?_ : XW _ _ _ _ _ _ _ 59 _ _)
      refine xi_goto (by decide +kernel : decode mX4_isWord.2.1 59 = .ok (.goto (-31), 3)) (by decide) (?_ : XW _ _ _ _ _ _ _ 28 _ _)
      exact vc
    · replace vc := vc.2 c
      refine xi_iconst (v := 0) (by decide +kernel : decode mX4_isWord.2.1 54 = .ok (.iconst 0, 1)) (by decide) (?_ : XW _ _ _ _ _ _ _ 55 _ _)
      exact xi_iret (by decide +kernel : decode mX4_isWord.2.1 55 = .ok (.ireturn, 1)) rfl rfl vc

set_option maxRecDepth 20000 in
theorem v_X4_readLast_0 {h : XH} {Q : Option Value → XH → Prop} {X : String → XH → Prop} (r : Nat) (hrd : xRdr r (xP h)) (hr : xRul r (xP h)) (hnr : r + 9 ≤ 100) 
    (vc : ∃ Q1, XSpec mX4_readOn 14 0 0 100 100 [.ref 11] h Q1 xno ∧ ∀ v h1, Q1 v h1 → v = none ∧ (∃ Q1, XSpec mX4_checkedNumber 3 0 0 100 100 [.ref 11, .int 10, .int 100] h1 Q1 xno ∧ ∀ v h2, Q1 v h2 → ∃ r2 : Int32, v = some (.int r2) ∧ ((¬ r2 = (-1) → (xP h2 11 7 = some r) ∧ (∃ Q1, XSpec mX4_readOn 14 0 0 100 100 [.ref 11] (xSI r (va_up (xI h2 r) 0 r2) h2) Q1 xno ∧ ∀ v h3, Q1 v h3 → v = none ∧ (∃ Q1, XSpec mX4_takeSign 15 0 0 100 100 [.ref 11, .int 59] h3 Q1 xno ∧ ∀ v h4, Q1 v h4 → ∃ r4 : Int32, v = some (.int r4) ∧ ((narrow .boolean (.int r4) = .int r4) ∧ (Q (some (.int r4)) h4))))) ∧ (r2 = (-1) → Q (some (.int 0)) h2)))) :
    XW (xrm 16 0 0) mX4_readLast (xE 100 Q X 0 0) 100 0 0 h 0 [some (.ref 11), none] [] := by
  refine xi_aload_n (by decide +kernel : decode mX4_readLast.2.1 0 = .ok (.aload_n 0, 1)) rfl rfl (?_ : XW _ _ _ _ _ _ _ 1 _ _)
  obtain ⟨Q1, sp, vc⟩ := vc
  refine xi_callV (b := 0) (bs := 0) (As := []) (st := []) (by decide +kernel : decode mX4_readLast.2.1 1 = .ok (.invokevirtual 47, 3)) kX4_47 rfl rfl (by omega) rfl sp (by decide) (by decide) (Nat.le_of_ble_eq_true rfl) (by omega) (fun v9 h1 hq9 => ?_)
  obtain ⟨e9, vc⟩ := vc v9 h1 hq9
  subst e9
  show XW _ _ _ _ _ _ _ 4 _ []
  refine xi_aload_n (by decide +kernel : decode mX4_readLast.2.1 4 = .ok (.aload_n 0, 1)) rfl rfl (?_ : XW _ _ _ _ _ _ _ 5 _ _)
  refine xi_bipush (v := 10) (by decide +kernel : decode mX4_readLast.2.1 5 = .ok (.bipush 10, 2)) (by decide) (?_ : XW _ _ _ _ _ _ _ 7 _ _)
  refine xi_bipush (v := 100) (by decide +kernel : decode mX4_readLast.2.1 7 = .ok (.bipush 100, 2)) (by decide) (?_ : XW _ _ _ _ _ _ _ 9 _ _)
  obtain ⟨Q1, sp, vc⟩ := vc
  refine xi_callV (b := 0) (bs := 0) (As := [.int 10, .int 100]) (st := []) (by decide +kernel : decode mX4_readLast.2.1 9 = .ok (.invokevirtual 108, 3)) kX4_108 rfl rfl (by omega) rfl sp (by decide) (by decide) (Nat.le_of_ble_eq_true rfl) (by omega) (fun v9 h2 hq9 => ?_)
  obtain ⟨r2, e9, vc⟩ := vc v9 h2 hq9
  subst e9
  show XW _ _ _ _ _ _ _ 12 _ [.int r2]
  refine xi_istore_n (ls' := [some (.ref 11), some (.int r2)]) (by decide +kernel : decode mX4_readLast.2.1 12 = .ok (.istore_n 1, 1)) rfl (by decide) rfl (?_ : XW _ _ _ _ _ _ _ 13 _ _)
  refine xi_iload_n (by decide +kernel : decode mX4_readLast.2.1 13 = .ok (.iload_n 1, 1)) rfl rfl (?_ : XW _ _ _ _ _ _ _ 14 _ _)
  refine xi_iconst (v := (-1)) (by decide +kernel : decode mX4_readLast.2.1 14 = .ok (.iconst (-1), 1)) (by decide) (?_ : XW _ _ _ _ _ _ _ 15 _ _)
  refine xi_icmp_ne (by decide +kernel : decode mX4_readLast.2.1 15 = .ok (.if_icmp .ne 5, 3)) (by decide) (fun c => (?_ : XW _ _ _ _ _ _ _ 20 _ _)) (fun c => (?_ : XW _ _ _ _ _ _ _ 18 _ _))
  · replace vc := vc.1 c
    refine xi_aload_n (by decide +kernel : decode mX4_readLast.2.1 20 = .ok (.aload_n 0, 1)) rfl rfl (?_ : XW _ _ _ _ _ _ _ 21 _ _)
    obtain ⟨s1, vc⟩ := vc
    refine xi_getR (y := r) (by decide +kernel : decode mX4_readLast.2.1 21 = .ok (.getfield 12, 3)) fX4_12 rfl (by omega) rfl s1 (?_ : XW _ _ _ _ _ _ _ 24 _ _)
    refine xi_iload_n (by decide +kernel : decode mX4_readLast.2.1 24 = .ok (.iload_n 1, 1)) rfl rfl (?_ : XW _ _ _ _ _ _ _ 25 _ _)
    refine xi_putI (by decide +kernel : decode mX4_readLast.2.1 25 = .ok (.putfield 111, 3)) fX4_111 (xRul_s0 hr) (by omega) rfl rfl rfl (?_ : XW _ _ _ _ _ _ (xSI r (va_up (xI h2 r) 0 r2) h2) 28 _ _)
    refine xi_aload_n (by decide +kernel : decode mX4_readLast.2.1 28 = .ok (.aload_n 0, 1)) rfl rfl (?_ : XW _ _ _ _ _ _ _ 29 _ _)
    obtain ⟨Q1, sp, vc⟩ := vc
    refine xi_callV (b := 0) (bs := 0) (As := []) (st := []) (by decide +kernel : decode mX4_readLast.2.1 29 = .ok (.invokevirtual 47, 3)) kX4_47 rfl rfl (by omega) rfl sp (by decide) (by decide) (Nat.le_of_ble_eq_true rfl) (by omega) (fun v9 h3 hq9 => ?_)
    obtain ⟨e9, vc⟩ := vc v9 h3 hq9
    subst e9
    show XW _ _ _ _ _ _ _ 32 _ []
    refine xi_aload_n (by decide +kernel : decode mX4_readLast.2.1 32 = .ok (.aload_n 0, 1)) rfl rfl (?_ : XW _ _ _ _ _ _ _ 33 _ _)
    refine xi_bipush (v := 59) (by decide +kernel : decode mX4_readLast.2.1 33 = .ok (.bipush 59, 2)) (by decide) (?_ : XW _ _ _ _ _ _ _ 35 _ _)
    obtain ⟨Q1, sp, vc⟩ := vc
    refine xi_callV (b := 0) (bs := 0) (As := [.int 59]) (st := []) (by decide +kernel : decode mX4_readLast.2.1 35 = .ok (.invokevirtual 113, 3)) kX4_113 rfl rfl (by omega) rfl sp (by decide) (by decide) (Nat.le_of_ble_eq_true rfl) (by omega) (fun v9 h4 hq9 => ?_)
    obtain ⟨r4, e9, vc⟩ := vc v9 h4 hq9
    subst e9
    show XW _ _ _ _ _ _ _ 38 _ [.int r4]
    obtain ⟨s1, vc⟩ := vc
    exact xi_iret (by decide +kernel : decode mX4_readLast.2.1 38 = .ok (.ireturn, 1)) rfl s1 vc
  · replace vc := vc.2 c
    refine xi_iconst (v := 0) (by decide +kernel : decode mX4_readLast.2.1 18 = .ok (.iconst 0, 1)) (by decide) (?_ : XW _ _ _ _ _ _ _ 19 _ _)
    exact xi_iret (by decide +kernel : decode mX4_readLast.2.1 19 = .ok (.ireturn, 1)) rfl rfl vc

set_option maxRecDepth 20000 in
theorem v_X4_readExit_0 {h : XH} {Q : Option Value → XH → Prop} {X : String → XH → Prop} (r : Nat) (hrd : xRdr r (xP h)) (hr : xRul r (xP h)) (hnr : r + 9 ≤ 100) 
    (vc : ∃ Q1, XSpec mX4_checkedNumber 3 0 0 100 100 [.ref 11, .int 1, .int ((xI h r 0) - 1)] h Q1 xno ∧ ∀ v h1, Q1 v h1 → ∃ r1 : Int32, v = some (.int r1) ∧ ((¬ r1 = (-1) → (xP h1 11 7 = some r) ∧ (∃ Q1, XSpec mX5_isFoot 1 0 0 100 100 [.ref r, .int r1] h1 Q1 xno ∧ ∀ v h2, Q1 v h2 → ∃ r2 : Int32, v = some (.int r2) ∧ ((r2 = 0 → ∃ Q1, XSpec mX4_readOn 14 0 0 100 100 [.ref 11] h2 Q1 xno ∧ ∀ v h3, Q1 v h3 → v = none ∧ ((xP h3 11 7 = some r) ∧ (∃ Q1, XSpec mX4_checkedNumber 3 0 0 100 100 [.ref 11, .int 1, .int (xI h3 r 0)] h3 Q1 xno ∧ ∀ v h4, Q1 v h4 → ∃ r4 : Int32, v = some (.int r4) ∧ ((¬ r4 = (-1) → (¬ r4 = r1 → (xP h4 11 7 = some r) ∧ (∃ Q1, XSpec mX5_addExit 1 0 0 100 100 [.ref r, .int r1, .int r4] h4 Q1 xno ∧ ∀ v h5, Q1 v h5 → v = none ∧ (∃ Q1, XSpec mX4_readOn 14 0 0 100 100 [.ref 11] h5 Q1 xno ∧ ∀ v h6, Q1 v h6 → v = none ∧ (Q (some (.int 1)) h6)))) ∧ (r4 = r1 → ∃ Q1, XSpec mX4_fail 1 0 0 100 100 [.ref 11, .int 2] h4 Q1 xno ∧ ∀ v h7, Q1 v h7 → ∃ r7 : Int32, v = some (.int r7) ∧ ((narrow .boolean (.int r7) = .int r7) ∧ (Q (some (.int r7)) h7)))) ∧ (r4 = (-1) → Q (some (.int 0)) h4))))) ∧ (¬ r2 = 0 → ∃ Q1, XSpec mX4_fail 1 0 0 100 100 [.ref 11, .int 4] h2 Q1 xno ∧ ∀ v h8, Q1 v h8 → ∃ r8 : Int32, v = some (.int r8) ∧ ((narrow .boolean (.int r8) = .int r8) ∧ (Q (some (.int r8)) h8)))))) ∧ (r1 = (-1) → Q (some (.int 0)) h1))) :
    XW (xrm 15 0 0) mX4_readExit (xE 100 Q X 0 0) 100 0 0 h 0 [some (.ref 11), none, none] [] := by
  refine xi_aload_n (by decide +kernel : decode mX4_readExit.2.1 0 = .ok (.aload_n 0, 1)) rfl rfl (?_ : XW _ _ _ _ _ _ _ 1 _ _)
  refine xi_iconst (v := 1) (by decide +kernel : decode mX4_readExit.2.1 1 = .ok (.iconst 1, 1)) (by decide) (?_ : XW _ _ _ _ _ _ _ 2 _ _)
  refine xi_aload_n (by decide +kernel : decode mX4_readExit.2.1 2 = .ok (.aload_n 0, 1)) rfl rfl (?_ : XW _ _ _ _ _ _ _ 3 _ _)
  refine xi_getR (y := r) (by decide +kernel : decode mX4_readExit.2.1 3 = .ok (.getfield 12, 3)) fX4_12 rfl (by omega) rfl hrd.2 (?_ : XW _ _ _ _ _ _ _ 6 _ _)
  refine xi_getI (by decide +kernel : decode mX4_readExit.2.1 6 = .ok (.getfield 111, 3)) fX4_111 (xRul_s0 hr) (by omega) rfl (?_ : XW _ _ _ _ _ _ _ 9 _ _)
  refine xi_iconst (v := 1) (by decide +kernel : decode mX4_readExit.2.1 9 = .ok (.iconst 1, 1)) (by decide) (?_ : XW _ _ _ _ _ _ _ 10 _ _)
  refine xi_isub (by decide +kernel : decode mX4_readExit.2.1 10 = .ok (.isub, 1)) (?_ : XW _ _ _ _ _ _ _ 11 _ _)
  obtain ⟨Q1, sp, vc⟩ := vc
  refine xi_callV (b := 0) (bs := 0) (As := [.int 1, .int ((xI h r 0) - 1)]) (st := []) (by decide +kernel : decode mX4_readExit.2.1 11 = .ok (.invokevirtual 108, 3)) kX4_108 rfl rfl (by omega) rfl sp (by decide) (by decide) (Nat.le_of_ble_eq_true rfl) (by omega) (fun v9 h1 hq9 => ?_)
  obtain ⟨r1, e9, vc⟩ := vc v9 h1 hq9
  subst e9
  show XW _ _ _ _ _ _ _ 14 _ [.int r1]
  refine xi_istore_n (ls' := [some (.ref 11), some (.int r1), none]) (by decide +kernel : decode mX4_readExit.2.1 14 = .ok (.istore_n 1, 1)) rfl (by decide) rfl (?_ : XW _ _ _ _ _ _ _ 15 _ _)
  refine xi_iload_n (by decide +kernel : decode mX4_readExit.2.1 15 = .ok (.iload_n 1, 1)) rfl rfl (?_ : XW _ _ _ _ _ _ _ 16 _ _)
  refine xi_iconst (v := (-1)) (by decide +kernel : decode mX4_readExit.2.1 16 = .ok (.iconst (-1), 1)) (by decide) (?_ : XW _ _ _ _ _ _ _ 17 _ _)
  refine xi_icmp_ne (by decide +kernel : decode mX4_readExit.2.1 17 = .ok (.if_icmp .ne 5, 3)) (by decide) (fun c => (?_ : XW _ _ _ _ _ _ _ 22 _ _)) (fun c => (?_ : XW _ _ _ _ _ _ _ 20 _ _))
  · replace vc := vc.1 c
    refine xi_aload_n (by decide +kernel : decode mX4_readExit.2.1 22 = .ok (.aload_n 0, 1)) rfl rfl (?_ : XW _ _ _ _ _ _ _ 23 _ _)
    obtain ⟨s1, vc⟩ := vc
    refine xi_getR (y := r) (by decide +kernel : decode mX4_readExit.2.1 23 = .ok (.getfield 12, 3)) fX4_12 rfl (by omega) rfl s1 (?_ : XW _ _ _ _ _ _ _ 26 _ _)
    refine xi_iload_n (by decide +kernel : decode mX4_readExit.2.1 26 = .ok (.iload_n 1, 1)) rfl rfl (?_ : XW _ _ _ _ _ _ _ 27 _ _)
    obtain ⟨Q1, sp, vc⟩ := vc
    refine xi_callV (b := 0) (bs := 0) (As := [.int r1]) (st := []) (by decide +kernel : decode mX4_readExit.2.1 27 = .ok (.invokevirtual 156, 3)) kX4_156 rfl (xRul_s0 hr) (by omega) rfl sp (by decide) (by decide) (Nat.le_of_ble_eq_true rfl) (by omega) (fun v9 h2 hq9 => ?_)
    obtain ⟨r2, e9, vc⟩ := vc v9 h2 hq9
    subst e9
    show XW _ _ _ _ _ _ _ 30 _ [.int r2]
    refine xi_if_eq (by decide +kernel : decode mX4_readExit.2.1 30 = .ok (.ifCond .eq 9, 3)) (by decide) (fun c => (?_ : XW _ _ _ _ _ _ _ 39 _ _)) (fun c => (?_ : XW _ _ _ _ _ _ _ 33 _ _))
    · replace vc := vc.1 c
      refine xi_aload_n (by decide +kernel : decode mX4_readExit.2.1 39 = .ok (.aload_n 0, 1)) rfl rfl (?_ : XW _ _ _ _ _ _ _ 40 _ _)
      obtain ⟨Q1, sp, vc⟩ := vc
      refine xi_callV (b := 0) (bs := 0) (As := []) (st := []) (by decide +kernel : decode mX4_readExit.2.1 40 = .ok (.invokevirtual 47, 3)) kX4_47 rfl rfl (by omega) rfl sp (by decide) (by decide) (Nat.le_of_ble_eq_true rfl) (by omega) (fun v9 h3 hq9 => ?_)
      obtain ⟨e9, vc⟩ := vc v9 h3 hq9
      subst e9
      show XW _ _ _ _ _ _ _ 43 _ []
      refine xi_aload_n (by decide +kernel : decode mX4_readExit.2.1 43 = .ok (.aload_n 0, 1)) rfl rfl (?_ : XW _ _ _ _ _ _ _ 44 _ _)
      refine xi_iconst (v := 1) (by decide +kernel : decode mX4_readExit.2.1 44 = .ok (.iconst 1, 1)) (by decide) (?_ : XW _ _ _ _ _ _ _ 45 _ _)
      refine xi_aload_n (by decide +kernel : decode mX4_readExit.2.1 45 = .ok (.aload_n 0, 1)) rfl rfl (?_ : XW _ _ _ _ _ _ _ 46 _ _)
      obtain ⟨s1, vc⟩ := vc
      refine xi_getR (y := r) (by decide +kernel : decode mX4_readExit.2.1 46 = .ok (.getfield 12, 3)) fX4_12 rfl (by omega) rfl s1 (?_ : XW _ _ _ _ _ _ _ 49 _ _)
      refine xi_getI (by decide +kernel : decode mX4_readExit.2.1 49 = .ok (.getfield 111, 3)) fX4_111 (xRul_s0 hr) (by omega) rfl (?_ : XW _ _ _ _ _ _ _ 52 _ _)
      obtain ⟨Q1, sp, vc⟩ := vc
      refine xi_callV (b := 0) (bs := 0) (As := [.int 1, .int (xI h3 r 0)]) (st := []) (by decide +kernel : decode mX4_readExit.2.1 52 = .ok (.invokevirtual 108, 3)) kX4_108 rfl rfl (by omega) rfl sp (by decide) (by decide) (Nat.le_of_ble_eq_true rfl) (by omega) (fun v9 h4 hq9 => ?_)
      obtain ⟨r4, e9, vc⟩ := vc v9 h4 hq9
      subst e9
      show XW _ _ _ _ _ _ _ 55 _ [.int r4]
      refine xi_istore_n (ls' := [some (.ref 11), some (.int r1), some (.int r4)]) (by decide +kernel : decode mX4_readExit.2.1 55 = .ok (.istore_n 2, 1)) rfl (by decide) rfl (?_ : XW _ _ _ _ _ _ _ 56 _ _)
      refine xi_iload_n (by decide +kernel : decode mX4_readExit.2.1 56 = .ok (.iload_n 2, 1)) rfl rfl (?_ : XW _ _ _ _ _ _ _ 57 _ _)
      refine xi_iconst (v := (-1)) (by decide +kernel : decode mX4_readExit.2.1 57 = .ok (.iconst (-1), 1)) (by decide) (?_ : XW _ _ _ _ _ _ _ 58 _ _)
      refine xi_icmp_ne (by decide +kernel : decode mX4_readExit.2.1 58 = .ok (.if_icmp .ne 5, 3)) (by decide) (fun c => (?_ : XW _ _ _ _ _ _ _ 63 _ _)) (fun c => (?_ : XW _ _ _ _ _ _ _ 61 _ _))
      · replace vc := vc.1 c
        refine xi_iload_n (by decide +kernel : decode mX4_readExit.2.1 63 = .ok (.iload_n 2, 1)) rfl rfl (?_ : XW _ _ _ _ _ _ _ 64 _ _)
        refine xi_iload_n (by decide +kernel : decode mX4_readExit.2.1 64 = .ok (.iload_n 1, 1)) rfl rfl (?_ : XW _ _ _ _ _ _ _ 65 _ _)
        refine xi_icmp_ne (by decide +kernel : decode mX4_readExit.2.1 65 = .ok (.if_icmp .ne 9, 3)) (by decide) (fun c => (?_ : XW _ _ _ _ _ _ _ 74 _ _)) (fun c => (?_ : XW _ _ _ _ _ _ _ 68 _ _))
        · replace vc := vc.1 c
          refine xi_aload_n (by decide +kernel : decode mX4_readExit.2.1 74 = .ok (.aload_n 0, 1)) rfl rfl (?_ : XW _ _ _ _ _ _ _ 75 _ _)
          obtain ⟨s1, vc⟩ := vc
          refine xi_getR (y := r) (by decide +kernel : decode mX4_readExit.2.1 75 = .ok (.getfield 12, 3)) fX4_12 rfl (by omega) rfl s1 (?_ : XW _ _ _ _ _ _ _ 78 _ _)
          refine xi_iload_n (by decide +kernel : decode mX4_readExit.2.1 78 = .ok (.iload_n 1, 1)) rfl rfl (?_ : XW _ _ _ _ _ _ _ 79 _ _)
          refine xi_iload_n (by decide +kernel : decode mX4_readExit.2.1 79 = .ok (.iload_n 2, 1)) rfl rfl (?_ : XW _ _ _ _ _ _ _ 80 _ _)
          obtain ⟨Q1, sp, vc⟩ := vc
          refine xi_callV (b := 0) (bs := 0) (As := [.int r1, .int r4]) (st := []) (by decide +kernel : decode mX4_readExit.2.1 80 = .ok (.invokevirtual 159, 3)) kX4_159 rfl (xRul_s0 hr) (by omega) rfl sp (by decide) (by decide) (Nat.le_of_ble_eq_true rfl) (by omega) (fun v9 h5 hq9 => ?_)
          obtain ⟨e9, vc⟩ := vc v9 h5 hq9
          subst e9
          show XW _ _ _ _ _ _ _ 83 _ []
          refine xi_aload_n (by decide +kernel : decode mX4_readExit.2.1 83 = .ok (.aload_n 0, 1)) rfl rfl (?_ : XW _ _ _ _ _ _ _ 84 _ _)
          obtain ⟨Q1, sp, vc⟩ := vc
          refine xi_callV (b := 0) (bs := 0) (As := []) (st := []) (by decide +kernel : decode mX4_readExit.2.1 84 = .ok (.invokevirtual 47, 3)) kX4_47 rfl rfl (by omega) rfl sp (by decide) (by decide) (Nat.le_of_ble_eq_true rfl) (by omega) (fun v9 h6 hq9 => ?_)
          obtain ⟨e9, vc⟩ := vc v9 h6 hq9
          subst e9
          show XW _ _ _ _ _ _ _ 87 _ []
          refine xi_iconst (v := 1) (by decide +kernel : decode mX4_readExit.2.1 87 = .ok (.iconst 1, 1)) (by decide) (?_ : XW _ _ _ _ _ _ _ 88 _ _)
          exact xi_iret (by decide +kernel : decode mX4_readExit.2.1 88 = .ok (.ireturn, 1)) rfl rfl vc
        · replace vc := vc.2 c
          refine xi_aload_n (by decide +kernel : decode mX4_readExit.2.1 68 = .ok (.aload_n 0, 1)) rfl rfl (?_ : XW _ _ _ _ _ _ _ 69 _ _)
          refine xi_iconst (v := 2) (by decide +kernel : decode mX4_readExit.2.1 69 = .ok (.iconst 2, 1)) (by decide) (?_ : XW _ _ _ _ _ _ _ 70 _ _)
          obtain ⟨Q1, sp, vc⟩ := vc
          refine xi_callV (b := 0) (bs := 0) (As := [.int 2]) (st := []) (by decide +kernel : decode mX4_readExit.2.1 70 = .ok (.invokevirtual 101, 3)) kX4_101 rfl rfl (by omega) rfl sp (by decide) (by decide) (Nat.le_of_ble_eq_true rfl) (by omega) (fun v9 h7 hq9 => ?_)
          obtain ⟨r7, e9, vc⟩ := vc v9 h7 hq9
          subst e9
          show XW _ _ _ _ _ _ _ 73 _ [.int r7]
          obtain ⟨s1, vc⟩ := vc
          exact xi_iret (by decide +kernel : decode mX4_readExit.2.1 73 = .ok (.ireturn, 1)) rfl s1 vc
      · replace vc := vc.2 c
        refine xi_iconst (v := 0) (by decide +kernel : decode mX4_readExit.2.1 61 = .ok (.iconst 0, 1)) (by decide) (?_ : XW _ _ _ _ _ _ _ 62 _ _)
        exact xi_iret (by decide +kernel : decode mX4_readExit.2.1 62 = .ok (.ireturn, 1)) rfl rfl vc
    · replace vc := vc.2 c
      refine xi_aload_n (by decide +kernel : decode mX4_readExit.2.1 33 = .ok (.aload_n 0, 1)) rfl rfl (?_ : XW _ _ _ _ _ _ _ 34 _ _)
      refine xi_iconst (v := 4) (by decide +kernel : decode mX4_readExit.2.1 34 = .ok (.iconst 4, 1)) (by decide) (?_ : XW _ _ _ _ _ _ _ 35 _ _)
      obtain ⟨Q1, sp, vc⟩ := vc
      refine xi_callV (b := 0) (bs := 0) (As := [.int 4]) (st := []) (by decide +kernel : decode mX4_readExit.2.1 35 = .ok (.invokevirtual 101, 3)) kX4_101 rfl rfl (by omega) rfl sp (by decide) (by decide) (Nat.le_of_ble_eq_true rfl) (by omega) (fun v9 h8 hq9 => ?_)
      obtain ⟨r8, e9, vc⟩ := vc v9 h8 hq9
      subst e9
      show XW _ _ _ _ _ _ _ 38 _ [.int r8]
      obtain ⟨s1, vc⟩ := vc
      exact xi_iret (by decide +kernel : decode mX4_readExit.2.1 38 = .ok (.ireturn, 1)) rfl s1 vc
  · replace vc := vc.2 c
    refine xi_iconst (v := 0) (by decide +kernel : decode mX4_readExit.2.1 20 = .ok (.iconst 0, 1)) (by decide) (?_ : XW _ _ _ _ _ _ _ 21 _ _)
    exact xi_iret (by decide +kernel : decode mX4_readExit.2.1 21 = .ok (.ireturn, 1)) rfl rfl vc

set_option maxRecDepth 20000 in
theorem v_X4_readDie_0 {h : XH} {Q : Option Value → XH → Prop} {X : String → XH → Prop} (r : Nat) (hrd : xRdr r (xP h)) (hr : xRul r (xP h)) (hnr : r + 9 ≤ 100) 
    (vc : XW (xrm 15 0 0) mX4_readDie (xE 100 Q X 0 0) 100 0 0 h 2 [some (.ref 11), some (.int 1), none] []) :
    XW (xrm 15 0 0) mX4_readDie (xE 100 Q X 0 0) 100 0 0 h 0 [some (.ref 11), none, none] [] := by
  refine xi_iconst (v := 1) (by decide +kernel : decode mX4_readDie.2.1 0 = .ok (.iconst 1, 1)) (by decide) (?_ : XW _ _ _ _ _ _ _ 1 _ _)
  refine xi_istore_n (ls' := [some (.ref 11), some (.int 1), none]) (by decide +kernel : decode mX4_readDie.2.1 1 = .ok (.istore_n 1, 1)) rfl (by decide) rfl (?_ : XW _ _ _ _ _ _ _ 2 _ _)
  exact vc

set_option maxRecDepth 20000 in
theorem v_X4_readDie_2 {h : XH} {Q : Option Value → XH → Prop} {X : String → XH → Prop} (r : Nat) (hrd : xRdr r (xP h)) (hr : xRul r (xP h)) (hnr : r + 9 ≤ 100)  (x1 : Int32)
    (vc : (6 < x1 → Q (some (.int 1)) h) ∧ (¬ 6 < x1 → ∃ Q1, XSpec mX4_checkedNumber 3 0 0 100 100 [.ref 11, .int 0, .int 9] h Q1 xno ∧ ∀ v h1, Q1 v h1 → ∃ r1 : Int32, v = some (.int r1) ∧ ((¬ r1 = (-1) → (xP h1 11 7 = some r) ∧ (∃ Q1, XSpec mX5_putOdds 1 0 0 100 100 [.ref r, .int x1, .int r1] h1 Q1 xno ∧ ∀ v h2, Q1 v h2 → v = none ∧ ((xP h2 11 7 = some r) ∧ (∃ Q1, XSpec mX5_sumOdds 2 0 0 100 100 [.ref r] h2 Q1 xno ∧ ∀ v h3, Q1 v h3 → v = none ∧ ((¬ x1 = 6 → ∃ Q1, XSpec mX4_readOn 14 0 0 100 100 [.ref 11] h3 Q1 xno ∧ ∀ v h4, Q1 v h4 → v = none ∧ (XW (xrm 15 0 0) mX4_readDie (xE 100 Q X 0 0) 100 0 0 h4 2 [some (.ref 11), some (.int (x1 + 1)), none] [])) ∧ (x1 = 6 → (xP h3 11 7 = some r) ∧ ((¬ (xI h3 r 1) = 0 → ∃ Q1, XSpec mX4_readOn 14 0 0 100 100 [.ref 11] h3 Q1 xno ∧ ∀ v h5, Q1 v h5 → v = none ∧ (XW (xrm 15 0 0) mX4_readDie (xE 100 Q X 0 0) 100 0 0 h5 2 [some (.ref 11), some (.int (x1 + 1)), none] [])) ∧ ((xI h3 r 1) = 0 → ∃ Q1, XSpec mX4_fail 1 0 0 100 100 [.ref 11, .int 2] h3 Q1 xno ∧ ∀ v h6, Q1 v h6 → ∃ r6 : Int32, v = some (.int r6) ∧ ((narrow .boolean (.int r6) = .int r6) ∧ (Q (some (.int r6)) h6)))))))))) ∧ (r1 = (-1) → Q (some (.int 0)) h1)))) :
    XW (xrm 15 0 0) mX4_readDie (xE 100 Q X 0 0) 100 0 0 h 2 [some (.ref 11), some (.int x1), none] [] := by
  refine xi_iload_n (by decide +kernel : decode mX4_readDie.2.1 2 = .ok (.iload_n 1, 1)) rfl rfl (?_ : XW _ _ _ _ _ _ _ 3 _ _)
  refine xi_bipush (v := 6) (by decide +kernel : decode mX4_readDie.2.1 3 = .ok (.bipush 6, 2)) (by decide) (?_ : XW _ _ _ _ _ _ _ 5 _ _)
  refine xi_icmp_gt (by decide +kernel : decode mX4_readDie.2.1 5 = .ok (.if_icmp .gt 66, 3)) (by decide) (fun c => (?_ : XW _ _ _ _ _ _ _ 71 _ _)) (fun c => (?_ : XW _ _ _ _ _ _ _ 8 _ _))
  · replace vc := vc.1 c
    refine xi_iconst (v := 1) (by decide +kernel : decode mX4_readDie.2.1 71 = .ok (.iconst 1, 1)) (by decide) (?_ : XW _ _ _ _ _ _ _ 72 _ _)
    exact xi_iret (by decide +kernel : decode mX4_readDie.2.1 72 = .ok (.ireturn, 1)) rfl rfl vc
  · replace vc := vc.2 c
    refine xi_aload_n (by decide +kernel : decode mX4_readDie.2.1 8 = .ok (.aload_n 0, 1)) rfl rfl (?_ : XW _ _ _ _ _ _ _ 9 _ _)
    refine xi_iconst (v := 0) (by decide +kernel : decode mX4_readDie.2.1 9 = .ok (.iconst 0, 1)) (by decide) (?_ : XW _ _ _ _ _ _ _ 10 _ _)
    refine xi_bipush (v := 9) (by decide +kernel : decode mX4_readDie.2.1 10 = .ok (.bipush 9, 2)) (by decide) (?_ : XW _ _ _ _ _ _ _ 12 _ _)
    obtain ⟨Q1, sp, vc⟩ := vc
    refine xi_callV (b := 0) (bs := 0) (As := [.int 0, .int 9]) (st := []) (by decide +kernel : decode mX4_readDie.2.1 12 = .ok (.invokevirtual 108, 3)) kX4_108 rfl rfl (by omega) rfl sp (by decide) (by decide) (Nat.le_of_ble_eq_true rfl) (by omega) (fun v9 h1 hq9 => ?_)
    obtain ⟨r1, e9, vc⟩ := vc v9 h1 hq9
    subst e9
    show XW _ _ _ _ _ _ _ 15 _ [.int r1]
    refine xi_istore_n (ls' := [some (.ref 11), some (.int x1), some (.int r1)]) (by decide +kernel : decode mX4_readDie.2.1 15 = .ok (.istore_n 2, 1)) rfl (by decide) rfl (?_ : XW _ _ _ _ _ _ _ 16 _ _)
    refine xi_iload_n (by decide +kernel : decode mX4_readDie.2.1 16 = .ok (.iload_n 2, 1)) rfl rfl (?_ : XW _ _ _ _ _ _ _ 17 _ _)
    refine xi_iconst (v := (-1)) (by decide +kernel : decode mX4_readDie.2.1 17 = .ok (.iconst (-1), 1)) (by decide) (?_ : XW _ _ _ _ _ _ _ 18 _ _)
    refine xi_icmp_ne (by decide +kernel : decode mX4_readDie.2.1 18 = .ok (.if_icmp .ne 5, 3)) (by decide) (fun c => (?_ : XW _ _ _ _ _ _ _ 23 _ _)) (fun c => (?_ : XW _ _ _ _ _ _ _ 21 _ _))
    · replace vc := vc.1 c
      refine xi_aload_n (by decide +kernel : decode mX4_readDie.2.1 23 = .ok (.aload_n 0, 1)) rfl rfl (?_ : XW _ _ _ _ _ _ _ 24 _ _)
      obtain ⟨s1, vc⟩ := vc
      refine xi_getR (y := r) (by decide +kernel : decode mX4_readDie.2.1 24 = .ok (.getfield 12, 3)) fX4_12 rfl (by omega) rfl s1 (?_ : XW _ _ _ _ _ _ _ 27 _ _)
      refine xi_iload_n (by decide +kernel : decode mX4_readDie.2.1 27 = .ok (.iload_n 1, 1)) rfl rfl (?_ : XW _ _ _ _ _ _ _ 28 _ _)
      refine xi_iload_n (by decide +kernel : decode mX4_readDie.2.1 28 = .ok (.iload_n 2, 1)) rfl rfl (?_ : XW _ _ _ _ _ _ _ 29 _ _)
      obtain ⟨Q1, sp, vc⟩ := vc
      refine xi_callV (b := 0) (bs := 0) (As := [.int x1, .int r1]) (st := []) (by decide +kernel : decode mX4_readDie.2.1 29 = .ok (.invokevirtual 163, 3)) kX4_163 rfl (xRul_s0 hr) (by omega) rfl sp (by decide) (by decide) (Nat.le_of_ble_eq_true rfl) (by omega) (fun v9 h2 hq9 => ?_)
      obtain ⟨e9, vc⟩ := vc v9 h2 hq9
      subst e9
      show XW _ _ _ _ _ _ _ 32 _ []
      refine xi_aload_n (by decide +kernel : decode mX4_readDie.2.1 32 = .ok (.aload_n 0, 1)) rfl rfl (?_ : XW _ _ _ _ _ _ _ 33 _ _)
      obtain ⟨s1, vc⟩ := vc
      refine xi_getR (y := r) (by decide +kernel : decode mX4_readDie.2.1 33 = .ok (.getfield 12, 3)) fX4_12 rfl (by omega) rfl s1 (?_ : XW _ _ _ _ _ _ _ 36 _ _)
      obtain ⟨Q1, sp, vc⟩ := vc
      refine xi_callV (b := 0) (bs := 0) (As := []) (st := []) (by decide +kernel : decode mX4_readDie.2.1 36 = .ok (.invokevirtual 166, 3)) kX4_166 rfl (xRul_s0 hr) (by omega) rfl sp (by decide) (by decide) (Nat.le_of_ble_eq_true rfl) (by omega) (fun v9 h3 hq9 => ?_)
      obtain ⟨e9, vc⟩ := vc v9 h3 hq9
      subst e9
      show XW _ _ _ _ _ _ _ 39 _ []
      refine xi_iload_n (by decide +kernel : decode mX4_readDie.2.1 39 = .ok (.iload_n 1, 1)) rfl rfl (?_ : XW _ _ _ _ _ _ _ 40 _ _)
      refine xi_bipush (v := 6) (by decide +kernel : decode mX4_readDie.2.1 40 = .ok (.bipush 6, 2)) (by decide) (?_ : XW _ _ _ _ _ _ _ 42 _ _)
      refine xi_icmp_ne (by decide +kernel : decode mX4_readDie.2.1 42 = .ok (.if_icmp .ne 19, 3)) (by decide) (fun c => (?_ : XW _ _ _ _ _ _ _ 61 _ _)) (fun c => (?_ : XW _ _ _ _ _ _ _ 45 _ _))
      · replace vc := vc.1 c
        refine xi_aload_n (by decide +kernel : decode mX4_readDie.2.1 61 = .ok (.aload_n 0, 1)) rfl rfl (?_ : XW _ _ _ _ _ _ _ 62 _ _)
        obtain ⟨Q1, sp, vc⟩ := vc
        refine xi_callV (b := 0) (bs := 0) (As := []) (st := []) (by decide +kernel : decode mX4_readDie.2.1 62 = .ok (.invokevirtual 47, 3)) kX4_47 rfl rfl (by omega) rfl sp (by decide) (by decide) (Nat.le_of_ble_eq_true rfl) (by omega) (fun v9 h4 hq9 => ?_)
        obtain ⟨e9, vc⟩ := vc v9 h4 hq9
        subst e9
        show XW _ _ _ _ _ _ _ 65 _ []
        refine xi_iinc (v := x1 + 1) (ls' := [some (.ref 11), some (.int (x1 + 1)), some (.int r1)]) (by decide +kernel : decode mX4_readDie.2.1 65 = .ok (.iinc 1 1, 3)) rfl rfl (by decide) rfl (?_ : XW _ _ _ _ _ _ _ 68 _ _)
        refine xi_goto (by decide +kernel : decode mX4_readDie.2.1 68 = .ok (.goto (-66), 3)) (by decide) (?_ : XW _ _ _ _ _ _ _ 2 _ _)
        refine xw_drop 2 (ls' := [some (.ref 11), some (.int (x1 + 1)), none]) rfl ?_
        exact vc
      · replace vc := vc.2 c
        refine xi_aload_n (by decide +kernel : decode mX4_readDie.2.1 45 = .ok (.aload_n 0, 1)) rfl rfl (?_ : XW _ _ _ _ _ _ _ 46 _ _)
        obtain ⟨s1, vc⟩ := vc
        refine xi_getR (y := r) (by decide +kernel : decode mX4_readDie.2.1 46 = .ok (.getfield 12, 3)) fX4_12 rfl (by omega) rfl s1 (?_ : XW _ _ _ _ _ _ _ 49 _ _)
        refine xi_getI (by decide +kernel : decode mX4_readDie.2.1 49 = .ok (.getfield 169, 3)) fX4_169 (xRul_s0 hr) (by omega) rfl (?_ : XW _ _ _ _ _ _ _ 52 _ _)
        refine xi_if_ne (by decide +kernel : decode mX4_readDie.2.1 52 = .ok (.ifCond .ne 9, 3)) (by decide) (fun c => (?_ : XW _ _ _ _ _ _ _ 61 _ _)) (fun c => (?_ : XW _ _ _ _ _ _ _ 55 _ _))
        · replace vc := vc.1 c
          refine xi_aload_n (by decide +kernel : decode mX4_readDie.2.1 61 = .ok (.aload_n 0, 1)) rfl rfl (?_ : XW _ _ _ _ _ _ _ 62 _ _)
          obtain ⟨Q1, sp, vc⟩ := vc
          refine xi_callV (b := 0) (bs := 0) (As := []) (st := []) (by decide +kernel : decode mX4_readDie.2.1 62 = .ok (.invokevirtual 47, 3)) kX4_47 rfl rfl (by omega) rfl sp (by decide) (by decide) (Nat.le_of_ble_eq_true rfl) (by omega) (fun v9 h5 hq9 => ?_)
          obtain ⟨e9, vc⟩ := vc v9 h5 hq9
          subst e9
          show XW _ _ _ _ _ _ _ 65 _ []
          refine xi_iinc (v := x1 + 1) (ls' := [some (.ref 11), some (.int (x1 + 1)), some (.int r1)]) (by decide +kernel : decode mX4_readDie.2.1 65 = .ok (.iinc 1 1, 3)) rfl rfl (by decide) rfl (?_ : XW _ _ _ _ _ _ _ 68 _ _)
          refine xi_goto (by decide +kernel : decode mX4_readDie.2.1 68 = .ok (.goto (-66), 3)) (by decide) (?_ : XW _ _ _ _ _ _ _ 2 _ _)
          refine xw_drop 2 (ls' := [some (.ref 11), some (.int (x1 + 1)), none]) rfl ?_
          exact vc
        · replace vc := vc.2 c
          refine xi_aload_n (by decide +kernel : decode mX4_readDie.2.1 55 = .ok (.aload_n 0, 1)) rfl rfl (?_ : XW _ _ _ _ _ _ _ 56 _ _)
          refine xi_iconst (v := 2) (by decide +kernel : decode mX4_readDie.2.1 56 = .ok (.iconst 2, 1)) (by decide) (?_ : XW _ _ _ _ _ _ _ 57 _ _)
          obtain ⟨Q1, sp, vc⟩ := vc
          refine xi_callV (b := 0) (bs := 0) (As := [.int 2]) (st := []) (by decide +kernel : decode mX4_readDie.2.1 57 = .ok (.invokevirtual 101, 3)) kX4_101 rfl rfl (by omega) rfl sp (by decide) (by decide) (Nat.le_of_ble_eq_true rfl) (by omega) (fun v9 h6 hq9 => ?_)
          obtain ⟨r6, e9, vc⟩ := vc v9 h6 hq9
          subst e9
          show XW _ _ _ _ _ _ _ 60 _ [.int r6]
          obtain ⟨s1, vc⟩ := vc
          exact xi_iret (by decide +kernel : decode mX4_readDie.2.1 60 = .ok (.ireturn, 1)) rfl s1 vc
    · replace vc := vc.2 c
      refine xi_iconst (v := 0) (by decide +kernel : decode mX4_readDie.2.1 21 = .ok (.iconst 0, 1)) (by decide) (?_ : XW _ _ _ _ _ _ _ 22 _ _)
      exact xi_iret (by decide +kernel : decode mX4_readDie.2.1 22 = .ok (.ireturn, 1)) rfl rfl vc

set_option maxRecDepth 20000 in
theorem v_X4_readEnd_0 {h : XH} {Q : Option Value → XH → Prop} {X : String → XH → Prop} (r : Nat) (hrd : xRdr r (xP h)) (hr : xRul r (xP h)) (hnr : r + 9 ≤ 100) 
    (vc : ∃ Q1, XSpec mX4_isWord 12 0 0 100 100 [.ref 11, .ref (1000 + 9)] h Q1 xno ∧ ∀ v h1, Q1 v h1 → ∃ r1 : Int32, v = some (.int r1) ∧ ((r1 = 0 → ∃ Q1, XSpec mX4_isWord 12 0 0 100 100 [.ref 11, .ref (1000 + 10)] h1 Q1 xno ∧ ∀ v h2, Q1 v h2 → ∃ r2 : Int32, v = some (.int r2) ∧ ((r2 = 0 → ∃ Q1, XSpec mX4_isWord 12 0 0 100 100 [.ref 11, .ref (1000 + 11)] h2 Q1 xno ∧ ∀ v h3, Q1 v h3 → ∃ r3 : Int32, v = some (.int r3) ∧ ((r3 = 0 → ∃ Q1, XSpec mX4_fail 1 0 0 100 100 [.ref 11, .int 1] h3 Q1 xno ∧ ∀ v h4, Q1 v h4 → ∃ r4 : Int32, v = some (.int r4) ∧ ((narrow .boolean (.int r4) = .int r4) ∧ (Q (some (.int r4)) h4))) ∧ (¬ r3 = 0 → (xP h3 11 7 = some r) ∧ (∃ Q1, XSpec mX4_readOn 14 0 0 100 100 [.ref 11] (xSI r (va_up (xI h3 r) 3 2) h3) Q1 xno ∧ ∀ v h5, Q1 v h5 → v = none ∧ (Q (some (.int 1)) h5))))) ∧ (¬ r2 = 0 → (xP h2 11 7 = some r) ∧ (∃ Q1, XSpec mX4_readOn 14 0 0 100 100 [.ref 11] (xSI r (va_up (xI h2 r) 3 1) h2) Q1 xno ∧ ∀ v h6, Q1 v h6 → v = none ∧ (Q (some (.int 1)) h6))))) ∧ (¬ r1 = 0 → (xP h1 11 7 = some r) ∧ (∃ Q1, XSpec mX4_readOn 14 0 0 100 100 [.ref 11] (xSI r (va_up (xI h1 r) 3 0) h1) Q1 xno ∧ ∀ v h7, Q1 v h7 → v = none ∧ (Q (some (.int 1)) h7))))) :
    XW (xrm 15 0 0) mX4_readEnd (xE 100 Q X 0 0) 100 0 0 h 0 [some (.ref 11)] [] := by
  refine xi_aload_n (by decide +kernel : decode mX4_readEnd.2.1 0 = .ok (.aload_n 0, 1)) rfl rfl (?_ : XW _ _ _ _ _ _ _ 1 _ _)
  refine xi_ldcS (j := 9) (by decide +kernel : decode mX4_readEnd.2.1 1 = .ok (.ldc 172, 2)) rfl (by decide) (?_ : XW _ _ _ _ _ _ _ 3 _ _)
  obtain ⟨Q1, sp, vc⟩ := vc
  refine xi_callV (b := 0) (bs := 0) (As := [.ref (1000 + 9)]) (st := []) (by decide +kernel : decode mX4_readEnd.2.1 3 = .ok (.invokevirtual 52, 3)) kX4_52 rfl rfl (by omega) rfl sp (by decide) (by decide) (Nat.le_of_ble_eq_true rfl) (by omega) (fun v9 h1 hq9 => ?_)
  obtain ⟨r1, e9, vc⟩ := vc v9 h1 hq9
  subst e9
  show XW _ _ _ _ _ _ _ 6 _ [.int r1]
  refine xi_if_eq (by decide +kernel : decode mX4_readEnd.2.1 6 = .ok (.ifCond .eq 14, 3)) (by decide) (fun c => (?_ : XW _ _ _ _ _ _ _ 20 _ _)) (fun c => (?_ : XW _ _ _ _ _ _ _ 9 _ _))
  · replace vc := vc.1 c
    refine xi_aload_n (by decide +kernel : decode mX4_readEnd.2.1 20 = .ok (.aload_n 0, 1)) rfl rfl (?_ : XW _ _ _ _ _ _ _ 21 _ _)
    refine xi_ldcS (j := 10) (by decide +kernel : decode mX4_readEnd.2.1 21 = .ok (.ldc 175, 2)) rfl (by decide) (?_ : XW _ _ _ _ _ _ _ 23 _ _)
    obtain ⟨Q1, sp, vc⟩ := vc
    refine xi_callV (b := 0) (bs := 0) (As := [.ref (1000 + 10)]) (st := []) (by decide +kernel : decode mX4_readEnd.2.1 23 = .ok (.invokevirtual 52, 3)) kX4_52 rfl rfl (by omega) rfl sp (by decide) (by decide) (Nat.le_of_ble_eq_true rfl) (by omega) (fun v9 h2 hq9 => ?_)
    obtain ⟨r2, e9, vc⟩ := vc v9 h2 hq9
    subst e9
    show XW _ _ _ _ _ _ _ 26 _ [.int r2]
    refine xi_if_eq (by decide +kernel : decode mX4_readEnd.2.1 26 = .ok (.ifCond .eq 14, 3)) (by decide) (fun c => (?_ : XW _ _ _ _ _ _ _ 40 _ _)) (fun c => (?_ : XW _ _ _ _ _ _ _ 29 _ _))
    · replace vc := vc.1 c
      refine xi_aload_n (by decide +kernel : decode mX4_readEnd.2.1 40 = .ok (.aload_n 0, 1)) rfl rfl (?_ : XW _ _ _ _ _ _ _ 41 _ _)
      refine xi_ldcS (j := 11) (by decide +kernel : decode mX4_readEnd.2.1 41 = .ok (.ldc 177, 2)) rfl (by decide) (?_ : XW _ _ _ _ _ _ _ 43 _ _)
      obtain ⟨Q1, sp, vc⟩ := vc
      refine xi_callV (b := 0) (bs := 0) (As := [.ref (1000 + 11)]) (st := []) (by decide +kernel : decode mX4_readEnd.2.1 43 = .ok (.invokevirtual 52, 3)) kX4_52 rfl rfl (by omega) rfl sp (by decide) (by decide) (Nat.le_of_ble_eq_true rfl) (by omega) (fun v9 h3 hq9 => ?_)
      obtain ⟨r3, e9, vc⟩ := vc v9 h3 hq9
      subst e9
      show XW _ _ _ _ _ _ _ 46 _ [.int r3]
      refine xi_if_eq (by decide +kernel : decode mX4_readEnd.2.1 46 = .ok (.ifCond .eq 14, 3)) (by decide) (fun c => (?_ : XW _ _ _ _ _ _ _ 60 _ _)) (fun c => (?_ : XW _ _ _ _ _ _ _ 49 _ _))
      · replace vc := vc.1 c
        refine xi_aload_n (by decide +kernel : decode mX4_readEnd.2.1 60 = .ok (.aload_n 0, 1)) rfl rfl (?_ : XW _ _ _ _ _ _ _ 61 _ _)
        refine xi_iconst (v := 1) (by decide +kernel : decode mX4_readEnd.2.1 61 = .ok (.iconst 1, 1)) (by decide) (?_ : XW _ _ _ _ _ _ _ 62 _ _)
        obtain ⟨Q1, sp, vc⟩ := vc
        refine xi_callV (b := 0) (bs := 0) (As := [.int 1]) (st := []) (by decide +kernel : decode mX4_readEnd.2.1 62 = .ok (.invokevirtual 101, 3)) kX4_101 rfl rfl (by omega) rfl sp (by decide) (by decide) (Nat.le_of_ble_eq_true rfl) (by omega) (fun v9 h4 hq9 => ?_)
        obtain ⟨r4, e9, vc⟩ := vc v9 h4 hq9
        subst e9
        show XW _ _ _ _ _ _ _ 65 _ [.int r4]
        obtain ⟨s1, vc⟩ := vc
        exact xi_iret (by decide +kernel : decode mX4_readEnd.2.1 65 = .ok (.ireturn, 1)) rfl s1 vc
      · replace vc := vc.2 c
        refine xi_aload_n (by decide +kernel : decode mX4_readEnd.2.1 49 = .ok (.aload_n 0, 1)) rfl rfl (?_ : XW _ _ _ _ _ _ _ 50 _ _)
        obtain ⟨s1, vc⟩ := vc
        refine xi_getR (y := r) (by decide +kernel : decode mX4_readEnd.2.1 50 = .ok (.getfield 12, 3)) fX4_12 rfl (by omega) rfl s1 (?_ : XW _ _ _ _ _ _ _ 53 _ _)
        refine xi_iconst (v := 2) (by decide +kernel : decode mX4_readEnd.2.1 53 = .ok (.iconst 2, 1)) (by decide) (?_ : XW _ _ _ _ _ _ _ 54 _ _)
        refine xi_putI (by decide +kernel : decode mX4_readEnd.2.1 54 = .ok (.putfield 174, 3)) fX4_174 (xRul_s0 hr) (by omega) rfl rfl rfl (?_ : XW _ _ _ _ _ _ (xSI r (va_up (xI h3 r) 3 2) h3) 57 _ _)
        refine xi_goto (by decide +kernel : decode mX4_readEnd.2.1 57 = .ok (.goto 9, 3)) (by decide) (?_ : XW _ _ _ _ _ _ _ 66 _ _)
        refine xi_aload_n (by decide +kernel : decode mX4_readEnd.2.1 66 = .ok (.aload_n 0, 1)) rfl rfl (?_ : XW _ _ _ _ _ _ _ 67 _ _)
        obtain ⟨Q1, sp, vc⟩ := vc
        refine xi_callV (b := 0) (bs := 0) (As := []) (st := []) (by decide +kernel : decode mX4_readEnd.2.1 67 = .ok (.invokevirtual 47, 3)) kX4_47 rfl rfl (by omega) rfl sp (by decide) (by decide) (Nat.le_of_ble_eq_true rfl) (by omega) (fun v9 h5 hq9 => ?_)
        obtain ⟨e9, vc⟩ := vc v9 h5 hq9
        subst e9
        show XW _ _ _ _ _ _ _ 70 _ []
        refine xi_iconst (v := 1) (by decide +kernel : decode mX4_readEnd.2.1 70 = .ok (.iconst 1, 1)) (by decide) (?_ : XW _ _ _ _ _ _ _ 71 _ _)
        exact xi_iret (by decide +kernel : decode mX4_readEnd.2.1 71 = .ok (.ireturn, 1)) rfl rfl vc
    · replace vc := vc.2 c
      refine xi_aload_n (by decide +kernel : decode mX4_readEnd.2.1 29 = .ok (.aload_n 0, 1)) rfl rfl (?_ : XW _ _ _ _ _ _ _ 30 _ _)
      obtain ⟨s1, vc⟩ := vc
      refine xi_getR (y := r) (by decide +kernel : decode mX4_readEnd.2.1 30 = .ok (.getfield 12, 3)) fX4_12 rfl (by omega) rfl s1 (?_ : XW _ _ _ _ _ _ _ 33 _ _)
      refine xi_iconst (v := 1) (by decide +kernel : decode mX4_readEnd.2.1 33 = .ok (.iconst 1, 1)) (by decide) (?_ : XW _ _ _ _ _ _ _ 34 _ _)
      refine xi_putI (by decide +kernel : decode mX4_readEnd.2.1 34 = .ok (.putfield 174, 3)) fX4_174 (xRul_s0 hr) (by omega) rfl rfl rfl (?_ : XW _ _ _ _ _ _ (xSI r (va_up (xI h2 r) 3 1) h2) 37 _ _)
      refine xi_goto (by decide +kernel : decode mX4_readEnd.2.1 37 = .ok (.goto 29, 3)) (by decide) (?_ : XW _ _ _ _ _ _ _ 66 _ _)
      refine xi_aload_n (by decide +kernel : decode mX4_readEnd.2.1 66 = .ok (.aload_n 0, 1)) rfl rfl (?_ : XW _ _ _ _ _ _ _ 67 _ _)
      obtain ⟨Q1, sp, vc⟩ := vc
      refine xi_callV (b := 0) (bs := 0) (As := []) (st := []) (by decide +kernel : decode mX4_readEnd.2.1 67 = .ok (.invokevirtual 47, 3)) kX4_47 rfl rfl (by omega) rfl sp (by decide) (by decide) (Nat.le_of_ble_eq_true rfl) (by omega) (fun v9 h6 hq9 => ?_)
      obtain ⟨e9, vc⟩ := vc v9 h6 hq9
      subst e9
      show XW _ _ _ _ _ _ _ 70 _ []
      refine xi_iconst (v := 1) (by decide +kernel : decode mX4_readEnd.2.1 70 = .ok (.iconst 1, 1)) (by decide) (?_ : XW _ _ _ _ _ _ _ 71 _ _)
      exact xi_iret (by decide +kernel : decode mX4_readEnd.2.1 71 = .ok (.ireturn, 1)) rfl rfl vc
  · replace vc := vc.2 c
    refine xi_aload_n (by decide +kernel : decode mX4_readEnd.2.1 9 = .ok (.aload_n 0, 1)) rfl rfl (?_ : XW _ _ _ _ _ _ _ 10 _ _)
    obtain ⟨s1, vc⟩ := vc
    refine xi_getR (y := r) (by decide +kernel : decode mX4_readEnd.2.1 10 = .ok (.getfield 12, 3)) fX4_12 rfl (by omega) rfl s1 (?_ : XW _ _ _ _ _ _ _ 13 _ _)
    refine xi_iconst (v := 0) (by decide +kernel : decode mX4_readEnd.2.1 13 = .ok (.iconst 0, 1)) (by decide) (?_ : XW _ _ _ _ _ _ _ 14 _ _)
    refine xi_putI (by decide +kernel : decode mX4_readEnd.2.1 14 = .ok (.putfield 174, 3)) fX4_174 (xRul_s0 hr) (by omega) rfl rfl rfl (?_ : XW _ _ _ _ _ _ (xSI r (va_up (xI h1 r) 3 0) h1) 17 _ _)
    refine xi_goto (by decide +kernel : decode mX4_readEnd.2.1 17 = .ok (.goto 49, 3)) (by decide) (?_ : XW _ _ _ _ _ _ _ 66 _ _)
    refine xi_aload_n (by decide +kernel : decode mX4_readEnd.2.1 66 = .ok (.aload_n 0, 1)) rfl rfl (?_ : XW _ _ _ _ _ _ _ 67 _ _)
    obtain ⟨Q1, sp, vc⟩ := vc
    refine xi_callV (b := 0) (bs := 0) (As := []) (st := []) (by decide +kernel : decode mX4_readEnd.2.1 67 = .ok (.invokevirtual 47, 3)) kX4_47 rfl rfl (by omega) rfl sp (by decide) (by decide) (Nat.le_of_ble_eq_true rfl) (by omega) (fun v9 h7 hq9 => ?_)
    obtain ⟨e9, vc⟩ := vc v9 h7 hq9
    subst e9
    show XW _ _ _ _ _ _ _ 70 _ []
    refine xi_iconst (v := 1) (by decide +kernel : decode mX4_readEnd.2.1 70 = .ok (.iconst 1, 1)) (by decide) (?_ : XW _ _ _ _ _ _ _ 71 _ _)
    exact xi_iret (by decide +kernel : decode mX4_readEnd.2.1 71 = .ok (.ireturn, 1)) rfl rfl vc

set_option maxRecDepth 20000 in
theorem v_X4_readAgain_0 {h : XH} {Q : Option Value → XH → Prop} {X : String → XH → Prop} (r : Nat) (hrd : xRdr r (xP h)) (hr : xRul r (xP h)) (hnr : r + 9 ≤ 100) 
    (vc : ∃ Q1, XSpec mX4_checkedNumber 3 0 0 100 100 [.ref 11, .int 1, .int 6] h Q1 xno ∧ ∀ v h1, Q1 v h1 → ∃ r1 : Int32, v = some (.int r1) ∧ ((¬ r1 = (-1) → (xP h1 11 7 = some r) ∧ (∃ Q1, XSpec mX4_readOn 14 0 0 100 100 [.ref 11] (xSI r (va_up (xI h1 r) 4 r1) h1) Q1 xno ∧ ∀ v h2, Q1 v h2 → v = none ∧ (Q (some (.int 1)) h2))) ∧ (r1 = (-1) → Q (some (.int 0)) h1))) :
    XW (xrm 15 0 0) mX4_readAgain (xE 100 Q X 0 0) 100 0 0 h 0 [some (.ref 11), none] [] := by
  refine xi_aload_n (by decide +kernel : decode mX4_readAgain.2.1 0 = .ok (.aload_n 0, 1)) rfl rfl (?_ : XW _ _ _ _ _ _ _ 1 _ _)
  refine xi_iconst (v := 1) (by decide +kernel : decode mX4_readAgain.2.1 1 = .ok (.iconst 1, 1)) (by decide) (?_ : XW _ _ _ _ _ _ _ 2 _ _)
  refine xi_bipush (v := 6) (by decide +kernel : decode mX4_readAgain.2.1 2 = .ok (.bipush 6, 2)) (by decide) (?_ : XW _ _ _ _ _ _ _ 4 _ _)
  obtain ⟨Q1, sp, vc⟩ := vc
  refine xi_callV (b := 0) (bs := 0) (As := [.int 1, .int 6]) (st := []) (by decide +kernel : decode mX4_readAgain.2.1 4 = .ok (.invokevirtual 108, 3)) kX4_108 rfl rfl (by omega) rfl sp (by decide) (by decide) (Nat.le_of_ble_eq_true rfl) (by omega) (fun v9 h1 hq9 => ?_)
  obtain ⟨r1, e9, vc⟩ := vc v9 h1 hq9
  subst e9
  show XW _ _ _ _ _ _ _ 7 _ [.int r1]
  refine xi_istore_n (ls' := [some (.ref 11), some (.int r1)]) (by decide +kernel : decode mX4_readAgain.2.1 7 = .ok (.istore_n 1, 1)) rfl (by decide) rfl (?_ : XW _ _ _ _ _ _ _ 8 _ _)
  refine xi_iload_n (by decide +kernel : decode mX4_readAgain.2.1 8 = .ok (.iload_n 1, 1)) rfl rfl (?_ : XW _ _ _ _ _ _ _ 9 _ _)
  refine xi_iconst (v := (-1)) (by decide +kernel : decode mX4_readAgain.2.1 9 = .ok (.iconst (-1), 1)) (by decide) (?_ : XW _ _ _ _ _ _ _ 10 _ _)
  refine xi_icmp_ne (by decide +kernel : decode mX4_readAgain.2.1 10 = .ok (.if_icmp .ne 5, 3)) (by decide) (fun c => (?_ : XW _ _ _ _ _ _ _ 15 _ _)) (fun c => (?_ : XW _ _ _ _ _ _ _ 13 _ _))
  · replace vc := vc.1 c
    refine xi_aload_n (by decide +kernel : decode mX4_readAgain.2.1 15 = .ok (.aload_n 0, 1)) rfl rfl (?_ : XW _ _ _ _ _ _ _ 16 _ _)
    obtain ⟨s1, vc⟩ := vc
    refine xi_getR (y := r) (by decide +kernel : decode mX4_readAgain.2.1 16 = .ok (.getfield 12, 3)) fX4_12 rfl (by omega) rfl s1 (?_ : XW _ _ _ _ _ _ _ 19 _ _)
    refine xi_iload_n (by decide +kernel : decode mX4_readAgain.2.1 19 = .ok (.iload_n 1, 1)) rfl rfl (?_ : XW _ _ _ _ _ _ _ 20 _ _)
    refine xi_putI (by decide +kernel : decode mX4_readAgain.2.1 20 = .ok (.putfield 179, 3)) fX4_179 (xRul_s0 hr) (by omega) rfl rfl rfl (?_ : XW _ _ _ _ _ _ (xSI r (va_up (xI h1 r) 4 r1) h1) 23 _ _)
    refine xi_aload_n (by decide +kernel : decode mX4_readAgain.2.1 23 = .ok (.aload_n 0, 1)) rfl rfl (?_ : XW _ _ _ _ _ _ _ 24 _ _)
    obtain ⟨Q1, sp, vc⟩ := vc
    refine xi_callV (b := 0) (bs := 0) (As := []) (st := []) (by decide +kernel : decode mX4_readAgain.2.1 24 = .ok (.invokevirtual 47, 3)) kX4_47 rfl rfl (by omega) rfl sp (by decide) (by decide) (Nat.le_of_ble_eq_true rfl) (by omega) (fun v9 h2 hq9 => ?_)
    obtain ⟨e9, vc⟩ := vc v9 h2 hq9
    subst e9
    show XW _ _ _ _ _ _ _ 27 _ []
    refine xi_iconst (v := 1) (by decide +kernel : decode mX4_readAgain.2.1 27 = .ok (.iconst 1, 1)) (by decide) (?_ : XW _ _ _ _ _ _ _ 28 _ _)
    exact xi_iret (by decide +kernel : decode mX4_readAgain.2.1 28 = .ok (.ireturn, 1)) rfl rfl vc
  · replace vc := vc.2 c
    refine xi_iconst (v := 0) (by decide +kernel : decode mX4_readAgain.2.1 13 = .ok (.iconst 0, 1)) (by decide) (?_ : XW _ _ _ _ _ _ _ 14 _ _)
    exact xi_iret (by decide +kernel : decode mX4_readAgain.2.1 14 = .ok (.ireturn, 1)) rfl rfl vc

set_option maxRecDepth 20000 in
theorem v_X4_readPieces_0 {h : XH} {Q : Option Value → XH → Prop} {X : String → XH → Prop} (r : Nat) (hrd : xRdr r (xP h)) (hr : xRul r (xP h)) (hnr : r + 9 ≤ 100) 
    (vc : ∃ Q1, XSpec mX4_checkedNumber 3 0 0 100 100 [.ref 11, .int 1, .int 4] h Q1 xno ∧ ∀ v h1, Q1 v h1 → ∃ r1 : Int32, v = some (.int r1) ∧ ((¬ r1 = (-1) → (xP h1 11 7 = some r) ∧ (∃ Q1, XSpec mX4_readOn 14 0 0 100 100 [.ref 11] (xSI r (va_up (xI h1 r) 6 r1) h1) Q1 xno ∧ ∀ v h2, Q1 v h2 → v = none ∧ (Q (some (.int 1)) h2))) ∧ (r1 = (-1) → Q (some (.int 0)) h1))) :
    XW (xrm 15 0 0) mX4_readPieces (xE 100 Q X 0 0) 100 0 0 h 0 [some (.ref 11), none] [] := by
  refine xi_aload_n (by decide +kernel : decode mX4_readPieces.2.1 0 = .ok (.aload_n 0, 1)) rfl rfl (?_ : XW _ _ _ _ _ _ _ 1 _ _)
  refine xi_iconst (v := 1) (by decide +kernel : decode mX4_readPieces.2.1 1 = .ok (.iconst 1, 1)) (by decide) (?_ : XW _ _ _ _ _ _ _ 2 _ _)
  refine xi_iconst (v := 4) (by decide +kernel : decode mX4_readPieces.2.1 2 = .ok (.iconst 4, 1)) (by decide) (?_ : XW _ _ _ _ _ _ _ 3 _ _)
  obtain ⟨Q1, sp, vc⟩ := vc
  refine xi_callV (b := 0) (bs := 0) (As := [.int 1, .int 4]) (st := []) (by decide +kernel : decode mX4_readPieces.2.1 3 = .ok (.invokevirtual 108, 3)) kX4_108 rfl rfl (by omega) rfl sp (by decide) (by decide) (Nat.le_of_ble_eq_true rfl) (by omega) (fun v9 h1 hq9 => ?_)
  obtain ⟨r1, e9, vc⟩ := vc v9 h1 hq9
  subst e9
  show XW _ _ _ _ _ _ _ 6 _ [.int r1]
  refine xi_istore_n (ls' := [some (.ref 11), some (.int r1)]) (by decide +kernel : decode mX4_readPieces.2.1 6 = .ok (.istore_n 1, 1)) rfl (by decide) rfl (?_ : XW _ _ _ _ _ _ _ 7 _ _)
  refine xi_iload_n (by decide +kernel : decode mX4_readPieces.2.1 7 = .ok (.iload_n 1, 1)) rfl rfl (?_ : XW _ _ _ _ _ _ _ 8 _ _)
  refine xi_iconst (v := (-1)) (by decide +kernel : decode mX4_readPieces.2.1 8 = .ok (.iconst (-1), 1)) (by decide) (?_ : XW _ _ _ _ _ _ _ 9 _ _)
  refine xi_icmp_ne (by decide +kernel : decode mX4_readPieces.2.1 9 = .ok (.if_icmp .ne 5, 3)) (by decide) (fun c => (?_ : XW _ _ _ _ _ _ _ 14 _ _)) (fun c => (?_ : XW _ _ _ _ _ _ _ 12 _ _))
  · replace vc := vc.1 c
    refine xi_aload_n (by decide +kernel : decode mX4_readPieces.2.1 14 = .ok (.aload_n 0, 1)) rfl rfl (?_ : XW _ _ _ _ _ _ _ 15 _ _)
    obtain ⟨s1, vc⟩ := vc
    refine xi_getR (y := r) (by decide +kernel : decode mX4_readPieces.2.1 15 = .ok (.getfield 12, 3)) fX4_12 rfl (by omega) rfl s1 (?_ : XW _ _ _ _ _ _ _ 18 _ _)
    refine xi_iload_n (by decide +kernel : decode mX4_readPieces.2.1 18 = .ok (.iload_n 1, 1)) rfl rfl (?_ : XW _ _ _ _ _ _ _ 19 _ _)
    refine xi_putI (by decide +kernel : decode mX4_readPieces.2.1 19 = .ok (.putfield 181, 3)) fX4_181 (xRul_s0 hr) (by omega) rfl rfl rfl (?_ : XW _ _ _ _ _ _ (xSI r (va_up (xI h1 r) 6 r1) h1) 22 _ _)
    refine xi_aload_n (by decide +kernel : decode mX4_readPieces.2.1 22 = .ok (.aload_n 0, 1)) rfl rfl (?_ : XW _ _ _ _ _ _ _ 23 _ _)
    obtain ⟨Q1, sp, vc⟩ := vc
    refine xi_callV (b := 0) (bs := 0) (As := []) (st := []) (by decide +kernel : decode mX4_readPieces.2.1 23 = .ok (.invokevirtual 47, 3)) kX4_47 rfl rfl (by omega) rfl sp (by decide) (by decide) (Nat.le_of_ble_eq_true rfl) (by omega) (fun v9 h2 hq9 => ?_)
    obtain ⟨e9, vc⟩ := vc v9 h2 hq9
    subst e9
    show XW _ _ _ _ _ _ _ 26 _ []
    refine xi_iconst (v := 1) (by decide +kernel : decode mX4_readPieces.2.1 26 = .ok (.iconst 1, 1)) (by decide) (?_ : XW _ _ _ _ _ _ _ 27 _ _)
    exact xi_iret (by decide +kernel : decode mX4_readPieces.2.1 27 = .ok (.ireturn, 1)) rfl rfl vc
  · replace vc := vc.2 c
    refine xi_iconst (v := 0) (by decide +kernel : decode mX4_readPieces.2.1 12 = .ok (.iconst 0, 1)) (by decide) (?_ : XW _ _ _ _ _ _ _ 13 _ _)
    exact xi_iret (by decide +kernel : decode mX4_readPieces.2.1 13 = .ok (.ireturn, 1)) rfl rfl vc

set_option maxRecDepth 20000 in
theorem v_X4_lineHere_0 {h : XH} {Q : Option Value → XH → Prop} {X : String → XH → Prop} (r : Nat) (hrd : xRdr r (xP h)) (hr : xRul r (xP h)) (hnr : r + 9 ≤ 100) 
    (vc : ∃ Q1, XSpec mX4_isWord 12 0 0 100 100 [.ref 11, .ref (1000 + 2)] h Q1 xno ∧ ∀ v h1, Q1 v h1 → ∃ r1 : Int32, v = some (.int r1) ∧ ((r1 = 0 → ∃ Q1, XSpec mX4_isWord 12 0 0 100 100 [.ref 11, .ref (1000 + 3)] h1 Q1 xno ∧ ∀ v h2, Q1 v h2 → ∃ r2 : Int32, v = some (.int r2) ∧ ((r2 = 0 → ∃ Q1, XSpec mX4_isWord 12 0 0 100 100 [.ref 11, .ref (1000 + 4)] h2 Q1 xno ∧ ∀ v h3, Q1 v h3 → ∃ r3 : Int32, v = some (.int r3) ∧ ((r3 = 0 → ∃ Q1, XSpec mX4_isWord 12 0 0 100 100 [.ref 11, .ref (1000 + 5)] h3 Q1 xno ∧ ∀ v h4, Q1 v h4 → ∃ r4 : Int32, v = some (.int r4) ∧ ((r4 = 0 → ∃ Q1, XSpec mX4_isWord 12 0 0 100 100 [.ref 11, .ref (1000 + 6)] h4 Q1 xno ∧ ∀ v h5, Q1 v h5 → ∃ r5 : Int32, v = some (.int r5) ∧ ((r5 = 0 → ∃ Q1, XSpec mX4_isWord 12 0 0 100 100 [.ref 11, .ref (1000 + 7)] h5 Q1 xno ∧ ∀ v h6, Q1 v h6 → ∃ r6 : Int32, v = some (.int r6) ∧ ((r6 = 0 → ∃ Q1, XSpec mX4_isWord 12 0 0 100 100 [.ref 11, .ref (1000 + 8)] h6 Q1 xno ∧ ∀ v h7, Q1 v h7 → ∃ r7 : Int32, v = some (.int r7) ∧ ((r7 = 0 → Q (some (.int 0)) h7) ∧ (¬ r7 = 0 → Q (some (.int 7)) h7))) ∧ (¬ r6 = 0 → Q (some (.int 6)) h6))) ∧ (¬ r5 = 0 → Q (some (.int 5)) h5))) ∧ (¬ r4 = 0 → Q (some (.int 4)) h4))) ∧ (¬ r3 = 0 → Q (some (.int 3)) h3))) ∧ (¬ r2 = 0 → Q (some (.int 2)) h2))) ∧ (¬ r1 = 0 → Q (some (.int 1)) h1))) :
    XW (xrm 13 0 0) mX4_lineHere (xE 100 Q X 0 0) 100 0 0 h 0 [some (.ref 11)] [] := by
  refine xi_aload_n (by decide +kernel : decode mX4_lineHere.2.1 0 = .ok (.aload_n 0, 1)) rfl rfl (?_ : XW _ _ _ _ _ _ _ 1 _ _)
  refine xi_ldcS (j := 2) (by decide +kernel : decode mX4_lineHere.2.1 1 = .ok (.ldc 144, 2)) rfl (by decide) (?_ : XW _ _ _ _ _ _ _ 3 _ _)
  obtain ⟨Q1, sp, vc⟩ := vc
  refine xi_callV (b := 0) (bs := 0) (As := [.ref (1000 + 2)]) (st := []) (by decide +kernel : decode mX4_lineHere.2.1 3 = .ok (.invokevirtual 52, 3)) kX4_52 rfl rfl (by omega) rfl sp (by decide) (by decide) (Nat.le_of_ble_eq_true rfl) (by omega) (fun v9 h1 hq9 => ?_)
  obtain ⟨r1, e9, vc⟩ := vc v9 h1 hq9
  subst e9
  show XW _ _ _ _ _ _ _ 6 _ [.int r1]
  refine xi_if_eq (by decide +kernel : decode mX4_lineHere.2.1 6 = .ok (.ifCond .eq 5, 3)) (by decide) (fun c => (?_ : XW _ _ _ _ _ _ _ 11 _ _)) (fun c => (?_ : XW _ _ _ _ _ _ _ 9 _ _))
  · replace vc := vc.1 c
    refine xi_aload_n (by decide +kernel : decode mX4_lineHere.2.1 11 = .ok (.aload_n 0, 1)) rfl rfl (?_ : XW _ _ _ _ _ _ _ 12 _ _)
    refine xi_ldcS (j := 3) (by decide +kernel : decode mX4_lineHere.2.1 12 = .ok (.ldc 146, 2)) rfl (by decide) (?_ : XW _ _ _ _ _ _ _ 14 _ _)
    obtain ⟨Q1, sp, vc⟩ := vc
    refine xi_callV (b := 0) (bs := 0) (As := [.ref (1000 + 3)]) (st := []) (by decide +kernel : decode mX4_lineHere.2.1 14 = .ok (.invokevirtual 52, 3)) kX4_52 rfl rfl (by omega) rfl sp (by decide) (by decide) (Nat.le_of_ble_eq_true rfl) (by omega) (fun v9 h2 hq9 => ?_)
    obtain ⟨r2, e9, vc⟩ := vc v9 h2 hq9
    subst e9
    show XW _ _ _ _ _ _ _ 17 _ [.int r2]
    refine xi_if_eq (by decide +kernel : decode mX4_lineHere.2.1 17 = .ok (.ifCond .eq 5, 3)) (by decide) (fun c => (?_ : XW _ _ _ _ _ _ _ 22 _ _)) (fun c => (?_ : XW _ _ _ _ _ _ _ 20 _ _))
    · replace vc := vc.1 c
      refine xi_aload_n (by decide +kernel : decode mX4_lineHere.2.1 22 = .ok (.aload_n 0, 1)) rfl rfl (?_ : XW _ _ _ _ _ _ _ 23 _ _)
      refine xi_ldcS (j := 4) (by decide +kernel : decode mX4_lineHere.2.1 23 = .ok (.ldc 148, 2)) rfl (by decide) (?_ : XW _ _ _ _ _ _ _ 25 _ _)
      obtain ⟨Q1, sp, vc⟩ := vc
      refine xi_callV (b := 0) (bs := 0) (As := [.ref (1000 + 4)]) (st := []) (by decide +kernel : decode mX4_lineHere.2.1 25 = .ok (.invokevirtual 52, 3)) kX4_52 rfl rfl (by omega) rfl sp (by decide) (by decide) (Nat.le_of_ble_eq_true rfl) (by omega) (fun v9 h3 hq9 => ?_)
      obtain ⟨r3, e9, vc⟩ := vc v9 h3 hq9
      subst e9
      show XW _ _ _ _ _ _ _ 28 _ [.int r3]
      refine xi_if_eq (by decide +kernel : decode mX4_lineHere.2.1 28 = .ok (.ifCond .eq 5, 3)) (by decide) (fun c => (?_ : XW _ _ _ _ _ _ _ 33 _ _)) (fun c => (?_ : XW _ _ _ _ _ _ _ 31 _ _))
      · replace vc := vc.1 c
        refine xi_aload_n (by decide +kernel : decode mX4_lineHere.2.1 33 = .ok (.aload_n 0, 1)) rfl rfl (?_ : XW _ _ _ _ _ _ _ 34 _ _)
        refine xi_ldcS (j := 5) (by decide +kernel : decode mX4_lineHere.2.1 34 = .ok (.ldc 149, 2)) rfl (by decide) (?_ : XW _ _ _ _ _ _ _ 36 _ _)
        obtain ⟨Q1, sp, vc⟩ := vc
        refine xi_callV (b := 0) (bs := 0) (As := [.ref (1000 + 5)]) (st := []) (by decide +kernel : decode mX4_lineHere.2.1 36 = .ok (.invokevirtual 52, 3)) kX4_52 rfl rfl (by omega) rfl sp (by decide) (by decide) (Nat.le_of_ble_eq_true rfl) (by omega) (fun v9 h4 hq9 => ?_)
        obtain ⟨r4, e9, vc⟩ := vc v9 h4 hq9
        subst e9
        show XW _ _ _ _ _ _ _ 39 _ [.int r4]
        refine xi_if_eq (by decide +kernel : decode mX4_lineHere.2.1 39 = .ok (.ifCond .eq 5, 3)) (by decide) (fun c => (?_ : XW _ _ _ _ _ _ _ 44 _ _)) (fun c => (?_ : XW _ _ _ _ _ _ _ 42 _ _))
        · replace vc := vc.1 c
          refine xi_aload_n (by decide +kernel : decode mX4_lineHere.2.1 44 = .ok (.aload_n 0, 1)) rfl rfl (?_ : XW _ _ _ _ _ _ _ 45 _ _)
          refine xi_ldcS (j := 6) (by decide +kernel : decode mX4_lineHere.2.1 45 = .ok (.ldc 151, 2)) rfl (by decide) (?_ : XW _ _ _ _ _ _ _ 47 _ _)
          obtain ⟨Q1, sp, vc⟩ := vc
          refine xi_callV (b := 0) (bs := 0) (As := [.ref (1000 + 6)]) (st := []) (by decide +kernel : decode mX4_lineHere.2.1 47 = .ok (.invokevirtual 52, 3)) kX4_52 rfl rfl (by omega) rfl sp (by decide) (by decide) (Nat.le_of_ble_eq_true rfl) (by omega) (fun v9 h5 hq9 => ?_)
          obtain ⟨r5, e9, vc⟩ := vc v9 h5 hq9
          subst e9
          show XW _ _ _ _ _ _ _ 50 _ [.int r5]
          refine xi_if_eq (by decide +kernel : decode mX4_lineHere.2.1 50 = .ok (.ifCond .eq 5, 3)) (by decide) (fun c => (?_ : XW _ _ _ _ _ _ _ 55 _ _)) (fun c => (?_ : XW _ _ _ _ _ _ _ 53 _ _))
          · replace vc := vc.1 c
            refine xi_aload_n (by decide +kernel : decode mX4_lineHere.2.1 55 = .ok (.aload_n 0, 1)) rfl rfl (?_ : XW _ _ _ _ _ _ _ 56 _ _)
            refine xi_ldcS (j := 7) (by decide +kernel : decode mX4_lineHere.2.1 56 = .ok (.ldc 152, 2)) rfl (by decide) (?_ : XW _ _ _ _ _ _ _ 58 _ _)
            obtain ⟨Q1, sp, vc⟩ := vc
            refine xi_callV (b := 0) (bs := 0) (As := [.ref (1000 + 7)]) (st := []) (by decide +kernel : decode mX4_lineHere.2.1 58 = .ok (.invokevirtual 52, 3)) kX4_52 rfl rfl (by omega) rfl sp (by decide) (by decide) (Nat.le_of_ble_eq_true rfl) (by omega) (fun v9 h6 hq9 => ?_)
            obtain ⟨r6, e9, vc⟩ := vc v9 h6 hq9
            subst e9
            show XW _ _ _ _ _ _ _ 61 _ [.int r6]
            refine xi_if_eq (by decide +kernel : decode mX4_lineHere.2.1 61 = .ok (.ifCond .eq 6, 3)) (by decide) (fun c => (?_ : XW _ _ _ _ _ _ _ 67 _ _)) (fun c => (?_ : XW _ _ _ _ _ _ _ 64 _ _))
            · replace vc := vc.1 c
              refine xi_aload_n (by decide +kernel : decode mX4_lineHere.2.1 67 = .ok (.aload_n 0, 1)) rfl rfl (?_ : XW _ _ _ _ _ _ _ 68 _ _)
              refine xi_ldcS (j := 8) (by decide +kernel : decode mX4_lineHere.2.1 68 = .ok (.ldc 154, 2)) rfl (by decide) (?_ : XW _ _ _ _ _ _ _ 70 _ _)
              obtain ⟨Q1, sp, vc⟩ := vc
              refine xi_callV (b := 0) (bs := 0) (As := [.ref (1000 + 8)]) (st := []) (by decide +kernel : decode mX4_lineHere.2.1 70 = .ok (.invokevirtual 52, 3)) kX4_52 rfl rfl (by omega) rfl sp (by decide) (by decide) (Nat.le_of_ble_eq_true rfl) (by omega) (fun v9 h7 hq9 => ?_)
              obtain ⟨r7, e9, vc⟩ := vc v9 h7 hq9
              subst e9
              show XW _ _ _ _ _ _ _ 73 _ [.int r7]
              refine xi_if_eq (by decide +kernel : decode mX4_lineHere.2.1 73 = .ok (.ifCond .eq 8, 3)) (by decide) (fun c => (?_ : XW _ _ _ _ _ _ _ 81 _ _)) (fun c => (?_ : XW _ _ _ _ _ _ _ 76 _ _))
              · replace vc := vc.1 c
                refine xi_iconst (v := 0) (by decide +kernel : decode mX4_lineHere.2.1 81 = .ok (.iconst 0, 1)) (by decide) (?_ : XW _ _ _ _ _ _ _ 82 _ _)
                exact xi_iret (by decide +kernel : decode mX4_lineHere.2.1 82 = .ok (.ireturn, 1)) rfl rfl vc
              · replace vc := vc.2 c
                refine xi_bipush (v := 7) (by decide +kernel : decode mX4_lineHere.2.1 76 = .ok (.bipush 7, 2)) (by decide) (?_ : XW _ _ _ _ _ _ _ 78 _ _)
                refine xi_goto (by decide +kernel : decode mX4_lineHere.2.1 78 = .ok (.goto 4, 3)) (by decide) (?_ : XW _ _ _ _ _ _ _ 82 _ _)
                exact xi_iret (by decide +kernel : decode mX4_lineHere.2.1 82 = .ok (.ireturn, 1)) rfl rfl vc
            · replace vc := vc.2 c
              refine xi_bipush (v := 6) (by decide +kernel : decode mX4_lineHere.2.1 64 = .ok (.bipush 6, 2)) (by decide) (?_ : XW _ _ _ _ _ _ _ 66 _ _)
              exact xi_iret (by decide +kernel : decode mX4_lineHere.2.1 66 = .ok (.ireturn, 1)) rfl rfl vc
          · replace vc := vc.2 c
            refine xi_iconst (v := 5) (by decide +kernel : decode mX4_lineHere.2.1 53 = .ok (.iconst 5, 1)) (by decide) (?_ : XW _ _ _ _ _ _ _ 54 _ _)
            exact xi_iret (by decide +kernel : decode mX4_lineHere.2.1 54 = .ok (.ireturn, 1)) rfl rfl vc
        · replace vc := vc.2 c
          refine xi_iconst (v := 4) (by decide +kernel : decode mX4_lineHere.2.1 42 = .ok (.iconst 4, 1)) (by decide) (?_ : XW _ _ _ _ _ _ _ 43 _ _)
          exact xi_iret (by decide +kernel : decode mX4_lineHere.2.1 43 = .ok (.ireturn, 1)) rfl rfl vc
      · replace vc := vc.2 c
        refine xi_iconst (v := 3) (by decide +kernel : decode mX4_lineHere.2.1 31 = .ok (.iconst 3, 1)) (by decide) (?_ : XW _ _ _ _ _ _ _ 32 _ _)
        exact xi_iret (by decide +kernel : decode mX4_lineHere.2.1 32 = .ok (.ireturn, 1)) rfl rfl vc
    · replace vc := vc.2 c
      refine xi_iconst (v := 2) (by decide +kernel : decode mX4_lineHere.2.1 20 = .ok (.iconst 2, 1)) (by decide) (?_ : XW _ _ _ _ _ _ _ 21 _ _)
      exact xi_iret (by decide +kernel : decode mX4_lineHere.2.1 21 = .ok (.ireturn, 1)) rfl rfl vc
  · replace vc := vc.2 c
    refine xi_iconst (v := 1) (by decide +kernel : decode mX4_lineHere.2.1 9 = .ok (.iconst 1, 1)) (by decide) (?_ : XW _ _ _ _ _ _ _ 10 _ _)
    exact xi_iret (by decide +kernel : decode mX4_lineHere.2.1 10 = .ok (.ireturn, 1)) rfl rfl vc

set_option maxRecDepth 20000 in
theorem v_X4_keepText_0 {h : XH} {Q : Option Value → XH → Prop} {X : String → XH → Prop} (r : Nat) (hrd : xRdr r (xP h)) (hr : xRul r (xP h)) (hnr : r + 9 ≤ 100)  (ax : Int32) (bx : Int32)
    (vc : XW (xrm 2 0 0) mX4_keepText (xE 100 Q X 0 0) 100 0 0 h 9 [some (.ref 11), none, some (.int bx), some (.int 59), some (.int 0), some (.int ax), none, none] []) :
    XW (xrm 2 0 0) mX4_keepText (xE 100 Q X 0 0) 100 0 0 h 0 [some (.ref 11), some (.int ax), some (.int bx), none, none, none, none, none] [] := by
  refine xi_bipush (v := 59) (by decide +kernel : decode mX4_keepText.2.1 0 = .ok (.bipush 59, 2)) (by decide) (?_ : XW _ _ _ _ _ _ _ 2 _ _)
  refine xi_istore_n (ls' := [some (.ref 11), some (.int ax), some (.int bx), some (.int 59), none, none, none, none]) (by decide +kernel : decode mX4_keepText.2.1 2 = .ok (.istore_n 3, 1)) rfl (by decide) rfl (?_ : XW _ _ _ _ _ _ _ 3 _ _)
  refine xi_iconst (v := 0) (by decide +kernel : decode mX4_keepText.2.1 3 = .ok (.iconst 0, 1)) (by decide) (?_ : XW _ _ _ _ _ _ _ 4 _ _)
  refine xi_istore (ls' := [some (.ref 11), some (.int ax), some (.int bx), some (.int 59), some (.int 0), none, none, none]) (by decide +kernel : decode mX4_keepText.2.1 4 = .ok (.istore 4, 2)) (by decide) rfl (?_ : XW _ _ _ _ _ _ _ 6 _ _)
  refine xi_iload_n (by decide +kernel : decode mX4_keepText.2.1 6 = .ok (.iload_n 1, 1)) rfl rfl (?_ : XW _ _ _ _ _ _ _ 7 _ _)
  refine xi_istore (ls' := [some (.ref 11), some (.int ax), some (.int bx), some (.int 59), some (.int 0), some (.int ax), none, none]) (by decide +kernel : decode mX4_keepText.2.1 7 = .ok (.istore 5, 2)) (by decide) rfl (?_ : XW _ _ _ _ _ _ _ 9 _ _)
  refine xw_drop 1 (ls' := [some (.ref 11), none, some (.int bx), some (.int 59), some (.int 0), some (.int ax), none, none]) rfl ?_
  exact vc

set_option maxRecDepth 20000 in
theorem v_X4_keepText_9 {h : XH} {Q : Option Value → XH → Prop} {X : String → XH → Prop} (r : Nat) (hrd : xRdr r (xP h)) (hr : xRul r (xP h)) (hnr : r + 9 ≤ 100)  (x2 : Int32) (x3 : Int32) (x4 : Int32) (x5 : Int32)
    (vc : (x2 ≤ x5 → Q none h) ∧ (¬ x2 ≤ x5 → ∃ Q1, XSpec mX4_signAt 1 0 0 100 100 [.ref 11, .int x5] h Q1 xno ∧ ∀ v h1, Q1 v h1 → ∃ r1 : Int32, v = some (.int r1) ∧ (∃ Q1, XSpec mX4_isBlank 1 0 0 100 100 [.int r1] h1 Q1 xno ∧ ∀ v h2, Q1 v h2 → ∃ r2 : Int32, v = some (.int r2) ∧ ((r2 = 0 → XW (xrm 2 0 0) mX4_keepText (xE 100 Q X 0 0) 100 0 0 h2 37 [some (.ref 11), none, some (.int x2), some (.int x3), some (.int x4), some (.int x5), some (.int r1), none] []) ∧ (¬ r2 = 0 → XW (xrm 2 0 0) mX4_keepText (xE 100 Q X 0 0) 100 0 0 h2 9 [some (.ref 11), none, some (.int x2), some (.int x3), some (.int 1), some (.int (x5 + 1)), none, none] []))))) :
    XW (xrm 2 0 0) mX4_keepText (xE 100 Q X 0 0) 100 0 0 h 9 [some (.ref 11), none, some (.int x2), some (.int x3), some (.int x4), some (.int x5), none, none] [] := by
  refine xi_iload (by decide +kernel : decode mX4_keepText.2.1 9 = .ok (.iload 5, 2)) rfl (?_ : XW _ _ _ _ _ _ _ 11 _ _)
  refine xi_iload_n (by decide +kernel : decode mX4_keepText.2.1 11 = .ok (.iload_n 2, 1)) rfl rfl (?_ : XW _ _ _ _ _ _ _ 12 _ _)
  refine xi_icmp_ge (by decide +kernel : decode mX4_keepText.2.1 12 = .ok (.if_icmp .ge 120, 3)) (by decide) (fun c => (?_ : XW _ _ _ _ _ _ _ 132 _ _)) (fun c => (?_ : XW _ _ _ _ _ _ _ 15 _ _))
  · replace vc := vc.1 c
    exact xi_vret (by decide +kernel : decode mX4_keepText.2.1 132 = .ok (.return_, 1)) rfl vc
  · replace vc := vc.2 c
    refine xi_aload_n (by decide +kernel : decode mX4_keepText.2.1 15 = .ok (.aload_n 0, 1)) rfl rfl (?_ : XW _ _ _ _ _ _ _ 16 _ _)
    refine xi_iload (by decide +kernel : decode mX4_keepText.2.1 16 = .ok (.iload 5, 2)) rfl (?_ : XW _ _ _ _ _ _ _ 18 _ _)
    obtain ⟨Q1, sp, vc⟩ := vc
    refine xi_callV (b := 0) (bs := 0) (As := [.int x5]) (st := []) (by decide +kernel : decode mX4_keepText.2.1 18 = .ok (.invokevirtual 69, 3)) kX4_69 rfl rfl (by omega) rfl sp (by decide) (by decide) (Nat.le_of_ble_eq_true rfl) (by omega) (fun v9 h1 hq9 => ?_)
    obtain ⟨r1, e9, vc⟩ := vc v9 h1 hq9
    subst e9
    show XW _ _ _ _ _ _ _ 21 _ [.int r1]
    refine xi_istore (ls' := [some (.ref 11), none, some (.int x2), some (.int x3), some (.int x4), some (.int x5), some (.int r1), none]) (by decide +kernel : decode mX4_keepText.2.1 21 = .ok (.istore 6, 2)) (by decide) rfl (?_ : XW _ _ _ _ _ _ _ 23 _ _)
    refine xi_iload (by decide +kernel : decode mX4_keepText.2.1 23 = .ok (.iload 6, 2)) rfl (?_ : XW _ _ _ _ _ _ _ 25 _ _)
    obtain ⟨Q1, sp, vc⟩ := vc
    refine xi_callS (b := 0) (bs := 0) (As := [.int r1]) (st := []) (by decide +kernel : decode mX4_keepText.2.1 25 = .ok (.invokestatic 73, 3)) kX4_73 rfl rfl sp (by decide) (by decide) (Nat.le_of_ble_eq_true rfl) (by omega) (fun v9 h2 hq9 => ?_)
    obtain ⟨r2, e9, vc⟩ := vc v9 h2 hq9
    subst e9
    show XW _ _ _ _ _ _ _ 28 _ [.int r2]
    refine xi_if_eq (by decide +kernel : decode mX4_keepText.2.1 28 = .ok (.ifCond .eq 9, 3)) (by decide) (fun c => (?_ : XW _ _ _ _ _ _ _ 37 _ _)) (fun c => (?_ : XW _ _ _ _ _ _ _ 31 _ _))
    · replace vc := vc.1 c
      exact vc
    · replace vc := vc.2 c
      refine xi_iconst (v := 1) (by decide +kernel : decode mX4_keepText.2.1 31 = .ok (.iconst 1, 1)) (by decide) (?_ : XW _ _ _ _ _ _ _ 32 _ _)
      refine xi_istore (ls' := [some (.ref 11), none, some (.int x2), some (.int x3), some (.int 1), some (.int x5), some (.int r1), none]) (by decide +kernel : decode mX4_keepText.2.1 32 = .ok (.istore 4, 2)) (by decide) rfl (?_ : XW _ _ _ _ _ _ _ 34 _ _)
      refine xi_goto (by decide +kernel : decode mX4_keepText.2.1 34 = .ok (.goto 92, 3)) (by decide) (?_ : XW _ _ _ _ _ _ _ 126 _ _)
      refine xi_iinc (v := x5 + 1) (ls' := [some (.ref 11), none, some (.int x2), some (.int x3), some (.int 1), some (.int (x5 + 1)), some (.int r1), none]) (by decide +kernel : decode mX4_keepText.2.1 126 = .ok (.iinc 5 1, 3)) rfl rfl (by decide) rfl (?_ : XW _ _ _ _ _ _ _ 129 _ _)
      refine xi_goto (by decide +kernel : decode mX4_keepText.2.1 129 = .ok (.goto (-120), 3)) (by decide) (?_ : XW _ _ _ _ _ _ _ 9 _ _)
      refine xw_drop 6 (ls' := [some (.ref 11), none, some (.int x2), some (.int x3), some (.int 1), some (.int (x5 + 1)), none, none]) rfl ?_
      exact vc

set_option maxRecDepth 20000 in
theorem v_X4_keepText_37 {h : XH} {Q : Option Value → XH → Prop} {X : String → XH → Prop} (r : Nat) (hrd : xRdr r (xP h)) (hr : xRul r (xP h)) (hnr : r + 9 ≤ 100)  (x2 : Int32) (x3 : Int32) (x4 : Int32) (x5 : Int32) (x6 : Int32)
    (vc : ∃ Q1, XSpec mX4_isLetter 1 0 0 100 100 [.int x3] h Q1 xno ∧ ∀ v h3, Q1 v h3 → ∃ r3 : Int32, v = some (.int r3) ∧ ((¬ r3 = 0 → ∃ Q1, XSpec mX4_isLetter 1 0 0 100 100 [.int x6] h3 Q1 xno ∧ ∀ v h4, Q1 v h4 → ∃ r4 : Int32, v = some (.int r4) ∧ ((¬ r4 = 0 → XW (xrm 2 0 0) mX4_keepText (xE 100 Q X 0 0) 100 0 0 h4 74 [some (.ref 11), none, some (.int x2), some (.int x3), some (.int x4), some (.int x5), some (.int x6), some (.int 1)] []) ∧ (r4 = 0 → ∃ Q1, XSpec mX4_isDigit 1 0 0 100 100 [.int x6] h4 Q1 xno ∧ ∀ v h5, Q1 v h5 → ∃ r5 : Int32, v = some (.int r5) ∧ ((r5 = 0 → XW (xrm 2 0 0) mX4_keepText (xE 100 Q X 0 0) 100 0 0 h5 74 [some (.ref 11), none, some (.int x2), some (.int x3), some (.int x4), some (.int x5), some (.int x6), some (.int 0)] []) ∧ (¬ r5 = 0 → XW (xrm 2 0 0) mX4_keepText (xE 100 Q X 0 0) 100 0 0 h5 74 [some (.ref 11), none, some (.int x2), some (.int x3), some (.int x4), some (.int x5), some (.int x6), some (.int 1)] []))))) ∧ (r3 = 0 → ∃ Q1, XSpec mX4_isDigit 1 0 0 100 100 [.int x3] h3 Q1 xno ∧ ∀ v h6, Q1 v h6 → ∃ r6 : Int32, v = some (.int r6) ∧ ((r6 = 0 → XW (xrm 2 0 0) mX4_keepText (xE 100 Q X 0 0) 100 0 0 h6 74 [some (.ref 11), none, some (.int x2), some (.int x3), some (.int x4), some (.int x5), some (.int x6), some (.int 0)] []) ∧ (¬ r6 = 0 → ∃ Q1, XSpec mX4_isLetter 1 0 0 100 100 [.int x6] h6 Q1 xno ∧ ∀ v h7, Q1 v h7 → ∃ r7 : Int32, v = some (.int r7) ∧ ((¬ r7 = 0 → XW (xrm 2 0 0) mX4_keepText (xE 100 Q X 0 0) 100 0 0 h7 74 [some (.ref 11), none, some (.int x2), some (.int x3), some (.int x4), some (.int x5), some (.int x6), some (.int 1)] []) ∧ (r7 = 0 → ∃ Q1, XSpec mX4_isDigit 1 0 0 100 100 [.int x6] h7 Q1 xno ∧ ∀ v h8, Q1 v h8 → ∃ r8 : Int32, v = some (.int r8) ∧ ((r8 = 0 → XW (xrm 2 0 0) mX4_keepText (xE 100 Q X 0 0) 100 0 0 h8 74 [some (.ref 11), none, some (.int x2), some (.int x3), some (.int x4), some (.int x5), some (.int x6), some (.int 0)] []) ∧ (¬ r8 = 0 → XW (xrm 2 0 0) mX4_keepText (xE 100 Q X 0 0) 100 0 0 h8 74 [some (.ref 11), none, some (.int x2), some (.int x3), some (.int x4), some (.int x5), some (.int x6), some (.int 1)] []))))))))) :
    XW (xrm 2 0 0) mX4_keepText (xE 100 Q X 0 0) 100 0 0 h 37 [some (.ref 11), none, some (.int x2), some (.int x3), some (.int x4), some (.int x5), some (.int x6), none] [] := by
  refine xi_iload_n (by decide +kernel : decode mX4_keepText.2.1 37 = .ok (.iload_n 3, 1)) rfl rfl (?_ : XW _ _ _ _ _ _ _ 38 _ _)
  obtain ⟨Q1, sp, vc⟩ := vc
  refine xi_callS (b := 0) (bs := 0) (As := [.int x3]) (st := []) (by decide +kernel : decode mX4_keepText.2.1 38 = .ok (.invokestatic 77, 3)) kX4_77 rfl rfl sp (by decide) (by decide) (Nat.le_of_ble_eq_true rfl) (by omega) (fun v9 h3 hq9 => ?_)
  obtain ⟨r3, e9, vc⟩ := vc v9 h3 hq9
  subst e9
  show XW _ _ _ _ _ _ _ 41 _ [.int r3]
  refine xi_if_ne (by decide +kernel : decode mX4_keepText.2.1 41 = .ok (.ifCond .ne 10, 3)) (by decide) (fun c => (?_ : XW _ _ _ _ _ _ _ 51 _ _)) (fun c => (?_ : XW _ _ _ _ _ _ _ 44 _ _))
  · replace vc := vc.1 c
    refine xi_iload (by decide +kernel : decode mX4_keepText.2.1 51 = .ok (.iload 6, 2)) rfl (?_ : XW _ _ _ _ _ _ _ 53 _ _)
    obtain ⟨Q1, sp, vc⟩ := vc
    refine xi_callS (b := 0) (bs := 0) (As := [.int x6]) (st := []) (by decide +kernel : decode mX4_keepText.2.1 53 = .ok (.invokestatic 77, 3)) kX4_77 rfl rfl sp (by decide) (by decide) (Nat.le_of_ble_eq_true rfl) (by omega) (fun v9 h4 hq9 => ?_)
    obtain ⟨r4, e9, vc⟩ := vc v9 h4 hq9
    subst e9
    show XW _ _ _ _ _ _ _ 56 _ [.int r4]
    refine xi_if_ne (by decide +kernel : decode mX4_keepText.2.1 56 = .ok (.ifCond .ne 11, 3)) (by decide) (fun c => (?_ : XW _ _ _ _ _ _ _ 67 _ _)) (fun c => (?_ : XW _ _ _ _ _ _ _ 59 _ _))
    · replace vc := vc.1 c
      refine xi_iconst (v := 1) (by decide +kernel : decode mX4_keepText.2.1 67 = .ok (.iconst 1, 1)) (by decide) (?_ : XW _ _ _ _ _ _ _ 68 _ _)
      refine xi_goto (by decide +kernel : decode mX4_keepText.2.1 68 = .ok (.goto 4, 3)) (by decide) (?_ : XW _ _ _ _ _ _ _ 72 _ _)
      refine xi_istore (ls' := [some (.ref 11), none, some (.int x2), some (.int x3), some (.int x4), some (.int x5), some (.int x6), some (.int 1)]) (by decide +kernel : decode mX4_keepText.2.1 72 = .ok (.istore 7, 2)) (by decide) rfl (?_ : XW _ _ _ _ _ _ _ 74 _ _)
      exact vc
    · replace vc := vc.2 c
      refine xi_iload (by decide +kernel : decode mX4_keepText.2.1 59 = .ok (.iload 6, 2)) rfl (?_ : XW _ _ _ _ _ _ _ 61 _ _)
      obtain ⟨Q1, sp, vc⟩ := vc
      refine xi_callS (b := 0) (bs := 0) (As := [.int x6]) (st := []) (by decide +kernel : decode mX4_keepText.2.1 61 = .ok (.invokestatic 80, 3)) kX4_80 rfl rfl sp (by decide) (by decide) (Nat.le_of_ble_eq_true rfl) (by omega) (fun v9 h5 hq9 => ?_)
      obtain ⟨r5, e9, vc⟩ := vc v9 h5 hq9
      subst e9
      show XW _ _ _ _ _ _ _ 64 _ [.int r5]
      refine xi_if_eq (by decide +kernel : decode mX4_keepText.2.1 64 = .ok (.ifCond .eq 7, 3)) (by decide) (fun c => (?_ : XW _ _ _ _ _ _ _ 71 _ _)) (fun c => (?_ : XW _ _ _ _ _ _ _ 67 _ _))
      · replace vc := vc.1 c
        refine xi_iconst (v := 0) (by decide +kernel : decode mX4_keepText.2.1 71 = .ok (.iconst 0, 1)) (by decide) (?_ : XW _ _ _ _ _ _ _ 72 _ _)
        refine xi_istore (ls' := [some (.ref 11), none, some (.int x2), some (.int x3), some (.int x4), some (.int x5), some (.int x6), some (.int 0)]) (by decide +kernel : decode mX4_keepText.2.1 72 = .ok (.istore 7, 2)) (by decide) rfl (?_ : XW _ _ _ _ _ _ _ 74 _ _)
        exact vc
      · replace vc := vc.2 c
        refine xi_iconst (v := 1) (by decide +kernel : decode mX4_keepText.2.1 67 = .ok (.iconst 1, 1)) (by decide) (?_ : XW _ _ _ _ _ _ _ 68 _ _)
        refine xi_goto (by decide +kernel : decode mX4_keepText.2.1 68 = .ok (.goto 4, 3)) (by decide) (?_ : XW _ _ _ _ _ _ _ 72 _ _)
        refine xi_istore (ls' := [some (.ref 11), none, some (.int x2), some (.int x3), some (.int x4), some (.int x5), some (.int x6), some (.int 1)]) (by decide +kernel : decode mX4_keepText.2.1 72 = .ok (.istore 7, 2)) (by decide) rfl (?_ : XW _ _ _ _ _ _ _ 74 _ _)
        exact vc
  · replace vc := vc.2 c
    refine xi_iload_n (by decide +kernel : decode mX4_keepText.2.1 44 = .ok (.iload_n 3, 1)) rfl rfl (?_ : XW _ _ _ _ _ _ _ 45 _ _)
    obtain ⟨Q1, sp, vc⟩ := vc
    refine xi_callS (b := 0) (bs := 0) (As := [.int x3]) (st := []) (by decide +kernel : decode mX4_keepText.2.1 45 = .ok (.invokestatic 80, 3)) kX4_80 rfl rfl sp (by decide) (by decide) (Nat.le_of_ble_eq_true rfl) (by omega) (fun v9 h6 hq9 => ?_)
    obtain ⟨r6, e9, vc⟩ := vc v9 h6 hq9
    subst e9
    show XW _ _ _ _ _ _ _ 48 _ [.int r6]
    refine xi_if_eq (by decide +kernel : decode mX4_keepText.2.1 48 = .ok (.ifCond .eq 23, 3)) (by decide) (fun c => (?_ : XW _ _ _ _ _ _ _ 71 _ _)) (fun c => (?_ : XW _ _ _ _ _ _ _ 51 _ _))
    · replace vc := vc.1 c
      refine xi_iconst (v := 0) (by decide +kernel : decode mX4_keepText.2.1 71 = .ok (.iconst 0, 1)) (by decide) (?_ : XW _ _ _ _ _ _ _ 72 _ _)
      refine xi_istore (ls' := [some (.ref 11), none, some (.int x2), some (.int x3), some (.int x4), some (.int x5), some (.int x6), some (.int 0)]) (by decide +kernel : decode mX4_keepText.2.1 72 = .ok (.istore 7, 2)) (by decide) rfl (?_ : XW _ _ _ _ _ _ _ 74 _ _)
      exact vc
    · replace vc := vc.2 c
      refine xi_iload (by decide +kernel : decode mX4_keepText.2.1 51 = .ok (.iload 6, 2)) rfl (?_ : XW _ _ _ _ _ _ _ 53 _ _)
      obtain ⟨Q1, sp, vc⟩ := vc
      refine xi_callS (b := 0) (bs := 0) (As := [.int x6]) (st := []) (by decide +kernel : decode mX4_keepText.2.1 53 = .ok (.invokestatic 77, 3)) kX4_77 rfl rfl sp (by decide) (by decide) (Nat.le_of_ble_eq_true rfl) (by omega) (fun v9 h7 hq9 => ?_)
      obtain ⟨r7, e9, vc⟩ := vc v9 h7 hq9
      subst e9
      show XW _ _ _ _ _ _ _ 56 _ [.int r7]
      refine xi_if_ne (by decide +kernel : decode mX4_keepText.2.1 56 = .ok (.ifCond .ne 11, 3)) (by decide) (fun c => (?_ : XW _ _ _ _ _ _ _ 67 _ _)) (fun c => (?_ : XW _ _ _ _ _ _ _ 59 _ _))
      · replace vc := vc.1 c
        refine xi_iconst (v := 1) (by decide +kernel : decode mX4_keepText.2.1 67 = .ok (.iconst 1, 1)) (by decide) (?_ : XW _ _ _ _ _ _ _ 68 _ _)
        refine xi_goto (by decide +kernel : decode mX4_keepText.2.1 68 = .ok (.goto 4, 3)) (by decide) (?_ : XW _ _ _ _ _ _ _ 72 _ _)
        refine xi_istore (ls' := [some (.ref 11), none, some (.int x2), some (.int x3), some (.int x4), some (.int x5), some (.int x6), some (.int 1)]) (by decide +kernel : decode mX4_keepText.2.1 72 = .ok (.istore 7, 2)) (by decide) rfl (?_ : XW _ _ _ _ _ _ _ 74 _ _)
        exact vc
      · replace vc := vc.2 c
        refine xi_iload (by decide +kernel : decode mX4_keepText.2.1 59 = .ok (.iload 6, 2)) rfl (?_ : XW _ _ _ _ _ _ _ 61 _ _)
        obtain ⟨Q1, sp, vc⟩ := vc
        refine xi_callS (b := 0) (bs := 0) (As := [.int x6]) (st := []) (by decide +kernel : decode mX4_keepText.2.1 61 = .ok (.invokestatic 80, 3)) kX4_80 rfl rfl sp (by decide) (by decide) (Nat.le_of_ble_eq_true rfl) (by omega) (fun v9 h8 hq9 => ?_)
        obtain ⟨r8, e9, vc⟩ := vc v9 h8 hq9
        subst e9
        show XW _ _ _ _ _ _ _ 64 _ [.int r8]
        refine xi_if_eq (by decide +kernel : decode mX4_keepText.2.1 64 = .ok (.ifCond .eq 7, 3)) (by decide) (fun c => (?_ : XW _ _ _ _ _ _ _ 71 _ _)) (fun c => (?_ : XW _ _ _ _ _ _ _ 67 _ _))
        · replace vc := vc.1 c
          refine xi_iconst (v := 0) (by decide +kernel : decode mX4_keepText.2.1 71 = .ok (.iconst 0, 1)) (by decide) (?_ : XW _ _ _ _ _ _ _ 72 _ _)
          refine xi_istore (ls' := [some (.ref 11), none, some (.int x2), some (.int x3), some (.int x4), some (.int x5), some (.int x6), some (.int 0)]) (by decide +kernel : decode mX4_keepText.2.1 72 = .ok (.istore 7, 2)) (by decide) rfl (?_ : XW _ _ _ _ _ _ _ 74 _ _)
          exact vc
        · replace vc := vc.2 c
          refine xi_iconst (v := 1) (by decide +kernel : decode mX4_keepText.2.1 67 = .ok (.iconst 1, 1)) (by decide) (?_ : XW _ _ _ _ _ _ _ 68 _ _)
          refine xi_goto (by decide +kernel : decode mX4_keepText.2.1 68 = .ok (.goto 4, 3)) (by decide) (?_ : XW _ _ _ _ _ _ _ 72 _ _)
          refine xi_istore (ls' := [some (.ref 11), none, some (.int x2), some (.int x3), some (.int x4), some (.int x5), some (.int x6), some (.int 1)]) (by decide +kernel : decode mX4_keepText.2.1 72 = .ok (.istore 7, 2)) (by decide) rfl (?_ : XW _ _ _ _ _ _ _ 74 _ _)
          exact vc

set_option maxRecDepth 20000 in
theorem v_X4_keepText_74 {h : XH} {Q : Option Value → XH → Prop} {X : String → XH → Prop} (r : Nat) (hrd : xRdr r (xP h)) (hr : xRul r (xP h)) (hnr : r + 9 ≤ 100)  (x2 : Int32) (x3 : Int32) (x4 : Int32) (x5 : Int32) (x6 : Int32) (x7 : Int32)
    (vc : (x7 = 0 → XW (xrm 2 0 0) mX4_keepText (xE 100 Q X 0 0) 100 0 0 h 108 [some (.ref 11), none, some (.int x2), none, none, some (.int x5), some (.int x6), none] []) ∧ (¬ x7 = 0 → (¬ x4 = 0 → ∃ Q1, XSpec mX0_addSign 1 0 0 100 100 [.ref (r + 1), .int 32] h Q1 xno ∧ ∀ v h9, Q1 v h9 → v = none ∧ (XW (xrm 2 0 0) mX4_keepText (xE 100 Q X 0 0) 100 0 0 h9 108 [some (.ref 11), none, some (.int x2), none, none, some (.int x5), some (.int x6), none] [])) ∧ (x4 = 0 → ∃ Q1, XSpec mX4_isLetter 1 0 0 100 100 [.int x3] h Q1 xno ∧ ∀ v h10, Q1 v h10 → ∃ r10 : Int32, v = some (.int r10) ∧ (∃ Q1, XSpec mX4_isLetter 1 0 0 100 100 [.int x6] h10 Q1 xno ∧ ∀ v h11, Q1 v h11 → ∃ r11 : Int32, v = some (.int r11) ∧ ((r10 = r11 → XW (xrm 2 0 0) mX4_keepText (xE 100 Q X 0 0) 100 0 0 h11 108 [some (.ref 11), none, some (.int x2), none, none, some (.int x5), some (.int x6), none] []) ∧ (¬ r10 = r11 → (xP h11 11 7 = some r) ∧ ((xP h11 r 8 = some (r + 1)) ∧ (∃ Q1, XSpec mX0_addSign 1 0 0 100 100 [.ref (r + 1), .int 32] h11 Q1 xno ∧ ∀ v h12, Q1 v h12 → v = none ∧ (XW (xrm 2 0 0) mX4_keepText (xE 100 Q X 0 0) 100 0 0 h12 108 [some (.ref 11), none, some (.int x2), none, none, some (.int x5), some (.int x6), none] []))))))))) :
    XW (xrm 2 0 0) mX4_keepText (xE 100 Q X 0 0) 100 0 0 h 74 [some (.ref 11), none, some (.int x2), some (.int x3), some (.int x4), some (.int x5), some (.int x6), some (.int x7)] [] := by
  refine xi_iload (by decide +kernel : decode mX4_keepText.2.1 74 = .ok (.iload 7, 2)) rfl (?_ : XW _ _ _ _ _ _ _ 76 _ _)
  refine xi_if_eq (by decide +kernel : decode mX4_keepText.2.1 76 = .ok (.ifCond .eq 32, 3)) (by decide) (fun c => (?_ : XW _ _ _ _ _ _ _ 108 _ _)) (fun c => (?_ : XW _ _ _ _ _ _ _ 79 _ _))
  · replace vc := vc.1 c
    refine xw_drop 3 (ls' := [some (.ref 11), none, some (.int x2), none, some (.int x4), some (.int x5), some (.int x6), some (.int x7)]) rfl ?_
    refine xw_drop 4 (ls' := [some (.ref 11), none, some (.int x2), none, none, some (.int x5), some (.int x6), some (.int x7)]) rfl ?_
    refine xw_drop 7 (ls' := [some (.ref 11), none, some (.int x2), none, none, some (.int x5), some (.int x6), none]) rfl ?_
    exact vc
  · replace vc := vc.2 c
    refine xi_iload (by decide +kernel : decode mX4_keepText.2.1 79 = .ok (.iload 4, 2)) rfl (?_ : XW _ _ _ _ _ _ _ 81 _ _)
    refine xi_if_ne (by decide +kernel : decode mX4_keepText.2.1 81 = .ok (.ifCond .ne 15, 3)) (by decide) (fun c => (?_ : XW _ _ _ _ _ _ _ 96 _ _)) (fun c => (?_ : XW _ _ _ _ _ _ _ 84 _ _))
    · replace vc := vc.1 c
      refine xi_aload_n (by decide +kernel : decode mX4_keepText.2.1 96 = .ok (.aload_n 0, 1)) rfl rfl (?_ : XW _ _ _ _ _ _ _ 97 _ _)
      refine xi_getR (y := r) (by decide +kernel : decode mX4_keepText.2.1 97 = .ok (.getfield 12, 3)) fX4_12 rfl (by omega) rfl hrd.2 (?_ : XW _ _ _ _ _ _ _ 100 _ _)
      refine xi_getR (y := r + 1) (by decide +kernel : decode mX4_keepText.2.1 100 = .ok (.getfield 183, 3)) fX4_183 (xRul_s0 hr) (by omega) rfl hr.2.1 (?_ : XW _ _ _ _ _ _ _ 103 _ _)
      refine xi_bipush (v := 32) (by decide +kernel : decode mX4_keepText.2.1 103 = .ok (.bipush 32, 2)) (by decide) (?_ : XW _ _ _ _ _ _ _ 105 _ _)
      obtain ⟨Q1, sp, vc⟩ := vc
      refine xi_callV (b := 0) (bs := 0) (As := [.int 32]) (st := []) (by decide +kernel : decode mX4_keepText.2.1 105 = .ok (.invokevirtual 198, 3)) kX4_198 rfl (xRul_s1 hr) (by omega) rfl sp (by decide) (by decide) (Nat.le_of_ble_eq_true rfl) (by omega) (fun v9 h9 hq9 => ?_)
      obtain ⟨e9, vc⟩ := vc v9 h9 hq9
      subst e9
      show XW _ _ _ _ _ _ _ 108 _ []
      refine xw_drop 3 (ls' := [some (.ref 11), none, some (.int x2), none, some (.int x4), some (.int x5), some (.int x6), some (.int x7)]) rfl ?_
      refine xw_drop 4 (ls' := [some (.ref 11), none, some (.int x2), none, none, some (.int x5), some (.int x6), some (.int x7)]) rfl ?_
      refine xw_drop 7 (ls' := [some (.ref 11), none, some (.int x2), none, none, some (.int x5), some (.int x6), none]) rfl ?_
      exact vc
    · replace vc := vc.2 c
      refine xi_iload_n (by decide +kernel : decode mX4_keepText.2.1 84 = .ok (.iload_n 3, 1)) rfl rfl (?_ : XW _ _ _ _ _ _ _ 85 _ _)
      obtain ⟨Q1, sp, vc⟩ := vc
      refine xi_callS (b := 0) (bs := 0) (As := [.int x3]) (st := []) (by decide +kernel : decode mX4_keepText.2.1 85 = .ok (.invokestatic 77, 3)) kX4_77 rfl rfl sp (by decide) (by decide) (Nat.le_of_ble_eq_true rfl) (by omega) (fun v9 h10 hq9 => ?_)
      obtain ⟨r10, e9, vc⟩ := vc v9 h10 hq9
      subst e9
      show XW _ _ _ _ _ _ _ 88 _ [.int r10]
      refine xi_iload (by decide +kernel : decode mX4_keepText.2.1 88 = .ok (.iload 6, 2)) rfl (?_ : XW _ _ _ _ _ _ _ 90 _ _)
      obtain ⟨Q1, sp, vc⟩ := vc
      refine xi_callS (b := 0) (bs := 0) (As := [.int x6]) (st := [.int r10]) (by decide +kernel : decode mX4_keepText.2.1 90 = .ok (.invokestatic 77, 3)) kX4_77 rfl rfl sp (by decide) (by decide) (Nat.le_of_ble_eq_true rfl) (by omega) (fun v9 h11 hq9 => ?_)
      obtain ⟨r11, e9, vc⟩ := vc v9 h11 hq9
      subst e9
      show XW _ _ _ _ _ _ _ 93 _ [.int r11, .int r10]
      refine xi_icmp_eq (by decide +kernel : decode mX4_keepText.2.1 93 = .ok (.if_icmp .eq 15, 3)) (by decide) (fun c => (?_ : XW _ _ _ _ _ _ _ 108 _ _)) (fun c => (?_ : XW _ _ _ _ _ _ _ 96 _ _))
      · replace vc := vc.1 c
        refine xw_drop 3 (ls' := [some (.ref 11), none, some (.int x2), none, some (.int x4), some (.int x5), some (.int x6), some (.int x7)]) rfl ?_
        refine xw_drop 4 (ls' := [some (.ref 11), none, some (.int x2), none, none, some (.int x5), some (.int x6), some (.int x7)]) rfl ?_
        refine xw_drop 7 (ls' := [some (.ref 11), none, some (.int x2), none, none, some (.int x5), some (.int x6), none]) rfl ?_
        exact vc
      · replace vc := vc.2 c
        refine xi_aload_n (by decide +kernel : decode mX4_keepText.2.1 96 = .ok (.aload_n 0, 1)) rfl rfl (?_ : XW _ _ _ _ _ _ _ 97 _ _)
        obtain ⟨s1, vc⟩ := vc
        refine xi_getR (y := r) (by decide +kernel : decode mX4_keepText.2.1 97 = .ok (.getfield 12, 3)) fX4_12 rfl (by omega) rfl s1 (?_ : XW _ _ _ _ _ _ _ 100 _ _)
        obtain ⟨s1, vc⟩ := vc
        refine xi_getR (y := r + 1) (by decide +kernel : decode mX4_keepText.2.1 100 = .ok (.getfield 183, 3)) fX4_183 (xRul_s0 hr) (by omega) rfl s1 (?_ : XW _ _ _ _ _ _ _ 103 _ _)
        refine xi_bipush (v := 32) (by decide +kernel : decode mX4_keepText.2.1 103 = .ok (.bipush 32, 2)) (by decide) (?_ : XW _ _ _ _ _ _ _ 105 _ _)
        obtain ⟨Q1, sp, vc⟩ := vc
        refine xi_callV (b := 0) (bs := 0) (As := [.int 32]) (st := []) (by decide +kernel : decode mX4_keepText.2.1 105 = .ok (.invokevirtual 198, 3)) kX4_198 rfl (xRul_s1 hr) (by omega) rfl sp (by decide) (by decide) (Nat.le_of_ble_eq_true rfl) (by omega) (fun v9 h12 hq9 => ?_)
        obtain ⟨e9, vc⟩ := vc v9 h12 hq9
        subst e9
        show XW _ _ _ _ _ _ _ 108 _ []
        refine xw_drop 3 (ls' := [some (.ref 11), none, some (.int x2), none, some (.int x4), some (.int x5), some (.int x6), some (.int x7)]) rfl ?_
        refine xw_drop 4 (ls' := [some (.ref 11), none, some (.int x2), none, none, some (.int x5), some (.int x6), some (.int x7)]) rfl ?_
        refine xw_drop 7 (ls' := [some (.ref 11), none, some (.int x2), none, none, some (.int x5), some (.int x6), none]) rfl ?_
        exact vc

set_option maxRecDepth 20000 in
theorem v_X4_keepText_108 {h : XH} {Q : Option Value → XH → Prop} {X : String → XH → Prop} (r : Nat) (hrd : xRdr r (xP h)) (hr : xRul r (xP h)) (hnr : r + 9 ≤ 100)  (x2 : Int32) (x5 : Int32) (x6 : Int32)
    (vc : ∃ Q1, XSpec mX0_addSign 1 0 0 100 100 [.ref (r + 1), .int x6] h Q1 xno ∧ ∀ v h13, Q1 v h13 → v = none ∧ (XW (xrm 2 0 0) mX4_keepText (xE 100 Q X 0 0) 100 0 0 h13 9 [some (.ref 11), none, some (.int x2), some (.int x6), some (.int 0), some (.int (x5 + 1)), none, none] [])) :
    XW (xrm 2 0 0) mX4_keepText (xE 100 Q X 0 0) 100 0 0 h 108 [some (.ref 11), none, some (.int x2), none, none, some (.int x5), some (.int x6), none] [] := by
  refine xi_aload_n (by decide +kernel : decode mX4_keepText.2.1 108 = .ok (.aload_n 0, 1)) rfl rfl (?_ : XW _ _ _ _ _ _ _ 109 _ _)
  refine xi_getR (y := r) (by decide +kernel : decode mX4_keepText.2.1 109 = .ok (.getfield 12, 3)) fX4_12 rfl (by omega) rfl hrd.2 (?_ : XW _ _ _ _ _ _ _ 112 _ _)
  refine xi_getR (y := r + 1) (by decide +kernel : decode mX4_keepText.2.1 112 = .ok (.getfield 183, 3)) fX4_183 (xRul_s0 hr) (by omega) rfl hr.2.1 (?_ : XW _ _ _ _ _ _ _ 115 _ _)
  refine xi_iload (by decide +kernel : decode mX4_keepText.2.1 115 = .ok (.iload 6, 2)) rfl (?_ : XW _ _ _ _ _ _ _ 117 _ _)
  obtain ⟨Q1, sp, vc⟩ := vc
  refine xi_callV (b := 0) (bs := 0) (As := [.int x6]) (st := []) (by decide +kernel : decode mX4_keepText.2.1 117 = .ok (.invokevirtual 198, 3)) kX4_198 rfl (xRul_s1 hr) (by omega) rfl sp (by decide) (by decide) (Nat.le_of_ble_eq_true rfl) (by omega) (fun v9 h13 hq9 => ?_)
  obtain ⟨e9, vc⟩ := vc v9 h13 hq9
  subst e9
  show XW _ _ _ _ _ _ _ 120 _ []
  refine xi_iload (by decide +kernel : decode mX4_keepText.2.1 120 = .ok (.iload 6, 2)) rfl (?_ : XW _ _ _ _ _ _ _ 122 _ _)
  refine xi_istore_n (ls' := [some (.ref 11), none, some (.int x2), some (.int x6), none, some (.int x5), some (.int x6), none]) (by decide +kernel : decode mX4_keepText.2.1 122 = .ok (.istore_n 3, 1)) rfl (by decide) rfl (?_ : XW _ _ _ _ _ _ _ 123 _ _)
  refine xi_iconst (v := 0) (by decide +kernel : decode mX4_keepText.2.1 123 = .ok (.iconst 0, 1)) (by decide) (?_ : XW _ _ _ _ _ _ _ 124 _ _)
  refine xi_istore (ls' := [some (.ref 11), none, some (.int x2), some (.int x6), some (.int 0), some (.int x5), some (.int x6), none]) (by decide +kernel : decode mX4_keepText.2.1 124 = .ok (.istore 4, 2)) (by decide) rfl (?_ : XW _ _ _ _ _ _ _ 126 _ _)
  refine xi_iinc (v := x5 + 1) (ls' := [some (.ref 11), none, some (.int x2), some (.int x6), some (.int 0), some (.int (x5 + 1)), some (.int x6), none]) (by decide +kernel : decode mX4_keepText.2.1 126 = .ok (.iinc 5 1, 3)) rfl rfl (by decide) rfl (?_ : XW _ _ _ _ _ _ _ 129 _ _)
  refine xi_goto (by decide +kernel : decode mX4_keepText.2.1 129 = .ok (.goto (-120), 3)) (by decide) (?_ : XW _ _ _ _ _ _ _ 9 _ _)
  refine xw_drop 6 (ls' := [some (.ref 11), none, some (.int x2), some (.int x6), some (.int 0), some (.int (x5 + 1)), none, none]) rfl ?_
  exact vc

set_option maxRecDepth 20000 in
theorem v_X4_readValue_0 {h : XH} {Q : Option Value → XH → Prop} {X : String → XH → Prop} (r : Nat) (hrd : xRdr r (xP h)) (hr : xRul r (xP h)) (hnr : r + 9 ≤ 100) 
    (vc : ∃ Q1, XSpec mX4_isWord 12 0 0 100 100 [.ref 11, .ref (1000 + 13)] h Q1 xno ∧ ∀ v h1, Q1 v h1 → ∃ r1 : Int32, v = some (.int r1) ∧ ((r1 = 0 → ∃ Q1, XSpec mX4_isWord 12 0 0 100 100 [.ref 11, .ref (1000 + 14)] h1 Q1 xno ∧ ∀ v h2, Q1 v h2 → ∃ r2 : Int32, v = some (.int r2) ∧ ((r2 = 0 → ∃ Q1, XSpec mX4_isWord 12 0 0 100 100 [.ref 11, .ref (1000 + 1)] h2 Q1 xno ∧ ∀ v h3, Q1 v h3 → ∃ r3 : Int32, v = some (.int r3) ∧ ((r3 = 0 → ∃ Q1, XSpec mX4_isWord 12 0 0 100 100 [.ref 11, .ref (1000 + 15)] h3 Q1 xno ∧ ∀ v h4, Q1 v h4 → ∃ r4 : Int32, v = some (.int r4) ∧ ((r4 = 0 → ∃ Q1, XSpec mX4_fail 1 0 0 100 100 [.ref 11, .int 3] h4 Q1 xno ∧ ∀ v h5, Q1 v h5 → ∃ r5 : Int32, v = some (.int r5) ∧ ((narrow .boolean (.int r5) = .int r5) ∧ (Q (some (.int r5)) h5))) ∧ (¬ r4 = 0 → (xP h4 11 7 = some r) ∧ ((xP h4 r 8 = some (r + 1)) ∧ (∃ Q1, XSpec mX0_add 1 0 0 100 100 [.ref (r + 1), .int (-4)] h4 Q1 xno ∧ ∀ v h6, Q1 v h6 → v = none ∧ (XW (xrm 15 0 0) mX4_readValue (xE 100 Q X 0 0) 100 0 0 h6 101 [some (.ref 11)] [])))))) ∧ (¬ r3 = 0 → (xP h3 11 7 = some r) ∧ ((xP h3 r 8 = some (r + 1)) ∧ (∃ Q1, XSpec mX0_add 1 0 0 100 100 [.ref (r + 1), .int (-3)] h3 Q1 xno ∧ ∀ v h7, Q1 v h7 → v = none ∧ (XW (xrm 15 0 0) mX4_readValue (xE 100 Q X 0 0) 100 0 0 h7 101 [some (.ref 11)] [])))))) ∧ (¬ r2 = 0 → (xP h2 11 7 = some r) ∧ ((xP h2 r 8 = some (r + 1)) ∧ (∃ Q1, XSpec mX0_add 1 0 0 100 100 [.ref (r + 1), .int (-2)] h2 Q1 xno ∧ ∀ v h8, Q1 v h8 → v = none ∧ (XW (xrm 15 0 0) mX4_readValue (xE 100 Q X 0 0) 100 0 0 h8 101 [some (.ref 11)] [])))))) ∧ (¬ r1 = 0 → (xP h1 11 7 = some r) ∧ ((xP h1 r 8 = some (r + 1)) ∧ (∃ Q1, XSpec mX0_add 1 0 0 100 100 [.ref (r + 1), .int (-1)] h1 Q1 xno ∧ ∀ v h9, Q1 v h9 → v = none ∧ (XW (xrm 15 0 0) mX4_readValue (xE 100 Q X 0 0) 100 0 0 h9 101 [some (.ref 11)] [])))))) :
    XW (xrm 15 0 0) mX4_readValue (xE 100 Q X 0 0) 100 0 0 h 0 [some (.ref 11)] [] := by
  refine xi_aload_n (by decide +kernel : decode mX4_readValue.2.1 0 = .ok (.aload_n 0, 1)) rfl rfl (?_ : XW _ _ _ _ _ _ _ 1 _ _)
  refine xi_ldcS (j := 13) (by decide +kernel : decode mX4_readValue.2.1 1 = .ok (.ldc 233, 2)) rfl (by decide) (?_ : XW _ _ _ _ _ _ _ 3 _ _)
  obtain ⟨Q1, sp, vc⟩ := vc
  refine xi_callV (b := 0) (bs := 0) (As := [.ref (1000 + 13)]) (st := []) (by decide +kernel : decode mX4_readValue.2.1 3 = .ok (.invokevirtual 52, 3)) kX4_52 rfl rfl (by omega) rfl sp (by decide) (by decide) (Nat.le_of_ble_eq_true rfl) (by omega) (fun v9 h1 hq9 => ?_)
  obtain ⟨r1, e9, vc⟩ := vc v9 h1 hq9
  subst e9
  show XW _ _ _ _ _ _ _ 6 _ [.int r1]
  refine xi_if_eq (by decide +kernel : decode mX4_readValue.2.1 6 = .ok (.ifCond .eq 17, 3)) (by decide) (fun c => (?_ : XW _ _ _ _ _ _ _ 23 _ _)) (fun c => (?_ : XW _ _ _ _ _ _ _ 9 _ _))
  · replace vc := vc.1 c
    refine xi_aload_n (by decide +kernel : decode mX4_readValue.2.1 23 = .ok (.aload_n 0, 1)) rfl rfl (?_ : XW _ _ _ _ _ _ _ 24 _ _)
    refine xi_ldcS (j := 14) (by decide +kernel : decode mX4_readValue.2.1 24 = .ok (.ldc 235, 2)) rfl (by decide) (?_ : XW _ _ _ _ _ _ _ 26 _ _)
    obtain ⟨Q1, sp, vc⟩ := vc
    refine xi_callV (b := 0) (bs := 0) (As := [.ref (1000 + 14)]) (st := []) (by decide +kernel : decode mX4_readValue.2.1 26 = .ok (.invokevirtual 52, 3)) kX4_52 rfl rfl (by omega) rfl sp (by decide) (by decide) (Nat.le_of_ble_eq_true rfl) (by omega) (fun v9 h2 hq9 => ?_)
    obtain ⟨r2, e9, vc⟩ := vc v9 h2 hq9
    subst e9
    show XW _ _ _ _ _ _ _ 29 _ [.int r2]
    refine xi_if_eq (by decide +kernel : decode mX4_readValue.2.1 29 = .ok (.ifCond .eq 18, 3)) (by decide) (fun c => (?_ : XW _ _ _ _ _ _ _ 47 _ _)) (fun c => (?_ : XW _ _ _ _ _ _ _ 32 _ _))
    · replace vc := vc.1 c
      refine xi_aload_n (by decide +kernel : decode mX4_readValue.2.1 47 = .ok (.aload_n 0, 1)) rfl rfl (?_ : XW _ _ _ _ _ _ _ 48 _ _)
      refine xi_ldcS (j := 1) (by decide +kernel : decode mX4_readValue.2.1 48 = .ok (.ldc 50, 2)) rfl (by decide) (?_ : XW _ _ _ _ _ _ _ 50 _ _)
      obtain ⟨Q1, sp, vc⟩ := vc
      refine xi_callV (b := 0) (bs := 0) (As := [.ref (1000 + 1)]) (st := []) (by decide +kernel : decode mX4_readValue.2.1 50 = .ok (.invokevirtual 52, 3)) kX4_52 rfl rfl (by omega) rfl sp (by decide) (by decide) (Nat.le_of_ble_eq_true rfl) (by omega) (fun v9 h3 hq9 => ?_)
      obtain ⟨r3, e9, vc⟩ := vc v9 h3 hq9
      subst e9
      show XW _ _ _ _ _ _ _ 53 _ [.int r3]
      refine xi_if_eq (by decide +kernel : decode mX4_readValue.2.1 53 = .ok (.ifCond .eq 18, 3)) (by decide) (fun c => (?_ : XW _ _ _ _ _ _ _ 71 _ _)) (fun c => (?_ : XW _ _ _ _ _ _ _ 56 _ _))
      · replace vc := vc.1 c
        refine xi_aload_n (by decide +kernel : decode mX4_readValue.2.1 71 = .ok (.aload_n 0, 1)) rfl rfl (?_ : XW _ _ _ _ _ _ _ 72 _ _)
        refine xi_ldcS (j := 15) (by decide +kernel : decode mX4_readValue.2.1 72 = .ok (.ldc 237, 2)) rfl (by decide) (?_ : XW _ _ _ _ _ _ _ 74 _ _)
        obtain ⟨Q1, sp, vc⟩ := vc
        refine xi_callV (b := 0) (bs := 0) (As := [.ref (1000 + 15)]) (st := []) (by decide +kernel : decode mX4_readValue.2.1 74 = .ok (.invokevirtual 52, 3)) kX4_52 rfl rfl (by omega) rfl sp (by decide) (by decide) (Nat.le_of_ble_eq_true rfl) (by omega) (fun v9 h4 hq9 => ?_)
        obtain ⟨r4, e9, vc⟩ := vc v9 h4 hq9
        subst e9
        show XW _ _ _ _ _ _ _ 77 _ [.int r4]
        refine xi_if_eq (by decide +kernel : decode mX4_readValue.2.1 77 = .ok (.ifCond .eq 18, 3)) (by decide) (fun c => (?_ : XW _ _ _ _ _ _ _ 95 _ _)) (fun c => (?_ : XW _ _ _ _ _ _ _ 80 _ _))
        · replace vc := vc.1 c
          refine xi_aload_n (by decide +kernel : decode mX4_readValue.2.1 95 = .ok (.aload_n 0, 1)) rfl rfl (?_ : XW _ _ _ _ _ _ _ 96 _ _)
          refine xi_iconst (v := 3) (by decide +kernel : decode mX4_readValue.2.1 96 = .ok (.iconst 3, 1)) (by decide) (?_ : XW _ _ _ _ _ _ _ 97 _ _)
          obtain ⟨Q1, sp, vc⟩ := vc
          refine xi_callV (b := 0) (bs := 0) (As := [.int 3]) (st := []) (by decide +kernel : decode mX4_readValue.2.1 97 = .ok (.invokevirtual 101, 3)) kX4_101 rfl rfl (by omega) rfl sp (by decide) (by decide) (Nat.le_of_ble_eq_true rfl) (by omega) (fun v9 h5 hq9 => ?_)
          obtain ⟨r5, e9, vc⟩ := vc v9 h5 hq9
          subst e9
          show XW _ _ _ _ _ _ _ 100 _ [.int r5]
          obtain ⟨s1, vc⟩ := vc
          exact xi_iret (by decide +kernel : decode mX4_readValue.2.1 100 = .ok (.ireturn, 1)) rfl s1 vc
        · replace vc := vc.2 c
          refine xi_aload_n (by decide +kernel : decode mX4_readValue.2.1 80 = .ok (.aload_n 0, 1)) rfl rfl (?_ : XW _ _ _ _ _ _ _ 81 _ _)
          obtain ⟨s1, vc⟩ := vc
          refine xi_getR (y := r) (by decide +kernel : decode mX4_readValue.2.1 81 = .ok (.getfield 12, 3)) fX4_12 rfl (by omega) rfl s1 (?_ : XW _ _ _ _ _ _ _ 84 _ _)
          obtain ⟨s1, vc⟩ := vc
          refine xi_getR (y := r + 1) (by decide +kernel : decode mX4_readValue.2.1 84 = .ok (.getfield 183, 3)) fX4_183 (xRul_s0 hr) (by omega) rfl s1 (?_ : XW _ _ _ _ _ _ _ 87 _ _)
          refine xi_bipush (v := (-4)) (by decide +kernel : decode mX4_readValue.2.1 87 = .ok (.bipush (-4), 2)) (by decide) (?_ : XW _ _ _ _ _ _ _ 89 _ _)
          obtain ⟨Q1, sp, vc⟩ := vc
          refine xi_callV (b := 0) (bs := 0) (As := [.int (-4)]) (st := []) (by decide +kernel : decode mX4_readValue.2.1 89 = .ok (.invokevirtual 207, 3)) kX4_207 rfl (xRul_s1 hr) (by omega) rfl sp (by decide) (by decide) (Nat.le_of_ble_eq_true rfl) (by omega) (fun v9 h6 hq9 => ?_)
          obtain ⟨e9, vc⟩ := vc v9 h6 hq9
          subst e9
          show XW _ _ _ _ _ _ _ 92 _ []
          refine xi_goto (by decide +kernel : decode mX4_readValue.2.1 92 = .ok (.goto 9, 3)) (by decide) (?_ : XW _ _ _ _ _ _ _ 101 _ _)
          exact vc
      · replace vc := vc.2 c
        refine xi_aload_n (by decide +kernel : decode mX4_readValue.2.1 56 = .ok (.aload_n 0, 1)) rfl rfl (?_ : XW _ _ _ _ _ _ _ 57 _ _)
        obtain ⟨s1, vc⟩ := vc
        refine xi_getR (y := r) (by decide +kernel : decode mX4_readValue.2.1 57 = .ok (.getfield 12, 3)) fX4_12 rfl (by omega) rfl s1 (?_ : XW _ _ _ _ _ _ _ 60 _ _)
        obtain ⟨s1, vc⟩ := vc
        refine xi_getR (y := r + 1) (by decide +kernel : decode mX4_readValue.2.1 60 = .ok (.getfield 183, 3)) fX4_183 (xRul_s0 hr) (by omega) rfl s1 (?_ : XW _ _ _ _ _ _ _ 63 _ _)
        refine xi_bipush (v := (-3)) (by decide +kernel : decode mX4_readValue.2.1 63 = .ok (.bipush (-3), 2)) (by decide) (?_ : XW _ _ _ _ _ _ _ 65 _ _)
        obtain ⟨Q1, sp, vc⟩ := vc
        refine xi_callV (b := 0) (bs := 0) (As := [.int (-3)]) (st := []) (by decide +kernel : decode mX4_readValue.2.1 65 = .ok (.invokevirtual 207, 3)) kX4_207 rfl (xRul_s1 hr) (by omega) rfl sp (by decide) (by decide) (Nat.le_of_ble_eq_true rfl) (by omega) (fun v9 h7 hq9 => ?_)
        obtain ⟨e9, vc⟩ := vc v9 h7 hq9
        subst e9
        show XW _ _ _ _ _ _ _ 68 _ []
        refine xi_goto (by decide +kernel : decode mX4_readValue.2.1 68 = .ok (.goto 33, 3)) (by decide) (?_ : XW _ _ _ _ _ _ _ 101 _ _)
        exact vc
    · replace vc := vc.2 c
      refine xi_aload_n (by decide +kernel : decode mX4_readValue.2.1 32 = .ok (.aload_n 0, 1)) rfl rfl (?_ : XW _ _ _ _ _ _ _ 33 _ _)
      obtain ⟨s1, vc⟩ := vc
      refine xi_getR (y := r) (by decide +kernel : decode mX4_readValue.2.1 33 = .ok (.getfield 12, 3)) fX4_12 rfl (by omega) rfl s1 (?_ : XW _ _ _ _ _ _ _ 36 _ _)
      obtain ⟨s1, vc⟩ := vc
      refine xi_getR (y := r + 1) (by decide +kernel : decode mX4_readValue.2.1 36 = .ok (.getfield 183, 3)) fX4_183 (xRul_s0 hr) (by omega) rfl s1 (?_ : XW _ _ _ _ _ _ _ 39 _ _)
      refine xi_bipush (v := (-2)) (by decide +kernel : decode mX4_readValue.2.1 39 = .ok (.bipush (-2), 2)) (by decide) (?_ : XW _ _ _ _ _ _ _ 41 _ _)
      obtain ⟨Q1, sp, vc⟩ := vc
      refine xi_callV (b := 0) (bs := 0) (As := [.int (-2)]) (st := []) (by decide +kernel : decode mX4_readValue.2.1 41 = .ok (.invokevirtual 207, 3)) kX4_207 rfl (xRul_s1 hr) (by omega) rfl sp (by decide) (by decide) (Nat.le_of_ble_eq_true rfl) (by omega) (fun v9 h8 hq9 => ?_)
      obtain ⟨e9, vc⟩ := vc v9 h8 hq9
      subst e9
      show XW _ _ _ _ _ _ _ 44 _ []
      refine xi_goto (by decide +kernel : decode mX4_readValue.2.1 44 = .ok (.goto 57, 3)) (by decide) (?_ : XW _ _ _ _ _ _ _ 101 _ _)
      exact vc
  · replace vc := vc.2 c
    refine xi_aload_n (by decide +kernel : decode mX4_readValue.2.1 9 = .ok (.aload_n 0, 1)) rfl rfl (?_ : XW _ _ _ _ _ _ _ 10 _ _)
    obtain ⟨s1, vc⟩ := vc
    refine xi_getR (y := r) (by decide +kernel : decode mX4_readValue.2.1 10 = .ok (.getfield 12, 3)) fX4_12 rfl (by omega) rfl s1 (?_ : XW _ _ _ _ _ _ _ 13 _ _)
    obtain ⟨s1, vc⟩ := vc
    refine xi_getR (y := r + 1) (by decide +kernel : decode mX4_readValue.2.1 13 = .ok (.getfield 183, 3)) fX4_183 (xRul_s0 hr) (by omega) rfl s1 (?_ : XW _ _ _ _ _ _ _ 16 _ _)
    refine xi_iconst (v := (-1)) (by decide +kernel : decode mX4_readValue.2.1 16 = .ok (.iconst (-1), 1)) (by decide) (?_ : XW _ _ _ _ _ _ _ 17 _ _)
    obtain ⟨Q1, sp, vc⟩ := vc
    refine xi_callV (b := 0) (bs := 0) (As := [.int (-1)]) (st := []) (by decide +kernel : decode mX4_readValue.2.1 17 = .ok (.invokevirtual 207, 3)) kX4_207 rfl (xRul_s1 hr) (by omega) rfl sp (by decide) (by decide) (Nat.le_of_ble_eq_true rfl) (by omega) (fun v9 h9 hq9 => ?_)
    obtain ⟨e9, vc⟩ := vc v9 h9 hq9
    subst e9
    show XW _ _ _ _ _ _ _ 20 _ []
    refine xi_goto (by decide +kernel : decode mX4_readValue.2.1 20 = .ok (.goto 81, 3)) (by decide) (?_ : XW _ _ _ _ _ _ _ 101 _ _)
    exact vc

set_option maxRecDepth 20000 in
theorem v_X4_readValue_101 {h : XH} {Q : Option Value → XH → Prop} {X : String → XH → Prop} (r : Nat) (hrd : xRdr r (xP h)) (hr : xRul r (xP h)) (hnr : r + 9 ≤ 100) 
    (vc : ∃ Q1, XSpec mX4_readOn 14 0 0 100 100 [.ref 11] h Q1 xno ∧ ∀ v h10, Q1 v h10 → v = none ∧ (Q (some (.int 1)) h10)) :
    XW (xrm 15 0 0) mX4_readValue (xE 100 Q X 0 0) 100 0 0 h 101 [some (.ref 11)] [] := by
  refine xi_aload_n (by decide +kernel : decode mX4_readValue.2.1 101 = .ok (.aload_n 0, 1)) rfl rfl (?_ : XW _ _ _ _ _ _ _ 102 _ _)
  obtain ⟨Q1, sp, vc⟩ := vc
  refine xi_callV (b := 0) (bs := 0) (As := []) (st := []) (by decide +kernel : decode mX4_readValue.2.1 102 = .ok (.invokevirtual 47, 3)) kX4_47 rfl rfl (by omega) rfl sp (by decide) (by decide) (Nat.le_of_ble_eq_true rfl) (by omega) (fun v9 h10 hq9 => ?_)
  obtain ⟨e9, vc⟩ := vc v9 h10 hq9
  subst e9
  show XW _ _ _ _ _ _ _ 105 _ []
  refine xi_iconst (v := 1) (by decide +kernel : decode mX4_readValue.2.1 105 = .ok (.iconst 1, 1)) (by decide) (?_ : XW _ _ _ _ _ _ _ 106 _ _)
  exact xi_iret (by decide +kernel : decode mX4_readValue.2.1 106 = .ok (.ireturn, 1)) rfl rfl vc

set_option maxRecDepth 20000 in
theorem v_X4_readPart_0 {h : XH} {Q : Option Value → XH → Prop} {X : String → XH → Prop} (D : Nat) (hD : 30 ≤ D) (r : Nat) (hrd : xRdr r (xP h)) (hr : xRul r (xP h)) (hnr : r + 9 ≤ 100)  (ax : Int32)
    (vc : ∃ Q1, XSpec mX4_isSign 2 0 0 100 100 [.ref 11, .int 40] h Q1 xno ∧ ∀ v h1, Q1 v h1 → ∃ r1 : Int32, v = some (.int r1) ∧ ((r1 = 0 → (¬ (xI h1 11 4) = 1 → ∃ Q1, XSpec mX4_checkedNumber 3 0 0 100 100 [.ref 11, .int 0, .int 9999] h1 Q1 xno ∧ ∀ v h2, Q1 v h2 → ∃ r2 : Int32, v = some (.int r2) ∧ ((¬ r2 = (-1) → (xP h2 11 7 = some r) ∧ ((xP h2 r 8 = some (r + 1)) ∧ (∃ Q1, XSpec mX0_add 1 0 0 100 100 [.ref (r + 1), .int r2] h2 Q1 xno ∧ ∀ v h3, Q1 v h3 → v = none ∧ (∃ Q1, XSpec mX4_readOn 14 0 0 100 100 [.ref 11] h3 Q1 xno ∧ ∀ v h4, Q1 v h4 → v = none ∧ (Q (some (.int 1)) h4))))) ∧ (r2 = (-1) → Q (some (.int 0)) h2))) ∧ ((xI h1 11 4) = 1 → ∃ Q1, XSpec mX4_readValue 15 0 0 100 100 [.ref 11] h1 Q1 xno ∧ ∀ v h5, Q1 v h5 → ∃ r5 : Int32, v = some (.int r5) ∧ ((narrow .boolean (.int r5) = .int r5) ∧ (Q (some (.int r5)) h5)))) ∧ (¬ r1 = 0 → ∃ Q1, XSpec mX4_readOn 14 0 0 100 100 [.ref 11] h1 Q1 xno ∧ ∀ v h6, Q1 v h6 → v = none ∧ (∃ Q1, XSpec mX4_readExpr D 0 0 100 100 [.ref 11, .int (ax + 1)] h6 Q1 xno ∧ ∀ v h7, Q1 v h7 → ∃ r7 : Int32, v = some (.int r7) ∧ ((r7 = 0 → Q (some (.int 0)) h7) ∧ (¬ r7 = 0 → ∃ Q1, XSpec mX4_takeSign 15 0 0 100 100 [.ref 11, .int 41] h7 Q1 xno ∧ ∀ v h8, Q1 v h8 → ∃ r8 : Int32, v = some (.int r8) ∧ ((r8 = 0 → Q (some (.int 0)) h8) ∧ (¬ r8 = 0 → Q (some (.int 1)) h8)))))))) :
    XW (xrm (D + 1) 0 0) mX4_readPart (xE 100 Q X 0 0) 100 0 0 h 0 [some (.ref 11), some (.int ax), none] [] := by
  refine xi_aload_n (by decide +kernel : decode mX4_readPart.2.1 0 = .ok (.aload_n 0, 1)) rfl rfl (?_ : XW _ _ _ _ _ _ _ 1 _ _)
  refine xi_bipush (v := 40) (by decide +kernel : decode mX4_readPart.2.1 1 = .ok (.bipush 40, 2)) (by decide) (?_ : XW _ _ _ _ _ _ _ 3 _ _)
  obtain ⟨Q1, sp, vc⟩ := vc
  refine xi_callV (b := 0) (bs := 0) (As := [.int 40]) (st := []) (by decide +kernel : decode mX4_readPart.2.1 3 = .ok (.invokevirtual 98, 3)) kX4_98 rfl rfl (by omega) rfl sp (xrm_f (by omega)) (xrm_l (by omega) (Nat.le_of_ble_eq_true rfl)) (Nat.le_of_ble_eq_true rfl) (by omega) (fun v9 h1 hq9 => ?_)
  obtain ⟨r1, e9, vc⟩ := vc v9 h1 hq9
  subst e9
  show XW _ _ _ _ _ _ _ 6 _ [.int r1]
  refine xi_if_eq (by decide +kernel : decode mX4_readPart.2.1 6 = .ok (.ifCond .eq 32, 3)) (by decide) (fun c => (?_ : XW _ _ _ _ _ _ _ 38 _ _)) (fun c => (?_ : XW _ _ _ _ _ _ _ 9 _ _))
  · replace vc := vc.1 c
    refine xi_aload_n (by decide +kernel : decode mX4_readPart.2.1 38 = .ok (.aload_n 0, 1)) rfl rfl (?_ : XW _ _ _ _ _ _ _ 39 _ _)
    refine xi_getI (by decide +kernel : decode mX4_readPart.2.1 39 = .ok (.getfield 60, 3)) fX4_60 rfl (by omega) rfl (?_ : XW _ _ _ _ _ _ _ 42 _ _)
    refine xi_iconst (v := 1) (by decide +kernel : decode mX4_readPart.2.1 42 = .ok (.iconst 1, 1)) (by decide) (?_ : XW _ _ _ _ _ _ _ 43 _ _)
    refine xi_icmp_ne (by decide +kernel : decode mX4_readPart.2.1 43 = .ok (.if_icmp .ne 8, 3)) (by decide) (fun c => (?_ : XW _ _ _ _ _ _ _ 51 _ _)) (fun c => (?_ : XW _ _ _ _ _ _ _ 46 _ _))
    · replace vc := vc.1 c
      refine xi_aload_n (by decide +kernel : decode mX4_readPart.2.1 51 = .ok (.aload_n 0, 1)) rfl rfl (?_ : XW _ _ _ _ _ _ _ 52 _ _)
      refine xi_iconst (v := 0) (by decide +kernel : decode mX4_readPart.2.1 52 = .ok (.iconst 0, 1)) (by decide) (?_ : XW _ _ _ _ _ _ _ 53 _ _)
      refine xi_sipush (v := 9999) (by decide +kernel : decode mX4_readPart.2.1 53 = .ok (.sipush 9999, 3)) (by decide) (?_ : XW _ _ _ _ _ _ _ 56 _ _)
      obtain ⟨Q1, sp, vc⟩ := vc
      refine xi_callV (b := 0) (bs := 0) (As := [.int 0, .int 9999]) (st := []) (by decide +kernel : decode mX4_readPart.2.1 56 = .ok (.invokevirtual 108, 3)) kX4_108 rfl rfl (by omega) rfl sp (xrm_f (by omega)) (xrm_l (by omega) (Nat.le_of_ble_eq_true rfl)) (Nat.le_of_ble_eq_true rfl) (by omega) (fun v9 h2 hq9 => ?_)
      obtain ⟨r2, e9, vc⟩ := vc v9 h2 hq9
      subst e9
      show XW _ _ _ _ _ _ _ 59 _ [.int r2]
      refine xi_istore_n (ls' := [some (.ref 11), some (.int ax), some (.int r2)]) (by decide +kernel : decode mX4_readPart.2.1 59 = .ok (.istore_n 2, 1)) rfl (by decide) rfl (?_ : XW _ _ _ _ _ _ _ 60 _ _)
      refine xi_iload_n (by decide +kernel : decode mX4_readPart.2.1 60 = .ok (.iload_n 2, 1)) rfl rfl (?_ : XW _ _ _ _ _ _ _ 61 _ _)
      refine xi_iconst (v := (-1)) (by decide +kernel : decode mX4_readPart.2.1 61 = .ok (.iconst (-1), 1)) (by decide) (?_ : XW _ _ _ _ _ _ _ 62 _ _)
      refine xi_icmp_ne (by decide +kernel : decode mX4_readPart.2.1 62 = .ok (.if_icmp .ne 5, 3)) (by decide) (fun c => (?_ : XW _ _ _ _ _ _ _ 67 _ _)) (fun c => (?_ : XW _ _ _ _ _ _ _ 65 _ _))
      · replace vc := vc.1 c
        refine xi_aload_n (by decide +kernel : decode mX4_readPart.2.1 67 = .ok (.aload_n 0, 1)) rfl rfl (?_ : XW _ _ _ _ _ _ _ 68 _ _)
        obtain ⟨s1, vc⟩ := vc
        refine xi_getR (y := r) (by decide +kernel : decode mX4_readPart.2.1 68 = .ok (.getfield 12, 3)) fX4_12 rfl (by omega) rfl s1 (?_ : XW _ _ _ _ _ _ _ 71 _ _)
        obtain ⟨s1, vc⟩ := vc
        refine xi_getR (y := r + 1) (by decide +kernel : decode mX4_readPart.2.1 71 = .ok (.getfield 183, 3)) fX4_183 (xRul_s0 hr) (by omega) rfl s1 (?_ : XW _ _ _ _ _ _ _ 74 _ _)
        refine xi_iload_n (by decide +kernel : decode mX4_readPart.2.1 74 = .ok (.iload_n 2, 1)) rfl rfl (?_ : XW _ _ _ _ _ _ _ 75 _ _)
        obtain ⟨Q1, sp, vc⟩ := vc
        refine xi_callV (b := 0) (bs := 0) (As := [.int r2]) (st := []) (by decide +kernel : decode mX4_readPart.2.1 75 = .ok (.invokevirtual 207, 3)) kX4_207 rfl (xRul_s1 hr) (by omega) rfl sp (xrm_f (by omega)) (xrm_l (by omega) (Nat.le_of_ble_eq_true rfl)) (Nat.le_of_ble_eq_true rfl) (by omega) (fun v9 h3 hq9 => ?_)
        obtain ⟨e9, vc⟩ := vc v9 h3 hq9
        subst e9
        show XW _ _ _ _ _ _ _ 78 _ []
        refine xi_aload_n (by decide +kernel : decode mX4_readPart.2.1 78 = .ok (.aload_n 0, 1)) rfl rfl (?_ : XW _ _ _ _ _ _ _ 79 _ _)
        obtain ⟨Q1, sp, vc⟩ := vc
        refine xi_callV (b := 0) (bs := 0) (As := []) (st := []) (by decide +kernel : decode mX4_readPart.2.1 79 = .ok (.invokevirtual 47, 3)) kX4_47 rfl rfl (by omega) rfl sp (xrm_f (by omega)) (xrm_l (by omega) (Nat.le_of_ble_eq_true rfl)) (Nat.le_of_ble_eq_true rfl) (by omega) (fun v9 h4 hq9 => ?_)
        obtain ⟨e9, vc⟩ := vc v9 h4 hq9
        subst e9
        show XW _ _ _ _ _ _ _ 82 _ []
        refine xi_iconst (v := 1) (by decide +kernel : decode mX4_readPart.2.1 82 = .ok (.iconst 1, 1)) (by decide) (?_ : XW _ _ _ _ _ _ _ 83 _ _)
        exact xi_iret (by decide +kernel : decode mX4_readPart.2.1 83 = .ok (.ireturn, 1)) rfl rfl vc
      · replace vc := vc.2 c
        refine xi_iconst (v := 0) (by decide +kernel : decode mX4_readPart.2.1 65 = .ok (.iconst 0, 1)) (by decide) (?_ : XW _ _ _ _ _ _ _ 66 _ _)
        exact xi_iret (by decide +kernel : decode mX4_readPart.2.1 66 = .ok (.ireturn, 1)) rfl rfl vc
    · replace vc := vc.2 c
      refine xi_aload_n (by decide +kernel : decode mX4_readPart.2.1 46 = .ok (.aload_n 0, 1)) rfl rfl (?_ : XW _ _ _ _ _ _ _ 47 _ _)
      obtain ⟨Q1, sp, vc⟩ := vc
      refine xi_callV (b := 0) (bs := 0) (As := []) (st := []) (by decide +kernel : decode mX4_readPart.2.1 47 = .ok (.invokevirtual 230, 3)) kX4_230 rfl rfl (by omega) rfl sp (xrm_f (by omega)) (xrm_l (by omega) (Nat.le_of_ble_eq_true rfl)) (Nat.le_of_ble_eq_true rfl) (by omega) (fun v9 h5 hq9 => ?_)
      obtain ⟨r5, e9, vc⟩ := vc v9 h5 hq9
      subst e9
      show XW _ _ _ _ _ _ _ 50 _ [.int r5]
      obtain ⟨s1, vc⟩ := vc
      exact xi_iret (by decide +kernel : decode mX4_readPart.2.1 50 = .ok (.ireturn, 1)) rfl s1 vc
  · replace vc := vc.2 c
    refine xi_aload_n (by decide +kernel : decode mX4_readPart.2.1 9 = .ok (.aload_n 0, 1)) rfl rfl (?_ : XW _ _ _ _ _ _ _ 10 _ _)
    obtain ⟨Q1, sp, vc⟩ := vc
    refine xi_callV (b := 0) (bs := 0) (As := []) (st := []) (by decide +kernel : decode mX4_readPart.2.1 10 = .ok (.invokevirtual 47, 3)) kX4_47 rfl rfl (by omega) rfl sp (xrm_f (by omega)) (xrm_l (by omega) (Nat.le_of_ble_eq_true rfl)) (Nat.le_of_ble_eq_true rfl) (by omega) (fun v9 h6 hq9 => ?_)
    obtain ⟨e9, vc⟩ := vc v9 h6 hq9
    subst e9
    show XW _ _ _ _ _ _ _ 13 _ []
    refine xi_aload_n (by decide +kernel : decode mX4_readPart.2.1 13 = .ok (.aload_n 0, 1)) rfl rfl (?_ : XW _ _ _ _ _ _ _ 14 _ _)
    refine xi_iload_n (by decide +kernel : decode mX4_readPart.2.1 14 = .ok (.iload_n 1, 1)) rfl rfl (?_ : XW _ _ _ _ _ _ _ 15 _ _)
    refine xi_iconst (v := 1) (by decide +kernel : decode mX4_readPart.2.1 15 = .ok (.iconst 1, 1)) (by decide) (?_ : XW _ _ _ _ _ _ _ 16 _ _)
    refine xi_iadd (by decide +kernel : decode mX4_readPart.2.1 16 = .ok (.iadd, 1)) (?_ : XW _ _ _ _ _ _ _ 17 _ _)
    obtain ⟨Q1, sp, vc⟩ := vc
    refine xi_callV (b := 0) (bs := 0) (As := [.int (ax + 1)]) (st := []) (by decide +kernel : decode mX4_readPart.2.1 17 = .ok (.invokevirtual 192, 3)) kX4_192 rfl rfl (by omega) rfl sp (xrm_f (by omega)) (xrm_l (by omega) (Nat.le_of_ble_eq_true rfl)) (Nat.le_of_ble_eq_true rfl) (by omega) (fun v9 h7 hq9 => ?_)
    obtain ⟨r7, e9, vc⟩ := vc v9 h7 hq9
    subst e9
    show XW _ _ _ _ _ _ _ 20 _ [.int r7]
    refine xi_if_eq (by decide +kernel : decode mX4_readPart.2.1 20 = .ok (.ifCond .eq 16, 3)) (by decide) (fun c => (?_ : XW _ _ _ _ _ _ _ 36 _ _)) (fun c => (?_ : XW _ _ _ _ _ _ _ 23 _ _))
    · replace vc := vc.1 c
      refine xi_iconst (v := 0) (by decide +kernel : decode mX4_readPart.2.1 36 = .ok (.iconst 0, 1)) (by decide) (?_ : XW _ _ _ _ _ _ _ 37 _ _)
      exact xi_iret (by decide +kernel : decode mX4_readPart.2.1 37 = .ok (.ireturn, 1)) rfl rfl vc
    · replace vc := vc.2 c
      refine xi_aload_n (by decide +kernel : decode mX4_readPart.2.1 23 = .ok (.aload_n 0, 1)) rfl rfl (?_ : XW _ _ _ _ _ _ _ 24 _ _)
      refine xi_bipush (v := 41) (by decide +kernel : decode mX4_readPart.2.1 24 = .ok (.bipush 41, 2)) (by decide) (?_ : XW _ _ _ _ _ _ _ 26 _ _)
      obtain ⟨Q1, sp, vc⟩ := vc
      refine xi_callV (b := 0) (bs := 0) (As := [.int 41]) (st := []) (by decide +kernel : decode mX4_readPart.2.1 26 = .ok (.invokevirtual 113, 3)) kX4_113 rfl rfl (by omega) rfl sp (xrm_f (by omega)) (xrm_l (by omega) (Nat.le_of_ble_eq_true rfl)) (Nat.le_of_ble_eq_true rfl) (by omega) (fun v9 h8 hq9 => ?_)
      obtain ⟨r8, e9, vc⟩ := vc v9 h8 hq9
      subst e9
      show XW _ _ _ _ _ _ _ 29 _ [.int r8]
      refine xi_if_eq (by decide +kernel : decode mX4_readPart.2.1 29 = .ok (.ifCond .eq 7, 3)) (by decide) (fun c => (?_ : XW _ _ _ _ _ _ _ 36 _ _)) (fun c => (?_ : XW _ _ _ _ _ _ _ 32 _ _))
      · replace vc := vc.1 c
        refine xi_iconst (v := 0) (by decide +kernel : decode mX4_readPart.2.1 36 = .ok (.iconst 0, 1)) (by decide) (?_ : XW _ _ _ _ _ _ _ 37 _ _)
        exact xi_iret (by decide +kernel : decode mX4_readPart.2.1 37 = .ok (.ireturn, 1)) rfl rfl vc
      · replace vc := vc.2 c
        refine xi_iconst (v := 1) (by decide +kernel : decode mX4_readPart.2.1 32 = .ok (.iconst 1, 1)) (by decide) (?_ : XW _ _ _ _ _ _ _ 33 _ _)
        refine xi_goto (by decide +kernel : decode mX4_readPart.2.1 33 = .ok (.goto 4, 3)) (by decide) (?_ : XW _ _ _ _ _ _ _ 37 _ _)
        exact xi_iret (by decide +kernel : decode mX4_readPart.2.1 37 = .ok (.ireturn, 1)) rfl rfl vc

set_option maxRecDepth 20000 in
theorem v_X4_readProduct_0 {h : XH} {Q : Option Value → XH → Prop} {X : String → XH → Prop} (D : Nat) (hD : 30 ≤ D) (r : Nat) (hrd : xRdr r (xP h)) (hr : xRul r (xP h)) (hnr : r + 9 ≤ 100)  (ax : Int32)
    (vc : ∃ Q1, XSpec mX4_readPart (D + 1) 0 0 100 100 [.ref 11, .int ax] h Q1 xno ∧ ∀ v h1, Q1 v h1 → ∃ r1 : Int32, v = some (.int r1) ∧ ((¬ r1 = 0 → XW (xrm (D + 2) 0 0) mX4_readProduct (xE 100 Q X 0 0) 100 0 0 h1 12 [some (.ref 11), some (.int ax), some (.int 0), none] []) ∧ (r1 = 0 → Q (some (.int 0)) h1))) :
    XW (xrm (D + 2) 0 0) mX4_readProduct (xE 100 Q X 0 0) 100 0 0 h 0 [some (.ref 11), some (.int ax), none, none] [] := by
  refine xi_aload_n (by decide +kernel : decode mX4_readProduct.2.1 0 = .ok (.aload_n 0, 1)) rfl rfl (?_ : XW _ _ _ _ _ _ _ 1 _ _)
  refine xi_iload_n (by decide +kernel : decode mX4_readProduct.2.1 1 = .ok (.iload_n 1, 1)) rfl rfl (?_ : XW _ _ _ _ _ _ _ 2 _ _)
  obtain ⟨Q1, sp, vc⟩ := vc
  refine xi_callV (b := 0) (bs := 0) (As := [.int ax]) (st := []) (by decide +kernel : decode mX4_readProduct.2.1 2 = .ok (.invokevirtual 227, 3)) kX4_227 rfl rfl (by omega) rfl sp (xrm_f (by omega)) (xrm_l (by omega) (Nat.le_of_ble_eq_true rfl)) (Nat.le_of_ble_eq_true rfl) (by omega) (fun v9 h1 hq9 => ?_)
  obtain ⟨r1, e9, vc⟩ := vc v9 h1 hq9
  subst e9
  show XW _ _ _ _ _ _ _ 5 _ [.int r1]
  refine xi_if_ne (by decide +kernel : decode mX4_readProduct.2.1 5 = .ok (.ifCond .ne 5, 3)) (by decide) (fun c => (?_ : XW _ _ _ _ _ _ _ 10 _ _)) (fun c => (?_ : XW _ _ _ _ _ _ _ 8 _ _))
  · replace vc := vc.1 c
    refine xi_iconst (v := 0) (by decide +kernel : decode mX4_readProduct.2.1 10 = .ok (.iconst 0, 1)) (by decide) (?_ : XW _ _ _ _ _ _ _ 11 _ _)
    refine xi_istore_n (ls' := [some (.ref 11), some (.int ax), some (.int 0), none]) (by decide +kernel : decode mX4_readProduct.2.1 11 = .ok (.istore_n 2, 1)) rfl (by decide) rfl (?_ : XW _ _ _ _ _ _ _ 12 _ _)
    exact vc
  · replace vc := vc.2 c
    refine xi_iconst (v := 0) (by decide +kernel : decode mX4_readProduct.2.1 8 = .ok (.iconst 0, 1)) (by decide) (?_ : XW _ _ _ _ _ _ _ 9 _ _)
    exact xi_iret (by decide +kernel : decode mX4_readProduct.2.1 9 = .ok (.ireturn, 1)) rfl rfl vc

set_option maxRecDepth 20000 in
theorem v_X4_readProduct_12 {h : XH} {Q : Option Value → XH → Prop} {X : String → XH → Prop} (D : Nat) (hD : 30 ≤ D) (r : Nat) (hrd : xRdr r (xP h)) (hr : xRul r (xP h)) (hnr : r + 9 ≤ 100)  (x1 : Int32) (x2 : Int32)
    (vc : (500 ≤ x2 → Q (some (.int 1)) h) ∧ (¬ 500 ≤ x2 → ∃ Q1, XSpec mX4_isSign 2 0 0 100 100 [.ref 11, .int 42] h Q1 xno ∧ ∀ v h2, Q1 v h2 → ∃ r2 : Int32, v = some (.int r2) ∧ ((¬ r2 = 0 → XW (xrm (D + 2) 0 0) mX4_readProduct (xE 100 Q X 0 0) 100 0 0 h2 37 [some (.ref 11), some (.int x1), some (.int x2), none] []) ∧ (r2 = 0 → ∃ Q1, XSpec mX4_isSign 2 0 0 100 100 [.ref 11, .int 47] h2 Q1 xno ∧ ∀ v h3, Q1 v h3 → ∃ r3 : Int32, v = some (.int r3) ∧ ((r3 = 0 → Q (some (.int 1)) h3) ∧ (¬ r3 = 0 → XW (xrm (D + 2) 0 0) mX4_readProduct (xE 100 Q X 0 0) 100 0 0 h3 37 [some (.ref 11), some (.int x1), some (.int x2), none] [])))))) :
    XW (xrm (D + 2) 0 0) mX4_readProduct (xE 100 Q X 0 0) 100 0 0 h 12 [some (.ref 11), some (.int x1), some (.int x2), none] [] := by
  refine xi_iload_n (by decide +kernel : decode mX4_readProduct.2.1 12 = .ok (.iload_n 2, 1)) rfl rfl (?_ : XW _ _ _ _ _ _ _ 13 _ _)
  refine xi_sipush (v := 500) (by decide +kernel : decode mX4_readProduct.2.1 13 = .ok (.sipush 500, 3)) (by decide) (?_ : XW _ _ _ _ _ _ _ 16 _ _)
  refine xi_icmp_ge (by decide +kernel : decode mX4_readProduct.2.1 16 = .ok (.if_icmp .ge 69, 3)) (by decide) (fun c => (?_ : XW _ _ _ _ _ _ _ 85 _ _)) (fun c => (?_ : XW _ _ _ _ _ _ _ 19 _ _))
  · replace vc := vc.1 c
    refine xi_iconst (v := 1) (by decide +kernel : decode mX4_readProduct.2.1 85 = .ok (.iconst 1, 1)) (by decide) (?_ : XW _ _ _ _ _ _ _ 86 _ _)
    exact xi_iret (by decide +kernel : decode mX4_readProduct.2.1 86 = .ok (.ireturn, 1)) rfl rfl vc
  · replace vc := vc.2 c
    refine xi_aload_n (by decide +kernel : decode mX4_readProduct.2.1 19 = .ok (.aload_n 0, 1)) rfl rfl (?_ : XW _ _ _ _ _ _ _ 20 _ _)
    refine xi_bipush (v := 42) (by decide +kernel : decode mX4_readProduct.2.1 20 = .ok (.bipush 42, 2)) (by decide) (?_ : XW _ _ _ _ _ _ _ 22 _ _)
    obtain ⟨Q1, sp, vc⟩ := vc
    refine xi_callV (b := 0) (bs := 0) (As := [.int 42]) (st := []) (by decide +kernel : decode mX4_readProduct.2.1 22 = .ok (.invokevirtual 98, 3)) kX4_98 rfl rfl (by omega) rfl sp (xrm_f (by omega)) (xrm_l (by omega) (Nat.le_of_ble_eq_true rfl)) (Nat.le_of_ble_eq_true rfl) (by omega) (fun v9 h2 hq9 => ?_)
    obtain ⟨r2, e9, vc⟩ := vc v9 h2 hq9
    subst e9
    show XW _ _ _ _ _ _ _ 25 _ [.int r2]
    refine xi_if_ne (by decide +kernel : decode mX4_readProduct.2.1 25 = .ok (.ifCond .ne 12, 3)) (by decide) (fun c => (?_ : XW _ _ _ _ _ _ _ 37 _ _)) (fun c => (?_ : XW _ _ _ _ _ _ _ 28 _ _))
    · replace vc := vc.1 c
      exact vc
    · replace vc := vc.2 c
      refine xi_aload_n (by decide +kernel : decode mX4_readProduct.2.1 28 = .ok (.aload_n 0, 1)) rfl rfl (?_ : XW _ _ _ _ _ _ _ 29 _ _)
      refine xi_bipush (v := 47) (by decide +kernel : decode mX4_readProduct.2.1 29 = .ok (.bipush 47, 2)) (by decide) (?_ : XW _ _ _ _ _ _ _ 31 _ _)
      obtain ⟨Q1, sp, vc⟩ := vc
      refine xi_callV (b := 0) (bs := 0) (As := [.int 47]) (st := []) (by decide +kernel : decode mX4_readProduct.2.1 31 = .ok (.invokevirtual 98, 3)) kX4_98 rfl rfl (by omega) rfl sp (xrm_f (by omega)) (xrm_l (by omega) (Nat.le_of_ble_eq_true rfl)) (Nat.le_of_ble_eq_true rfl) (by omega) (fun v9 h3 hq9 => ?_)
      obtain ⟨r3, e9, vc⟩ := vc v9 h3 hq9
      subst e9
      show XW _ _ _ _ _ _ _ 34 _ [.int r3]
      refine xi_if_eq (by decide +kernel : decode mX4_readProduct.2.1 34 = .ok (.ifCond .eq 51, 3)) (by decide) (fun c => (?_ : XW _ _ _ _ _ _ _ 85 _ _)) (fun c => (?_ : XW _ _ _ _ _ _ _ 37 _ _))
      · replace vc := vc.1 c
        refine xi_iconst (v := 1) (by decide +kernel : decode mX4_readProduct.2.1 85 = .ok (.iconst 1, 1)) (by decide) (?_ : XW _ _ _ _ _ _ _ 86 _ _)
        exact xi_iret (by decide +kernel : decode mX4_readProduct.2.1 86 = .ok (.ireturn, 1)) rfl rfl vc
      · replace vc := vc.2 c
        exact vc

set_option maxRecDepth 20000 in
theorem v_X4_readProduct_37 {h : XH} {Q : Option Value → XH → Prop} {X : String → XH → Prop} (D : Nat) (hD : 30 ≤ D) (r : Nat) (hrd : xRdr r (xP h)) (hr : xRul r (xP h)) (hnr : r + 9 ≤ 100)  (x1 : Int32) (x2 : Int32)
    (vc : ∃ Q1, XSpec mX4_isSign 2 0 0 100 100 [.ref 11, .int 42] h Q1 xno ∧ ∀ v h4, Q1 v h4 → ∃ r4 : Int32, v = some (.int r4) ∧ ((r4 = 0 → XW (xrm (D + 2) 0 0) mX4_readProduct (xE 100 Q X 0 0) 100 0 0 h4 54 [some (.ref 11), some (.int x1), some (.int x2), some (.int (-13))] []) ∧ (¬ r4 = 0 → XW (xrm (D + 2) 0 0) mX4_readProduct (xE 100 Q X 0 0) 100 0 0 h4 54 [some (.ref 11), some (.int x1), some (.int x2), some (.int (-12))] []))) :
    XW (xrm (D + 2) 0 0) mX4_readProduct (xE 100 Q X 0 0) 100 0 0 h 37 [some (.ref 11), some (.int x1), some (.int x2), none] [] := by
  refine xi_aload_n (by decide +kernel : decode mX4_readProduct.2.1 37 = .ok (.aload_n 0, 1)) rfl rfl (?_ : XW _ _ _ _ _ _ _ 38 _ _)
  refine xi_bipush (v := 42) (by decide +kernel : decode mX4_readProduct.2.1 38 = .ok (.bipush 42, 2)) (by decide) (?_ : XW _ _ _ _ _ _ _ 40 _ _)
  obtain ⟨Q1, sp, vc⟩ := vc
  refine xi_callV (b := 0) (bs := 0) (As := [.int 42]) (st := []) (by decide +kernel : decode mX4_readProduct.2.1 40 = .ok (.invokevirtual 98, 3)) kX4_98 rfl rfl (by omega) rfl sp (xrm_f (by omega)) (xrm_l (by omega) (Nat.le_of_ble_eq_true rfl)) (Nat.le_of_ble_eq_true rfl) (by omega) (fun v9 h4 hq9 => ?_)
  obtain ⟨r4, e9, vc⟩ := vc v9 h4 hq9
  subst e9
  show XW _ _ _ _ _ _ _ 43 _ [.int r4]
  refine xi_if_eq (by decide +kernel : decode mX4_readProduct.2.1 43 = .ok (.ifCond .eq 8, 3)) (by decide) (fun c => (?_ : XW _ _ _ _ _ _ _ 51 _ _)) (fun c => (?_ : XW _ _ _ _ _ _ _ 46 _ _))
  · replace vc := vc.1 c
    refine xi_bipush (v := (-13)) (by decide +kernel : decode mX4_readProduct.2.1 51 = .ok (.bipush (-13), 2)) (by decide) (?_ : XW _ _ _ _ _ _ _ 53 _ _)
    refine xi_istore_n (ls' := [some (.ref 11), some (.int x1), some (.int x2), some (.int (-13))]) (by decide +kernel : decode mX4_readProduct.2.1 53 = .ok (.istore_n 3, 1)) rfl (by decide) rfl (?_ : XW _ _ _ _ _ _ _ 54 _ _)
    exact vc
  · replace vc := vc.2 c
    refine xi_bipush (v := (-12)) (by decide +kernel : decode mX4_readProduct.2.1 46 = .ok (.bipush (-12), 2)) (by decide) (?_ : XW _ _ _ _ _ _ _ 48 _ _)
    refine xi_goto (by decide +kernel : decode mX4_readProduct.2.1 48 = .ok (.goto 5, 3)) (by decide) (?_ : XW _ _ _ _ _ _ _ 53 _ _)
    refine xi_istore_n (ls' := [some (.ref 11), some (.int x1), some (.int x2), some (.int (-12))]) (by decide +kernel : decode mX4_readProduct.2.1 53 = .ok (.istore_n 3, 1)) rfl (by decide) rfl (?_ : XW _ _ _ _ _ _ _ 54 _ _)
    exact vc

set_option maxRecDepth 20000 in
theorem v_X4_readProduct_54 {h : XH} {Q : Option Value → XH → Prop} {X : String → XH → Prop} (D : Nat) (hD : 30 ≤ D) (r : Nat) (hrd : xRdr r (xP h)) (hr : xRul r (xP h)) (hnr : r + 9 ≤ 100)  (x1 : Int32) (x2 : Int32) (x3 : Int32)
    (vc : ∃ Q1, XSpec mX4_readOn 14 0 0 100 100 [.ref 11] h Q1 xno ∧ ∀ v h5, Q1 v h5 → v = none ∧ (∃ Q1, XSpec mX4_readPart (D + 1) 0 0 100 100 [.ref 11, .int x1] h5 Q1 xno ∧ ∀ v h6, Q1 v h6 → ∃ r6 : Int32, v = some (.int r6) ∧ ((¬ r6 = 0 → (xP h6 11 7 = some r) ∧ ((xP h6 r 8 = some (r + 1)) ∧ (∃ Q1, XSpec mX0_add 1 0 0 100 100 [.ref (r + 1), .int x3] h6 Q1 xno ∧ ∀ v h7, Q1 v h7 → v = none ∧ (XW (xrm (D + 2) 0 0) mX4_readProduct (xE 100 Q X 0 0) 100 0 0 h7 12 [some (.ref 11), some (.int x1), some (.int (x2 + 1)), none] [])))) ∧ (r6 = 0 → Q (some (.int 0)) h6)))) :
    XW (xrm (D + 2) 0 0) mX4_readProduct (xE 100 Q X 0 0) 100 0 0 h 54 [some (.ref 11), some (.int x1), some (.int x2), some (.int x3)] [] := by
  refine xi_aload_n (by decide +kernel : decode mX4_readProduct.2.1 54 = .ok (.aload_n 0, 1)) rfl rfl (?_ : XW _ _ _ _ _ _ _ 55 _ _)
  obtain ⟨Q1, sp, vc⟩ := vc
  refine xi_callV (b := 0) (bs := 0) (As := []) (st := []) (by decide +kernel : decode mX4_readProduct.2.1 55 = .ok (.invokevirtual 47, 3)) kX4_47 rfl rfl (by omega) rfl sp (xrm_f (by omega)) (xrm_l (by omega) (Nat.le_of_ble_eq_true rfl)) (Nat.le_of_ble_eq_true rfl) (by omega) (fun v9 h5 hq9 => ?_)
  obtain ⟨e9, vc⟩ := vc v9 h5 hq9
  subst e9
  show XW _ _ _ _ _ _ _ 58 _ []
  refine xi_aload_n (by decide +kernel : decode mX4_readProduct.2.1 58 = .ok (.aload_n 0, 1)) rfl rfl (?_ : XW _ _ _ _ _ _ _ 59 _ _)
  refine xi_iload_n (by decide +kernel : decode mX4_readProduct.2.1 59 = .ok (.iload_n 1, 1)) rfl rfl (?_ : XW _ _ _ _ _ _ _ 60 _ _)
  obtain ⟨Q1, sp, vc⟩ := vc
  refine xi_callV (b := 0) (bs := 0) (As := [.int x1]) (st := []) (by decide +kernel : decode mX4_readProduct.2.1 60 = .ok (.invokevirtual 227, 3)) kX4_227 rfl rfl (by omega) rfl sp (xrm_f (by omega)) (xrm_l (by omega) (Nat.le_of_ble_eq_true rfl)) (Nat.le_of_ble_eq_true rfl) (by omega) (fun v9 h6 hq9 => ?_)
  obtain ⟨r6, e9, vc⟩ := vc v9 h6 hq9
  subst e9
  show XW _ _ _ _ _ _ _ 63 _ [.int r6]
  refine xi_if_ne (by decide +kernel : decode mX4_readProduct.2.1 63 = .ok (.ifCond .ne 5, 3)) (by decide) (fun c => (?_ : XW _ _ _ _ _ _ _ 68 _ _)) (fun c => (?_ : XW _ _ _ _ _ _ _ 66 _ _))
  · replace vc := vc.1 c
    refine xi_aload_n (by decide +kernel : decode mX4_readProduct.2.1 68 = .ok (.aload_n 0, 1)) rfl rfl (?_ : XW _ _ _ _ _ _ _ 69 _ _)
    obtain ⟨s1, vc⟩ := vc
    refine xi_getR (y := r) (by decide +kernel : decode mX4_readProduct.2.1 69 = .ok (.getfield 12, 3)) fX4_12 rfl (by omega) rfl s1 (?_ : XW _ _ _ _ _ _ _ 72 _ _)
    obtain ⟨s1, vc⟩ := vc
    refine xi_getR (y := r + 1) (by decide +kernel : decode mX4_readProduct.2.1 72 = .ok (.getfield 183, 3)) fX4_183 (xRul_s0 hr) (by omega) rfl s1 (?_ : XW _ _ _ _ _ _ _ 75 _ _)
    refine xi_iload_n (by decide +kernel : decode mX4_readProduct.2.1 75 = .ok (.iload_n 3, 1)) rfl rfl (?_ : XW _ _ _ _ _ _ _ 76 _ _)
    obtain ⟨Q1, sp, vc⟩ := vc
    refine xi_callV (b := 0) (bs := 0) (As := [.int x3]) (st := []) (by decide +kernel : decode mX4_readProduct.2.1 76 = .ok (.invokevirtual 207, 3)) kX4_207 rfl (xRul_s1 hr) (by omega) rfl sp (xrm_f (by omega)) (xrm_l (by omega) (Nat.le_of_ble_eq_true rfl)) (Nat.le_of_ble_eq_true rfl) (by omega) (fun v9 h7 hq9 => ?_)
    obtain ⟨e9, vc⟩ := vc v9 h7 hq9
    subst e9
    show XW _ _ _ _ _ _ _ 79 _ []
    refine xi_iinc (v := x2 + 1) (ls' := [some (.ref 11), some (.int x1), some (.int (x2 + 1)), some (.int x3)]) (by decide +kernel : decode mX4_readProduct.2.1 79 = .ok (.iinc 2 1, 3)) rfl rfl (by decide) rfl (?_ : XW _ _ _ _ _ _ _ 82 _ _)
    refine xi_goto (by decide +kernel : decode mX4_readProduct.2.1 82 = .ok (.goto (-70), 3)) (by decide) (?_ : XW _ _ _ _ _ _ _ 12 _ _)
    refine xw_drop 3 (ls' := [some (.ref 11), some (.int x1), some (.int (x2 + 1)), none]) rfl ?_
    exact vc
  · replace vc := vc.2 c
    refine xi_iconst (v := 0) (by decide +kernel : decode mX4_readProduct.2.1 66 = .ok (.iconst 0, 1)) (by decide) (?_ : XW _ _ _ _ _ _ _ 67 _ _)
    exact xi_iret (by decide +kernel : decode mX4_readProduct.2.1 67 = .ok (.ireturn, 1)) rfl rfl vc

set_option maxRecDepth 20000 in
theorem v_X4_readSum_0 {h : XH} {Q : Option Value → XH → Prop} {X : String → XH → Prop} (D : Nat) (hD : 30 ≤ D) (r : Nat) (hrd : xRdr r (xP h)) (hr : xRul r (xP h)) (hnr : r + 9 ≤ 100)  (ax : Int32)
    (vc : ∃ Q1, XSpec mX4_readProduct (D + 2) 0 0 100 100 [.ref 11, .int ax] h Q1 xno ∧ ∀ v h1, Q1 v h1 → ∃ r1 : Int32, v = some (.int r1) ∧ ((¬ r1 = 0 → XW (xrm (D + 3) 0 0) mX4_readSum (xE 100 Q X 0 0) 100 0 0 h1 12 [some (.ref 11), some (.int ax), some (.int 0), none] []) ∧ (r1 = 0 → Q (some (.int 0)) h1))) :
    XW (xrm (D + 3) 0 0) mX4_readSum (xE 100 Q X 0 0) 100 0 0 h 0 [some (.ref 11), some (.int ax), none, none] [] := by
  refine xi_aload_n (by decide +kernel : decode mX4_readSum.2.1 0 = .ok (.aload_n 0, 1)) rfl rfl (?_ : XW _ _ _ _ _ _ _ 1 _ _)
  refine xi_iload_n (by decide +kernel : decode mX4_readSum.2.1 1 = .ok (.iload_n 1, 1)) rfl rfl (?_ : XW _ _ _ _ _ _ _ 2 _ _)
  obtain ⟨Q1, sp, vc⟩ := vc
  refine xi_callV (b := 0) (bs := 0) (As := [.int ax]) (st := []) (by decide +kernel : decode mX4_readSum.2.1 2 = .ok (.invokevirtual 224, 3)) kX4_224 rfl rfl (by omega) rfl sp (xrm_f (by omega)) (xrm_l (by omega) (Nat.le_of_ble_eq_true rfl)) (Nat.le_of_ble_eq_true rfl) (by omega) (fun v9 h1 hq9 => ?_)
  obtain ⟨r1, e9, vc⟩ := vc v9 h1 hq9
  subst e9
  show XW _ _ _ _ _ _ _ 5 _ [.int r1]
  refine xi_if_ne (by decide +kernel : decode mX4_readSum.2.1 5 = .ok (.ifCond .ne 5, 3)) (by decide) (fun c => (?_ : XW _ _ _ _ _ _ _ 10 _ _)) (fun c => (?_ : XW _ _ _ _ _ _ _ 8 _ _))
  · replace vc := vc.1 c
    refine xi_iconst (v := 0) (by decide +kernel : decode mX4_readSum.2.1 10 = .ok (.iconst 0, 1)) (by decide) (?_ : XW _ _ _ _ _ _ _ 11 _ _)
    refine xi_istore_n (ls' := [some (.ref 11), some (.int ax), some (.int 0), none]) (by decide +kernel : decode mX4_readSum.2.1 11 = .ok (.istore_n 2, 1)) rfl (by decide) rfl (?_ : XW _ _ _ _ _ _ _ 12 _ _)
    exact vc
  · replace vc := vc.2 c
    refine xi_iconst (v := 0) (by decide +kernel : decode mX4_readSum.2.1 8 = .ok (.iconst 0, 1)) (by decide) (?_ : XW _ _ _ _ _ _ _ 9 _ _)
    exact xi_iret (by decide +kernel : decode mX4_readSum.2.1 9 = .ok (.ireturn, 1)) rfl rfl vc

set_option maxRecDepth 20000 in
theorem v_X4_readSum_12 {h : XH} {Q : Option Value → XH → Prop} {X : String → XH → Prop} (D : Nat) (hD : 30 ≤ D) (r : Nat) (hrd : xRdr r (xP h)) (hr : xRul r (xP h)) (hnr : r + 9 ≤ 100)  (x1 : Int32) (x2 : Int32)
    (vc : (500 ≤ x2 → Q (some (.int 1)) h) ∧ (¬ 500 ≤ x2 → ∃ Q1, XSpec mX4_isSign 2 0 0 100 100 [.ref 11, .int 43] h Q1 xno ∧ ∀ v h2, Q1 v h2 → ∃ r2 : Int32, v = some (.int r2) ∧ ((¬ r2 = 0 → XW (xrm (D + 3) 0 0) mX4_readSum (xE 100 Q X 0 0) 100 0 0 h2 37 [some (.ref 11), some (.int x1), some (.int x2), none] []) ∧ (r2 = 0 → ∃ Q1, XSpec mX4_isSign 2 0 0 100 100 [.ref 11, .int 45] h2 Q1 xno ∧ ∀ v h3, Q1 v h3 → ∃ r3 : Int32, v = some (.int r3) ∧ ((r3 = 0 → Q (some (.int 1)) h3) ∧ (¬ r3 = 0 → XW (xrm (D + 3) 0 0) mX4_readSum (xE 100 Q X 0 0) 100 0 0 h3 37 [some (.ref 11), some (.int x1), some (.int x2), none] [])))))) :
    XW (xrm (D + 3) 0 0) mX4_readSum (xE 100 Q X 0 0) 100 0 0 h 12 [some (.ref 11), some (.int x1), some (.int x2), none] [] := by
  refine xi_iload_n (by decide +kernel : decode mX4_readSum.2.1 12 = .ok (.iload_n 2, 1)) rfl rfl (?_ : XW _ _ _ _ _ _ _ 13 _ _)
  refine xi_sipush (v := 500) (by decide +kernel : decode mX4_readSum.2.1 13 = .ok (.sipush 500, 3)) (by decide) (?_ : XW _ _ _ _ _ _ _ 16 _ _)
  refine xi_icmp_ge (by decide +kernel : decode mX4_readSum.2.1 16 = .ok (.if_icmp .ge 69, 3)) (by decide) (fun c => (?_ : XW _ _ _ _ _ _ _ 85 _ _)) (fun c => (?_ : XW _ _ _ _ _ _ _ 19 _ _))
  · replace vc := vc.1 c
    refine xi_iconst (v := 1) (by decide +kernel : decode mX4_readSum.2.1 85 = .ok (.iconst 1, 1)) (by decide) (?_ : XW _ _ _ _ _ _ _ 86 _ _)
    exact xi_iret (by decide +kernel : decode mX4_readSum.2.1 86 = .ok (.ireturn, 1)) rfl rfl vc
  · replace vc := vc.2 c
    refine xi_aload_n (by decide +kernel : decode mX4_readSum.2.1 19 = .ok (.aload_n 0, 1)) rfl rfl (?_ : XW _ _ _ _ _ _ _ 20 _ _)
    refine xi_bipush (v := 43) (by decide +kernel : decode mX4_readSum.2.1 20 = .ok (.bipush 43, 2)) (by decide) (?_ : XW _ _ _ _ _ _ _ 22 _ _)
    obtain ⟨Q1, sp, vc⟩ := vc
    refine xi_callV (b := 0) (bs := 0) (As := [.int 43]) (st := []) (by decide +kernel : decode mX4_readSum.2.1 22 = .ok (.invokevirtual 98, 3)) kX4_98 rfl rfl (by omega) rfl sp (xrm_f (by omega)) (xrm_l (by omega) (Nat.le_of_ble_eq_true rfl)) (Nat.le_of_ble_eq_true rfl) (by omega) (fun v9 h2 hq9 => ?_)
    obtain ⟨r2, e9, vc⟩ := vc v9 h2 hq9
    subst e9
    show XW _ _ _ _ _ _ _ 25 _ [.int r2]
    refine xi_if_ne (by decide +kernel : decode mX4_readSum.2.1 25 = .ok (.ifCond .ne 12, 3)) (by decide) (fun c => (?_ : XW _ _ _ _ _ _ _ 37 _ _)) (fun c => (?_ : XW _ _ _ _ _ _ _ 28 _ _))
    · replace vc := vc.1 c
      exact vc
    · replace vc := vc.2 c
      refine xi_aload_n (by decide +kernel : decode mX4_readSum.2.1 28 = .ok (.aload_n 0, 1)) rfl rfl (?_ : XW _ _ _ _ _ _ _ 29 _ _)
      refine xi_bipush (v := 45) (by decide +kernel : decode mX4_readSum.2.1 29 = .ok (.bipush 45, 2)) (by decide) (?_ : XW _ _ _ _ _ _ _ 31 _ _)
      obtain ⟨Q1, sp, vc⟩ := vc
      refine xi_callV (b := 0) (bs := 0) (As := [.int 45]) (st := []) (by decide +kernel : decode mX4_readSum.2.1 31 = .ok (.invokevirtual 98, 3)) kX4_98 rfl rfl (by omega) rfl sp (xrm_f (by omega)) (xrm_l (by omega) (Nat.le_of_ble_eq_true rfl)) (Nat.le_of_ble_eq_true rfl) (by omega) (fun v9 h3 hq9 => ?_)
      obtain ⟨r3, e9, vc⟩ := vc v9 h3 hq9
      subst e9
      show XW _ _ _ _ _ _ _ 34 _ [.int r3]
      refine xi_if_eq (by decide +kernel : decode mX4_readSum.2.1 34 = .ok (.ifCond .eq 51, 3)) (by decide) (fun c => (?_ : XW _ _ _ _ _ _ _ 85 _ _)) (fun c => (?_ : XW _ _ _ _ _ _ _ 37 _ _))
      · replace vc := vc.1 c
        refine xi_iconst (v := 1) (by decide +kernel : decode mX4_readSum.2.1 85 = .ok (.iconst 1, 1)) (by decide) (?_ : XW _ _ _ _ _ _ _ 86 _ _)
        exact xi_iret (by decide +kernel : decode mX4_readSum.2.1 86 = .ok (.ireturn, 1)) rfl rfl vc
      · replace vc := vc.2 c
        exact vc

set_option maxRecDepth 20000 in
theorem v_X4_readSum_37 {h : XH} {Q : Option Value → XH → Prop} {X : String → XH → Prop} (D : Nat) (hD : 30 ≤ D) (r : Nat) (hrd : xRdr r (xP h)) (hr : xRul r (xP h)) (hnr : r + 9 ≤ 100)  (x1 : Int32) (x2 : Int32)
    (vc : ∃ Q1, XSpec mX4_isSign 2 0 0 100 100 [.ref 11, .int 43] h Q1 xno ∧ ∀ v h4, Q1 v h4 → ∃ r4 : Int32, v = some (.int r4) ∧ ((r4 = 0 → XW (xrm (D + 3) 0 0) mX4_readSum (xE 100 Q X 0 0) 100 0 0 h4 54 [some (.ref 11), some (.int x1), some (.int x2), some (.int (-11))] []) ∧ (¬ r4 = 0 → XW (xrm (D + 3) 0 0) mX4_readSum (xE 100 Q X 0 0) 100 0 0 h4 54 [some (.ref 11), some (.int x1), some (.int x2), some (.int (-10))] []))) :
    XW (xrm (D + 3) 0 0) mX4_readSum (xE 100 Q X 0 0) 100 0 0 h 37 [some (.ref 11), some (.int x1), some (.int x2), none] [] := by
  refine xi_aload_n (by decide +kernel : decode mX4_readSum.2.1 37 = .ok (.aload_n 0, 1)) rfl rfl (?_ : XW _ _ _ _ _ _ _ 38 _ _)
  refine xi_bipush (v := 43) (by decide +kernel : decode mX4_readSum.2.1 38 = .ok (.bipush 43, 2)) (by decide) (?_ : XW _ _ _ _ _ _ _ 40 _ _)
  obtain ⟨Q1, sp, vc⟩ := vc
  refine xi_callV (b := 0) (bs := 0) (As := [.int 43]) (st := []) (by decide +kernel : decode mX4_readSum.2.1 40 = .ok (.invokevirtual 98, 3)) kX4_98 rfl rfl (by omega) rfl sp (xrm_f (by omega)) (xrm_l (by omega) (Nat.le_of_ble_eq_true rfl)) (Nat.le_of_ble_eq_true rfl) (by omega) (fun v9 h4 hq9 => ?_)
  obtain ⟨r4, e9, vc⟩ := vc v9 h4 hq9
  subst e9
  show XW _ _ _ _ _ _ _ 43 _ [.int r4]
  refine xi_if_eq (by decide +kernel : decode mX4_readSum.2.1 43 = .ok (.ifCond .eq 8, 3)) (by decide) (fun c => (?_ : XW _ _ _ _ _ _ _ 51 _ _)) (fun c => (?_ : XW _ _ _ _ _ _ _ 46 _ _))
  · replace vc := vc.1 c
    refine xi_bipush (v := (-11)) (by decide +kernel : decode mX4_readSum.2.1 51 = .ok (.bipush (-11), 2)) (by decide) (?_ : XW _ _ _ _ _ _ _ 53 _ _)
    refine xi_istore_n (ls' := [some (.ref 11), some (.int x1), some (.int x2), some (.int (-11))]) (by decide +kernel : decode mX4_readSum.2.1 53 = .ok (.istore_n 3, 1)) rfl (by decide) rfl (?_ : XW _ _ _ _ _ _ _ 54 _ _)
    exact vc
  · replace vc := vc.2 c
    refine xi_bipush (v := (-10)) (by decide +kernel : decode mX4_readSum.2.1 46 = .ok (.bipush (-10), 2)) (by decide) (?_ : XW _ _ _ _ _ _ _ 48 _ _)
    refine xi_goto (by decide +kernel : decode mX4_readSum.2.1 48 = .ok (.goto 5, 3)) (by decide) (?_ : XW _ _ _ _ _ _ _ 53 _ _)
    refine xi_istore_n (ls' := [some (.ref 11), some (.int x1), some (.int x2), some (.int (-10))]) (by decide +kernel : decode mX4_readSum.2.1 53 = .ok (.istore_n 3, 1)) rfl (by decide) rfl (?_ : XW _ _ _ _ _ _ _ 54 _ _)
    exact vc

set_option maxRecDepth 20000 in
theorem v_X4_readSum_54 {h : XH} {Q : Option Value → XH → Prop} {X : String → XH → Prop} (D : Nat) (hD : 30 ≤ D) (r : Nat) (hrd : xRdr r (xP h)) (hr : xRul r (xP h)) (hnr : r + 9 ≤ 100)  (x1 : Int32) (x2 : Int32) (x3 : Int32)
    (vc : ∃ Q1, XSpec mX4_readOn 14 0 0 100 100 [.ref 11] h Q1 xno ∧ ∀ v h5, Q1 v h5 → v = none ∧ (∃ Q1, XSpec mX4_readProduct (D + 2) 0 0 100 100 [.ref 11, .int x1] h5 Q1 xno ∧ ∀ v h6, Q1 v h6 → ∃ r6 : Int32, v = some (.int r6) ∧ ((¬ r6 = 0 → (xP h6 11 7 = some r) ∧ ((xP h6 r 8 = some (r + 1)) ∧ (∃ Q1, XSpec mX0_add 1 0 0 100 100 [.ref (r + 1), .int x3] h6 Q1 xno ∧ ∀ v h7, Q1 v h7 → v = none ∧ (XW (xrm (D + 3) 0 0) mX4_readSum (xE 100 Q X 0 0) 100 0 0 h7 12 [some (.ref 11), some (.int x1), some (.int (x2 + 1)), none] [])))) ∧ (r6 = 0 → Q (some (.int 0)) h6)))) :
    XW (xrm (D + 3) 0 0) mX4_readSum (xE 100 Q X 0 0) 100 0 0 h 54 [some (.ref 11), some (.int x1), some (.int x2), some (.int x3)] [] := by
  refine xi_aload_n (by decide +kernel : decode mX4_readSum.2.1 54 = .ok (.aload_n 0, 1)) rfl rfl (?_ : XW _ _ _ _ _ _ _ 55 _ _)
  obtain ⟨Q1, sp, vc⟩ := vc
  refine xi_callV (b := 0) (bs := 0) (As := []) (st := []) (by decide +kernel : decode mX4_readSum.2.1 55 = .ok (.invokevirtual 47, 3)) kX4_47 rfl rfl (by omega) rfl sp (xrm_f (by omega)) (xrm_l (by omega) (Nat.le_of_ble_eq_true rfl)) (Nat.le_of_ble_eq_true rfl) (by omega) (fun v9 h5 hq9 => ?_)
  obtain ⟨e9, vc⟩ := vc v9 h5 hq9
  subst e9
  show XW _ _ _ _ _ _ _ 58 _ []
  refine xi_aload_n (by decide +kernel : decode mX4_readSum.2.1 58 = .ok (.aload_n 0, 1)) rfl rfl (?_ : XW _ _ _ _ _ _ _ 59 _ _)
  refine xi_iload_n (by decide +kernel : decode mX4_readSum.2.1 59 = .ok (.iload_n 1, 1)) rfl rfl (?_ : XW _ _ _ _ _ _ _ 60 _ _)
  obtain ⟨Q1, sp, vc⟩ := vc
  refine xi_callV (b := 0) (bs := 0) (As := [.int x1]) (st := []) (by decide +kernel : decode mX4_readSum.2.1 60 = .ok (.invokevirtual 224, 3)) kX4_224 rfl rfl (by omega) rfl sp (xrm_f (by omega)) (xrm_l (by omega) (Nat.le_of_ble_eq_true rfl)) (Nat.le_of_ble_eq_true rfl) (by omega) (fun v9 h6 hq9 => ?_)
  obtain ⟨r6, e9, vc⟩ := vc v9 h6 hq9
  subst e9
  show XW _ _ _ _ _ _ _ 63 _ [.int r6]
  refine xi_if_ne (by decide +kernel : decode mX4_readSum.2.1 63 = .ok (.ifCond .ne 5, 3)) (by decide) (fun c => (?_ : XW _ _ _ _ _ _ _ 68 _ _)) (fun c => (?_ : XW _ _ _ _ _ _ _ 66 _ _))
  · replace vc := vc.1 c
    refine xi_aload_n (by decide +kernel : decode mX4_readSum.2.1 68 = .ok (.aload_n 0, 1)) rfl rfl (?_ : XW _ _ _ _ _ _ _ 69 _ _)
    obtain ⟨s1, vc⟩ := vc
    refine xi_getR (y := r) (by decide +kernel : decode mX4_readSum.2.1 69 = .ok (.getfield 12, 3)) fX4_12 rfl (by omega) rfl s1 (?_ : XW _ _ _ _ _ _ _ 72 _ _)
    obtain ⟨s1, vc⟩ := vc
    refine xi_getR (y := r + 1) (by decide +kernel : decode mX4_readSum.2.1 72 = .ok (.getfield 183, 3)) fX4_183 (xRul_s0 hr) (by omega) rfl s1 (?_ : XW _ _ _ _ _ _ _ 75 _ _)
    refine xi_iload_n (by decide +kernel : decode mX4_readSum.2.1 75 = .ok (.iload_n 3, 1)) rfl rfl (?_ : XW _ _ _ _ _ _ _ 76 _ _)
    obtain ⟨Q1, sp, vc⟩ := vc
    refine xi_callV (b := 0) (bs := 0) (As := [.int x3]) (st := []) (by decide +kernel : decode mX4_readSum.2.1 76 = .ok (.invokevirtual 207, 3)) kX4_207 rfl (xRul_s1 hr) (by omega) rfl sp (xrm_f (by omega)) (xrm_l (by omega) (Nat.le_of_ble_eq_true rfl)) (Nat.le_of_ble_eq_true rfl) (by omega) (fun v9 h7 hq9 => ?_)
    obtain ⟨e9, vc⟩ := vc v9 h7 hq9
    subst e9
    show XW _ _ _ _ _ _ _ 79 _ []
    refine xi_iinc (v := x2 + 1) (ls' := [some (.ref 11), some (.int x1), some (.int (x2 + 1)), some (.int x3)]) (by decide +kernel : decode mX4_readSum.2.1 79 = .ok (.iinc 2 1, 3)) rfl rfl (by decide) rfl (?_ : XW _ _ _ _ _ _ _ 82 _ _)
    refine xi_goto (by decide +kernel : decode mX4_readSum.2.1 82 = .ok (.goto (-70), 3)) (by decide) (?_ : XW _ _ _ _ _ _ _ 12 _ _)
    refine xw_drop 3 (ls' := [some (.ref 11), some (.int x1), some (.int (x2 + 1)), none]) rfl ?_
    exact vc
  · replace vc := vc.2 c
    refine xi_iconst (v := 0) (by decide +kernel : decode mX4_readSum.2.1 66 = .ok (.iconst 0, 1)) (by decide) (?_ : XW _ _ _ _ _ _ _ 67 _ _)
    exact xi_iret (by decide +kernel : decode mX4_readSum.2.1 67 = .ok (.ireturn, 1)) rfl rfl vc

set_option maxRecDepth 20000 in
theorem v_X4_readTest_0 {h : XH} {Q : Option Value → XH → Prop} {X : String → XH → Prop} (D : Nat) (hD : 30 ≤ D) (r : Nat) (hrd : xRdr r (xP h)) (hr : xRul r (xP h)) (hnr : r + 9 ≤ 100)  (ax : Int32)
    (vc : ∃ Q1, XSpec mX4_readSum (D + 3) 0 0 100 100 [.ref 11, .int ax] h Q1 xno ∧ ∀ v h1, Q1 v h1 → ∃ r1 : Int32, v = some (.int r1) ∧ ((¬ r1 = 0 → ∃ Q1, XSpec mX4_isSign 2 0 0 100 100 [.ref 11, .int 60] h1 Q1 xno ∧ ∀ v h2, Q1 v h2 → ∃ r2 : Int32, v = some (.int r2) ∧ ((¬ r2 = 0 → XW (xrm (D + 4) 0 0) mX4_readTest (xE 100 Q X 0 0) 100 0 0 h2 32 [some (.ref 11), some (.int ax), some (.int r2)] []) ∧ (r2 = 0 → ∃ Q1, XSpec mX4_isSign 2 0 0 100 100 [.ref 11, .int 61] h2 Q1 xno ∧ ∀ v h3, Q1 v h3 → ∃ r3 : Int32, v = some (.int r3) ∧ ((¬ r3 = 0 → XW (xrm (D + 4) 0 0) mX4_readTest (xE 100 Q X 0 0) 100 0 0 h3 32 [some (.ref 11), some (.int ax), some (.int r2)] []) ∧ (r3 = 0 → Q (some (.int 1)) h3))))) ∧ (r1 = 0 → Q (some (.int 0)) h1))) :
    XW (xrm (D + 4) 0 0) mX4_readTest (xE 100 Q X 0 0) 100 0 0 h 0 [some (.ref 11), some (.int ax), none] [] := by
  refine xi_aload_n (by decide +kernel : decode mX4_readTest.2.1 0 = .ok (.aload_n 0, 1)) rfl rfl (?_ : XW _ _ _ _ _ _ _ 1 _ _)
  refine xi_iload_n (by decide +kernel : decode mX4_readTest.2.1 1 = .ok (.iload_n 1, 1)) rfl rfl (?_ : XW _ _ _ _ _ _ _ 2 _ _)
  obtain ⟨Q1, sp, vc⟩ := vc
  refine xi_callV (b := 0) (bs := 0) (As := [.int ax]) (st := []) (by decide +kernel : decode mX4_readTest.2.1 2 = .ok (.invokevirtual 221, 3)) kX4_221 rfl rfl (by omega) rfl sp (xrm_f (by omega)) (xrm_l (by omega) (Nat.le_of_ble_eq_true rfl)) (Nat.le_of_ble_eq_true rfl) (by omega) (fun v9 h1 hq9 => ?_)
  obtain ⟨r1, e9, vc⟩ := vc v9 h1 hq9
  subst e9
  show XW _ _ _ _ _ _ _ 5 _ [.int r1]
  refine xi_if_ne (by decide +kernel : decode mX4_readTest.2.1 5 = .ok (.ifCond .ne 5, 3)) (by decide) (fun c => (?_ : XW _ _ _ _ _ _ _ 10 _ _)) (fun c => (?_ : XW _ _ _ _ _ _ _ 8 _ _))
  · replace vc := vc.1 c
    refine xi_aload_n (by decide +kernel : decode mX4_readTest.2.1 10 = .ok (.aload_n 0, 1)) rfl rfl (?_ : XW _ _ _ _ _ _ _ 11 _ _)
    refine xi_bipush (v := 60) (by decide +kernel : decode mX4_readTest.2.1 11 = .ok (.bipush 60, 2)) (by decide) (?_ : XW _ _ _ _ _ _ _ 13 _ _)
    obtain ⟨Q1, sp, vc⟩ := vc
    refine xi_callV (b := 0) (bs := 0) (As := [.int 60]) (st := []) (by decide +kernel : decode mX4_readTest.2.1 13 = .ok (.invokevirtual 98, 3)) kX4_98 rfl rfl (by omega) rfl sp (xrm_f (by omega)) (xrm_l (by omega) (Nat.le_of_ble_eq_true rfl)) (Nat.le_of_ble_eq_true rfl) (by omega) (fun v9 h2 hq9 => ?_)
    obtain ⟨r2, e9, vc⟩ := vc v9 h2 hq9
    subst e9
    show XW _ _ _ _ _ _ _ 16 _ [.int r2]
    refine xi_istore_n (ls' := [some (.ref 11), some (.int ax), some (.int r2)]) (by decide +kernel : decode mX4_readTest.2.1 16 = .ok (.istore_n 2, 1)) rfl (by decide) rfl (?_ : XW _ _ _ _ _ _ _ 17 _ _)
    refine xi_iload_n (by decide +kernel : decode mX4_readTest.2.1 17 = .ok (.iload_n 2, 1)) rfl rfl (?_ : XW _ _ _ _ _ _ _ 18 _ _)
    refine xi_if_ne (by decide +kernel : decode mX4_readTest.2.1 18 = .ok (.ifCond .ne 14, 3)) (by decide) (fun c => (?_ : XW _ _ _ _ _ _ _ 32 _ _)) (fun c => (?_ : XW _ _ _ _ _ _ _ 21 _ _))
    · replace vc := vc.1 c
      exact vc
    · replace vc := vc.2 c
      refine xi_aload_n (by decide +kernel : decode mX4_readTest.2.1 21 = .ok (.aload_n 0, 1)) rfl rfl (?_ : XW _ _ _ _ _ _ _ 22 _ _)
      refine xi_bipush (v := 61) (by decide +kernel : decode mX4_readTest.2.1 22 = .ok (.bipush 61, 2)) (by decide) (?_ : XW _ _ _ _ _ _ _ 24 _ _)
      obtain ⟨Q1, sp, vc⟩ := vc
      refine xi_callV (b := 0) (bs := 0) (As := [.int 61]) (st := []) (by decide +kernel : decode mX4_readTest.2.1 24 = .ok (.invokevirtual 98, 3)) kX4_98 rfl rfl (by omega) rfl sp (xrm_f (by omega)) (xrm_l (by omega) (Nat.le_of_ble_eq_true rfl)) (Nat.le_of_ble_eq_true rfl) (by omega) (fun v9 h3 hq9 => ?_)
      obtain ⟨r3, e9, vc⟩ := vc v9 h3 hq9
      subst e9
      show XW _ _ _ _ _ _ _ 27 _ [.int r3]
      refine xi_if_ne (by decide +kernel : decode mX4_readTest.2.1 27 = .ok (.ifCond .ne 5, 3)) (by decide) (fun c => (?_ : XW _ _ _ _ _ _ _ 32 _ _)) (fun c => (?_ : XW _ _ _ _ _ _ _ 30 _ _))
      · replace vc := vc.1 c
        exact vc
      · replace vc := vc.2 c
        refine xi_iconst (v := 1) (by decide +kernel : decode mX4_readTest.2.1 30 = .ok (.iconst 1, 1)) (by decide) (?_ : XW _ _ _ _ _ _ _ 31 _ _)
        exact xi_iret (by decide +kernel : decode mX4_readTest.2.1 31 = .ok (.ireturn, 1)) rfl rfl vc
  · replace vc := vc.2 c
    refine xi_iconst (v := 0) (by decide +kernel : decode mX4_readTest.2.1 8 = .ok (.iconst 0, 1)) (by decide) (?_ : XW _ _ _ _ _ _ _ 9 _ _)
    exact xi_iret (by decide +kernel : decode mX4_readTest.2.1 9 = .ok (.ireturn, 1)) rfl rfl vc

set_option maxRecDepth 20000 in
theorem v_X4_readTest_32 {h : XH} {Q : Option Value → XH → Prop} {X : String → XH → Prop} (D : Nat) (hD : 30 ≤ D) (r : Nat) (hrd : xRdr r (xP h)) (hr : xRul r (xP h)) (hnr : r + 9 ≤ 100)  (x1 : Int32) (x2 : Int32)
    (vc : ∃ Q1, XSpec mX4_readOn 14 0 0 100 100 [.ref 11] h Q1 xno ∧ ∀ v h4, Q1 v h4 → v = none ∧ (∃ Q1, XSpec mX4_readSum (D + 3) 0 0 100 100 [.ref 11, .int x1] h4 Q1 xno ∧ ∀ v h5, Q1 v h5 → ∃ r5 : Int32, v = some (.int r5) ∧ ((¬ r5 = 0 → (xP h5 11 7 = some r) ∧ ((xP h5 r 8 = some (r + 1)) ∧ ((x2 = 0 → ∃ Q1, XSpec mX0_add 1 0 0 100 100 [.ref (r + 1), .int (-9)] h5 Q1 xno ∧ ∀ v h6, Q1 v h6 → v = none ∧ (Q (some (.int 1)) h6)) ∧ (¬ x2 = 0 → ∃ Q1, XSpec mX0_add 1 0 0 100 100 [.ref (r + 1), .int (-8)] h5 Q1 xno ∧ ∀ v h7, Q1 v h7 → v = none ∧ (Q (some (.int 1)) h7))))) ∧ (r5 = 0 → Q (some (.int 0)) h5)))) :
    XW (xrm (D + 4) 0 0) mX4_readTest (xE 100 Q X 0 0) 100 0 0 h 32 [some (.ref 11), some (.int x1), some (.int x2)] [] := by
  refine xi_aload_n (by decide +kernel : decode mX4_readTest.2.1 32 = .ok (.aload_n 0, 1)) rfl rfl (?_ : XW _ _ _ _ _ _ _ 33 _ _)
  obtain ⟨Q1, sp, vc⟩ := vc
  refine xi_callV (b := 0) (bs := 0) (As := []) (st := []) (by decide +kernel : decode mX4_readTest.2.1 33 = .ok (.invokevirtual 47, 3)) kX4_47 rfl rfl (by omega) rfl sp (xrm_f (by omega)) (xrm_l (by omega) (Nat.le_of_ble_eq_true rfl)) (Nat.le_of_ble_eq_true rfl) (by omega) (fun v9 h4 hq9 => ?_)
  obtain ⟨e9, vc⟩ := vc v9 h4 hq9
  subst e9
  show XW _ _ _ _ _ _ _ 36 _ []
  refine xi_aload_n (by decide +kernel : decode mX4_readTest.2.1 36 = .ok (.aload_n 0, 1)) rfl rfl (?_ : XW _ _ _ _ _ _ _ 37 _ _)
  refine xi_iload_n (by decide +kernel : decode mX4_readTest.2.1 37 = .ok (.iload_n 1, 1)) rfl rfl (?_ : XW _ _ _ _ _ _ _ 38 _ _)
  obtain ⟨Q1, sp, vc⟩ := vc
  refine xi_callV (b := 0) (bs := 0) (As := [.int x1]) (st := []) (by decide +kernel : decode mX4_readTest.2.1 38 = .ok (.invokevirtual 221, 3)) kX4_221 rfl rfl (by omega) rfl sp (xrm_f (by omega)) (xrm_l (by omega) (Nat.le_of_ble_eq_true rfl)) (Nat.le_of_ble_eq_true rfl) (by omega) (fun v9 h5 hq9 => ?_)
  obtain ⟨r5, e9, vc⟩ := vc v9 h5 hq9
  subst e9
  show XW _ _ _ _ _ _ _ 41 _ [.int r5]
  refine xi_if_ne (by decide +kernel : decode mX4_readTest.2.1 41 = .ok (.ifCond .ne 5, 3)) (by decide) (fun c => (?_ : XW _ _ _ _ _ _ _ 46 _ _)) (fun c => (?_ : XW _ _ _ _ _ _ _ 44 _ _))
  · replace vc := vc.1 c
    refine xi_aload_n (by decide +kernel : decode mX4_readTest.2.1 46 = .ok (.aload_n 0, 1)) rfl rfl (?_ : XW _ _ _ _ _ _ _ 47 _ _)
    obtain ⟨s1, vc⟩ := vc
    refine xi_getR (y := r) (by decide +kernel : decode mX4_readTest.2.1 47 = .ok (.getfield 12, 3)) fX4_12 rfl (by omega) rfl s1 (?_ : XW _ _ _ _ _ _ _ 50 _ _)
    obtain ⟨s1, vc⟩ := vc
    refine xi_getR (y := r + 1) (by decide +kernel : decode mX4_readTest.2.1 50 = .ok (.getfield 183, 3)) fX4_183 (xRul_s0 hr) (by omega) rfl s1 (?_ : XW _ _ _ _ _ _ _ 53 _ _)
    refine xi_iload_n (by decide +kernel : decode mX4_readTest.2.1 53 = .ok (.iload_n 2, 1)) rfl rfl (?_ : XW _ _ _ _ _ _ _ 54 _ _)
    refine xi_if_eq (by decide +kernel : decode mX4_readTest.2.1 54 = .ok (.ifCond .eq 8, 3)) (by decide) (fun c => (?_ : XW _ _ _ _ _ _ _ 62 _ _)) (fun c => (?_ : XW _ _ _ _ _ _ _ 57 _ _))
    · replace vc := vc.1 c
      refine xi_bipush (v := (-9)) (by decide +kernel : decode mX4_readTest.2.1 62 = .ok (.bipush (-9), 2)) (by decide) (?_ : XW _ _ _ _ _ _ _ 64 _ _)
      obtain ⟨Q1, sp, vc⟩ := vc
      refine xi_callV (b := 0) (bs := 0) (As := [.int (-9)]) (st := []) (by decide +kernel : decode mX4_readTest.2.1 64 = .ok (.invokevirtual 207, 3)) kX4_207 rfl (xRul_s1 hr) (by omega) rfl sp (xrm_f (by omega)) (xrm_l (by omega) (Nat.le_of_ble_eq_true rfl)) (Nat.le_of_ble_eq_true rfl) (by omega) (fun v9 h6 hq9 => ?_)
      obtain ⟨e9, vc⟩ := vc v9 h6 hq9
      subst e9
      show XW _ _ _ _ _ _ _ 67 _ []
      refine xi_iconst (v := 1) (by decide +kernel : decode mX4_readTest.2.1 67 = .ok (.iconst 1, 1)) (by decide) (?_ : XW _ _ _ _ _ _ _ 68 _ _)
      exact xi_iret (by decide +kernel : decode mX4_readTest.2.1 68 = .ok (.ireturn, 1)) rfl rfl vc
    · replace vc := vc.2 c
      refine xi_bipush (v := (-8)) (by decide +kernel : decode mX4_readTest.2.1 57 = .ok (.bipush (-8), 2)) (by decide) (?_ : XW _ _ _ _ _ _ _ 59 _ _)
      refine xi_goto (by decide +kernel : decode mX4_readTest.2.1 59 = .ok (.goto 5, 3)) (by decide) (?_ : XW _ _ _ _ _ _ _ 64 _ _)
      obtain ⟨Q1, sp, vc⟩ := vc
      refine xi_callV (b := 0) (bs := 0) (As := [.int (-8)]) (st := []) (by decide +kernel : decode mX4_readTest.2.1 64 = .ok (.invokevirtual 207, 3)) kX4_207 rfl (xRul_s1 hr) (by omega) rfl sp (xrm_f (by omega)) (xrm_l (by omega) (Nat.le_of_ble_eq_true rfl)) (Nat.le_of_ble_eq_true rfl) (by omega) (fun v9 h7 hq9 => ?_)
      obtain ⟨e9, vc⟩ := vc v9 h7 hq9
      subst e9
      show XW _ _ _ _ _ _ _ 67 _ []
      refine xi_iconst (v := 1) (by decide +kernel : decode mX4_readTest.2.1 67 = .ok (.iconst 1, 1)) (by decide) (?_ : XW _ _ _ _ _ _ _ 68 _ _)
      exact xi_iret (by decide +kernel : decode mX4_readTest.2.1 68 = .ok (.ireturn, 1)) rfl rfl vc
  · replace vc := vc.2 c
    refine xi_iconst (v := 0) (by decide +kernel : decode mX4_readTest.2.1 44 = .ok (.iconst 0, 1)) (by decide) (?_ : XW _ _ _ _ _ _ _ 45 _ _)
    exact xi_iret (by decide +kernel : decode mX4_readTest.2.1 45 = .ok (.ireturn, 1)) rfl rfl vc

set_option maxRecDepth 20000 in
theorem v_X4_readNot_0 {h : XH} {Q : Option Value → XH → Prop} {X : String → XH → Prop} (D : Nat) (hD : 30 ≤ D) (r : Nat) (hrd : xRdr r (xP h)) (hr : xRul r (xP h)) (hnr : r + 9 ≤ 100)  (ax : Int32)
    (vc : XW (xrm (D + 5) 0 0) mX4_readNot (xE 100 Q X 0 0) 100 0 0 h 2 [some (.ref 11), some (.int ax), some (.int 0), none] []) :
    XW (xrm (D + 5) 0 0) mX4_readNot (xE 100 Q X 0 0) 100 0 0 h 0 [some (.ref 11), some (.int ax), none, none] [] := by
  refine xi_iconst (v := 0) (by decide +kernel : decode mX4_readNot.2.1 0 = .ok (.iconst 0, 1)) (by decide) (?_ : XW _ _ _ _ _ _ _ 1 _ _)
  refine xi_istore_n (ls' := [some (.ref 11), some (.int ax), some (.int 0), none]) (by decide +kernel : decode mX4_readNot.2.1 1 = .ok (.istore_n 2, 1)) rfl (by decide) rfl (?_ : XW _ _ _ _ _ _ _ 2 _ _)
  exact vc

set_option maxRecDepth 20000 in
theorem v_X4_readNot_2 {h : XH} {Q : Option Value → XH → Prop} {X : String → XH → Prop} (D : Nat) (hD : 30 ≤ D) (r : Nat) (hrd : xRdr r (xP h)) (hr : xRul r (xP h)) (hnr : r + 9 ≤ 100)  (x1 : Int32) (x2 : Int32)
    (vc : (6 ≤ x2 → XW (xrm (D + 5) 0 0) mX4_readNot (xE 100 Q X 0 0) 100 0 0 h 27 [some (.ref 11), some (.int x1), some (.int x2), none] []) ∧ (¬ 6 ≤ x2 → ∃ Q1, XSpec mX4_isWord 12 0 0 100 100 [.ref 11, .ref (1000 + 12)] h Q1 xno ∧ ∀ v h1, Q1 v h1 → ∃ r1 : Int32, v = some (.int r1) ∧ ((r1 = 0 → XW (xrm (D + 5) 0 0) mX4_readNot (xE 100 Q X 0 0) 100 0 0 h1 27 [some (.ref 11), some (.int x1), some (.int x2), none] []) ∧ (¬ r1 = 0 → ∃ Q1, XSpec mX4_readOn 14 0 0 100 100 [.ref 11] h1 Q1 xno ∧ ∀ v h2, Q1 v h2 → v = none ∧ (XW (xrm (D + 5) 0 0) mX4_readNot (xE 100 Q X 0 0) 100 0 0 h2 2 [some (.ref 11), some (.int x1), some (.int (x2 + 1)), none] []))))) :
    XW (xrm (D + 5) 0 0) mX4_readNot (xE 100 Q X 0 0) 100 0 0 h 2 [some (.ref 11), some (.int x1), some (.int x2), none] [] := by
  refine xi_iload_n (by decide +kernel : decode mX4_readNot.2.1 2 = .ok (.iload_n 2, 1)) rfl rfl (?_ : XW _ _ _ _ _ _ _ 3 _ _)
  refine xi_bipush (v := 6) (by decide +kernel : decode mX4_readNot.2.1 3 = .ok (.bipush 6, 2)) (by decide) (?_ : XW _ _ _ _ _ _ _ 5 _ _)
  refine xi_icmp_ge (by decide +kernel : decode mX4_readNot.2.1 5 = .ok (.if_icmp .ge 22, 3)) (by decide) (fun c => (?_ : XW _ _ _ _ _ _ _ 27 _ _)) (fun c => (?_ : XW _ _ _ _ _ _ _ 8 _ _))
  · replace vc := vc.1 c
    exact vc
  · replace vc := vc.2 c
    refine xi_aload_n (by decide +kernel : decode mX4_readNot.2.1 8 = .ok (.aload_n 0, 1)) rfl rfl (?_ : XW _ _ _ _ _ _ _ 9 _ _)
    refine xi_ldcS (j := 12) (by decide +kernel : decode mX4_readNot.2.1 9 = .ok (.ldc 216, 2)) rfl (by decide) (?_ : XW _ _ _ _ _ _ _ 11 _ _)
    obtain ⟨Q1, sp, vc⟩ := vc
    refine xi_callV (b := 0) (bs := 0) (As := [.ref (1000 + 12)]) (st := []) (by decide +kernel : decode mX4_readNot.2.1 11 = .ok (.invokevirtual 52, 3)) kX4_52 rfl rfl (by omega) rfl sp (xrm_f (by omega)) (xrm_l (by omega) (Nat.le_of_ble_eq_true rfl)) (Nat.le_of_ble_eq_true rfl) (by omega) (fun v9 h1 hq9 => ?_)
    obtain ⟨r1, e9, vc⟩ := vc v9 h1 hq9
    subst e9
    show XW _ _ _ _ _ _ _ 14 _ [.int r1]
    refine xi_if_eq (by decide +kernel : decode mX4_readNot.2.1 14 = .ok (.ifCond .eq 13, 3)) (by decide) (fun c => (?_ : XW _ _ _ _ _ _ _ 27 _ _)) (fun c => (?_ : XW _ _ _ _ _ _ _ 17 _ _))
    · replace vc := vc.1 c
      exact vc
    · replace vc := vc.2 c
      refine xi_iinc (v := x2 + 1) (ls' := [some (.ref 11), some (.int x1), some (.int (x2 + 1)), none]) (by decide +kernel : decode mX4_readNot.2.1 17 = .ok (.iinc 2 1, 3)) rfl rfl (by decide) rfl (?_ : XW _ _ _ _ _ _ _ 20 _ _)
      refine xi_aload_n (by decide +kernel : decode mX4_readNot.2.1 20 = .ok (.aload_n 0, 1)) rfl rfl (?_ : XW _ _ _ _ _ _ _ 21 _ _)
      obtain ⟨Q1, sp, vc⟩ := vc
      refine xi_callV (b := 0) (bs := 0) (As := []) (st := []) (by decide +kernel : decode mX4_readNot.2.1 21 = .ok (.invokevirtual 47, 3)) kX4_47 rfl rfl (by omega) rfl sp (xrm_f (by omega)) (xrm_l (by omega) (Nat.le_of_ble_eq_true rfl)) (Nat.le_of_ble_eq_true rfl) (by omega) (fun v9 h2 hq9 => ?_)
      obtain ⟨e9, vc⟩ := vc v9 h2 hq9
      subst e9
      show XW _ _ _ _ _ _ _ 24 _ []
      refine xi_goto (by decide +kernel : decode mX4_readNot.2.1 24 = .ok (.goto (-22), 3)) (by decide) (?_ : XW _ _ _ _ _ _ _ 2 _ _)
      exact vc

set_option maxRecDepth 20000 in
theorem v_X4_readNot_27 {h : XH} {Q : Option Value → XH → Prop} {X : String → XH → Prop} (D : Nat) (hD : 30 ≤ D) (r : Nat) (hrd : xRdr r (xP h)) (hr : xRul r (xP h)) (hnr : r + 9 ≤ 100)  (x1 : Int32) (x2 : Int32)
    (vc : (¬ x2 = 6 → XW (xrm (D + 5) 0 0) mX4_readNot (xE 100 Q X 0 0) 100 0 0 h 48 [some (.ref 11), some (.int x1), some (.int x2), none] []) ∧ (x2 = 6 → ∃ Q1, XSpec mX4_isWord 12 0 0 100 100 [.ref 11, .ref (1000 + 12)] h Q1 xno ∧ ∀ v h3, Q1 v h3 → ∃ r3 : Int32, v = some (.int r3) ∧ ((r3 = 0 → XW (xrm (D + 5) 0 0) mX4_readNot (xE 100 Q X 0 0) 100 0 0 h3 48 [some (.ref 11), some (.int x1), some (.int x2), none] []) ∧ (¬ r3 = 0 → ∃ Q1, XSpec mX4_fail 1 0 0 100 100 [.ref 11, .int 2] h3 Q1 xno ∧ ∀ v h4, Q1 v h4 → ∃ r4 : Int32, v = some (.int r4) ∧ ((narrow .boolean (.int r4) = .int r4) ∧ (Q (some (.int r4)) h4)))))) :
    XW (xrm (D + 5) 0 0) mX4_readNot (xE 100 Q X 0 0) 100 0 0 h 27 [some (.ref 11), some (.int x1), some (.int x2), none] [] := by
  refine xi_iload_n (by decide +kernel : decode mX4_readNot.2.1 27 = .ok (.iload_n 2, 1)) rfl rfl (?_ : XW _ _ _ _ _ _ _ 28 _ _)
  refine xi_bipush (v := 6) (by decide +kernel : decode mX4_readNot.2.1 28 = .ok (.bipush 6, 2)) (by decide) (?_ : XW _ _ _ _ _ _ _ 30 _ _)
  refine xi_icmp_ne (by decide +kernel : decode mX4_readNot.2.1 30 = .ok (.if_icmp .ne 18, 3)) (by decide) (fun c => (?_ : XW _ _ _ _ _ _ _ 48 _ _)) (fun c => (?_ : XW _ _ _ _ _ _ _ 33 _ _))
  · replace vc := vc.1 c
    exact vc
  · replace vc := vc.2 c
    refine xi_aload_n (by decide +kernel : decode mX4_readNot.2.1 33 = .ok (.aload_n 0, 1)) rfl rfl (?_ : XW _ _ _ _ _ _ _ 34 _ _)
    refine xi_ldcS (j := 12) (by decide +kernel : decode mX4_readNot.2.1 34 = .ok (.ldc 216, 2)) rfl (by decide) (?_ : XW _ _ _ _ _ _ _ 36 _ _)
    obtain ⟨Q1, sp, vc⟩ := vc
    refine xi_callV (b := 0) (bs := 0) (As := [.ref (1000 + 12)]) (st := []) (by decide +kernel : decode mX4_readNot.2.1 36 = .ok (.invokevirtual 52, 3)) kX4_52 rfl rfl (by omega) rfl sp (xrm_f (by omega)) (xrm_l (by omega) (Nat.le_of_ble_eq_true rfl)) (Nat.le_of_ble_eq_true rfl) (by omega) (fun v9 h3 hq9 => ?_)
    obtain ⟨r3, e9, vc⟩ := vc v9 h3 hq9
    subst e9
    show XW _ _ _ _ _ _ _ 39 _ [.int r3]
    refine xi_if_eq (by decide +kernel : decode mX4_readNot.2.1 39 = .ok (.ifCond .eq 9, 3)) (by decide) (fun c => (?_ : XW _ _ _ _ _ _ _ 48 _ _)) (fun c => (?_ : XW _ _ _ _ _ _ _ 42 _ _))
    · replace vc := vc.1 c
      exact vc
    · replace vc := vc.2 c
      refine xi_aload_n (by decide +kernel : decode mX4_readNot.2.1 42 = .ok (.aload_n 0, 1)) rfl rfl (?_ : XW _ _ _ _ _ _ _ 43 _ _)
      refine xi_iconst (v := 2) (by decide +kernel : decode mX4_readNot.2.1 43 = .ok (.iconst 2, 1)) (by decide) (?_ : XW _ _ _ _ _ _ _ 44 _ _)
      obtain ⟨Q1, sp, vc⟩ := vc
      refine xi_callV (b := 0) (bs := 0) (As := [.int 2]) (st := []) (by decide +kernel : decode mX4_readNot.2.1 44 = .ok (.invokevirtual 101, 3)) kX4_101 rfl rfl (by omega) rfl sp (xrm_f (by omega)) (xrm_l (by omega) (Nat.le_of_ble_eq_true rfl)) (Nat.le_of_ble_eq_true rfl) (by omega) (fun v9 h4 hq9 => ?_)
      obtain ⟨r4, e9, vc⟩ := vc v9 h4 hq9
      subst e9
      show XW _ _ _ _ _ _ _ 47 _ [.int r4]
      obtain ⟨s1, vc⟩ := vc
      exact xi_iret (by decide +kernel : decode mX4_readNot.2.1 47 = .ok (.ireturn, 1)) rfl s1 vc

set_option maxRecDepth 20000 in
theorem v_X4_readNot_48 {h : XH} {Q : Option Value → XH → Prop} {X : String → XH → Prop} (D : Nat) (hD : 30 ≤ D) (r : Nat) (hrd : xRdr r (xP h)) (hr : xRul r (xP h)) (hnr : r + 9 ≤ 100)  (x1 : Int32) (x2 : Int32)
    (vc : ∃ Q1, XSpec mX4_readTest (D + 4) 0 0 100 100 [.ref 11, .int x1] h Q1 xno ∧ ∀ v h5, Q1 v h5 → ∃ r5 : Int32, v = some (.int r5) ∧ ((¬ r5 = 0 → XW (xrm (D + 5) 0 0) mX4_readNot (xE 100 Q X 0 0) 100 0 0 h5 60 [some (.ref 11), none, some (.int x2), some (.int 0)] []) ∧ (r5 = 0 → Q (some (.int 0)) h5))) :
    XW (xrm (D + 5) 0 0) mX4_readNot (xE 100 Q X 0 0) 100 0 0 h 48 [some (.ref 11), some (.int x1), some (.int x2), none] [] := by
  refine xi_aload_n (by decide +kernel : decode mX4_readNot.2.1 48 = .ok (.aload_n 0, 1)) rfl rfl (?_ : XW _ _ _ _ _ _ _ 49 _ _)
  refine xi_iload_n (by decide +kernel : decode mX4_readNot.2.1 49 = .ok (.iload_n 1, 1)) rfl rfl (?_ : XW _ _ _ _ _ _ _ 50 _ _)
  obtain ⟨Q1, sp, vc⟩ := vc
  refine xi_callV (b := 0) (bs := 0) (As := [.int x1]) (st := []) (by decide +kernel : decode mX4_readNot.2.1 50 = .ok (.invokevirtual 218, 3)) kX4_218 rfl rfl (by omega) rfl sp (xrm_f (by omega)) (xrm_l (by omega) (Nat.le_of_ble_eq_true rfl)) (Nat.le_of_ble_eq_true rfl) (by omega) (fun v9 h5 hq9 => ?_)
  obtain ⟨r5, e9, vc⟩ := vc v9 h5 hq9
  subst e9
  show XW _ _ _ _ _ _ _ 53 _ [.int r5]
  refine xi_if_ne (by decide +kernel : decode mX4_readNot.2.1 53 = .ok (.ifCond .ne 5, 3)) (by decide) (fun c => (?_ : XW _ _ _ _ _ _ _ 58 _ _)) (fun c => (?_ : XW _ _ _ _ _ _ _ 56 _ _))
  · replace vc := vc.1 c
    refine xi_iconst (v := 0) (by decide +kernel : decode mX4_readNot.2.1 58 = .ok (.iconst 0, 1)) (by decide) (?_ : XW _ _ _ _ _ _ _ 59 _ _)
    refine xi_istore_n (ls' := [some (.ref 11), some (.int x1), some (.int x2), some (.int 0)]) (by decide +kernel : decode mX4_readNot.2.1 59 = .ok (.istore_n 3, 1)) rfl (by decide) rfl (?_ : XW _ _ _ _ _ _ _ 60 _ _)
    refine xw_drop 1 (ls' := [some (.ref 11), none, some (.int x2), some (.int 0)]) rfl ?_
    exact vc
  · replace vc := vc.2 c
    refine xi_iconst (v := 0) (by decide +kernel : decode mX4_readNot.2.1 56 = .ok (.iconst 0, 1)) (by decide) (?_ : XW _ _ _ _ _ _ _ 57 _ _)
    exact xi_iret (by decide +kernel : decode mX4_readNot.2.1 57 = .ok (.ireturn, 1)) rfl rfl vc

set_option maxRecDepth 20000 in
theorem v_X4_readNot_60 {h : XH} {Q : Option Value → XH → Prop} {X : String → XH → Prop} (D : Nat) (hD : 30 ≤ D) (r : Nat) (hrd : xRdr r (xP h)) (hr : xRul r (xP h)) (hnr : r + 9 ≤ 100)  (x2 : Int32) (x3 : Int32)
    (vc : (x2 ≤ x3 → Q (some (.int 1)) h) ∧ (¬ x2 ≤ x3 → ∃ Q1, XSpec mX0_add 1 0 0 100 100 [.ref (r + 1), .int (-5)] h Q1 xno ∧ ∀ v h6, Q1 v h6 → v = none ∧ (XW (xrm (D + 5) 0 0) mX4_readNot (xE 100 Q X 0 0) 100 0 0 h6 60 [some (.ref 11), none, some (.int x2), some (.int (x3 + 1))] []))) :
    XW (xrm (D + 5) 0 0) mX4_readNot (xE 100 Q X 0 0) 100 0 0 h 60 [some (.ref 11), none, some (.int x2), some (.int x3)] [] := by
  refine xi_iload_n (by decide +kernel : decode mX4_readNot.2.1 60 = .ok (.iload_n 3, 1)) rfl rfl (?_ : XW _ _ _ _ _ _ _ 61 _ _)
  refine xi_iload_n (by decide +kernel : decode mX4_readNot.2.1 61 = .ok (.iload_n 2, 1)) rfl rfl (?_ : XW _ _ _ _ _ _ _ 62 _ _)
  refine xi_icmp_ge (by decide +kernel : decode mX4_readNot.2.1 62 = .ok (.if_icmp .ge 21, 3)) (by decide) (fun c => (?_ : XW _ _ _ _ _ _ _ 83 _ _)) (fun c => (?_ : XW _ _ _ _ _ _ _ 65 _ _))
  · replace vc := vc.1 c
    refine xi_iconst (v := 1) (by decide +kernel : decode mX4_readNot.2.1 83 = .ok (.iconst 1, 1)) (by decide) (?_ : XW _ _ _ _ _ _ _ 84 _ _)
    exact xi_iret (by decide +kernel : decode mX4_readNot.2.1 84 = .ok (.ireturn, 1)) rfl rfl vc
  · replace vc := vc.2 c
    refine xi_aload_n (by decide +kernel : decode mX4_readNot.2.1 65 = .ok (.aload_n 0, 1)) rfl rfl (?_ : XW _ _ _ _ _ _ _ 66 _ _)
    refine xi_getR (y := r) (by decide +kernel : decode mX4_readNot.2.1 66 = .ok (.getfield 12, 3)) fX4_12 rfl (by omega) rfl hrd.2 (?_ : XW _ _ _ _ _ _ _ 69 _ _)
    refine xi_getR (y := r + 1) (by decide +kernel : decode mX4_readNot.2.1 69 = .ok (.getfield 183, 3)) fX4_183 (xRul_s0 hr) (by omega) rfl hr.2.1 (?_ : XW _ _ _ _ _ _ _ 72 _ _)
    refine xi_bipush (v := (-5)) (by decide +kernel : decode mX4_readNot.2.1 72 = .ok (.bipush (-5), 2)) (by decide) (?_ : XW _ _ _ _ _ _ _ 74 _ _)
    obtain ⟨Q1, sp, vc⟩ := vc
    refine xi_callV (b := 0) (bs := 0) (As := [.int (-5)]) (st := []) (by decide +kernel : decode mX4_readNot.2.1 74 = .ok (.invokevirtual 207, 3)) kX4_207 rfl (xRul_s1 hr) (by omega) rfl sp (xrm_f (by omega)) (xrm_l (by omega) (Nat.le_of_ble_eq_true rfl)) (Nat.le_of_ble_eq_true rfl) (by omega) (fun v9 h6 hq9 => ?_)
    obtain ⟨e9, vc⟩ := vc v9 h6 hq9
    subst e9
    show XW _ _ _ _ _ _ _ 77 _ []
    refine xi_iinc (v := x3 + 1) (ls' := [some (.ref 11), none, some (.int x2), some (.int (x3 + 1))]) (by decide +kernel : decode mX4_readNot.2.1 77 = .ok (.iinc 3 1, 3)) rfl rfl (by decide) rfl (?_ : XW _ _ _ _ _ _ _ 80 _ _)
    refine xi_goto (by decide +kernel : decode mX4_readNot.2.1 80 = .ok (.goto (-20), 3)) (by decide) (?_ : XW _ _ _ _ _ _ _ 60 _ _)
    exact vc

set_option maxRecDepth 20000 in
theorem v_X4_readAnd_0 {h : XH} {Q : Option Value → XH → Prop} {X : String → XH → Prop} (D : Nat) (hD : 30 ≤ D) (r : Nat) (hrd : xRdr r (xP h)) (hr : xRul r (xP h)) (hnr : r + 9 ≤ 100)  (ax : Int32)
    (vc : ∃ Q1, XSpec mX4_readNot (D + 5) 0 0 100 100 [.ref 11, .int ax] h Q1 xno ∧ ∀ v h1, Q1 v h1 → ∃ r1 : Int32, v = some (.int r1) ∧ ((¬ r1 = 0 → XW (xrm (D + 6) 0 0) mX4_readAnd (xE 100 Q X 0 0) 100 0 0 h1 12 [some (.ref 11), some (.int ax), some (.int 0)] []) ∧ (r1 = 0 → Q (some (.int 0)) h1))) :
    XW (xrm (D + 6) 0 0) mX4_readAnd (xE 100 Q X 0 0) 100 0 0 h 0 [some (.ref 11), some (.int ax), none] [] := by
  refine xi_aload_n (by decide +kernel : decode mX4_readAnd.2.1 0 = .ok (.aload_n 0, 1)) rfl rfl (?_ : XW _ _ _ _ _ _ _ 1 _ _)
  refine xi_iload_n (by decide +kernel : decode mX4_readAnd.2.1 1 = .ok (.iload_n 1, 1)) rfl rfl (?_ : XW _ _ _ _ _ _ _ 2 _ _)
  obtain ⟨Q1, sp, vc⟩ := vc
  refine xi_callV (b := 0) (bs := 0) (As := [.int ax]) (st := []) (by decide +kernel : decode mX4_readAnd.2.1 2 = .ok (.invokevirtual 211, 3)) kX4_211 rfl rfl (by omega) rfl sp (xrm_f (by omega)) (xrm_l (by omega) (Nat.le_of_ble_eq_true rfl)) (Nat.le_of_ble_eq_true rfl) (by omega) (fun v9 h1 hq9 => ?_)
  obtain ⟨r1, e9, vc⟩ := vc v9 h1 hq9
  subst e9
  show XW _ _ _ _ _ _ _ 5 _ [.int r1]
  refine xi_if_ne (by decide +kernel : decode mX4_readAnd.2.1 5 = .ok (.ifCond .ne 5, 3)) (by decide) (fun c => (?_ : XW _ _ _ _ _ _ _ 10 _ _)) (fun c => (?_ : XW _ _ _ _ _ _ _ 8 _ _))
  · replace vc := vc.1 c
    refine xi_iconst (v := 0) (by decide +kernel : decode mX4_readAnd.2.1 10 = .ok (.iconst 0, 1)) (by decide) (?_ : XW _ _ _ _ _ _ _ 11 _ _)
    refine xi_istore_n (ls' := [some (.ref 11), some (.int ax), some (.int 0)]) (by decide +kernel : decode mX4_readAnd.2.1 11 = .ok (.istore_n 2, 1)) rfl (by decide) rfl (?_ : XW _ _ _ _ _ _ _ 12 _ _)
    exact vc
  · replace vc := vc.2 c
    refine xi_iconst (v := 0) (by decide +kernel : decode mX4_readAnd.2.1 8 = .ok (.iconst 0, 1)) (by decide) (?_ : XW _ _ _ _ _ _ _ 9 _ _)
    exact xi_iret (by decide +kernel : decode mX4_readAnd.2.1 9 = .ok (.ireturn, 1)) rfl rfl vc

set_option maxRecDepth 20000 in
theorem v_X4_readAnd_12 {h : XH} {Q : Option Value → XH → Prop} {X : String → XH → Prop} (D : Nat) (hD : 30 ≤ D) (r : Nat) (hrd : xRdr r (xP h)) (hr : xRul r (xP h)) (hnr : r + 9 ≤ 100)  (x1 : Int32) (x2 : Int32)
    (vc : (500 ≤ x2 → Q (some (.int 1)) h) ∧ (¬ 500 ≤ x2 → ∃ Q1, XSpec mX4_isWord 12 0 0 100 100 [.ref 11, .ref (1000 + 16)] h Q1 xno ∧ ∀ v h2, Q1 v h2 → ∃ r2 : Int32, v = some (.int r2) ∧ ((r2 = 0 → Q (some (.int 1)) h2) ∧ (¬ r2 = 0 → ∃ Q1, XSpec mX4_readOn 14 0 0 100 100 [.ref 11] h2 Q1 xno ∧ ∀ v h3, Q1 v h3 → v = none ∧ (∃ Q1, XSpec mX4_readNot (D + 5) 0 0 100 100 [.ref 11, .int x1] h3 Q1 xno ∧ ∀ v h4, Q1 v h4 → ∃ r4 : Int32, v = some (.int r4) ∧ ((¬ r4 = 0 → (xP h4 11 7 = some r) ∧ ((xP h4 r 8 = some (r + 1)) ∧ (∃ Q1, XSpec mX0_add 1 0 0 100 100 [.ref (r + 1), .int (-6)] h4 Q1 xno ∧ ∀ v h5, Q1 v h5 → v = none ∧ (XW (xrm (D + 6) 0 0) mX4_readAnd (xE 100 Q X 0 0) 100 0 0 h5 12 [some (.ref 11), some (.int x1), some (.int (x2 + 1))] [])))) ∧ (r4 = 0 → Q (some (.int 0)) h4))))))) :
    XW (xrm (D + 6) 0 0) mX4_readAnd (xE 100 Q X 0 0) 100 0 0 h 12 [some (.ref 11), some (.int x1), some (.int x2)] [] := by
  refine xi_iload_n (by decide +kernel : decode mX4_readAnd.2.1 12 = .ok (.iload_n 2, 1)) rfl rfl (?_ : XW _ _ _ _ _ _ _ 13 _ _)
  refine xi_sipush (v := 500) (by decide +kernel : decode mX4_readAnd.2.1 13 = .ok (.sipush 500, 3)) (by decide) (?_ : XW _ _ _ _ _ _ _ 16 _ _)
  refine xi_icmp_ge (by decide +kernel : decode mX4_readAnd.2.1 16 = .ok (.if_icmp .ge 44, 3)) (by decide) (fun c => (?_ : XW _ _ _ _ _ _ _ 60 _ _)) (fun c => (?_ : XW _ _ _ _ _ _ _ 19 _ _))
  · replace vc := vc.1 c
    refine xi_iconst (v := 1) (by decide +kernel : decode mX4_readAnd.2.1 60 = .ok (.iconst 1, 1)) (by decide) (?_ : XW _ _ _ _ _ _ _ 61 _ _)
    exact xi_iret (by decide +kernel : decode mX4_readAnd.2.1 61 = .ok (.ireturn, 1)) rfl rfl vc
  · replace vc := vc.2 c
    refine xi_aload_n (by decide +kernel : decode mX4_readAnd.2.1 19 = .ok (.aload_n 0, 1)) rfl rfl (?_ : XW _ _ _ _ _ _ _ 20 _ _)
    refine xi_ldcS (j := 16) (by decide +kernel : decode mX4_readAnd.2.1 20 = .ok (.ldc 214, 2)) rfl (by decide) (?_ : XW _ _ _ _ _ _ _ 22 _ _)
    obtain ⟨Q1, sp, vc⟩ := vc
    refine xi_callV (b := 0) (bs := 0) (As := [.ref (1000 + 16)]) (st := []) (by decide +kernel : decode mX4_readAnd.2.1 22 = .ok (.invokevirtual 52, 3)) kX4_52 rfl rfl (by omega) rfl sp (xrm_f (by omega)) (xrm_l (by omega) (Nat.le_of_ble_eq_true rfl)) (Nat.le_of_ble_eq_true rfl) (by omega) (fun v9 h2 hq9 => ?_)
    obtain ⟨r2, e9, vc⟩ := vc v9 h2 hq9
    subst e9
    show XW _ _ _ _ _ _ _ 25 _ [.int r2]
    refine xi_if_eq (by decide +kernel : decode mX4_readAnd.2.1 25 = .ok (.ifCond .eq 35, 3)) (by decide) (fun c => (?_ : XW _ _ _ _ _ _ _ 60 _ _)) (fun c => (?_ : XW _ _ _ _ _ _ _ 28 _ _))
    · replace vc := vc.1 c
      refine xi_iconst (v := 1) (by decide +kernel : decode mX4_readAnd.2.1 60 = .ok (.iconst 1, 1)) (by decide) (?_ : XW _ _ _ _ _ _ _ 61 _ _)
      exact xi_iret (by decide +kernel : decode mX4_readAnd.2.1 61 = .ok (.ireturn, 1)) rfl rfl vc
    · replace vc := vc.2 c
      refine xi_aload_n (by decide +kernel : decode mX4_readAnd.2.1 28 = .ok (.aload_n 0, 1)) rfl rfl (?_ : XW _ _ _ _ _ _ _ 29 _ _)
      obtain ⟨Q1, sp, vc⟩ := vc
      refine xi_callV (b := 0) (bs := 0) (As := []) (st := []) (by decide +kernel : decode mX4_readAnd.2.1 29 = .ok (.invokevirtual 47, 3)) kX4_47 rfl rfl (by omega) rfl sp (xrm_f (by omega)) (xrm_l (by omega) (Nat.le_of_ble_eq_true rfl)) (Nat.le_of_ble_eq_true rfl) (by omega) (fun v9 h3 hq9 => ?_)
      obtain ⟨e9, vc⟩ := vc v9 h3 hq9
      subst e9
      show XW _ _ _ _ _ _ _ 32 _ []
      refine xi_aload_n (by decide +kernel : decode mX4_readAnd.2.1 32 = .ok (.aload_n 0, 1)) rfl rfl (?_ : XW _ _ _ _ _ _ _ 33 _ _)
      refine xi_iload_n (by decide +kernel : decode mX4_readAnd.2.1 33 = .ok (.iload_n 1, 1)) rfl rfl (?_ : XW _ _ _ _ _ _ _ 34 _ _)
      obtain ⟨Q1, sp, vc⟩ := vc
      refine xi_callV (b := 0) (bs := 0) (As := [.int x1]) (st := []) (by decide +kernel : decode mX4_readAnd.2.1 34 = .ok (.invokevirtual 211, 3)) kX4_211 rfl rfl (by omega) rfl sp (xrm_f (by omega)) (xrm_l (by omega) (Nat.le_of_ble_eq_true rfl)) (Nat.le_of_ble_eq_true rfl) (by omega) (fun v9 h4 hq9 => ?_)
      obtain ⟨r4, e9, vc⟩ := vc v9 h4 hq9
      subst e9
      show XW _ _ _ _ _ _ _ 37 _ [.int r4]
      refine xi_if_ne (by decide +kernel : decode mX4_readAnd.2.1 37 = .ok (.ifCond .ne 5, 3)) (by decide) (fun c => (?_ : XW _ _ _ _ _ _ _ 42 _ _)) (fun c => (?_ : XW _ _ _ _ _ _ _ 40 _ _))
      · replace vc := vc.1 c
        refine xi_aload_n (by decide +kernel : decode mX4_readAnd.2.1 42 = .ok (.aload_n 0, 1)) rfl rfl (?_ : XW _ _ _ _ _ _ _ 43 _ _)
        obtain ⟨s1, vc⟩ := vc
        refine xi_getR (y := r) (by decide +kernel : decode mX4_readAnd.2.1 43 = .ok (.getfield 12, 3)) fX4_12 rfl (by omega) rfl s1 (?_ : XW _ _ _ _ _ _ _ 46 _ _)
        obtain ⟨s1, vc⟩ := vc
        refine xi_getR (y := r + 1) (by decide +kernel : decode mX4_readAnd.2.1 46 = .ok (.getfield 183, 3)) fX4_183 (xRul_s0 hr) (by omega) rfl s1 (?_ : XW _ _ _ _ _ _ _ 49 _ _)
        refine xi_bipush (v := (-6)) (by decide +kernel : decode mX4_readAnd.2.1 49 = .ok (.bipush (-6), 2)) (by decide) (?_ : XW _ _ _ _ _ _ _ 51 _ _)
        obtain ⟨Q1, sp, vc⟩ := vc
        refine xi_callV (b := 0) (bs := 0) (As := [.int (-6)]) (st := []) (by decide +kernel : decode mX4_readAnd.2.1 51 = .ok (.invokevirtual 207, 3)) kX4_207 rfl (xRul_s1 hr) (by omega) rfl sp (xrm_f (by omega)) (xrm_l (by omega) (Nat.le_of_ble_eq_true rfl)) (Nat.le_of_ble_eq_true rfl) (by omega) (fun v9 h5 hq9 => ?_)
        obtain ⟨e9, vc⟩ := vc v9 h5 hq9
        subst e9
        show XW _ _ _ _ _ _ _ 54 _ []
        refine xi_iinc (v := x2 + 1) (ls' := [some (.ref 11), some (.int x1), some (.int (x2 + 1))]) (by decide +kernel : decode mX4_readAnd.2.1 54 = .ok (.iinc 2 1, 3)) rfl rfl (by decide) rfl (?_ : XW _ _ _ _ _ _ _ 57 _ _)
        refine xi_goto (by decide +kernel : decode mX4_readAnd.2.1 57 = .ok (.goto (-45), 3)) (by decide) (?_ : XW _ _ _ _ _ _ _ 12 _ _)
        exact vc
      · replace vc := vc.2 c
        refine xi_iconst (v := 0) (by decide +kernel : decode mX4_readAnd.2.1 40 = .ok (.iconst 0, 1)) (by decide) (?_ : XW _ _ _ _ _ _ _ 41 _ _)
        exact xi_iret (by decide +kernel : decode mX4_readAnd.2.1 41 = .ok (.ireturn, 1)) rfl rfl vc

set_option maxRecDepth 20000 in
theorem v_X4_readExpr_0 {h : XH} {Q : Option Value → XH → Prop} {X : String → XH → Prop} (D : Nat) (hD : 30 ≤ D) (r : Nat) (hrd : xRdr r (xP h)) (hr : xRul r (xP h)) (hnr : r + 9 ≤ 100)  (ax : Int32)
    (vc : (ax ≤ 5 → ∃ Q1, XSpec mX4_readAnd (D + 6) 0 0 100 100 [.ref 11, .int ax] h Q1 xno ∧ ∀ v h1, Q1 v h1 → ∃ r1 : Int32, v = some (.int r1) ∧ ((¬ r1 = 0 → XW (xrm (D + 7) 0 0) mX4_readExpr (xE 100 Q X 0 0) 100 0 0 h1 52 [some (.ref 11), some (.int ax), some (.int 0)] []) ∧ (r1 = 0 → Q (some (.int 0)) h1))) ∧ (¬ ax ≤ 5 → ((xI h 11 4) = 2 → ∃ Q1, XSpec mX4_fail 1 0 0 100 100 [.ref 11, .int 2] h Q1 xno ∧ ∀ v h2, Q1 v h2 → ∃ r2 : Int32, v = some (.int r2) ∧ ((narrow .boolean (.int r2) = .int r2) ∧ (Q (some (.int r2)) h2))) ∧ (¬ (xI h 11 4) = 2 → ((xI h 11 4) = 1 → ∃ Q1, XSpec mX4_fail 1 0 0 100 100 [.ref 11, .int 2] h Q1 xno ∧ ∀ v h3, Q1 v h3 → ∃ r3 : Int32, v = some (.int r3) ∧ ((narrow .boolean (.int r3) = .int r3) ∧ (Q (some (.int r3)) h3))) ∧ (¬ (xI h 11 4) = 1 → ∃ Q1, XSpec mX4_isSign 2 0 0 100 100 [.ref 11, .int 40] h Q1 xno ∧ ∀ v h4, Q1 v h4 → ∃ r4 : Int32, v = some (.int r4) ∧ ((r4 = 0 → ∃ Q1, XSpec mX4_fail 1 0 0 100 100 [.ref 11, .int 1] h4 Q1 xno ∧ ∀ v h5, Q1 v h5 → ∃ r5 : Int32, v = some (.int r5) ∧ ((narrow .boolean (.int r5) = .int r5) ∧ (Q (some (.int r5)) h5))) ∧ (¬ r4 = 0 → ∃ Q1, XSpec mX4_fail 1 0 0 100 100 [.ref 11, .int 2] h4 Q1 xno ∧ ∀ v h6, Q1 v h6 → ∃ r6 : Int32, v = some (.int r6) ∧ ((narrow .boolean (.int r6) = .int r6) ∧ (Q (some (.int r6)) h6)))))))) :
    XW (xrm (D + 7) 0 0) mX4_readExpr (xE 100 Q X 0 0) 100 0 0 h 0 [some (.ref 11), some (.int ax), none] [] := by
  refine xi_iload_n (by decide +kernel : decode mX4_readExpr.2.1 0 = .ok (.iload_n 1, 1)) rfl rfl (?_ : XW _ _ _ _ _ _ _ 1 _ _)
  refine xi_iconst (v := 5) (by decide +kernel : decode mX4_readExpr.2.1 1 = .ok (.iconst 5, 1)) (by decide) (?_ : XW _ _ _ _ _ _ _ 2 _ _)
  refine xi_icmp_le (by decide +kernel : decode mX4_readExpr.2.1 2 = .ok (.if_icmp .le 38, 3)) (by decide) (fun c => (?_ : XW _ _ _ _ _ _ _ 40 _ _)) (fun c => (?_ : XW _ _ _ _ _ _ _ 5 _ _))
  · replace vc := vc.1 c
    refine xi_aload_n (by decide +kernel : decode mX4_readExpr.2.1 40 = .ok (.aload_n 0, 1)) rfl rfl (?_ : XW _ _ _ _ _ _ _ 41 _ _)
    refine xi_iload_n (by decide +kernel : decode mX4_readExpr.2.1 41 = .ok (.iload_n 1, 1)) rfl rfl (?_ : XW _ _ _ _ _ _ _ 42 _ _)
    obtain ⟨Q1, sp, vc⟩ := vc
    refine xi_callV (b := 0) (bs := 0) (As := [.int ax]) (st := []) (by decide +kernel : decode mX4_readExpr.2.1 42 = .ok (.invokevirtual 202, 3)) kX4_202 rfl rfl (by omega) rfl sp (xrm_f (by omega)) (xrm_l (by omega) (Nat.le_of_ble_eq_true rfl)) (Nat.le_of_ble_eq_true rfl) (by omega) (fun v9 h1 hq9 => ?_)
    obtain ⟨r1, e9, vc⟩ := vc v9 h1 hq9
    subst e9
    show XW _ _ _ _ _ _ _ 45 _ [.int r1]
    refine xi_if_ne (by decide +kernel : decode mX4_readExpr.2.1 45 = .ok (.ifCond .ne 5, 3)) (by decide) (fun c => (?_ : XW _ _ _ _ _ _ _ 50 _ _)) (fun c => (?_ : XW _ _ _ _ _ _ _ 48 _ _))
    · replace vc := vc.1 c
      refine xi_iconst (v := 0) (by decide +kernel : decode mX4_readExpr.2.1 50 = .ok (.iconst 0, 1)) (by decide) (?_ : XW _ _ _ _ _ _ _ 51 _ _)
      refine xi_istore_n (ls' := [some (.ref 11), some (.int ax), some (.int 0)]) (by decide +kernel : decode mX4_readExpr.2.1 51 = .ok (.istore_n 2, 1)) rfl (by decide) rfl (?_ : XW _ _ _ _ _ _ _ 52 _ _)
      exact vc
    · replace vc := vc.2 c
      refine xi_iconst (v := 0) (by decide +kernel : decode mX4_readExpr.2.1 48 = .ok (.iconst 0, 1)) (by decide) (?_ : XW _ _ _ _ _ _ _ 49 _ _)
      exact xi_iret (by decide +kernel : decode mX4_readExpr.2.1 49 = .ok (.ireturn, 1)) rfl rfl vc
  · replace vc := vc.2 c
    refine xi_aload_n (by decide +kernel : decode mX4_readExpr.2.1 5 = .ok (.aload_n 0, 1)) rfl rfl (?_ : XW _ _ _ _ _ _ _ 6 _ _)
    refine xi_aload_n (by decide +kernel : decode mX4_readExpr.2.1 6 = .ok (.aload_n 0, 1)) rfl rfl (?_ : XW _ _ _ _ _ _ _ 7 _ _)
    refine xi_getI (by decide +kernel : decode mX4_readExpr.2.1 7 = .ok (.getfield 60, 3)) fX4_60 rfl (by omega) rfl (?_ : XW _ _ _ _ _ _ _ 10 _ _)
    refine xi_iconst (v := 2) (by decide +kernel : decode mX4_readExpr.2.1 10 = .ok (.iconst 2, 1)) (by decide) (?_ : XW _ _ _ _ _ _ _ 11 _ _)
    refine xi_icmp_eq (by decide +kernel : decode mX4_readExpr.2.1 11 = .ok (.if_icmp .eq 20, 3)) (by decide) (fun c => (?_ : XW _ _ _ _ _ _ _ 31 _ _)) (fun c => (?_ : XW _ _ _ _ _ _ _ 14 _ _))
    · replace vc := vc.1 c
      refine xi_iconst (v := 2) (by decide +kernel : decode mX4_readExpr.2.1 31 = .ok (.iconst 2, 1)) (by decide) (?_ : XW _ _ _ _ _ _ _ 32 _ _)
      refine xi_goto (by decide +kernel : decode mX4_readExpr.2.1 32 = .ok (.goto 4, 3)) (by decide) (?_ : XW _ _ _ _ _ _ _ 36 _ _)
      obtain ⟨Q1, sp, vc⟩ := vc
      refine xi_callV (b := 0) (bs := 0) (As := [.int 2]) (st := []) (by decide +kernel : decode mX4_readExpr.2.1 36 = .ok (.invokevirtual 101, 3)) kX4_101 rfl rfl (by omega) rfl sp (xrm_f (by omega)) (xrm_l (by omega) (Nat.le_of_ble_eq_true rfl)) (Nat.le_of_ble_eq_true rfl) (by omega) (fun v9 h2 hq9 => ?_)
      obtain ⟨r2, e9, vc⟩ := vc v9 h2 hq9
      subst e9
      show XW _ _ _ _ _ _ _ 39 _ [.int r2]
      obtain ⟨s1, vc⟩ := vc
      exact xi_iret (by decide +kernel : decode mX4_readExpr.2.1 39 = .ok (.ireturn, 1)) rfl s1 vc
    · replace vc := vc.2 c
      refine xi_aload_n (by decide +kernel : decode mX4_readExpr.2.1 14 = .ok (.aload_n 0, 1)) rfl rfl (?_ : XW _ _ _ _ _ _ _ 15 _ _)
      refine xi_getI (by decide +kernel : decode mX4_readExpr.2.1 15 = .ok (.getfield 60, 3)) fX4_60 rfl (by omega) rfl (?_ : XW _ _ _ _ _ _ _ 18 _ _)
      refine xi_iconst (v := 1) (by decide +kernel : decode mX4_readExpr.2.1 18 = .ok (.iconst 1, 1)) (by decide) (?_ : XW _ _ _ _ _ _ _ 19 _ _)
      refine xi_icmp_eq (by decide +kernel : decode mX4_readExpr.2.1 19 = .ok (.if_icmp .eq 12, 3)) (by decide) (fun c => (?_ : XW _ _ _ _ _ _ _ 31 _ _)) (fun c => (?_ : XW _ _ _ _ _ _ _ 22 _ _))
      · replace vc := vc.1 c
        refine xi_iconst (v := 2) (by decide +kernel : decode mX4_readExpr.2.1 31 = .ok (.iconst 2, 1)) (by decide) (?_ : XW _ _ _ _ _ _ _ 32 _ _)
        refine xi_goto (by decide +kernel : decode mX4_readExpr.2.1 32 = .ok (.goto 4, 3)) (by decide) (?_ : XW _ _ _ _ _ _ _ 36 _ _)
        obtain ⟨Q1, sp, vc⟩ := vc
        refine xi_callV (b := 0) (bs := 0) (As := [.int 2]) (st := []) (by decide +kernel : decode mX4_readExpr.2.1 36 = .ok (.invokevirtual 101, 3)) kX4_101 rfl rfl (by omega) rfl sp (xrm_f (by omega)) (xrm_l (by omega) (Nat.le_of_ble_eq_true rfl)) (Nat.le_of_ble_eq_true rfl) (by omega) (fun v9 h3 hq9 => ?_)
        obtain ⟨r3, e9, vc⟩ := vc v9 h3 hq9
        subst e9
        show XW _ _ _ _ _ _ _ 39 _ [.int r3]
        obtain ⟨s1, vc⟩ := vc
        exact xi_iret (by decide +kernel : decode mX4_readExpr.2.1 39 = .ok (.ireturn, 1)) rfl s1 vc
      · replace vc := vc.2 c
        refine xi_aload_n (by decide +kernel : decode mX4_readExpr.2.1 22 = .ok (.aload_n 0, 1)) rfl rfl (?_ : XW _ _ _ _ _ _ _ 23 _ _)
        refine xi_bipush (v := 40) (by decide +kernel : decode mX4_readExpr.2.1 23 = .ok (.bipush 40, 2)) (by decide) (?_ : XW _ _ _ _ _ _ _ 25 _ _)
        obtain ⟨Q1, sp, vc⟩ := vc
        refine xi_callV (b := 0) (bs := 0) (As := [.int 40]) (st := [.ref 11]) (by decide +kernel : decode mX4_readExpr.2.1 25 = .ok (.invokevirtual 98, 3)) kX4_98 rfl rfl (by omega) rfl sp (xrm_f (by omega)) (xrm_l (by omega) (Nat.le_of_ble_eq_true rfl)) (Nat.le_of_ble_eq_true rfl) (by omega) (fun v9 h4 hq9 => ?_)
        obtain ⟨r4, e9, vc⟩ := vc v9 h4 hq9
        subst e9
        show XW _ _ _ _ _ _ _ 28 _ [.int r4, .ref 11]
        refine xi_if_eq (by decide +kernel : decode mX4_readExpr.2.1 28 = .ok (.ifCond .eq 7, 3)) (by decide) (fun c => (?_ : XW _ _ _ _ _ _ _ 35 _ _)) (fun c => (?_ : XW _ _ _ _ _ _ _ 31 _ _))
        · replace vc := vc.1 c
          refine xi_iconst (v := 1) (by decide +kernel : decode mX4_readExpr.2.1 35 = .ok (.iconst 1, 1)) (by decide) (?_ : XW _ _ _ _ _ _ _ 36 _ _)
          obtain ⟨Q1, sp, vc⟩ := vc
          refine xi_callV (b := 0) (bs := 0) (As := [.int 1]) (st := []) (by decide +kernel : decode mX4_readExpr.2.1 36 = .ok (.invokevirtual 101, 3)) kX4_101 rfl rfl (by omega) rfl sp (xrm_f (by omega)) (xrm_l (by omega) (Nat.le_of_ble_eq_true rfl)) (Nat.le_of_ble_eq_true rfl) (by omega) (fun v9 h5 hq9 => ?_)
          obtain ⟨r5, e9, vc⟩ := vc v9 h5 hq9
          subst e9
          show XW _ _ _ _ _ _ _ 39 _ [.int r5]
          obtain ⟨s1, vc⟩ := vc
          exact xi_iret (by decide +kernel : decode mX4_readExpr.2.1 39 = .ok (.ireturn, 1)) rfl s1 vc
        · replace vc := vc.2 c
          refine xi_iconst (v := 2) (by decide +kernel : decode mX4_readExpr.2.1 31 = .ok (.iconst 2, 1)) (by decide) (?_ : XW _ _ _ _ _ _ _ 32 _ _)
          refine xi_goto (by decide +kernel : decode mX4_readExpr.2.1 32 = .ok (.goto 4, 3)) (by decide) (?_ : XW _ _ _ _ _ _ _ 36 _ _)
          obtain ⟨Q1, sp, vc⟩ := vc
          refine xi_callV (b := 0) (bs := 0) (As := [.int 2]) (st := []) (by decide +kernel : decode mX4_readExpr.2.1 36 = .ok (.invokevirtual 101, 3)) kX4_101 rfl rfl (by omega) rfl sp (xrm_f (by omega)) (xrm_l (by omega) (Nat.le_of_ble_eq_true rfl)) (Nat.le_of_ble_eq_true rfl) (by omega) (fun v9 h6 hq9 => ?_)
          obtain ⟨r6, e9, vc⟩ := vc v9 h6 hq9
          subst e9
          show XW _ _ _ _ _ _ _ 39 _ [.int r6]
          obtain ⟨s1, vc⟩ := vc
          exact xi_iret (by decide +kernel : decode mX4_readExpr.2.1 39 = .ok (.ireturn, 1)) rfl s1 vc

set_option maxRecDepth 20000 in
theorem v_X4_readExpr_52 {h : XH} {Q : Option Value → XH → Prop} {X : String → XH → Prop} (D : Nat) (hD : 30 ≤ D) (r : Nat) (hrd : xRdr r (xP h)) (hr : xRul r (xP h)) (hnr : r + 9 ≤ 100)  (x1 : Int32) (x2 : Int32)
    (vc : (500 ≤ x2 → Q (some (.int 1)) h) ∧ (¬ 500 ≤ x2 → ∃ Q1, XSpec mX4_isWord 12 0 0 100 100 [.ref 11, .ref (1000 + 17)] h Q1 xno ∧ ∀ v h7, Q1 v h7 → ∃ r7 : Int32, v = some (.int r7) ∧ ((r7 = 0 → Q (some (.int 1)) h7) ∧ (¬ r7 = 0 → ∃ Q1, XSpec mX4_readOn 14 0 0 100 100 [.ref 11] h7 Q1 xno ∧ ∀ v h8, Q1 v h8 → v = none ∧ (∃ Q1, XSpec mX4_readAnd (D + 6) 0 0 100 100 [.ref 11, .int x1] h8 Q1 xno ∧ ∀ v h9, Q1 v h9 → ∃ r9 : Int32, v = some (.int r9) ∧ ((¬ r9 = 0 → (xP h9 11 7 = some r) ∧ ((xP h9 r 8 = some (r + 1)) ∧ (∃ Q1, XSpec mX0_add 1 0 0 100 100 [.ref (r + 1), .int (-7)] h9 Q1 xno ∧ ∀ v h10, Q1 v h10 → v = none ∧ (XW (xrm (D + 7) 0 0) mX4_readExpr (xE 100 Q X 0 0) 100 0 0 h10 52 [some (.ref 11), some (.int x1), some (.int (x2 + 1))] [])))) ∧ (r9 = 0 → Q (some (.int 0)) h9))))))) :
    XW (xrm (D + 7) 0 0) mX4_readExpr (xE 100 Q X 0 0) 100 0 0 h 52 [some (.ref 11), some (.int x1), some (.int x2)] [] := by
  refine xi_iload_n (by decide +kernel : decode mX4_readExpr.2.1 52 = .ok (.iload_n 2, 1)) rfl rfl (?_ : XW _ _ _ _ _ _ _ 53 _ _)
  refine xi_sipush (v := 500) (by decide +kernel : decode mX4_readExpr.2.1 53 = .ok (.sipush 500, 3)) (by decide) (?_ : XW _ _ _ _ _ _ _ 56 _ _)
  refine xi_icmp_ge (by decide +kernel : decode mX4_readExpr.2.1 56 = .ok (.if_icmp .ge 44, 3)) (by decide) (fun c => (?_ : XW _ _ _ _ _ _ _ 100 _ _)) (fun c => (?_ : XW _ _ _ _ _ _ _ 59 _ _))
  · replace vc := vc.1 c
    refine xi_iconst (v := 1) (by decide +kernel : decode mX4_readExpr.2.1 100 = .ok (.iconst 1, 1)) (by decide) (?_ : XW _ _ _ _ _ _ _ 101 _ _)
    exact xi_iret (by decide +kernel : decode mX4_readExpr.2.1 101 = .ok (.ireturn, 1)) rfl rfl vc
  · replace vc := vc.2 c
    refine xi_aload_n (by decide +kernel : decode mX4_readExpr.2.1 59 = .ok (.aload_n 0, 1)) rfl rfl (?_ : XW _ _ _ _ _ _ _ 60 _ _)
    refine xi_ldcS (j := 17) (by decide +kernel : decode mX4_readExpr.2.1 60 = .ok (.ldc 205, 2)) rfl (by decide) (?_ : XW _ _ _ _ _ _ _ 62 _ _)
    obtain ⟨Q1, sp, vc⟩ := vc
    refine xi_callV (b := 0) (bs := 0) (As := [.ref (1000 + 17)]) (st := []) (by decide +kernel : decode mX4_readExpr.2.1 62 = .ok (.invokevirtual 52, 3)) kX4_52 rfl rfl (by omega) rfl sp (xrm_f (by omega)) (xrm_l (by omega) (Nat.le_of_ble_eq_true rfl)) (Nat.le_of_ble_eq_true rfl) (by omega) (fun v9 h7 hq9 => ?_)
    obtain ⟨r7, e9, vc⟩ := vc v9 h7 hq9
    subst e9
    show XW _ _ _ _ _ _ _ 65 _ [.int r7]
    refine xi_if_eq (by decide +kernel : decode mX4_readExpr.2.1 65 = .ok (.ifCond .eq 35, 3)) (by decide) (fun c => (?_ : XW _ _ _ _ _ _ _ 100 _ _)) (fun c => (?_ : XW _ _ _ _ _ _ _ 68 _ _))
    · replace vc := vc.1 c
      refine xi_iconst (v := 1) (by decide +kernel : decode mX4_readExpr.2.1 100 = .ok (.iconst 1, 1)) (by decide) (?_ : XW _ _ _ _ _ _ _ 101 _ _)
      exact xi_iret (by decide +kernel : decode mX4_readExpr.2.1 101 = .ok (.ireturn, 1)) rfl rfl vc
    · replace vc := vc.2 c
      refine xi_aload_n (by decide +kernel : decode mX4_readExpr.2.1 68 = .ok (.aload_n 0, 1)) rfl rfl (?_ : XW _ _ _ _ _ _ _ 69 _ _)
      obtain ⟨Q1, sp, vc⟩ := vc
      refine xi_callV (b := 0) (bs := 0) (As := []) (st := []) (by decide +kernel : decode mX4_readExpr.2.1 69 = .ok (.invokevirtual 47, 3)) kX4_47 rfl rfl (by omega) rfl sp (xrm_f (by omega)) (xrm_l (by omega) (Nat.le_of_ble_eq_true rfl)) (Nat.le_of_ble_eq_true rfl) (by omega) (fun v9 h8 hq9 => ?_)
      obtain ⟨e9, vc⟩ := vc v9 h8 hq9
      subst e9
      show XW _ _ _ _ _ _ _ 72 _ []
      refine xi_aload_n (by decide +kernel : decode mX4_readExpr.2.1 72 = .ok (.aload_n 0, 1)) rfl rfl (?_ : XW _ _ _ _ _ _ _ 73 _ _)
      refine xi_iload_n (by decide +kernel : decode mX4_readExpr.2.1 73 = .ok (.iload_n 1, 1)) rfl rfl (?_ : XW _ _ _ _ _ _ _ 74 _ _)
      obtain ⟨Q1, sp, vc⟩ := vc
      refine xi_callV (b := 0) (bs := 0) (As := [.int x1]) (st := []) (by decide +kernel : decode mX4_readExpr.2.1 74 = .ok (.invokevirtual 202, 3)) kX4_202 rfl rfl (by omega) rfl sp (xrm_f (by omega)) (xrm_l (by omega) (Nat.le_of_ble_eq_true rfl)) (Nat.le_of_ble_eq_true rfl) (by omega) (fun v9 h9 hq9 => ?_)
      obtain ⟨r9, e9, vc⟩ := vc v9 h9 hq9
      subst e9
      show XW _ _ _ _ _ _ _ 77 _ [.int r9]
      refine xi_if_ne (by decide +kernel : decode mX4_readExpr.2.1 77 = .ok (.ifCond .ne 5, 3)) (by decide) (fun c => (?_ : XW _ _ _ _ _ _ _ 82 _ _)) (fun c => (?_ : XW _ _ _ _ _ _ _ 80 _ _))
      · replace vc := vc.1 c
        refine xi_aload_n (by decide +kernel : decode mX4_readExpr.2.1 82 = .ok (.aload_n 0, 1)) rfl rfl (?_ : XW _ _ _ _ _ _ _ 83 _ _)
        obtain ⟨s1, vc⟩ := vc
        refine xi_getR (y := r) (by decide +kernel : decode mX4_readExpr.2.1 83 = .ok (.getfield 12, 3)) fX4_12 rfl (by omega) rfl s1 (?_ : XW _ _ _ _ _ _ _ 86 _ _)
        obtain ⟨s1, vc⟩ := vc
        refine xi_getR (y := r + 1) (by decide +kernel : decode mX4_readExpr.2.1 86 = .ok (.getfield 183, 3)) fX4_183 (xRul_s0 hr) (by omega) rfl s1 (?_ : XW _ _ _ _ _ _ _ 89 _ _)
        refine xi_bipush (v := (-7)) (by decide +kernel : decode mX4_readExpr.2.1 89 = .ok (.bipush (-7), 2)) (by decide) (?_ : XW _ _ _ _ _ _ _ 91 _ _)
        obtain ⟨Q1, sp, vc⟩ := vc
        refine xi_callV (b := 0) (bs := 0) (As := [.int (-7)]) (st := []) (by decide +kernel : decode mX4_readExpr.2.1 91 = .ok (.invokevirtual 207, 3)) kX4_207 rfl (xRul_s1 hr) (by omega) rfl sp (xrm_f (by omega)) (xrm_l (by omega) (Nat.le_of_ble_eq_true rfl)) (Nat.le_of_ble_eq_true rfl) (by omega) (fun v9 h10 hq9 => ?_)
        obtain ⟨e9, vc⟩ := vc v9 h10 hq9
        subst e9
        show XW _ _ _ _ _ _ _ 94 _ []
        refine xi_iinc (v := x2 + 1) (ls' := [some (.ref 11), some (.int x1), some (.int (x2 + 1))]) (by decide +kernel : decode mX4_readExpr.2.1 94 = .ok (.iinc 2 1, 3)) rfl rfl (by decide) rfl (?_ : XW _ _ _ _ _ _ _ 97 _ _)
        refine xi_goto (by decide +kernel : decode mX4_readExpr.2.1 97 = .ok (.goto (-45), 3)) (by decide) (?_ : XW _ _ _ _ _ _ _ 52 _ _)
        exact vc
      · replace vc := vc.2 c
        refine xi_iconst (v := 0) (by decide +kernel : decode mX4_readExpr.2.1 80 = .ok (.iconst 0, 1)) (by decide) (?_ : XW _ _ _ _ _ _ _ 81 _ _)
        exact xi_iret (by decide +kernel : decode mX4_readExpr.2.1 81 = .ok (.ireturn, 1)) rfl rfl vc

set_option maxRecDepth 20000 in
theorem v_X4_readGoes_0 {h : XH} {Q : Option Value → XH → Prop} {X : String → XH → Prop} (r : Nat) (hrd : xRdr r (xP h)) (hr : xRul r (xP h)) (hnr : r + 9 ≤ 100) 
    (vc : ∃ Q1, XSpec mX0_begin 1 0 0 100 100 [.ref (r + 1)] h Q1 xno ∧ ∀ v h1, Q1 v h1 → v = none ∧ (∃ Q1, XSpec mX4_readExpr 79 0 0 100 100 [.ref 11, .int 0] h1 Q1 xno ∧ ∀ v h2, Q1 v h2 → ∃ r2 : Int32, v = some (.int r2) ∧ ((¬ r2 = 0 → ∃ Q1, XSpec mX4_keepText 2 0 0 100 100 [.ref 11, .int (xI h1 11 0), .int (xI h2 11 0)] h2 Q1 xno ∧ ∀ v h3, Q1 v h3 → v = none ∧ (Q (some (.int 1)) h3)) ∧ (r2 = 0 → Q (some (.int 0)) h2)))) :
    XW (xrm 80 0 0) mX4_readGoes (xE 100 Q X 0 0) 100 0 0 h 0 [some (.ref 11), none] [] := by
  refine xi_aload_n (by decide +kernel : decode mX4_readGoes.2.1 0 = .ok (.aload_n 0, 1)) rfl rfl (?_ : XW _ _ _ _ _ _ _ 1 _ _)
  refine xi_getR (y := r) (by decide +kernel : decode mX4_readGoes.2.1 1 = .ok (.getfield 12, 3)) fX4_12 rfl (by omega) rfl hrd.2 (?_ : XW _ _ _ _ _ _ _ 4 _ _)
  refine xi_getR (y := r + 1) (by decide +kernel : decode mX4_readGoes.2.1 4 = .ok (.getfield 183, 3)) fX4_183 (xRul_s0 hr) (by omega) rfl hr.2.1 (?_ : XW _ _ _ _ _ _ _ 7 _ _)
  obtain ⟨Q1, sp, vc⟩ := vc
  refine xi_callV (b := 0) (bs := 0) (As := []) (st := []) (by decide +kernel : decode mX4_readGoes.2.1 7 = .ok (.invokevirtual 187, 3)) kX4_187 rfl (xRul_s1 hr) (by omega) rfl sp (xrm_f (by omega)) (xrm_l (by omega) (Nat.le_of_ble_eq_true rfl)) (Nat.le_of_ble_eq_true rfl) (by omega) (fun v9 h1 hq9 => ?_)
  obtain ⟨e9, vc⟩ := vc v9 h1 hq9
  subst e9
  show XW _ _ _ _ _ _ _ 10 _ []
  refine xi_aload_n (by decide +kernel : decode mX4_readGoes.2.1 10 = .ok (.aload_n 0, 1)) rfl rfl (?_ : XW _ _ _ _ _ _ _ 11 _ _)
  refine xi_getI (by decide +kernel : decode mX4_readGoes.2.1 11 = .ok (.getfield 66, 3)) fX4_66 rfl (by omega) rfl (?_ : XW _ _ _ _ _ _ _ 14 _ _)
  refine xi_istore_n (ls' := [some (.ref 11), some (.int (xI h1 11 0))]) (by decide +kernel : decode mX4_readGoes.2.1 14 = .ok (.istore_n 1, 1)) rfl (by decide) rfl (?_ : XW _ _ _ _ _ _ _ 15 _ _)
  refine xi_aload_n (by decide +kernel : decode mX4_readGoes.2.1 15 = .ok (.aload_n 0, 1)) rfl rfl (?_ : XW _ _ _ _ _ _ _ 16 _ _)
  refine xi_iconst (v := 0) (by decide +kernel : decode mX4_readGoes.2.1 16 = .ok (.iconst 0, 1)) (by decide) (?_ : XW _ _ _ _ _ _ _ 17 _ _)
  obtain ⟨Q1, sp, vc⟩ := vc
  refine xi_callV (b := 0) (bs := 0) (As := [.int 0]) (st := []) (by decide +kernel : decode mX4_readGoes.2.1 17 = .ok (.invokevirtual 192, 3)) kX4_192 rfl rfl (by omega) rfl sp (xrm_f (by omega)) (xrm_l (by omega) (Nat.le_of_ble_eq_true rfl)) (Nat.le_of_ble_eq_true rfl) (by omega) (fun v9 h2 hq9 => ?_)
  obtain ⟨r2, e9, vc⟩ := vc v9 h2 hq9
  subst e9
  show XW _ _ _ _ _ _ _ 20 _ [.int r2]
  refine xi_if_ne (by decide +kernel : decode mX4_readGoes.2.1 20 = .ok (.ifCond .ne 5, 3)) (by decide) (fun c => (?_ : XW _ _ _ _ _ _ _ 25 _ _)) (fun c => (?_ : XW _ _ _ _ _ _ _ 23 _ _))
  · replace vc := vc.1 c
    refine xi_aload_n (by decide +kernel : decode mX4_readGoes.2.1 25 = .ok (.aload_n 0, 1)) rfl rfl (?_ : XW _ _ _ _ _ _ _ 26 _ _)
    refine xi_iload_n (by decide +kernel : decode mX4_readGoes.2.1 26 = .ok (.iload_n 1, 1)) rfl rfl (?_ : XW _ _ _ _ _ _ _ 27 _ _)
    refine xi_aload_n (by decide +kernel : decode mX4_readGoes.2.1 27 = .ok (.aload_n 0, 1)) rfl rfl (?_ : XW _ _ _ _ _ _ _ 28 _ _)
    refine xi_getI (by decide +kernel : decode mX4_readGoes.2.1 28 = .ok (.getfield 66, 3)) fX4_66 rfl (by omega) rfl (?_ : XW _ _ _ _ _ _ _ 31 _ _)
    obtain ⟨Q1, sp, vc⟩ := vc
    refine xi_callV (b := 0) (bs := 0) (As := [.int (xI h1 11 0), .int (xI h2 11 0)]) (st := []) (by decide +kernel : decode mX4_readGoes.2.1 31 = .ok (.invokevirtual 195, 3)) kX4_195 rfl rfl (by omega) rfl sp (xrm_f (by omega)) (xrm_l (by omega) (Nat.le_of_ble_eq_true rfl)) (Nat.le_of_ble_eq_true rfl) (by omega) (fun v9 h3 hq9 => ?_)
    obtain ⟨e9, vc⟩ := vc v9 h3 hq9
    subst e9
    show XW _ _ _ _ _ _ _ 34 _ []
    refine xi_iconst (v := 1) (by decide +kernel : decode mX4_readGoes.2.1 34 = .ok (.iconst 1, 1)) (by decide) (?_ : XW _ _ _ _ _ _ _ 35 _ _)
    exact xi_iret (by decide +kernel : decode mX4_readGoes.2.1 35 = .ok (.ireturn, 1)) rfl rfl vc
  · replace vc := vc.2 c
    refine xi_iconst (v := 0) (by decide +kernel : decode mX4_readGoes.2.1 23 = .ok (.iconst 0, 1)) (by decide) (?_ : XW _ _ _ _ _ _ _ 24 _ _)
    exact xi_iret (by decide +kernel : decode mX4_readGoes.2.1 24 = .ok (.ireturn, 1)) rfl rfl vc

set_option maxRecDepth 20000 in
theorem v_X4_readLine_0 {h : XH} {Q : Option Value → XH → Prop} {X : String → XH → Prop} (r : Nat) (hrd : xRdr r (xP h)) (hr : xRul r (xP h)) (hnr : r + 9 ≤ 100) 
    (vc : ∃ Q1, XSpec mX4_lineHere 13 0 0 100 100 [.ref 11] h Q1 xno ∧ ∀ v h1, Q1 v h1 → ∃ r1 : Int32, v = some (.int r1) ∧ ((¬ r1 = 0 → (¬ r1 = 1 → (r1 = 1 → XW (xrm 81 0 0) mX4_readLine (xE 100 Q X 0 0) 100 0 0 h1 60 [some (.ref 11), some (.int r1), none] []) ∧ (¬ r1 = 1 → (((xI h1 11 6) &&& (1 <<< ((r1 : Int32) &&& 31))) = 0 → XW (xrm 81 0 0) mX4_readLine (xE 100 Q X 0 0) 100 0 0 h1 60 [some (.ref 11), some (.int r1), none] []) ∧ (¬ ((xI h1 11 6) &&& (1 <<< ((r1 : Int32) &&& 31))) = 0 → ∃ Q1, XSpec mX4_fail 1 0 0 100 100 [.ref 11, .int 5] h1 Q1 xno ∧ ∀ v h2, Q1 v h2 → ∃ r2 : Int32, v = some (.int r2) ∧ ((narrow .boolean (.int r2) = .int r2) ∧ (Q (some (.int r2)) h2))))) ∧ (r1 = 1 → (xP h1 11 7 = some r) ∧ (((xI h1 r 7) < 24 → (r1 = 1 → XW (xrm 81 0 0) mX4_readLine (xE 100 Q X 0 0) 100 0 0 h1 60 [some (.ref 11), some (.int r1), none] []) ∧ (¬ r1 = 1 → (((xI h1 11 6) &&& (1 <<< ((r1 : Int32) &&& 31))) = 0 → XW (xrm 81 0 0) mX4_readLine (xE 100 Q X 0 0) 100 0 0 h1 60 [some (.ref 11), some (.int r1), none] []) ∧ (¬ ((xI h1 11 6) &&& (1 <<< ((r1 : Int32) &&& 31))) = 0 → ∃ Q1, XSpec mX4_fail 1 0 0 100 100 [.ref 11, .int 5] h1 Q1 xno ∧ ∀ v h3, Q1 v h3 → ∃ r3 : Int32, v = some (.int r3) ∧ ((narrow .boolean (.int r3) = .int r3) ∧ (Q (some (.int r3)) h3))))) ∧ (¬ (xI h1 r 7) < 24 → ∃ Q1, XSpec mX4_fail 1 0 0 100 100 [.ref 11, .int 2] h1 Q1 xno ∧ ∀ v h4, Q1 v h4 → ∃ r4 : Int32, v = some (.int r4) ∧ ((narrow .boolean (.int r4) = .int r4) ∧ (Q (some (.int r4)) h4)))))) ∧ (r1 = 0 → ∃ Q1, XSpec mX4_fail 1 0 0 100 100 [.ref 11, .int 1] h1 Q1 xno ∧ ∀ v h5, Q1 v h5 → ∃ r5 : Int32, v = some (.int r5) ∧ ((narrow .boolean (.int r5) = .int r5) ∧ (Q (some (.int r5)) h5))))) :
    XW (xrm 81 0 0) mX4_readLine (xE 100 Q X 0 0) 100 0 0 h 0 [some (.ref 11), none, none] [] := by
  refine xi_aload_n (by decide +kernel : decode mX4_readLine.2.1 0 = .ok (.aload_n 0, 1)) rfl rfl (?_ : XW _ _ _ _ _ _ _ 1 _ _)
  obtain ⟨Q1, sp, vc⟩ := vc
  refine xi_callV (b := 0) (bs := 0) (As := []) (st := []) (by decide +kernel : decode mX4_readLine.2.1 1 = .ok (.invokevirtual 116, 3)) kX4_116 rfl rfl (by omega) rfl sp (xrm_f (by omega)) (xrm_l (by omega) (Nat.le_of_ble_eq_true rfl)) (Nat.le_of_ble_eq_true rfl) (by omega) (fun v9 h1 hq9 => ?_)
  obtain ⟨r1, e9, vc⟩ := vc v9 h1 hq9
  subst e9
  show XW _ _ _ _ _ _ _ 4 _ [.int r1]
  refine xi_istore_n (ls' := [some (.ref 11), some (.int r1), none]) (by decide +kernel : decode mX4_readLine.2.1 4 = .ok (.istore_n 1, 1)) rfl (by decide) rfl (?_ : XW _ _ _ _ _ _ _ 5 _ _)
  refine xi_iload_n (by decide +kernel : decode mX4_readLine.2.1 5 = .ok (.iload_n 1, 1)) rfl rfl (?_ : XW _ _ _ _ _ _ _ 6 _ _)
  refine xi_if_ne (by decide +kernel : decode mX4_readLine.2.1 6 = .ok (.ifCond .ne 9, 3)) (by decide) (fun c => (?_ : XW _ _ _ _ _ _ _ 15 _ _)) (fun c => (?_ : XW _ _ _ _ _ _ _ 9 _ _))
  · replace vc := vc.1 c
    refine xi_iload_n (by decide +kernel : decode mX4_readLine.2.1 15 = .ok (.iload_n 1, 1)) rfl rfl (?_ : XW _ _ _ _ _ _ _ 16 _ _)
    refine xi_iconst (v := 1) (by decide +kernel : decode mX4_readLine.2.1 16 = .ok (.iconst 1, 1)) (by decide) (?_ : XW _ _ _ _ _ _ _ 17 _ _)
    refine xi_icmp_ne (by decide +kernel : decode mX4_readLine.2.1 17 = .ok (.if_icmp .ne 21, 3)) (by decide) (fun c => (?_ : XW _ _ _ _ _ _ _ 38 _ _)) (fun c => (?_ : XW _ _ _ _ _ _ _ 20 _ _))
    · replace vc := vc.1 c
      refine xi_iload_n (by decide +kernel : decode mX4_readLine.2.1 38 = .ok (.iload_n 1, 1)) rfl rfl (?_ : XW _ _ _ _ _ _ _ 39 _ _)
      refine xi_iconst (v := 1) (by decide +kernel : decode mX4_readLine.2.1 39 = .ok (.iconst 1, 1)) (by decide) (?_ : XW _ _ _ _ _ _ _ 40 _ _)
      refine xi_icmp_eq (by decide +kernel : decode mX4_readLine.2.1 40 = .ok (.if_icmp .eq 20, 3)) (by decide) (fun c => (?_ : XW _ _ _ _ _ _ _ 60 _ _)) (fun c => (?_ : XW _ _ _ _ _ _ _ 43 _ _))
      · replace vc := vc.1 c
        exact vc
      · replace vc := vc.2 c
        refine xi_aload_n (by decide +kernel : decode mX4_readLine.2.1 43 = .ok (.aload_n 0, 1)) rfl rfl (?_ : XW _ _ _ _ _ _ _ 44 _ _)
        refine xi_getI (by decide +kernel : decode mX4_readLine.2.1 44 = .ok (.getfield 41, 3)) fX4_41 rfl (by omega) rfl (?_ : XW _ _ _ _ _ _ _ 47 _ _)
        refine xi_iconst (v := 1) (by decide +kernel : decode mX4_readLine.2.1 47 = .ok (.iconst 1, 1)) (by decide) (?_ : XW _ _ _ _ _ _ _ 48 _ _)
        refine xi_iload_n (by decide +kernel : decode mX4_readLine.2.1 48 = .ok (.iload_n 1, 1)) rfl rfl (?_ : XW _ _ _ _ _ _ _ 49 _ _)
        refine xi_ishl (by decide +kernel : decode mX4_readLine.2.1 49 = .ok (.ishl, 1)) (?_ : XW _ _ _ _ _ _ _ 50 _ _)
        refine xi_iand (by decide +kernel : decode mX4_readLine.2.1 50 = .ok (.iand, 1)) (?_ : XW _ _ _ _ _ _ _ 51 _ _)
        refine xi_if_eq (by decide +kernel : decode mX4_readLine.2.1 51 = .ok (.ifCond .eq 9, 3)) (by decide) (fun c => (?_ : XW _ _ _ _ _ _ _ 60 _ _)) (fun c => (?_ : XW _ _ _ _ _ _ _ 54 _ _))
        · replace vc := vc.1 c
          exact vc
        · replace vc := vc.2 c
          refine xi_aload_n (by decide +kernel : decode mX4_readLine.2.1 54 = .ok (.aload_n 0, 1)) rfl rfl (?_ : XW _ _ _ _ _ _ _ 55 _ _)
          refine xi_iconst (v := 5) (by decide +kernel : decode mX4_readLine.2.1 55 = .ok (.iconst 5, 1)) (by decide) (?_ : XW _ _ _ _ _ _ _ 56 _ _)
          obtain ⟨Q1, sp, vc⟩ := vc
          refine xi_callV (b := 0) (bs := 0) (As := [.int 5]) (st := []) (by decide +kernel : decode mX4_readLine.2.1 56 = .ok (.invokevirtual 101, 3)) kX4_101 rfl rfl (by omega) rfl sp (xrm_f (by omega)) (xrm_l (by omega) (Nat.le_of_ble_eq_true rfl)) (Nat.le_of_ble_eq_true rfl) (by omega) (fun v9 h2 hq9 => ?_)
          obtain ⟨r2, e9, vc⟩ := vc v9 h2 hq9
          subst e9
          show XW _ _ _ _ _ _ _ 59 _ [.int r2]
          obtain ⟨s1, vc⟩ := vc
          exact xi_iret (by decide +kernel : decode mX4_readLine.2.1 59 = .ok (.ireturn, 1)) rfl s1 vc
    · replace vc := vc.2 c
      refine xi_aload_n (by decide +kernel : decode mX4_readLine.2.1 20 = .ok (.aload_n 0, 1)) rfl rfl (?_ : XW _ _ _ _ _ _ _ 21 _ _)
      obtain ⟨s1, vc⟩ := vc
      refine xi_getR (y := r) (by decide +kernel : decode mX4_readLine.2.1 21 = .ok (.getfield 12, 3)) fX4_12 rfl (by omega) rfl s1 (?_ : XW _ _ _ _ _ _ _ 24 _ _)
      refine xi_getI (by decide +kernel : decode mX4_readLine.2.1 24 = .ok (.getfield 119, 3)) fX4_119 (xRul_s0 hr) (by omega) rfl (?_ : XW _ _ _ _ _ _ _ 27 _ _)
      refine xi_bipush (v := 24) (by decide +kernel : decode mX4_readLine.2.1 27 = .ok (.bipush 24, 2)) (by decide) (?_ : XW _ _ _ _ _ _ _ 29 _ _)
      refine xi_icmp_lt (by decide +kernel : decode mX4_readLine.2.1 29 = .ok (.if_icmp .lt 9, 3)) (by decide) (fun c => (?_ : XW _ _ _ _ _ _ _ 38 _ _)) (fun c => (?_ : XW _ _ _ _ _ _ _ 32 _ _))
      · replace vc := vc.1 c
        refine xi_iload_n (by decide +kernel : decode mX4_readLine.2.1 38 = .ok (.iload_n 1, 1)) rfl rfl (?_ : XW _ _ _ _ _ _ _ 39 _ _)
        refine xi_iconst (v := 1) (by decide +kernel : decode mX4_readLine.2.1 39 = .ok (.iconst 1, 1)) (by decide) (?_ : XW _ _ _ _ _ _ _ 40 _ _)
        refine xi_icmp_eq (by decide +kernel : decode mX4_readLine.2.1 40 = .ok (.if_icmp .eq 20, 3)) (by decide) (fun c => (?_ : XW _ _ _ _ _ _ _ 60 _ _)) (fun c => (?_ : XW _ _ _ _ _ _ _ 43 _ _))
        · replace vc := vc.1 c
          exact vc
        · replace vc := vc.2 c
          refine xi_aload_n (by decide +kernel : decode mX4_readLine.2.1 43 = .ok (.aload_n 0, 1)) rfl rfl (?_ : XW _ _ _ _ _ _ _ 44 _ _)
          refine xi_getI (by decide +kernel : decode mX4_readLine.2.1 44 = .ok (.getfield 41, 3)) fX4_41 rfl (by omega) rfl (?_ : XW _ _ _ _ _ _ _ 47 _ _)
          refine xi_iconst (v := 1) (by decide +kernel : decode mX4_readLine.2.1 47 = .ok (.iconst 1, 1)) (by decide) (?_ : XW _ _ _ _ _ _ _ 48 _ _)
          refine xi_iload_n (by decide +kernel : decode mX4_readLine.2.1 48 = .ok (.iload_n 1, 1)) rfl rfl (?_ : XW _ _ _ _ _ _ _ 49 _ _)
          refine xi_ishl (by decide +kernel : decode mX4_readLine.2.1 49 = .ok (.ishl, 1)) (?_ : XW _ _ _ _ _ _ _ 50 _ _)
          refine xi_iand (by decide +kernel : decode mX4_readLine.2.1 50 = .ok (.iand, 1)) (?_ : XW _ _ _ _ _ _ _ 51 _ _)
          refine xi_if_eq (by decide +kernel : decode mX4_readLine.2.1 51 = .ok (.ifCond .eq 9, 3)) (by decide) (fun c => (?_ : XW _ _ _ _ _ _ _ 60 _ _)) (fun c => (?_ : XW _ _ _ _ _ _ _ 54 _ _))
          · replace vc := vc.1 c
            exact vc
          · replace vc := vc.2 c
            refine xi_aload_n (by decide +kernel : decode mX4_readLine.2.1 54 = .ok (.aload_n 0, 1)) rfl rfl (?_ : XW _ _ _ _ _ _ _ 55 _ _)
            refine xi_iconst (v := 5) (by decide +kernel : decode mX4_readLine.2.1 55 = .ok (.iconst 5, 1)) (by decide) (?_ : XW _ _ _ _ _ _ _ 56 _ _)
            obtain ⟨Q1, sp, vc⟩ := vc
            refine xi_callV (b := 0) (bs := 0) (As := [.int 5]) (st := []) (by decide +kernel : decode mX4_readLine.2.1 56 = .ok (.invokevirtual 101, 3)) kX4_101 rfl rfl (by omega) rfl sp (xrm_f (by omega)) (xrm_l (by omega) (Nat.le_of_ble_eq_true rfl)) (Nat.le_of_ble_eq_true rfl) (by omega) (fun v9 h3 hq9 => ?_)
            obtain ⟨r3, e9, vc⟩ := vc v9 h3 hq9
            subst e9
            show XW _ _ _ _ _ _ _ 59 _ [.int r3]
            obtain ⟨s1, vc⟩ := vc
            exact xi_iret (by decide +kernel : decode mX4_readLine.2.1 59 = .ok (.ireturn, 1)) rfl s1 vc
      · replace vc := vc.2 c
        refine xi_aload_n (by decide +kernel : decode mX4_readLine.2.1 32 = .ok (.aload_n 0, 1)) rfl rfl (?_ : XW _ _ _ _ _ _ _ 33 _ _)
        refine xi_iconst (v := 2) (by decide +kernel : decode mX4_readLine.2.1 33 = .ok (.iconst 2, 1)) (by decide) (?_ : XW _ _ _ _ _ _ _ 34 _ _)
        obtain ⟨Q1, sp, vc⟩ := vc
        refine xi_callV (b := 0) (bs := 0) (As := [.int 2]) (st := []) (by decide +kernel : decode mX4_readLine.2.1 34 = .ok (.invokevirtual 101, 3)) kX4_101 rfl rfl (by omega) rfl sp (xrm_f (by omega)) (xrm_l (by omega) (Nat.le_of_ble_eq_true rfl)) (Nat.le_of_ble_eq_true rfl) (by omega) (fun v9 h4 hq9 => ?_)
        obtain ⟨r4, e9, vc⟩ := vc v9 h4 hq9
        subst e9
        show XW _ _ _ _ _ _ _ 37 _ [.int r4]
        obtain ⟨s1, vc⟩ := vc
        exact xi_iret (by decide +kernel : decode mX4_readLine.2.1 37 = .ok (.ireturn, 1)) rfl s1 vc
  · replace vc := vc.2 c
    refine xi_aload_n (by decide +kernel : decode mX4_readLine.2.1 9 = .ok (.aload_n 0, 1)) rfl rfl (?_ : XW _ _ _ _ _ _ _ 10 _ _)
    refine xi_iconst (v := 1) (by decide +kernel : decode mX4_readLine.2.1 10 = .ok (.iconst 1, 1)) (by decide) (?_ : XW _ _ _ _ _ _ _ 11 _ _)
    obtain ⟨Q1, sp, vc⟩ := vc
    refine xi_callV (b := 0) (bs := 0) (As := [.int 1]) (st := []) (by decide +kernel : decode mX4_readLine.2.1 11 = .ok (.invokevirtual 101, 3)) kX4_101 rfl rfl (by omega) rfl sp (xrm_f (by omega)) (xrm_l (by omega) (Nat.le_of_ble_eq_true rfl)) (Nat.le_of_ble_eq_true rfl) (by omega) (fun v9 h5 hq9 => ?_)
    obtain ⟨r5, e9, vc⟩ := vc v9 h5 hq9
    subst e9
    show XW _ _ _ _ _ _ _ 14 _ [.int r5]
    obtain ⟨s1, vc⟩ := vc
    exact xi_iret (by decide +kernel : decode mX4_readLine.2.1 14 = .ok (.ireturn, 1)) rfl s1 vc

set_option maxRecDepth 20000 in
theorem v_X4_readLine_60 {h : XH} {Q : Option Value → XH → Prop} {X : String → XH → Prop} (r : Nat) (hrd : xRdr r (xP h)) (hr : xRul r (xP h)) (hnr : r + 9 ≤ 100)  (x1 : Int32)
    (vc : ∃ Q1, XSpec mX4_readOn 14 0 0 100 100 [.ref 11] (xSI 11 (va_up (xI h 11) 6 ((xI h 11 6) ||| (1 <<< ((x1 : Int32) &&& 31)))) h) Q1 xno ∧ ∀ v h6, Q1 v h6 → v = none ∧ ((x1 = 1 → ∃ Q1, XSpec mX4_readExit 15 0 0 100 100 [.ref 11] h6 Q1 xno ∧ ∀ v h7, Q1 v h7 → ∃ r7 : Int32, v = some (.int r7) ∧ (XW (xrm 81 0 0) mX4_readLine (xE 100 Q X 0 0) 100 0 0 h7 176 [some (.ref 11), none, some (.int r7)] [])) ∧ (x1 = 2 → ∃ Q1, XSpec mX4_readDie 15 0 0 100 100 [.ref 11] h6 Q1 xno ∧ ∀ v h8, Q1 v h8 → ∃ r8 : Int32, v = some (.int r8) ∧ (XW (xrm 81 0 0) mX4_readLine (xE 100 Q X 0 0) 100 0 0 h8 176 [some (.ref 11), none, some (.int r8)] [])) ∧ (x1 = 3 → ∃ Q1, XSpec mX4_readEnd 15 0 0 100 100 [.ref 11] h6 Q1 xno ∧ ∀ v h9, Q1 v h9 → ∃ r9 : Int32, v = some (.int r9) ∧ (XW (xrm 81 0 0) mX4_readLine (xE 100 Q X 0 0) 100 0 0 h9 176 [some (.ref 11), none, some (.int r9)] [])) ∧ (x1 = 4 → ∃ Q1, XSpec mX4_readAgain 15 0 0 100 100 [.ref 11] h6 Q1 xno ∧ ∀ v h10, Q1 v h10 → ∃ r10 : Int32, v = some (.int r10) ∧ (XW (xrm 81 0 0) mX4_readLine (xE 100 Q X 0 0) 100 0 0 h10 176 [some (.ref 11), none, some (.int r10)] [])) ∧ (x1 = 5 → (xP h6 11 7 = some r) ∧ (XW (xrm 81 0 0) mX4_readLine (xE 100 Q X 0 0) 100 0 0 (xSI r (va_up (xI h6 r) 5 1) h6) 176 [some (.ref 11), none, some (.int 1)] [])) ∧ (x1 = 6 → ∃ Q1, XSpec mX4_readPieces 15 0 0 100 100 [.ref 11] h6 Q1 xno ∧ ∀ v h11, Q1 v h11 → ∃ r11 : Int32, v = some (.int r11) ∧ (XW (xrm 81 0 0) mX4_readLine (xE 100 Q X 0 0) 100 0 0 h11 176 [some (.ref 11), none, some (.int r11)] [])) ∧ (x1 = 7 → ∃ Q1, XSpec mX4_readGoes 80 0 0 100 100 [.ref 11] h6 Q1 xno ∧ ∀ v h12, Q1 v h12 → ∃ r12 : Int32, v = some (.int r12) ∧ (XW (xrm 81 0 0) mX4_readLine (xE 100 Q X 0 0) 100 0 0 h12 176 [some (.ref 11), none, some (.int r12)] [])) ∧ ((x1.toInt < 1 ∨ 7 < x1.toInt) → (xP h6 11 7 = some r) ∧ (XW (xrm 81 0 0) mX4_readLine (xE 100 Q X 0 0) 100 0 0 (xSI r (va_up (xI h6 r) 5 1) h6) 176 [some (.ref 11), none, some (.int 1)] [])))) :
    XW (xrm 81 0 0) mX4_readLine (xE 100 Q X 0 0) 100 0 0 h 60 [some (.ref 11), some (.int x1), none] [] := by
  refine xi_aload_n (by decide +kernel : decode mX4_readLine.2.1 60 = .ok (.aload_n 0, 1)) rfl rfl (?_ : XW _ _ _ _ _ _ _ 61 _ _)
  refine xi_dup (by decide +kernel : decode mX4_readLine.2.1 61 = .ok (.dup, 1)) rfl (?_ : XW _ _ _ _ _ _ _ 62 _ _)
  refine xi_getI (by decide +kernel : decode mX4_readLine.2.1 62 = .ok (.getfield 41, 3)) fX4_41 rfl (by omega) rfl (?_ : XW _ _ _ _ _ _ _ 65 _ _)
  refine xi_iconst (v := 1) (by decide +kernel : decode mX4_readLine.2.1 65 = .ok (.iconst 1, 1)) (by decide) (?_ : XW _ _ _ _ _ _ _ 66 _ _)
  refine xi_iload_n (by decide +kernel : decode mX4_readLine.2.1 66 = .ok (.iload_n 1, 1)) rfl rfl (?_ : XW _ _ _ _ _ _ _ 67 _ _)
  refine xi_ishl (by decide +kernel : decode mX4_readLine.2.1 67 = .ok (.ishl, 1)) (?_ : XW _ _ _ _ _ _ _ 68 _ _)
  refine xi_ior (by decide +kernel : decode mX4_readLine.2.1 68 = .ok (.ior, 1)) (?_ : XW _ _ _ _ _ _ _ 69 _ _)
  refine xi_putI (by decide +kernel : decode mX4_readLine.2.1 69 = .ok (.putfield 41, 3)) fX4_41 rfl (by omega) rfl rfl rfl (?_ : XW _ _ _ _ _ _ (xSI 11 (va_up (xI h 11) 6 ((xI h 11 6) ||| (1 <<< ((x1 : Int32) &&& 31)))) h) 72 _ _)
  refine xi_aload_n (by decide +kernel : decode mX4_readLine.2.1 72 = .ok (.aload_n 0, 1)) rfl rfl (?_ : XW _ _ _ _ _ _ _ 73 _ _)
  obtain ⟨Q1, sp, vc⟩ := vc
  refine xi_callV (b := 0) (bs := 0) (As := []) (st := []) (by decide +kernel : decode mX4_readLine.2.1 73 = .ok (.invokevirtual 47, 3)) kX4_47 rfl rfl (by omega) rfl sp (xrm_f (by omega)) (xrm_l (by omega) (Nat.le_of_ble_eq_true rfl)) (Nat.le_of_ble_eq_true rfl) (by omega) (fun v9 h6 hq9 => ?_)
  obtain ⟨e9, vc⟩ := vc v9 h6 hq9
  subst e9
  show XW _ _ _ _ _ _ _ 76 _ []
  refine xi_iconst (v := 1) (by decide +kernel : decode mX4_readLine.2.1 76 = .ok (.iconst 1, 1)) (by decide) (?_ : XW _ _ _ _ _ _ _ 77 _ _)
  refine xi_istore_n (ls' := [some (.ref 11), some (.int x1), some (.int 1)]) (by decide +kernel : decode mX4_readLine.2.1 77 = .ok (.istore_n 2, 1)) rfl (by decide) rfl (?_ : XW _ _ _ _ _ _ _ 78 _ _)
  refine xi_iload_n (by decide +kernel : decode mX4_readLine.2.1 78 = .ok (.iload_n 1, 1)) rfl rfl (?_ : XW _ _ _ _ _ _ _ 79 _ _)
  by_cases c9 : x1.toInt < 1 ∨ 7 < x1.toInt
  · replace vc := vc.2.2.2.2.2.2.2 c9
    refine xi_tableOut (by decide +kernel : decode mX4_readLine.2.1 79 = .ok (.tableswitch 89 1 7 #[41, 49, 57, 65, 89, 73, 81], 41)) c9 (by decide) (?_ : XW _ _ _ _ _ _ _ 168 _ _)
    refine xi_aload_n (by decide +kernel : decode mX4_readLine.2.1 168 = .ok (.aload_n 0, 1)) rfl rfl (?_ : XW _ _ _ _ _ _ _ 169 _ _)
    obtain ⟨s1, vc⟩ := vc
    refine xi_getR (y := r) (by decide +kernel : decode mX4_readLine.2.1 169 = .ok (.getfield 12, 3)) fX4_12 rfl (by omega) rfl s1 (?_ : XW _ _ _ _ _ _ _ 172 _ _)
    refine xi_iconst (v := 1) (by decide +kernel : decode mX4_readLine.2.1 172 = .ok (.iconst 1, 1)) (by decide) (?_ : XW _ _ _ _ _ _ _ 173 _ _)
    refine xi_putI (by decide +kernel : decode mX4_readLine.2.1 173 = .ok (.putfield 140, 3)) fX4_140 (xRul_s0 hr) (by omega) rfl rfl rfl (?_ : XW _ _ _ _ _ _ (xSI r (va_up (xI h6 r) 5 1) h6) 176 _ _)
    refine xw_drop 1 (ls' := [some (.ref 11), none, some (.int 1)]) rfl ?_
    exact vc
  · have c8 := x_tabcases (lo := 1) (hi := 7) (by omega) (by omega) c9
    obtain ⟨j, hj, c7⟩ := c8
    have hj2 : j < 7 := by omega
    by_cases e0 : j = 0
    · subst e0
      have c6 : x1 = 1 := c7.trans (by decide)
      replace vc := vc.1 c6
      refine xi_tableIn (off := 41) (by decide +kernel : decode mX4_readLine.2.1 79 = .ok (.tableswitch 89 1 7 #[41, 49, 57, 65, 89, 73, 81], 41)) (by omega) (by omega) (by rw [c6]; decide) (by decide) (?_ : XW _ _ _ _ _ _ _ 120 _ _)
      refine xi_aload_n (by decide +kernel : decode mX4_readLine.2.1 120 = .ok (.aload_n 0, 1)) rfl rfl (?_ : XW _ _ _ _ _ _ _ 121 _ _)
      obtain ⟨Q1, sp, vc⟩ := vc
      refine xi_callV (b := 0) (bs := 0) (As := []) (st := []) (by decide +kernel : decode mX4_readLine.2.1 121 = .ok (.invokevirtual 122, 3)) kX4_122 rfl rfl (by omega) rfl sp (xrm_f (by omega)) (xrm_l (by omega) (Nat.le_of_ble_eq_true rfl)) (Nat.le_of_ble_eq_true rfl) (by omega) (fun v9 h7 hq9 => ?_)
      obtain ⟨r7, e9, vc⟩ := vc v9 h7 hq9
      subst e9
      show XW _ _ _ _ _ _ _ 124 _ [.int r7]
      refine xi_istore_n (ls' := [some (.ref 11), some (.int x1), some (.int r7)]) (by decide +kernel : decode mX4_readLine.2.1 124 = .ok (.istore_n 2, 1)) rfl (by decide) rfl (?_ : XW _ _ _ _ _ _ _ 125 _ _)
      refine xi_goto (by decide +kernel : decode mX4_readLine.2.1 125 = .ok (.goto 51, 3)) (by decide) (?_ : XW _ _ _ _ _ _ _ 176 _ _)
      refine xw_drop 1 (ls' := [some (.ref 11), none, some (.int r7)]) rfl ?_
      exact vc
    by_cases e1 : j = 1
    · subst e1
      have c6 : x1 = 2 := c7.trans (by decide)
      replace vc := vc.2.1 c6
      refine xi_tableIn (off := 49) (by decide +kernel : decode mX4_readLine.2.1 79 = .ok (.tableswitch 89 1 7 #[41, 49, 57, 65, 89, 73, 81], 41)) (by omega) (by omega) (by rw [c6]; decide) (by decide) (?_ : XW _ _ _ _ _ _ _ 128 _ _)
      refine xi_aload_n (by decide +kernel : decode mX4_readLine.2.1 128 = .ok (.aload_n 0, 1)) rfl rfl (?_ : XW _ _ _ _ _ _ _ 129 _ _)
      obtain ⟨Q1, sp, vc⟩ := vc
      refine xi_callV (b := 0) (bs := 0) (As := []) (st := []) (by decide +kernel : decode mX4_readLine.2.1 129 = .ok (.invokevirtual 125, 3)) kX4_125 rfl rfl (by omega) rfl sp (xrm_f (by omega)) (xrm_l (by omega) (Nat.le_of_ble_eq_true rfl)) (Nat.le_of_ble_eq_true rfl) (by omega) (fun v9 h8 hq9 => ?_)
      obtain ⟨r8, e9, vc⟩ := vc v9 h8 hq9
      subst e9
      show XW _ _ _ _ _ _ _ 132 _ [.int r8]
      refine xi_istore_n (ls' := [some (.ref 11), some (.int x1), some (.int r8)]) (by decide +kernel : decode mX4_readLine.2.1 132 = .ok (.istore_n 2, 1)) rfl (by decide) rfl (?_ : XW _ _ _ _ _ _ _ 133 _ _)
      refine xi_goto (by decide +kernel : decode mX4_readLine.2.1 133 = .ok (.goto 43, 3)) (by decide) (?_ : XW _ _ _ _ _ _ _ 176 _ _)
      refine xw_drop 1 (ls' := [some (.ref 11), none, some (.int r8)]) rfl ?_
      exact vc
    by_cases e2 : j = 2
    · subst e2
      have c6 : x1 = 3 := c7.trans (by decide)
      replace vc := vc.2.2.1 c6
      refine xi_tableIn (off := 57) (by decide +kernel : decode mX4_readLine.2.1 79 = .ok (.tableswitch 89 1 7 #[41, 49, 57, 65, 89, 73, 81], 41)) (by omega) (by omega) (by rw [c6]; decide) (by decide) (?_ : XW _ _ _ _ _ _ _ 136 _ _)
      refine xi_aload_n (by decide +kernel : decode mX4_readLine.2.1 136 = .ok (.aload_n 0, 1)) rfl rfl (?_ : XW _ _ _ _ _ _ _ 137 _ _)
      obtain ⟨Q1, sp, vc⟩ := vc
      refine xi_callV (b := 0) (bs := 0) (As := []) (st := []) (by decide +kernel : decode mX4_readLine.2.1 137 = .ok (.invokevirtual 128, 3)) kX4_128 rfl rfl (by omega) rfl sp (xrm_f (by omega)) (xrm_l (by omega) (Nat.le_of_ble_eq_true rfl)) (Nat.le_of_ble_eq_true rfl) (by omega) (fun v9 h9 hq9 => ?_)
      obtain ⟨r9, e9, vc⟩ := vc v9 h9 hq9
      subst e9
      show XW _ _ _ _ _ _ _ 140 _ [.int r9]
      refine xi_istore_n (ls' := [some (.ref 11), some (.int x1), some (.int r9)]) (by decide +kernel : decode mX4_readLine.2.1 140 = .ok (.istore_n 2, 1)) rfl (by decide) rfl (?_ : XW _ _ _ _ _ _ _ 141 _ _)
      refine xi_goto (by decide +kernel : decode mX4_readLine.2.1 141 = .ok (.goto 35, 3)) (by decide) (?_ : XW _ _ _ _ _ _ _ 176 _ _)
      refine xw_drop 1 (ls' := [some (.ref 11), none, some (.int r9)]) rfl ?_
      exact vc
    by_cases e3 : j = 3
    · subst e3
      have c6 : x1 = 4 := c7.trans (by decide)
      replace vc := vc.2.2.2.1 c6
      refine xi_tableIn (off := 65) (by decide +kernel : decode mX4_readLine.2.1 79 = .ok (.tableswitch 89 1 7 #[41, 49, 57, 65, 89, 73, 81], 41)) (by omega) (by omega) (by rw [c6]; decide) (by decide) (?_ : XW _ _ _ _ _ _ _ 144 _ _)
      refine xi_aload_n (by decide +kernel : decode mX4_readLine.2.1 144 = .ok (.aload_n 0, 1)) rfl rfl (?_ : XW _ _ _ _ _ _ _ 145 _ _)
      obtain ⟨Q1, sp, vc⟩ := vc
      refine xi_callV (b := 0) (bs := 0) (As := []) (st := []) (by decide +kernel : decode mX4_readLine.2.1 145 = .ok (.invokevirtual 131, 3)) kX4_131 rfl rfl (by omega) rfl sp (xrm_f (by omega)) (xrm_l (by omega) (Nat.le_of_ble_eq_true rfl)) (Nat.le_of_ble_eq_true rfl) (by omega) (fun v9 h10 hq9 => ?_)
      obtain ⟨r10, e9, vc⟩ := vc v9 h10 hq9
      subst e9
      show XW _ _ _ _ _ _ _ 148 _ [.int r10]
      refine xi_istore_n (ls' := [some (.ref 11), some (.int x1), some (.int r10)]) (by decide +kernel : decode mX4_readLine.2.1 148 = .ok (.istore_n 2, 1)) rfl (by decide) rfl (?_ : XW _ _ _ _ _ _ _ 149 _ _)
      refine xi_goto (by decide +kernel : decode mX4_readLine.2.1 149 = .ok (.goto 27, 3)) (by decide) (?_ : XW _ _ _ _ _ _ _ 176 _ _)
      refine xw_drop 1 (ls' := [some (.ref 11), none, some (.int r10)]) rfl ?_
      exact vc
    by_cases e4 : j = 4
    · subst e4
      have c6 : x1 = 5 := c7.trans (by decide)
      replace vc := vc.2.2.2.2.1 c6
      refine xi_tableIn (off := 89) (by decide +kernel : decode mX4_readLine.2.1 79 = .ok (.tableswitch 89 1 7 #[41, 49, 57, 65, 89, 73, 81], 41)) (by omega) (by omega) (by rw [c6]; decide) (by decide) (?_ : XW _ _ _ _ _ _ _ 168 _ _)
      refine xi_aload_n (by decide +kernel : decode mX4_readLine.2.1 168 = .ok (.aload_n 0, 1)) rfl rfl (?_ : XW _ _ _ _ _ _ _ 169 _ _)
      obtain ⟨s1, vc⟩ := vc
      refine xi_getR (y := r) (by decide +kernel : decode mX4_readLine.2.1 169 = .ok (.getfield 12, 3)) fX4_12 rfl (by omega) rfl s1 (?_ : XW _ _ _ _ _ _ _ 172 _ _)
      refine xi_iconst (v := 1) (by decide +kernel : decode mX4_readLine.2.1 172 = .ok (.iconst 1, 1)) (by decide) (?_ : XW _ _ _ _ _ _ _ 173 _ _)
      refine xi_putI (by decide +kernel : decode mX4_readLine.2.1 173 = .ok (.putfield 140, 3)) fX4_140 (xRul_s0 hr) (by omega) rfl rfl rfl (?_ : XW _ _ _ _ _ _ (xSI r (va_up (xI h6 r) 5 1) h6) 176 _ _)
      refine xw_drop 1 (ls' := [some (.ref 11), none, some (.int 1)]) rfl ?_
      exact vc
    by_cases e5 : j = 5
    · subst e5
      have c6 : x1 = 6 := c7.trans (by decide)
      replace vc := vc.2.2.2.2.2.1 c6
      refine xi_tableIn (off := 73) (by decide +kernel : decode mX4_readLine.2.1 79 = .ok (.tableswitch 89 1 7 #[41, 49, 57, 65, 89, 73, 81], 41)) (by omega) (by omega) (by rw [c6]; decide) (by decide) (?_ : XW _ _ _ _ _ _ _ 152 _ _)
      refine xi_aload_n (by decide +kernel : decode mX4_readLine.2.1 152 = .ok (.aload_n 0, 1)) rfl rfl (?_ : XW _ _ _ _ _ _ _ 153 _ _)
      obtain ⟨Q1, sp, vc⟩ := vc
      refine xi_callV (b := 0) (bs := 0) (As := []) (st := []) (by decide +kernel : decode mX4_readLine.2.1 153 = .ok (.invokevirtual 134, 3)) kX4_134 rfl rfl (by omega) rfl sp (xrm_f (by omega)) (xrm_l (by omega) (Nat.le_of_ble_eq_true rfl)) (Nat.le_of_ble_eq_true rfl) (by omega) (fun v9 h11 hq9 => ?_)
      obtain ⟨r11, e9, vc⟩ := vc v9 h11 hq9
      subst e9
      show XW _ _ _ _ _ _ _ 156 _ [.int r11]
      refine xi_istore_n (ls' := [some (.ref 11), some (.int x1), some (.int r11)]) (by decide +kernel : decode mX4_readLine.2.1 156 = .ok (.istore_n 2, 1)) rfl (by decide) rfl (?_ : XW _ _ _ _ _ _ _ 157 _ _)
      refine xi_goto (by decide +kernel : decode mX4_readLine.2.1 157 = .ok (.goto 19, 3)) (by decide) (?_ : XW _ _ _ _ _ _ _ 176 _ _)
      refine xw_drop 1 (ls' := [some (.ref 11), none, some (.int r11)]) rfl ?_
      exact vc
    by_cases e6 : j = 6
    · subst e6
      have c6 : x1 = 7 := c7.trans (by decide)
      replace vc := vc.2.2.2.2.2.2.1 c6
      refine xi_tableIn (off := 81) (by decide +kernel : decode mX4_readLine.2.1 79 = .ok (.tableswitch 89 1 7 #[41, 49, 57, 65, 89, 73, 81], 41)) (by omega) (by omega) (by rw [c6]; decide) (by decide) (?_ : XW _ _ _ _ _ _ _ 160 _ _)
      refine xi_aload_n (by decide +kernel : decode mX4_readLine.2.1 160 = .ok (.aload_n 0, 1)) rfl rfl (?_ : XW _ _ _ _ _ _ _ 161 _ _)
      obtain ⟨Q1, sp, vc⟩ := vc
      refine xi_callV (b := 0) (bs := 0) (As := []) (st := []) (by decide +kernel : decode mX4_readLine.2.1 161 = .ok (.invokevirtual 137, 3)) kX4_137 rfl rfl (by omega) rfl sp (xrm_f (by omega)) (xrm_l (by omega) (Nat.le_of_ble_eq_true rfl)) (Nat.le_of_ble_eq_true rfl) (by omega) (fun v9 h12 hq9 => ?_)
      obtain ⟨r12, e9, vc⟩ := vc v9 h12 hq9
      subst e9
      show XW _ _ _ _ _ _ _ 164 _ [.int r12]
      refine xi_istore_n (ls' := [some (.ref 11), some (.int x1), some (.int r12)]) (by decide +kernel : decode mX4_readLine.2.1 164 = .ok (.istore_n 2, 1)) rfl (by decide) rfl (?_ : XW _ _ _ _ _ _ _ 165 _ _)
      refine xi_goto (by decide +kernel : decode mX4_readLine.2.1 165 = .ok (.goto 11, 3)) (by decide) (?_ : XW _ _ _ _ _ _ _ 176 _ _)
      refine xw_drop 1 (ls' := [some (.ref 11), none, some (.int r12)]) rfl ?_
      exact vc
    omega

set_option maxRecDepth 20000 in
theorem v_X4_readLine_176 {h : XH} {Q : Option Value → XH → Prop} {X : String → XH → Prop} (r : Nat) (hrd : xRdr r (xP h)) (hr : xRul r (xP h)) (hnr : r + 9 ≤ 100)  (x2 : Int32)
    (vc : (x2 = 0 → Q (some (.int 0)) h) ∧ (¬ x2 = 0 → ∃ Q1, XSpec mX4_takeSign 15 0 0 100 100 [.ref 11, .int 59] h Q1 xno ∧ ∀ v h13, Q1 v h13 → ∃ r13 : Int32, v = some (.int r13) ∧ ((r13 = 0 → Q (some (.int 0)) h13) ∧ (¬ r13 = 0 → Q (some (.int 1)) h13)))) :
    XW (xrm 81 0 0) mX4_readLine (xE 100 Q X 0 0) 100 0 0 h 176 [some (.ref 11), none, some (.int x2)] [] := by
  refine xi_iload_n (by decide +kernel : decode mX4_readLine.2.1 176 = .ok (.iload_n 2, 1)) rfl rfl (?_ : XW _ _ _ _ _ _ _ 177 _ _)
  refine xi_if_eq (by decide +kernel : decode mX4_readLine.2.1 177 = .ok (.ifCond .eq 16, 3)) (by decide) (fun c => (?_ : XW _ _ _ _ _ _ _ 193 _ _)) (fun c => (?_ : XW _ _ _ _ _ _ _ 180 _ _))
  · replace vc := vc.1 c
    refine xi_iconst (v := 0) (by decide +kernel : decode mX4_readLine.2.1 193 = .ok (.iconst 0, 1)) (by decide) (?_ : XW _ _ _ _ _ _ _ 194 _ _)
    exact xi_iret (by decide +kernel : decode mX4_readLine.2.1 194 = .ok (.ireturn, 1)) rfl rfl vc
  · replace vc := vc.2 c
    refine xi_aload_n (by decide +kernel : decode mX4_readLine.2.1 180 = .ok (.aload_n 0, 1)) rfl rfl (?_ : XW _ _ _ _ _ _ _ 181 _ _)
    refine xi_bipush (v := 59) (by decide +kernel : decode mX4_readLine.2.1 181 = .ok (.bipush 59, 2)) (by decide) (?_ : XW _ _ _ _ _ _ _ 183 _ _)
    obtain ⟨Q1, sp, vc⟩ := vc
    refine xi_callV (b := 0) (bs := 0) (As := [.int 59]) (st := []) (by decide +kernel : decode mX4_readLine.2.1 183 = .ok (.invokevirtual 113, 3)) kX4_113 rfl rfl (by omega) rfl sp (xrm_f (by omega)) (xrm_l (by omega) (Nat.le_of_ble_eq_true rfl)) (Nat.le_of_ble_eq_true rfl) (by omega) (fun v9 h13 hq9 => ?_)
    obtain ⟨r13, e9, vc⟩ := vc v9 h13 hq9
    subst e9
    show XW _ _ _ _ _ _ _ 186 _ [.int r13]
    refine xi_if_eq (by decide +kernel : decode mX4_readLine.2.1 186 = .ok (.ifCond .eq 7, 3)) (by decide) (fun c => (?_ : XW _ _ _ _ _ _ _ 193 _ _)) (fun c => (?_ : XW _ _ _ _ _ _ _ 189 _ _))
    · replace vc := vc.1 c
      refine xi_iconst (v := 0) (by decide +kernel : decode mX4_readLine.2.1 193 = .ok (.iconst 0, 1)) (by decide) (?_ : XW _ _ _ _ _ _ _ 194 _ _)
      exact xi_iret (by decide +kernel : decode mX4_readLine.2.1 194 = .ok (.ireturn, 1)) rfl rfl vc
    · replace vc := vc.2 c
      refine xi_iconst (v := 1) (by decide +kernel : decode mX4_readLine.2.1 189 = .ok (.iconst 1, 1)) (by decide) (?_ : XW _ _ _ _ _ _ _ 190 _ _)
      refine xi_goto (by decide +kernel : decode mX4_readLine.2.1 190 = .ok (.goto 4, 3)) (by decide) (?_ : XW _ _ _ _ _ _ _ 194 _ _)
      exact xi_iret (by decide +kernel : decode mX4_readLine.2.1 194 = .ok (.ireturn, 1)) rfl rfl vc

set_option maxRecDepth 20000 in
theorem v_X4_read_0 {h : XH} {Q : Option Value → XH → Prop} {X : String → XH → Prop} (r : Nat) (hrd : xRdr r (xP h)) (hr : xRul r (xP h)) (hnr : r + 9 ≤ 100)  (ax : Int32)
    (vc : ∃ Q1, XSpec mX5_clear 4 0 0 100 100 [.ref r] (xSI 11 (va_up (xI h 11) 2 (if 0 < (if 500 < ax then 500 else ax) then (if 500 < ax then 500 else ax) else 0)) h) Q1 xno ∧ ∀ v h1, Q1 v h1 → v = none ∧ (∃ Q1, XSpec mX4_readOn 14 0 0 100 100 [.ref 11] (xSI 11 (va_up (va_up (va_up (xI h1 11) 5 0) 6 0) 3 0) (xSI 11 (va_up (va_up (xI h1 11) 5 0) 6 0) (xSI 11 (va_up (xI h1 11) 5 0) h1))) Q1 xno ∧ ∀ v h2, Q1 v h2 → v = none ∧ (∃ Q1, XSpec mX4_isWord 12 0 0 100 100 [.ref 11, .ref (1000 + 1)] h2 Q1 xno ∧ ∀ v h3, Q1 v h3 → ∃ r3 : Int32, v = some (.int r3) ∧ ((r3 = 0 → XW (xrm 82 0 0) mX4_read (xE 100 Q X 0 0) 100 0 0 h3 67 [some (.ref 11), none, some (.int 1), some (.int 0)] []) ∧ (¬ r3 = 0 → ∃ Q1, XSpec mX4_readLast 16 0 0 100 100 [.ref 11] h3 Q1 xno ∧ ∀ v h4, Q1 v h4 → ∃ r4 : Int32, v = some (.int r4) ∧ ((r4 = 0 → XW (xrm 82 0 0) mX4_read (xE 100 Q X 0 0) 100 0 0 h4 67 [some (.ref 11), none, some (.int 0), some (.int 0)] []) ∧ (¬ r4 = 0 → XW (xrm 82 0 0) mX4_read (xE 100 Q X 0 0) 100 0 0 h4 67 [some (.ref 11), none, some (.int 1), some (.int 0)] []))))))) :
    XW (xrm 82 0 0) mX4_read (xE 100 Q X 0 0) 100 0 0 h 0 [some (.ref 11), some (.int ax), none, none] [] := by
  refine xi_aload_n (by decide +kernel : decode mX4_read.2.1 0 = .ok (.aload_n 0, 1)) rfl rfl (?_ : XW _ _ _ _ _ _ _ 1 _ _)
  refine xi_iconst (v := 0) (by decide +kernel : decode mX4_read.2.1 1 = .ok (.iconst 0, 1)) (by decide) (?_ : XW _ _ _ _ _ _ _ 2 _ _)
  refine xi_iload_n (by decide +kernel : decode mX4_read.2.1 2 = .ok (.iload_n 1, 1)) rfl rfl (?_ : XW _ _ _ _ _ _ _ 3 _ _)
  refine xi_aload_n (by decide +kernel : decode mX4_read.2.1 3 = .ok (.aload_n 0, 1)) rfl rfl (?_ : XW _ _ _ _ _ _ _ 4 _ _)
  refine xi_getR (y := 1) (by decide +kernel : decode mX4_read.2.1 4 = .ok (.getfield 18, 3)) fX4_18 rfl (by omega) rfl hrd.1 (?_ : XW _ _ _ _ _ _ _ 7 _ _)
  refine xi_alen (v := 500) (by decide +kernel : decode mX4_read.2.1 7 = .ok (.arraylength, 1)) rfl (by omega) (Or.inl rfl) rfl (?_ : XW _ _ _ _ _ _ _ 8 _ _)
  refine xi_mmin (by decide +kernel : decode mX4_read.2.1 8 = .ok (.invokestatic 22, 3)) kX4_22.2.1 (by decide) (Nat.le_of_ble_eq_true rfl) (?_ : XW _ _ _ _ _ _ _ 11 _ _)
  refine xi_mmax (by decide +kernel : decode mX4_read.2.1 11 = .ok (.invokestatic 28, 3)) kX4_28.2.1 (by decide) (Nat.le_of_ble_eq_true rfl) (?_ : XW _ _ _ _ _ _ _ 14 _ _)
  refine xi_putI (by decide +kernel : decode mX4_read.2.1 14 = .ok (.putfield 31, 3)) fX4_31 rfl (by omega) rfl rfl rfl (?_ : XW _ _ _ _ _ _ (xSI 11 (va_up (xI h 11) 2 (if 0 < (if 500 < ax then 500 else ax) then (if 500 < ax then 500 else ax) else 0)) h) 17 _ _)
  refine xi_aload_n (by decide +kernel : decode mX4_read.2.1 17 = .ok (.aload_n 0, 1)) rfl rfl (?_ : XW _ _ _ _ _ _ _ 18 _ _)
  refine xi_getR (y := r) (by decide +kernel : decode mX4_read.2.1 18 = .ok (.getfield 12, 3)) fX4_12 rfl (by omega) rfl hrd.2 (?_ : XW _ _ _ _ _ _ _ 21 _ _)
  obtain ⟨Q1, sp, vc⟩ := vc
  refine xi_callV (b := 0) (bs := 0) (As := []) (st := []) (by decide +kernel : decode mX4_read.2.1 21 = .ok (.invokevirtual 35, 3)) kX4_35 rfl (xRul_s0 hr) (by omega) rfl sp (xrm_f (by omega)) (xrm_l (by omega) (Nat.le_of_ble_eq_true rfl)) (Nat.le_of_ble_eq_true rfl) (by omega) (fun v9 h1 hq9 => ?_)
  obtain ⟨e9, vc⟩ := vc v9 h1 hq9
  subst e9
  show XW _ _ _ _ _ _ _ 24 _ []
  refine xi_aload_n (by decide +kernel : decode mX4_read.2.1 24 = .ok (.aload_n 0, 1)) rfl rfl (?_ : XW _ _ _ _ _ _ _ 25 _ _)
  refine xi_iconst (v := 0) (by decide +kernel : decode mX4_read.2.1 25 = .ok (.iconst 0, 1)) (by decide) (?_ : XW _ _ _ _ _ _ _ 26 _ _)
  refine xi_putI (by decide +kernel : decode mX4_read.2.1 26 = .ok (.putfield 38, 3)) fX4_38 rfl (by omega) rfl rfl rfl (?_ : XW _ _ _ _ _ _ (xSI 11 (va_up (xI h1 11) 5 0) h1) 29 _ _)
  refine xi_aload_n (by decide +kernel : decode mX4_read.2.1 29 = .ok (.aload_n 0, 1)) rfl rfl (?_ : XW _ _ _ _ _ _ _ 30 _ _)
  refine xi_iconst (v := 0) (by decide +kernel : decode mX4_read.2.1 30 = .ok (.iconst 0, 1)) (by decide) (?_ : XW _ _ _ _ _ _ _ 31 _ _)
  refine xi_putI (by decide +kernel : decode mX4_read.2.1 31 = .ok (.putfield 41, 3)) fX4_41 rfl (by omega) rfl rfl rfl (?_ : XW _ _ _ _ _ _ (xSI 11 (va_up (va_up (xI h1 11) 5 0) 6 0) (xSI 11 (va_up (xI h1 11) 5 0) h1)) 34 _ _)
  refine xi_aload_n (by decide +kernel : decode mX4_read.2.1 34 = .ok (.aload_n 0, 1)) rfl rfl (?_ : XW _ _ _ _ _ _ _ 35 _ _)
  refine xi_iconst (v := 0) (by decide +kernel : decode mX4_read.2.1 35 = .ok (.iconst 0, 1)) (by decide) (?_ : XW _ _ _ _ _ _ _ 36 _ _)
  refine xi_putI (by decide +kernel : decode mX4_read.2.1 36 = .ok (.putfield 44, 3)) fX4_44 rfl (by omega) rfl rfl rfl (?_ : XW _ _ _ _ _ _ (xSI 11 (va_up (va_up (va_up (xI h1 11) 5 0) 6 0) 3 0) (xSI 11 (va_up (va_up (xI h1 11) 5 0) 6 0) (xSI 11 (va_up (xI h1 11) 5 0) h1))) 39 _ _)
  refine xi_aload_n (by decide +kernel : decode mX4_read.2.1 39 = .ok (.aload_n 0, 1)) rfl rfl (?_ : XW _ _ _ _ _ _ _ 40 _ _)
  obtain ⟨Q1, sp, vc⟩ := vc
  refine xi_callV (b := 0) (bs := 0) (As := []) (st := []) (by decide +kernel : decode mX4_read.2.1 40 = .ok (.invokevirtual 47, 3)) kX4_47 rfl rfl (by omega) rfl sp (xrm_f (by omega)) (xrm_l (by omega) (Nat.le_of_ble_eq_true rfl)) (Nat.le_of_ble_eq_true rfl) (by omega) (fun v9 h2 hq9 => ?_)
  obtain ⟨e9, vc⟩ := vc v9 h2 hq9
  subst e9
  show XW _ _ _ _ _ _ _ 43 _ []
  refine xi_aload_n (by decide +kernel : decode mX4_read.2.1 43 = .ok (.aload_n 0, 1)) rfl rfl (?_ : XW _ _ _ _ _ _ _ 44 _ _)
  refine xi_ldcS (j := 1) (by decide +kernel : decode mX4_read.2.1 44 = .ok (.ldc 50, 2)) rfl (by decide) (?_ : XW _ _ _ _ _ _ _ 46 _ _)
  obtain ⟨Q1, sp, vc⟩ := vc
  refine xi_callV (b := 0) (bs := 0) (As := [.ref (1000 + 1)]) (st := []) (by decide +kernel : decode mX4_read.2.1 46 = .ok (.invokevirtual 52, 3)) kX4_52 rfl rfl (by omega) rfl sp (xrm_f (by omega)) (xrm_l (by omega) (Nat.le_of_ble_eq_true rfl)) (Nat.le_of_ble_eq_true rfl) (by omega) (fun v9 h3 hq9 => ?_)
  obtain ⟨r3, e9, vc⟩ := vc v9 h3 hq9
  subst e9
  show XW _ _ _ _ _ _ _ 49 _ [.int r3]
  refine xi_if_eq (by decide +kernel : decode mX4_read.2.1 49 = .ok (.ifCond .eq 10, 3)) (by decide) (fun c => (?_ : XW _ _ _ _ _ _ _ 59 _ _)) (fun c => (?_ : XW _ _ _ _ _ _ _ 52 _ _))
  · replace vc := vc.1 c
    refine xi_iconst (v := 1) (by decide +kernel : decode mX4_read.2.1 59 = .ok (.iconst 1, 1)) (by decide) (?_ : XW _ _ _ _ _ _ _ 60 _ _)
    refine xi_goto (by decide +kernel : decode mX4_read.2.1 60 = .ok (.goto 4, 3)) (by decide) (?_ : XW _ _ _ _ _ _ _ 64 _ _)
    refine xi_istore_n (ls' := [some (.ref 11), some (.int ax), some (.int 1), none]) (by decide +kernel : decode mX4_read.2.1 64 = .ok (.istore_n 2, 1)) rfl (by decide) rfl (?_ : XW _ _ _ _ _ _ _ 65 _ _)
    refine xi_iconst (v := 0) (by decide +kernel : decode mX4_read.2.1 65 = .ok (.iconst 0, 1)) (by decide) (?_ : XW _ _ _ _ _ _ _ 66 _ _)
    refine xi_istore_n (ls' := [some (.ref 11), some (.int ax), some (.int 1), some (.int 0)]) (by decide +kernel : decode mX4_read.2.1 66 = .ok (.istore_n 3, 1)) rfl (by decide) rfl (?_ : XW _ _ _ _ _ _ _ 67 _ _)
    refine xw_drop 1 (ls' := [some (.ref 11), none, some (.int 1), some (.int 0)]) rfl ?_
    exact vc
  · replace vc := vc.2 c
    refine xi_aload_n (by decide +kernel : decode mX4_read.2.1 52 = .ok (.aload_n 0, 1)) rfl rfl (?_ : XW _ _ _ _ _ _ _ 53 _ _)
    obtain ⟨Q1, sp, vc⟩ := vc
    refine xi_callV (b := 0) (bs := 0) (As := []) (st := []) (by decide +kernel : decode mX4_read.2.1 53 = .ok (.invokevirtual 56, 3)) kX4_56 rfl rfl (by omega) rfl sp (xrm_f (by omega)) (xrm_l (by omega) (Nat.le_of_ble_eq_true rfl)) (Nat.le_of_ble_eq_true rfl) (by omega) (fun v9 h4 hq9 => ?_)
    obtain ⟨r4, e9, vc⟩ := vc v9 h4 hq9
    subst e9
    show XW _ _ _ _ _ _ _ 56 _ [.int r4]
    refine xi_if_eq (by decide +kernel : decode mX4_read.2.1 56 = .ok (.ifCond .eq 7, 3)) (by decide) (fun c => (?_ : XW _ _ _ _ _ _ _ 63 _ _)) (fun c => (?_ : XW _ _ _ _ _ _ _ 59 _ _))
    · replace vc := vc.1 c
      refine xi_iconst (v := 0) (by decide +kernel : decode mX4_read.2.1 63 = .ok (.iconst 0, 1)) (by decide) (?_ : XW _ _ _ _ _ _ _ 64 _ _)
      refine xi_istore_n (ls' := [some (.ref 11), some (.int ax), some (.int 0), none]) (by decide +kernel : decode mX4_read.2.1 64 = .ok (.istore_n 2, 1)) rfl (by decide) rfl (?_ : XW _ _ _ _ _ _ _ 65 _ _)
      refine xi_iconst (v := 0) (by decide +kernel : decode mX4_read.2.1 65 = .ok (.iconst 0, 1)) (by decide) (?_ : XW _ _ _ _ _ _ _ 66 _ _)
      refine xi_istore_n (ls' := [some (.ref 11), some (.int ax), some (.int 0), some (.int 0)]) (by decide +kernel : decode mX4_read.2.1 66 = .ok (.istore_n 3, 1)) rfl (by decide) rfl (?_ : XW _ _ _ _ _ _ _ 67 _ _)
      refine xw_drop 1 (ls' := [some (.ref 11), none, some (.int 0), some (.int 0)]) rfl ?_
      exact vc
    · replace vc := vc.2 c
      refine xi_iconst (v := 1) (by decide +kernel : decode mX4_read.2.1 59 = .ok (.iconst 1, 1)) (by decide) (?_ : XW _ _ _ _ _ _ _ 60 _ _)
      refine xi_goto (by decide +kernel : decode mX4_read.2.1 60 = .ok (.goto 4, 3)) (by decide) (?_ : XW _ _ _ _ _ _ _ 64 _ _)
      refine xi_istore_n (ls' := [some (.ref 11), some (.int ax), some (.int 1), none]) (by decide +kernel : decode mX4_read.2.1 64 = .ok (.istore_n 2, 1)) rfl (by decide) rfl (?_ : XW _ _ _ _ _ _ _ 65 _ _)
      refine xi_iconst (v := 0) (by decide +kernel : decode mX4_read.2.1 65 = .ok (.iconst 0, 1)) (by decide) (?_ : XW _ _ _ _ _ _ _ 66 _ _)
      refine xi_istore_n (ls' := [some (.ref 11), some (.int ax), some (.int 1), some (.int 0)]) (by decide +kernel : decode mX4_read.2.1 66 = .ok (.istore_n 3, 1)) rfl (by decide) rfl (?_ : XW _ _ _ _ _ _ _ 67 _ _)
      refine xw_drop 1 (ls' := [some (.ref 11), none, some (.int 1), some (.int 0)]) rfl ?_
      exact vc

set_option maxRecDepth 20000 in
theorem v_X4_read_67 {h : XH} {Q : Option Value → XH → Prop} {X : String → XH → Prop} (r : Nat) (hrd : xRdr r (xP h)) (hr : xRul r (xP h)) (hnr : r + 9 ≤ 100)  (x2 : Int32) (x3 : Int32)
    (vc : (500 < x3 → Q (some (.int (xI h 11 5))) h) ∧ (¬ 500 < x3 → (x2 = 0 → Q (some (.int (xI h 11 5))) h) ∧ (¬ x2 = 0 → ((xI h 11 4) = 0 → Q (some (.int (xI h 11 5))) h) ∧ (¬ (xI h 11 4) = 0 → ∃ Q1, XSpec mX4_readLine 81 0 0 100 100 [.ref 11] h Q1 xno ∧ ∀ v h5, Q1 v h5 → ∃ r5 : Int32, v = some (.int r5) ∧ (XW (xrm 82 0 0) mX4_read (xE 100 Q X 0 0) 100 0 0 h5 67 [some (.ref 11), none, some (.int r5), some (.int (x3 + 1))] []))))) :
    XW (xrm 82 0 0) mX4_read (xE 100 Q X 0 0) 100 0 0 h 67 [some (.ref 11), none, some (.int x2), some (.int x3)] [] := by
  refine xi_iload_n (by decide +kernel : decode mX4_read.2.1 67 = .ok (.iload_n 3, 1)) rfl rfl (?_ : XW _ _ _ _ _ _ _ 68 _ _)
  refine xi_sipush (v := 500) (by decide +kernel : decode mX4_read.2.1 68 = .ok (.sipush 500, 3)) (by decide) (?_ : XW _ _ _ _ _ _ _ 71 _ _)
  refine xi_icmp_gt (by decide +kernel : decode mX4_read.2.1 71 = .ok (.if_icmp .gt 25, 3)) (by decide) (fun c => (?_ : XW _ _ _ _ _ _ _ 96 _ _)) (fun c => (?_ : XW _ _ _ _ _ _ _ 74 _ _))
  · replace vc := vc.1 c
    refine xi_aload_n (by decide +kernel : decode mX4_read.2.1 96 = .ok (.aload_n 0, 1)) rfl rfl (?_ : XW _ _ _ _ _ _ _ 97 _ _)
    refine xi_getI (by decide +kernel : decode mX4_read.2.1 97 = .ok (.getfield 38, 3)) fX4_38 rfl (by omega) rfl (?_ : XW _ _ _ _ _ _ _ 100 _ _)
    exact xi_iret (by decide +kernel : decode mX4_read.2.1 100 = .ok (.ireturn, 1)) rfl rfl vc
  · replace vc := vc.2 c
    refine xi_iload_n (by decide +kernel : decode mX4_read.2.1 74 = .ok (.iload_n 2, 1)) rfl rfl (?_ : XW _ _ _ _ _ _ _ 75 _ _)
    refine xi_if_eq (by decide +kernel : decode mX4_read.2.1 75 = .ok (.ifCond .eq 21, 3)) (by decide) (fun c => (?_ : XW _ _ _ _ _ _ _ 96 _ _)) (fun c => (?_ : XW _ _ _ _ _ _ _ 78 _ _))
    · replace vc := vc.1 c
      refine xi_aload_n (by decide +kernel : decode mX4_read.2.1 96 = .ok (.aload_n 0, 1)) rfl rfl (?_ : XW _ _ _ _ _ _ _ 97 _ _)
      refine xi_getI (by decide +kernel : decode mX4_read.2.1 97 = .ok (.getfield 38, 3)) fX4_38 rfl (by omega) rfl (?_ : XW _ _ _ _ _ _ _ 100 _ _)
      exact xi_iret (by decide +kernel : decode mX4_read.2.1 100 = .ok (.ireturn, 1)) rfl rfl vc
    · replace vc := vc.2 c
      refine xi_aload_n (by decide +kernel : decode mX4_read.2.1 78 = .ok (.aload_n 0, 1)) rfl rfl (?_ : XW _ _ _ _ _ _ _ 79 _ _)
      refine xi_getI (by decide +kernel : decode mX4_read.2.1 79 = .ok (.getfield 60, 3)) fX4_60 rfl (by omega) rfl (?_ : XW _ _ _ _ _ _ _ 82 _ _)
      refine xi_if_eq (by decide +kernel : decode mX4_read.2.1 82 = .ok (.ifCond .eq 14, 3)) (by decide) (fun c => (?_ : XW _ _ _ _ _ _ _ 96 _ _)) (fun c => (?_ : XW _ _ _ _ _ _ _ 85 _ _))
      · replace vc := vc.1 c
        refine xi_aload_n (by decide +kernel : decode mX4_read.2.1 96 = .ok (.aload_n 0, 1)) rfl rfl (?_ : XW _ _ _ _ _ _ _ 97 _ _)
        refine xi_getI (by decide +kernel : decode mX4_read.2.1 97 = .ok (.getfield 38, 3)) fX4_38 rfl (by omega) rfl (?_ : XW _ _ _ _ _ _ _ 100 _ _)
        exact xi_iret (by decide +kernel : decode mX4_read.2.1 100 = .ok (.ireturn, 1)) rfl rfl vc
      · replace vc := vc.2 c
        refine xi_aload_n (by decide +kernel : decode mX4_read.2.1 85 = .ok (.aload_n 0, 1)) rfl rfl (?_ : XW _ _ _ _ _ _ _ 86 _ _)
        obtain ⟨Q1, sp, vc⟩ := vc
        refine xi_callV (b := 0) (bs := 0) (As := []) (st := []) (by decide +kernel : decode mX4_read.2.1 86 = .ok (.invokevirtual 63, 3)) kX4_63 rfl rfl (by omega) rfl sp (xrm_f (by omega)) (xrm_l (by omega) (Nat.le_of_ble_eq_true rfl)) (Nat.le_of_ble_eq_true rfl) (by omega) (fun v9 h5 hq9 => ?_)
        obtain ⟨r5, e9, vc⟩ := vc v9 h5 hq9
        subst e9
        show XW _ _ _ _ _ _ _ 89 _ [.int r5]
        refine xi_istore_n (ls' := [some (.ref 11), none, some (.int r5), some (.int x3)]) (by decide +kernel : decode mX4_read.2.1 89 = .ok (.istore_n 2, 1)) rfl (by decide) rfl (?_ : XW _ _ _ _ _ _ _ 90 _ _)
        refine xi_iinc (v := x3 + 1) (ls' := [some (.ref 11), none, some (.int r5), some (.int (x3 + 1))]) (by decide +kernel : decode mX4_read.2.1 90 = .ok (.iinc 3 1, 3)) rfl rfl (by decide) rfl (?_ : XW _ _ _ _ _ _ _ 93 _ _)
        refine xi_goto (by decide +kernel : decode mX4_read.2.1 93 = .ok (.goto (-26), 3)) (by decide) (?_ : XW _ _ _ _ _ _ _ 67 _ _)
        exact vc

set_option maxRecDepth 20000 in
theorem v_X4_exchange_0 {h : XH} {Q : Option Value → XH → Prop} {X : String → XH → Prop} (r0 : Nat) (hr0 : xRul r0 (xP h)) (hnr0 : r0 + 9 ≤ 100) (r : Nat) (hrd : xRdr r (xP h)) (hr : xRul r (xP h)) (hnr : r + 9 ≤ 100) 
    (vc : Q (some (.ref r)) (xSP 11 (va_up (xP h 11) 7 (some r0)) h)) :
    XW (xrm 1 0 0) mX4_exchange (xE 100 Q X 0 0) 100 0 0 h 0 [some (.ref 11), some (.ref r0), none] [] := by
  refine xi_aload_n (by decide +kernel : decode mX4_exchange.2.1 0 = .ok (.aload_n 0, 1)) rfl rfl (?_ : XW _ _ _ _ _ _ _ 1 _ _)
  refine xi_getR (y := r) (by decide +kernel : decode mX4_exchange.2.1 1 = .ok (.getfield 12, 3)) fX4_12 rfl (by omega) rfl hrd.2 (?_ : XW _ _ _ _ _ _ _ 4 _ _)
  refine xi_astore_n (ls' := [some (.ref 11), some (.ref r0), some (.ref r)]) (by decide +kernel : decode mX4_exchange.2.1 4 = .ok (.astore_n 2, 1)) rfl (by decide) rfl (?_ : XW _ _ _ _ _ _ _ 5 _ _)
  refine xi_aload_n (by decide +kernel : decode mX4_exchange.2.1 5 = .ok (.aload_n 0, 1)) rfl rfl (?_ : XW _ _ _ _ _ _ _ 6 _ _)
  refine xi_aload_n (by decide +kernel : decode mX4_exchange.2.1 6 = .ok (.aload_n 1, 1)) rfl rfl (?_ : XW _ _ _ _ _ _ _ 7 _ _)
  refine xi_putR (by decide +kernel : decode mX4_exchange.2.1 7 = .ok (.putfield 12, 3)) fX4_12 rfl (by omega) rfl (?_ : XW _ _ _ _ _ _ (xSP 11 (va_up (xP h 11) 7 (some r0)) h) 10 _ _)
  refine xi_aload_n (by decide +kernel : decode mX4_exchange.2.1 10 = .ok (.aload_n 2, 1)) rfl rfl (?_ : XW _ _ _ _ _ _ _ 11 _ _)
  exact xi_aret (by decide +kernel : decode mX4_exchange.2.1 11 = .ok (.areturn, 1)) rfl vc

set_option maxRecDepth 20000 in
theorem v_X11_isLetter_0 {h : XH} {Q : Option Value → XH → Prop} {X : String → XH → Prop}  (cx : Int32)
    (vc : (cx < 97 → Q (some (.int 0)) h) ∧ (¬ cx < 97 → (122 < cx → Q (some (.int 0)) h) ∧ (¬ 122 < cx → Q (some (.int 1)) h))) :
    XW (xrm 1 0 0) mX11_isLetter (xE 100 Q X 0 0) 100 0 0 h 0 [some (.int cx)] [] := by
  refine xi_iload_n (by decide +kernel : decode mX11_isLetter.2.1 0 = .ok (.iload_n 0, 1)) rfl rfl (?_ : XW _ _ _ _ _ _ _ 1 _ _)
  refine xi_bipush (v := 97) (by decide +kernel : decode mX11_isLetter.2.1 1 = .ok (.bipush 97, 2)) (by decide) (?_ : XW _ _ _ _ _ _ _ 3 _ _)
  refine xi_icmp_lt (by decide +kernel : decode mX11_isLetter.2.1 3 = .ok (.if_icmp .lt 13, 3)) (by decide) (fun c => (?_ : XW _ _ _ _ _ _ _ 16 _ _)) (fun c => (?_ : XW _ _ _ _ _ _ _ 6 _ _))
  · replace vc := vc.1 c
    refine xi_iconst (v := 0) (by decide +kernel : decode mX11_isLetter.2.1 16 = .ok (.iconst 0, 1)) (by decide) (?_ : XW _ _ _ _ _ _ _ 17 _ _)
    exact xi_iret (by decide +kernel : decode mX11_isLetter.2.1 17 = .ok (.ireturn, 1)) rfl rfl vc
  · replace vc := vc.2 c
    refine xi_iload_n (by decide +kernel : decode mX11_isLetter.2.1 6 = .ok (.iload_n 0, 1)) rfl rfl (?_ : XW _ _ _ _ _ _ _ 7 _ _)
    refine xi_bipush (v := 122) (by decide +kernel : decode mX11_isLetter.2.1 7 = .ok (.bipush 122, 2)) (by decide) (?_ : XW _ _ _ _ _ _ _ 9 _ _)
    refine xi_icmp_gt (by decide +kernel : decode mX11_isLetter.2.1 9 = .ok (.if_icmp .gt 7, 3)) (by decide) (fun c => (?_ : XW _ _ _ _ _ _ _ 16 _ _)) (fun c => (?_ : XW _ _ _ _ _ _ _ 12 _ _))
    · replace vc := vc.1 c
      refine xi_iconst (v := 0) (by decide +kernel : decode mX11_isLetter.2.1 16 = .ok (.iconst 0, 1)) (by decide) (?_ : XW _ _ _ _ _ _ _ 17 _ _)
      exact xi_iret (by decide +kernel : decode mX11_isLetter.2.1 17 = .ok (.ireturn, 1)) rfl rfl vc
    · replace vc := vc.2 c
      refine xi_iconst (v := 1) (by decide +kernel : decode mX11_isLetter.2.1 12 = .ok (.iconst 1, 1)) (by decide) (?_ : XW _ _ _ _ _ _ _ 13 _ _)
      refine xi_goto (by decide +kernel : decode mX11_isLetter.2.1 13 = .ok (.goto 4, 3)) (by decide) (?_ : XW _ _ _ _ _ _ _ 17 _ _)
      exact xi_iret (by decide +kernel : decode mX11_isLetter.2.1 17 = .ok (.ireturn, 1)) rfl rfl vc

set_option maxRecDepth 20000 in
theorem v_X11_isDigit_0 {h : XH} {Q : Option Value → XH → Prop} {X : String → XH → Prop}  (cx : Int32)
    (vc : (cx < 48 → Q (some (.int 0)) h) ∧ (¬ cx < 48 → (57 < cx → Q (some (.int 0)) h) ∧ (¬ 57 < cx → Q (some (.int 1)) h))) :
    XW (xrm 1 0 0) mX11_isDigit (xE 100 Q X 0 0) 100 0 0 h 0 [some (.int cx)] [] := by
  refine xi_iload_n (by decide +kernel : decode mX11_isDigit.2.1 0 = .ok (.iload_n 0, 1)) rfl rfl (?_ : XW _ _ _ _ _ _ _ 1 _ _)
  refine xi_bipush (v := 48) (by decide +kernel : decode mX11_isDigit.2.1 1 = .ok (.bipush 48, 2)) (by decide) (?_ : XW _ _ _ _ _ _ _ 3 _ _)
  refine xi_icmp_lt (by decide +kernel : decode mX11_isDigit.2.1 3 = .ok (.if_icmp .lt 13, 3)) (by decide) (fun c => (?_ : XW _ _ _ _ _ _ _ 16 _ _)) (fun c => (?_ : XW _ _ _ _ _ _ _ 6 _ _))
  · replace vc := vc.1 c
    refine xi_iconst (v := 0) (by decide +kernel : decode mX11_isDigit.2.1 16 = .ok (.iconst 0, 1)) (by decide) (?_ : XW _ _ _ _ _ _ _ 17 _ _)
    exact xi_iret (by decide +kernel : decode mX11_isDigit.2.1 17 = .ok (.ireturn, 1)) rfl rfl vc
  · replace vc := vc.2 c
    refine xi_iload_n (by decide +kernel : decode mX11_isDigit.2.1 6 = .ok (.iload_n 0, 1)) rfl rfl (?_ : XW _ _ _ _ _ _ _ 7 _ _)
    refine xi_bipush (v := 57) (by decide +kernel : decode mX11_isDigit.2.1 7 = .ok (.bipush 57, 2)) (by decide) (?_ : XW _ _ _ _ _ _ _ 9 _ _)
    refine xi_icmp_gt (by decide +kernel : decode mX11_isDigit.2.1 9 = .ok (.if_icmp .gt 7, 3)) (by decide) (fun c => (?_ : XW _ _ _ _ _ _ _ 16 _ _)) (fun c => (?_ : XW _ _ _ _ _ _ _ 12 _ _))
    · replace vc := vc.1 c
      refine xi_iconst (v := 0) (by decide +kernel : decode mX11_isDigit.2.1 16 = .ok (.iconst 0, 1)) (by decide) (?_ : XW _ _ _ _ _ _ _ 17 _ _)
      exact xi_iret (by decide +kernel : decode mX11_isDigit.2.1 17 = .ok (.ireturn, 1)) rfl rfl vc
    · replace vc := vc.2 c
      refine xi_iconst (v := 1) (by decide +kernel : decode mX11_isDigit.2.1 12 = .ok (.iconst 1, 1)) (by decide) (?_ : XW _ _ _ _ _ _ _ 13 _ _)
      refine xi_goto (by decide +kernel : decode mX11_isDigit.2.1 13 = .ok (.goto 4, 3)) (by decide) (?_ : XW _ _ _ _ _ _ _ 17 _ _)
      exact xi_iret (by decide +kernel : decode mX11_isDigit.2.1 17 = .ok (.ireturn, 1)) rfl rfl vc

set_option maxRecDepth 20000 in
theorem v_X11_isMark_0 {h : XH} {Q : Option Value → XH → Prop} {X : String → XH → Prop}  (cx : Int32)
    (vc : (cx = 59 → Q (some (.int 1)) h) ∧ (¬ cx = 59 → (cx = 40 → Q (some (.int 1)) h) ∧ (¬ cx = 40 → (cx = 41 → Q (some (.int 1)) h) ∧ (¬ cx = 41 → (cx = 43 → Q (some (.int 1)) h) ∧ (¬ cx = 43 → (cx = 45 → Q (some (.int 1)) h) ∧ (¬ cx = 45 → (cx = 42 → Q (some (.int 1)) h) ∧ (¬ cx = 42 → (cx = 47 → Q (some (.int 1)) h) ∧ (¬ cx = 47 → (cx = 60 → Q (some (.int 1)) h) ∧ (¬ cx = 60 → (¬ cx = 61 → Q (some (.int 0)) h) ∧ (cx = 61 → Q (some (.int 1)) h)))))))))) :
    XW (xrm 1 0 0) mX11_isMark (xE 100 Q X 0 0) 100 0 0 h 0 [some (.int cx)] [] := by
  refine xi_iload_n (by decide +kernel : decode mX11_isMark.2.1 0 = .ok (.iload_n 0, 1)) rfl rfl (?_ : XW _ _ _ _ _ _ _ 1 _ _)
  refine xi_bipush (v := 59) (by decide +kernel : decode mX11_isMark.2.1 1 = .ok (.bipush 59, 2)) (by decide) (?_ : XW _ _ _ _ _ _ _ 3 _ _)
  refine xi_icmp_eq (by decide +kernel : decode mX11_isMark.2.1 3 = .ok (.if_icmp .eq 51, 3)) (by decide) (fun c => (?_ : XW _ _ _ _ _ _ _ 54 _ _)) (fun c => (?_ : XW _ _ _ _ _ _ _ 6 _ _))
  · replace vc := vc.1 c
    refine xi_iconst (v := 1) (by decide +kernel : decode mX11_isMark.2.1 54 = .ok (.iconst 1, 1)) (by decide) (?_ : XW _ _ _ _ _ _ _ 55 _ _)
    refine xi_goto (by decide +kernel : decode mX11_isMark.2.1 55 = .ok (.goto 4, 3)) (by decide) (?_ : XW _ _ _ _ _ _ _ 59 _ _)
    exact xi_iret (by decide +kernel : decode mX11_isMark.2.1 59 = .ok (.ireturn, 1)) rfl rfl vc
  · replace vc := vc.2 c
    refine xi_iload_n (by decide +kernel : decode mX11_isMark.2.1 6 = .ok (.iload_n 0, 1)) rfl rfl (?_ : XW _ _ _ _ _ _ _ 7 _ _)
    refine xi_bipush (v := 40) (by decide +kernel : decode mX11_isMark.2.1 7 = .ok (.bipush 40, 2)) (by decide) (?_ : XW _ _ _ _ _ _ _ 9 _ _)
    refine xi_icmp_eq (by decide +kernel : decode mX11_isMark.2.1 9 = .ok (.if_icmp .eq 45, 3)) (by decide) (fun c => (?_ : XW _ _ _ _ _ _ _ 54 _ _)) (fun c => (?_ : XW _ _ _ _ _ _ _ 12 _ _))
    · replace vc := vc.1 c
      refine xi_iconst (v := 1) (by decide +kernel : decode mX11_isMark.2.1 54 = .ok (.iconst 1, 1)) (by decide) (?_ : XW _ _ _ _ _ _ _ 55 _ _)
      refine xi_goto (by decide +kernel : decode mX11_isMark.2.1 55 = .ok (.goto 4, 3)) (by decide) (?_ : XW _ _ _ _ _ _ _ 59 _ _)
      exact xi_iret (by decide +kernel : decode mX11_isMark.2.1 59 = .ok (.ireturn, 1)) rfl rfl vc
    · replace vc := vc.2 c
      refine xi_iload_n (by decide +kernel : decode mX11_isMark.2.1 12 = .ok (.iload_n 0, 1)) rfl rfl (?_ : XW _ _ _ _ _ _ _ 13 _ _)
      refine xi_bipush (v := 41) (by decide +kernel : decode mX11_isMark.2.1 13 = .ok (.bipush 41, 2)) (by decide) (?_ : XW _ _ _ _ _ _ _ 15 _ _)
      refine xi_icmp_eq (by decide +kernel : decode mX11_isMark.2.1 15 = .ok (.if_icmp .eq 39, 3)) (by decide) (fun c => (?_ : XW _ _ _ _ _ _ _ 54 _ _)) (fun c => (?_ : XW _ _ _ _ _ _ _ 18 _ _))
      · replace vc := vc.1 c
        refine xi_iconst (v := 1) (by decide +kernel : decode mX11_isMark.2.1 54 = .ok (.iconst 1, 1)) (by decide) (?_ : XW _ _ _ _ _ _ _ 55 _ _)
        refine xi_goto (by decide +kernel : decode mX11_isMark.2.1 55 = .ok (.goto 4, 3)) (by decide) (?_ : XW _ _ _ _ _ _ _ 59 _ _)
        exact xi_iret (by decide +kernel : decode mX11_isMark.2.1 59 = .ok (.ireturn, 1)) rfl rfl vc
      · replace vc := vc.2 c
        refine xi_iload_n (by decide +kernel : decode mX11_isMark.2.1 18 = .ok (.iload_n 0, 1)) rfl rfl (?_ : XW _ _ _ _ _ _ _ 19 _ _)
        refine xi_bipush (v := 43) (by decide +kernel : decode mX11_isMark.2.1 19 = .ok (.bipush 43, 2)) (by decide) (?_ : XW _ _ _ _ _ _ _ 21 _ _)
        refine xi_icmp_eq (by decide +kernel : decode mX11_isMark.2.1 21 = .ok (.if_icmp .eq 33, 3)) (by decide) (fun c => (?_ : XW _ _ _ _ _ _ _ 54 _ _)) (fun c => (?_ : XW _ _ _ _ _ _ _ 24 _ _))
        · replace vc := vc.1 c
          refine xi_iconst (v := 1) (by decide +kernel : decode mX11_isMark.2.1 54 = .ok (.iconst 1, 1)) (by decide) (?_ : XW _ _ _ _ _ _ _ 55 _ _)
          refine xi_goto (by decide +kernel : decode mX11_isMark.2.1 55 = .ok (.goto 4, 3)) (by decide) (?_ : XW _ _ _ _ _ _ _ 59 _ _)
          exact xi_iret (by decide +kernel : decode mX11_isMark.2.1 59 = .ok (.ireturn, 1)) rfl rfl vc
        · replace vc := vc.2 c
          refine xi_iload_n (by decide +kernel : decode mX11_isMark.2.1 24 = .ok (.iload_n 0, 1)) rfl rfl (?_ : XW _ _ _ _ _ _ _ 25 _ _)
          refine xi_bipush (v := 45) (by decide +kernel : decode mX11_isMark.2.1 25 = .ok (.bipush 45, 2)) (by decide) (?_ : XW _ _ _ _ _ _ _ 27 _ _)
          refine xi_icmp_eq (by decide +kernel : decode mX11_isMark.2.1 27 = .ok (.if_icmp .eq 27, 3)) (by decide) (fun c => (?_ : XW _ _ _ _ _ _ _ 54 _ _)) (fun c => (?_ : XW _ _ _ _ _ _ _ 30 _ _))
          · replace vc := vc.1 c
            refine xi_iconst (v := 1) (by decide +kernel : decode mX11_isMark.2.1 54 = .ok (.iconst 1, 1)) (by decide) (?_ : XW _ _ _ _ _ _ _ 55 _ _)
            refine xi_goto (by decide +kernel : decode mX11_isMark.2.1 55 = .ok (.goto 4, 3)) (by decide) (?_ : XW _ _ _ _ _ _ _ 59 _ _)
            exact xi_iret (by decide +kernel : decode mX11_isMark.2.1 59 = .ok (.ireturn, 1)) rfl rfl vc
          · replace vc := vc.2 c
            refine xi_iload_n (by decide +kernel : decode mX11_isMark.2.1 30 = .ok (.iload_n 0, 1)) rfl rfl (?_ : XW _ _ _ _ _ _ _ 31 _ _)
            refine xi_bipush (v := 42) (by decide +kernel : decode mX11_isMark.2.1 31 = .ok (.bipush 42, 2)) (by decide) (?_ : XW _ _ _ _ _ _ _ 33 _ _)
            refine xi_icmp_eq (by decide +kernel : decode mX11_isMark.2.1 33 = .ok (.if_icmp .eq 21, 3)) (by decide) (fun c => (?_ : XW _ _ _ _ _ _ _ 54 _ _)) (fun c => (?_ : XW _ _ _ _ _ _ _ 36 _ _))
            · replace vc := vc.1 c
              refine xi_iconst (v := 1) (by decide +kernel : decode mX11_isMark.2.1 54 = .ok (.iconst 1, 1)) (by decide) (?_ : XW _ _ _ _ _ _ _ 55 _ _)
              refine xi_goto (by decide +kernel : decode mX11_isMark.2.1 55 = .ok (.goto 4, 3)) (by decide) (?_ : XW _ _ _ _ _ _ _ 59 _ _)
              exact xi_iret (by decide +kernel : decode mX11_isMark.2.1 59 = .ok (.ireturn, 1)) rfl rfl vc
            · replace vc := vc.2 c
              refine xi_iload_n (by decide +kernel : decode mX11_isMark.2.1 36 = .ok (.iload_n 0, 1)) rfl rfl (?_ : XW _ _ _ _ _ _ _ 37 _ _)
              refine xi_bipush (v := 47) (by decide +kernel : decode mX11_isMark.2.1 37 = .ok (.bipush 47, 2)) (by decide) (?_ : XW _ _ _ _ _ _ _ 39 _ _)
              refine xi_icmp_eq (by decide +kernel : decode mX11_isMark.2.1 39 = .ok (.if_icmp .eq 15, 3)) (by decide) (fun c => (?_ : XW _ _ _ _ _ _ _ 54 _ _)) (fun c => (?_ : XW _ _ _ _ _ _ _ 42 _ _))
              · replace vc := vc.1 c
                refine xi_iconst (v := 1) (by decide +kernel : decode mX11_isMark.2.1 54 = .ok (.iconst 1, 1)) (by decide) (?_ : XW _ _ _ _ _ _ _ 55 _ _)
                refine xi_goto (by decide +kernel : decode mX11_isMark.2.1 55 = .ok (.goto 4, 3)) (by decide) (?_ : XW _ _ _ _ _ _ _ 59 _ _)
                exact xi_iret (by decide +kernel : decode mX11_isMark.2.1 59 = .ok (.ireturn, 1)) rfl rfl vc
              · replace vc := vc.2 c
                refine xi_iload_n (by decide +kernel : decode mX11_isMark.2.1 42 = .ok (.iload_n 0, 1)) rfl rfl (?_ : XW _ _ _ _ _ _ _ 43 _ _)
                refine xi_bipush (v := 60) (by decide +kernel : decode mX11_isMark.2.1 43 = .ok (.bipush 60, 2)) (by decide) (?_ : XW _ _ _ _ _ _ _ 45 _ _)
                refine xi_icmp_eq (by decide +kernel : decode mX11_isMark.2.1 45 = .ok (.if_icmp .eq 9, 3)) (by decide) (fun c => (?_ : XW _ _ _ _ _ _ _ 54 _ _)) (fun c => (?_ : XW _ _ _ _ _ _ _ 48 _ _))
                · replace vc := vc.1 c
                  refine xi_iconst (v := 1) (by decide +kernel : decode mX11_isMark.2.1 54 = .ok (.iconst 1, 1)) (by decide) (?_ : XW _ _ _ _ _ _ _ 55 _ _)
                  refine xi_goto (by decide +kernel : decode mX11_isMark.2.1 55 = .ok (.goto 4, 3)) (by decide) (?_ : XW _ _ _ _ _ _ _ 59 _ _)
                  exact xi_iret (by decide +kernel : decode mX11_isMark.2.1 59 = .ok (.ireturn, 1)) rfl rfl vc
                · replace vc := vc.2 c
                  refine xi_iload_n (by decide +kernel : decode mX11_isMark.2.1 48 = .ok (.iload_n 0, 1)) rfl rfl (?_ : XW _ _ _ _ _ _ _ 49 _ _)
                  refine xi_bipush (v := 61) (by decide +kernel : decode mX11_isMark.2.1 49 = .ok (.bipush 61, 2)) (by decide) (?_ : XW _ _ _ _ _ _ _ 51 _ _)
                  refine xi_icmp_ne (by decide +kernel : decode mX11_isMark.2.1 51 = .ok (.if_icmp .ne 7, 3)) (by decide) (fun c => (?_ : XW _ _ _ _ _ _ _ 58 _ _)) (fun c => (?_ : XW _ _ _ _ _ _ _ 54 _ _))
                  · replace vc := vc.1 c
                    refine xi_iconst (v := 0) (by decide +kernel : decode mX11_isMark.2.1 58 = .ok (.iconst 0, 1)) (by decide) (?_ : XW _ _ _ _ _ _ _ 59 _ _)
                    exact xi_iret (by decide +kernel : decode mX11_isMark.2.1 59 = .ok (.ireturn, 1)) rfl rfl vc
                  · replace vc := vc.2 c
                    refine xi_iconst (v := 1) (by decide +kernel : decode mX11_isMark.2.1 54 = .ok (.iconst 1, 1)) (by decide) (?_ : XW _ _ _ _ _ _ _ 55 _ _)
                    refine xi_goto (by decide +kernel : decode mX11_isMark.2.1 55 = .ok (.goto 4, 3)) (by decide) (?_ : XW _ _ _ _ _ _ _ 59 _ _)
                    exact xi_iret (by decide +kernel : decode mX11_isMark.2.1 59 = .ok (.ireturn, 1)) rfl rfl vc

set_option maxRecDepth 20000 in
theorem v_X11_isInWord_0 {h : XH} {Q : Option Value → XH → Prop} {X : String → XH → Prop}  (cx : Int32)
    (vc : ∃ Q1, XSpec mX11_isLetter 1 0 0 100 100 [.int cx] h Q1 xno ∧ ∀ v h1, Q1 v h1 → ∃ r1 : Int32, v = some (.int r1) ∧ ((¬ r1 = 0 → Q (some (.int 1)) h1) ∧ (r1 = 0 → ∃ Q1, XSpec mX11_isDigit 1 0 0 100 100 [.int cx] h1 Q1 xno ∧ ∀ v h2, Q1 v h2 → ∃ r2 : Int32, v = some (.int r2) ∧ ((r2 = 0 → Q (some (.int 0)) h2) ∧ (¬ r2 = 0 → Q (some (.int 1)) h2))))) :
    XW (xrm 2 0 0) mX11_isInWord (xE 100 Q X 0 0) 100 0 0 h 0 [some (.int cx)] [] := by
  refine xi_iload_n (by decide +kernel : decode mX11_isInWord.2.1 0 = .ok (.iload_n 0, 1)) rfl rfl (?_ : XW _ _ _ _ _ _ _ 1 _ _)
  obtain ⟨Q1, sp, vc⟩ := vc
  refine xi_callS (b := 0) (bs := 0) (As := [.int cx]) (st := []) (by decide +kernel : decode mX11_isInWord.2.1 1 = .ok (.invokestatic 188, 3)) kX11_188 rfl rfl sp (by decide) (by decide) (Nat.le_of_ble_eq_true rfl) (by omega) (fun v9 h1 hq9 => ?_)
  obtain ⟨r1, e9, vc⟩ := vc v9 h1 hq9
  subst e9
  show XW _ _ _ _ _ _ _ 4 _ [.int r1]
  refine xi_if_ne (by decide +kernel : decode mX11_isInWord.2.1 4 = .ok (.ifCond .ne 10, 3)) (by decide) (fun c => (?_ : XW _ _ _ _ _ _ _ 14 _ _)) (fun c => (?_ : XW _ _ _ _ _ _ _ 7 _ _))
  · replace vc := vc.1 c
    refine xi_iconst (v := 1) (by decide +kernel : decode mX11_isInWord.2.1 14 = .ok (.iconst 1, 1)) (by decide) (?_ : XW _ _ _ _ _ _ _ 15 _ _)
    refine xi_goto (by decide +kernel : decode mX11_isInWord.2.1 15 = .ok (.goto 4, 3)) (by decide) (?_ : XW _ _ _ _ _ _ _ 19 _ _)
    exact xi_iret (by decide +kernel : decode mX11_isInWord.2.1 19 = .ok (.ireturn, 1)) rfl rfl vc
  · replace vc := vc.2 c
    refine xi_iload_n (by decide +kernel : decode mX11_isInWord.2.1 7 = .ok (.iload_n 0, 1)) rfl rfl (?_ : XW _ _ _ _ _ _ _ 8 _ _)
    obtain ⟨Q1, sp, vc⟩ := vc
    refine xi_callS (b := 0) (bs := 0) (As := [.int cx]) (st := []) (by decide +kernel : decode mX11_isInWord.2.1 8 = .ok (.invokestatic 192, 3)) kX11_192 rfl rfl sp (by decide) (by decide) (Nat.le_of_ble_eq_true rfl) (by omega) (fun v9 h2 hq9 => ?_)
    obtain ⟨r2, e9, vc⟩ := vc v9 h2 hq9
    subst e9
    show XW _ _ _ _ _ _ _ 11 _ [.int r2]
    refine xi_if_eq (by decide +kernel : decode mX11_isInWord.2.1 11 = .ok (.ifCond .eq 7, 3)) (by decide) (fun c => (?_ : XW _ _ _ _ _ _ _ 18 _ _)) (fun c => (?_ : XW _ _ _ _ _ _ _ 14 _ _))
    · replace vc := vc.1 c
      refine xi_iconst (v := 0) (by decide +kernel : decode mX11_isInWord.2.1 18 = .ok (.iconst 0, 1)) (by decide) (?_ : XW _ _ _ _ _ _ _ 19 _ _)
      exact xi_iret (by decide +kernel : decode mX11_isInWord.2.1 19 = .ok (.ireturn, 1)) rfl rfl vc
    · replace vc := vc.2 c
      refine xi_iconst (v := 1) (by decide +kernel : decode mX11_isInWord.2.1 14 = .ok (.iconst 1, 1)) (by decide) (?_ : XW _ _ _ _ _ _ _ 15 _ _)
      refine xi_goto (by decide +kernel : decode mX11_isInWord.2.1 15 = .ok (.goto 4, 3)) (by decide) (?_ : XW _ _ _ _ _ _ _ 19 _ _)
      exact xi_iret (by decide +kernel : decode mX11_isInWord.2.1 19 = .ok (.ireturn, 1)) rfl rfl vc

set_option maxRecDepth 20000 in
theorem v_X11_byteAt_0 {h : XH} {Q : Option Value → XH → Prop} {X : String → XH → Prop} (hM : xMod (xP h))  (k : Int32)
    (vc : ((xI h 56 13) ≤ k → Q (some (.int (-1))) h) ∧ (¬ (xI h 56 13) ≤ k → (vp_in k 500) ∧ (Q (some (.int (xI h 66 k.toNatClampNeg))) h))) :
    XW (xrm 1 0 0) mX11_byteAt (xE 100 Q X 0 0) 100 0 0 h 0 [some (.ref 56), some (.int k)] [] := by
  refine xi_iload_n (by decide +kernel : decode mX11_byteAt.2.1 0 = .ok (.iload_n 1, 1)) rfl rfl (?_ : XW _ _ _ _ _ _ _ 1 _ _)
  refine xi_aload_n (by decide +kernel : decode mX11_byteAt.2.1 1 = .ok (.aload_n 0, 1)) rfl rfl (?_ : XW _ _ _ _ _ _ _ 2 _ _)
  refine xi_getI (by decide +kernel : decode mX11_byteAt.2.1 2 = .ok (.getfield 173, 3)) fX11_173 rfl (by omega) rfl (?_ : XW _ _ _ _ _ _ _ 5 _ _)
  refine xi_icmp_ge (by decide +kernel : decode mX11_byteAt.2.1 5 = .ok (.if_icmp .ge 12, 3)) (by decide) (fun c => (?_ : XW _ _ _ _ _ _ _ 17 _ _)) (fun c => (?_ : XW _ _ _ _ _ _ _ 8 _ _))
  · replace vc := vc.1 c
    refine xi_iconst (v := (-1)) (by decide +kernel : decode mX11_byteAt.2.1 17 = .ok (.iconst (-1), 1)) (by decide) (?_ : XW _ _ _ _ _ _ _ 18 _ _)
    exact xi_iret (by decide +kernel : decode mX11_byteAt.2.1 18 = .ok (.ireturn, 1)) rfl rfl vc
  · replace vc := vc.2 c
    refine xi_aload_n (by decide +kernel : decode mX11_byteAt.2.1 8 = .ok (.aload_n 0, 1)) rfl rfl (?_ : XW _ _ _ _ _ _ _ 9 _ _)
    refine xi_getR (y := 66) (by decide +kernel : decode mX11_byteAt.2.1 9 = .ok (.getfield 54, 3)) fX11_54 rfl (by omega) rfl (mp_tape hM) (?_ : XW _ _ _ _ _ _ _ 12 _ _)
    refine xi_iload_n (by decide +kernel : decode mX11_byteAt.2.1 12 = .ok (.iload_n 1, 1)) rfl rfl (?_ : XW _ _ _ _ _ _ _ 13 _ _)
    obtain ⟨s1, vc⟩ := vc
    refine xi_iald (by decide +kernel : decode mX11_byteAt.2.1 13 = .ok (.iaload, 1)) rfl (by omega) s1 (?_ : XW _ _ _ _ _ _ _ 14 _ _)
    refine xi_goto (by decide +kernel : decode mX11_byteAt.2.1 14 = .ok (.goto 4, 3)) (by decide) (?_ : XW _ _ _ _ _ _ _ 18 _ _)
    exact xi_iret (by decide +kernel : decode mX11_byteAt.2.1 18 = .ok (.ireturn, 1)) rfl rfl vc

set_option maxRecDepth 20000 in
theorem v_X11_stepOn_0 {h : XH} {Q : Option Value → XH → Prop} {X : String → XH → Prop} (hM : xMod (xP h)) 
    (vc : ∃ Q1, XSpec mX11_byteAt 1 0 0 100 100 [.ref 56, .int (xI h 56 12)] h Q1 xno ∧ ∀ v h1, Q1 v h1 → ∃ r1 : Int32, v = some (.int r1) ∧ ((r1 = 32 → XW (xrm 2 0 0) mX11_stepOn (xE 100 Q X 0 0) 100 0 0 (xSI 56 (va_up (xI h1 56) 12 ((xI h1 56 12) + 1)) h1) 0 [some (.ref 56), none] []) ∧ (¬ r1 = 32 → ∃ Q1, XSpec mX11_byteAt 1 0 0 100 100 [.ref 56, .int (xI h1 56 12)] h1 Q1 xno ∧ ∀ v h2, Q1 v h2 → ∃ r2 : Int32, v = some (.int r2) ∧ ((¬ r2 = 10 → XW (xrm 2 0 0) mX11_stepOn (xE 100 Q X 0 0) 100 0 0 h2 39 [some (.ref 56), none] []) ∧ (r2 = 10 → XW (xrm 2 0 0) mX11_stepOn (xE 100 Q X 0 0) 100 0 0 (xSI 56 (va_up (xI h2 56) 12 ((xI h2 56 12) + 1)) h2) 0 [some (.ref 56), none] []))))) :
    XW (xrm 2 0 0) mX11_stepOn (xE 100 Q X 0 0) 100 0 0 h 0 [some (.ref 56), none] [] := by
  refine xi_aload_n (by decide +kernel : decode mX11_stepOn.2.1 0 = .ok (.aload_n 0, 1)) rfl rfl (?_ : XW _ _ _ _ _ _ _ 1 _ _)
  refine xi_aload_n (by decide +kernel : decode mX11_stepOn.2.1 1 = .ok (.aload_n 0, 1)) rfl rfl (?_ : XW _ _ _ _ _ _ _ 2 _ _)
  refine xi_getI (by decide +kernel : decode mX11_stepOn.2.1 2 = .ok (.getfield 176, 3)) fX11_176 rfl (by omega) rfl (?_ : XW _ _ _ _ _ _ _ 5 _ _)
  obtain ⟨Q1, sp, vc⟩ := vc
  refine xi_callV (b := 0) (bs := 0) (As := [.int (xI h 56 12)]) (st := []) (by decide +kernel : decode mX11_stepOn.2.1 5 = .ok (.invokevirtual 178, 3)) kX11_178 rfl rfl (by omega) rfl sp (by decide) (by decide) (Nat.le_of_ble_eq_true rfl) (by omega) (fun v9 h1 hq9 => ?_)
  obtain ⟨r1, e9, vc⟩ := vc v9 h1 hq9
  subst e9
  show XW _ _ _ _ _ _ _ 8 _ [.int r1]
  refine xi_bipush (v := 32) (by decide +kernel : decode mX11_stepOn.2.1 8 = .ok (.bipush 32, 2)) (by decide) (?_ : XW _ _ _ _ _ _ _ 10 _ _)
  refine xi_icmp_eq (by decide +kernel : decode mX11_stepOn.2.1 10 = .ok (.if_icmp .eq 16, 3)) (by decide) (fun c => (?_ : XW _ _ _ _ _ _ _ 26 _ _)) (fun c => (?_ : XW _ _ _ _ _ _ _ 13 _ _))
  · replace vc := vc.1 c
    refine xi_aload_n (by decide +kernel : decode mX11_stepOn.2.1 26 = .ok (.aload_n 0, 1)) rfl rfl (?_ : XW _ _ _ _ _ _ _ 27 _ _)
    refine xi_dup (by decide +kernel : decode mX11_stepOn.2.1 27 = .ok (.dup, 1)) rfl (?_ : XW _ _ _ _ _ _ _ 28 _ _)
    refine xi_getI (by decide +kernel : decode mX11_stepOn.2.1 28 = .ok (.getfield 176, 3)) fX11_176 rfl (by omega) rfl (?_ : XW _ _ _ _ _ _ _ 31 _ _)
    refine xi_iconst (v := 1) (by decide +kernel : decode mX11_stepOn.2.1 31 = .ok (.iconst 1, 1)) (by decide) (?_ : XW _ _ _ _ _ _ _ 32 _ _)
    refine xi_iadd (by decide +kernel : decode mX11_stepOn.2.1 32 = .ok (.iadd, 1)) (?_ : XW _ _ _ _ _ _ _ 33 _ _)
    refine xi_putI (by decide +kernel : decode mX11_stepOn.2.1 33 = .ok (.putfield 176, 3)) fX11_176 rfl (by omega) rfl rfl rfl (?_ : XW _ _ _ _ _ _ (xSI 56 (va_up (xI h1 56) 12 ((xI h1 56 12) + 1)) h1) 36 _ _)
    refine xi_goto (by decide +kernel : decode mX11_stepOn.2.1 36 = .ok (.goto (-36), 3)) (by decide) (?_ : XW _ _ _ _ _ _ _ 0 _ _)
    exact vc
  · replace vc := vc.2 c
    refine xi_aload_n (by decide +kernel : decode mX11_stepOn.2.1 13 = .ok (.aload_n 0, 1)) rfl rfl (?_ : XW _ _ _ _ _ _ _ 14 _ _)
    refine xi_aload_n (by decide +kernel : decode mX11_stepOn.2.1 14 = .ok (.aload_n 0, 1)) rfl rfl (?_ : XW _ _ _ _ _ _ _ 15 _ _)
    refine xi_getI (by decide +kernel : decode mX11_stepOn.2.1 15 = .ok (.getfield 176, 3)) fX11_176 rfl (by omega) rfl (?_ : XW _ _ _ _ _ _ _ 18 _ _)
    obtain ⟨Q1, sp, vc⟩ := vc
    refine xi_callV (b := 0) (bs := 0) (As := [.int (xI h1 56 12)]) (st := []) (by decide +kernel : decode mX11_stepOn.2.1 18 = .ok (.invokevirtual 178, 3)) kX11_178 rfl rfl (by omega) rfl sp (by decide) (by decide) (Nat.le_of_ble_eq_true rfl) (by omega) (fun v9 h2 hq9 => ?_)
    obtain ⟨r2, e9, vc⟩ := vc v9 h2 hq9
    subst e9
    show XW _ _ _ _ _ _ _ 21 _ [.int r2]
    refine xi_bipush (v := 10) (by decide +kernel : decode mX11_stepOn.2.1 21 = .ok (.bipush 10, 2)) (by decide) (?_ : XW _ _ _ _ _ _ _ 23 _ _)
    refine xi_icmp_ne (by decide +kernel : decode mX11_stepOn.2.1 23 = .ok (.if_icmp .ne 16, 3)) (by decide) (fun c => (?_ : XW _ _ _ _ _ _ _ 39 _ _)) (fun c => (?_ : XW _ _ _ _ _ _ _ 26 _ _))
    · replace vc := vc.1 c
      exact vc
    · replace vc := vc.2 c
      refine xi_aload_n (by decide +kernel : decode mX11_stepOn.2.1 26 = .ok (.aload_n 0, 1)) rfl rfl (?_ : XW _ _ _ _ _ _ _ 27 _ _)
      refine xi_dup (by decide +kernel : decode mX11_stepOn.2.1 27 = .ok (.dup, 1)) rfl (?_ : XW _ _ _ _ _ _ _ 28 _ _)
      refine xi_getI (by decide +kernel : decode mX11_stepOn.2.1 28 = .ok (.getfield 176, 3)) fX11_176 rfl (by omega) rfl (?_ : XW _ _ _ _ _ _ _ 31 _ _)
      refine xi_iconst (v := 1) (by decide +kernel : decode mX11_stepOn.2.1 31 = .ok (.iconst 1, 1)) (by decide) (?_ : XW _ _ _ _ _ _ _ 32 _ _)
      refine xi_iadd (by decide +kernel : decode mX11_stepOn.2.1 32 = .ok (.iadd, 1)) (?_ : XW _ _ _ _ _ _ _ 33 _ _)
      refine xi_putI (by decide +kernel : decode mX11_stepOn.2.1 33 = .ok (.putfield 176, 3)) fX11_176 rfl (by omega) rfl rfl rfl (?_ : XW _ _ _ _ _ _ (xSI 56 (va_up (xI h2 56) 12 ((xI h2 56 12) + 1)) h2) 36 _ _)
      refine xi_goto (by decide +kernel : decode mX11_stepOn.2.1 36 = .ok (.goto (-36), 3)) (by decide) (?_ : XW _ _ _ _ _ _ _ 0 _ _)
      exact vc

set_option maxRecDepth 20000 in
theorem v_X11_stepOn_39 {h : XH} {Q : Option Value → XH → Prop} {X : String → XH → Prop} (hM : xMod (xP h)) 
    (vc : ∃ Q1, XSpec mX11_byteAt 1 0 0 100 100 [.ref 56, .int (va_up (xI h 56) 16 (xI h 56 12) 12)] (xSI 56 (va_up (xI h 56) 16 (xI h 56 12)) h) Q1 xno ∧ ∀ v h3, Q1 v h3 → ∃ r3 : Int32, v = some (.int r3) ∧ ((¬ r3 = (-1) → ∃ Q1, XSpec mX11_isLetter 1 0 0 100 100 [.int r3] h3 Q1 xno ∧ ∀ v h4, Q1 v h4 → ∃ r4 : Int32, v = some (.int r4) ∧ ((r4 = 0 → ∃ Q1, XSpec mX11_isDigit 1 0 0 100 100 [.int r3] h4 Q1 xno ∧ ∀ v h5, Q1 v h5 → ∃ r5 : Int32, v = some (.int r5) ∧ ((r5 = 0 → ∃ Q1, XSpec mX11_isMark 1 0 0 100 100 [.int r3] (xSI 56 (va_up (xI h5 56) 12 ((xI h5 56 12) + 1)) h5) Q1 xno ∧ ∀ v h6, Q1 v h6 → ∃ r6 : Int32, v = some (.int r6) ∧ ((r6 = 0 → XW (xrm 2 0 0) mX11_stepOn (xE 100 Q X 0 0) 100 0 0 (xSI 56 (va_up (xI h6 56) 14 4) h6) 212 [some (.ref 56), none] []) ∧ (¬ r6 = 0 → XW (xrm 2 0 0) mX11_stepOn (xE 100 Q X 0 0) 100 0 0 (xSI 56 (va_up (xI h6 56) 14 3) h6) 212 [some (.ref 56), none] []))) ∧ (¬ r5 = 0 → XW (xrm 2 0 0) mX11_stepOn (xE 100 Q X 0 0) 100 0 0 (xSI 56 (va_up (xI h5 56) 15 0) h5) 123 [some (.ref 56), none] []))) ∧ (¬ r4 = 0 → XW (xrm 2 0 0) mX11_stepOn (xE 100 Q X 0 0) 100 0 0 h4 76 [some (.ref 56), none] []))) ∧ (r3 = (-1) → XW (xrm 2 0 0) mX11_stepOn (xE 100 Q X 0 0) 100 0 0 (xSI 56 (va_up (xI h3 56) 14 0) h3) 212 [some (.ref 56), none] []))) :
    XW (xrm 2 0 0) mX11_stepOn (xE 100 Q X 0 0) 100 0 0 h 39 [some (.ref 56), none] [] := by
  refine xi_aload_n (by decide +kernel : decode mX11_stepOn.2.1 39 = .ok (.aload_n 0, 1)) rfl rfl (?_ : XW _ _ _ _ _ _ _ 40 _ _)
  refine xi_aload_n (by decide +kernel : decode mX11_stepOn.2.1 40 = .ok (.aload_n 0, 1)) rfl rfl (?_ : XW _ _ _ _ _ _ _ 41 _ _)
  refine xi_getI (by decide +kernel : decode mX11_stepOn.2.1 41 = .ok (.getfield 176, 3)) fX11_176 rfl (by omega) rfl (?_ : XW _ _ _ _ _ _ _ 44 _ _)
  refine xi_putI (by decide +kernel : decode mX11_stepOn.2.1 44 = .ok (.putfield 182, 3)) fX11_182 rfl (by omega) rfl rfl rfl (?_ : XW _ _ _ _ _ _ (xSI 56 (va_up (xI h 56) 16 (xI h 56 12)) h) 47 _ _)
  refine xi_aload_n (by decide +kernel : decode mX11_stepOn.2.1 47 = .ok (.aload_n 0, 1)) rfl rfl (?_ : XW _ _ _ _ _ _ _ 48 _ _)
  refine xi_aload_n (by decide +kernel : decode mX11_stepOn.2.1 48 = .ok (.aload_n 0, 1)) rfl rfl (?_ : XW _ _ _ _ _ _ _ 49 _ _)
  refine xi_getI (by decide +kernel : decode mX11_stepOn.2.1 49 = .ok (.getfield 176, 3)) fX11_176 rfl (by omega) rfl (?_ : XW _ _ _ _ _ _ _ 52 _ [.int (va_up (xI h 56) 16 (xI h 56 12) 12), .ref 56])
  obtain ⟨Q1, sp, vc⟩ := vc
  refine xi_callV (b := 0) (bs := 0) (As := [.int (va_up (xI h 56) 16 (xI h 56 12) 12)]) (st := []) (by decide +kernel : decode mX11_stepOn.2.1 52 = .ok (.invokevirtual 178, 3)) kX11_178 rfl rfl (by omega) rfl sp (by decide) (by decide) (Nat.le_of_ble_eq_true rfl) (by omega) (fun v9 h3 hq9 => ?_)
  obtain ⟨r3, e9, vc⟩ := vc v9 h3 hq9
  subst e9
  show XW _ _ _ _ _ _ _ 55 _ [.int r3]
  refine xi_istore_n (ls' := [some (.ref 56), some (.int r3)]) (by decide +kernel : decode mX11_stepOn.2.1 55 = .ok (.istore_n 1, 1)) rfl (by decide) rfl (?_ : XW _ _ _ _ _ _ _ 56 _ _)
  refine xi_iload_n (by decide +kernel : decode mX11_stepOn.2.1 56 = .ok (.iload_n 1, 1)) rfl rfl (?_ : XW _ _ _ _ _ _ _ 57 _ _)
  refine xi_iconst (v := (-1)) (by decide +kernel : decode mX11_stepOn.2.1 57 = .ok (.iconst (-1), 1)) (by decide) (?_ : XW _ _ _ _ _ _ _ 58 _ _)
  refine xi_icmp_ne (by decide +kernel : decode mX11_stepOn.2.1 58 = .ok (.if_icmp .ne 11, 3)) (by decide) (fun c => (?_ : XW _ _ _ _ _ _ _ 69 _ _)) (fun c => (?_ : XW _ _ _ _ _ _ _ 61 _ _))
  · replace vc := vc.1 c
    refine xi_iload_n (by decide +kernel : decode mX11_stepOn.2.1 69 = .ok (.iload_n 1, 1)) rfl rfl (?_ : XW _ _ _ _ _ _ _ 70 _ _)
    obtain ⟨Q1, sp, vc⟩ := vc
    refine xi_callS (b := 0) (bs := 0) (As := [.int r3]) (st := []) (by decide +kernel : decode mX11_stepOn.2.1 70 = .ok (.invokestatic 188, 3)) kX11_188 rfl rfl sp (by decide) (by decide) (Nat.le_of_ble_eq_true rfl) (by omega) (fun v9 h4 hq9 => ?_)
    obtain ⟨r4, e9, vc⟩ := vc v9 h4 hq9
    subst e9
    show XW _ _ _ _ _ _ _ 73 _ [.int r4]
    refine xi_if_eq (by decide +kernel : decode mX11_stepOn.2.1 73 = .ok (.ifCond .eq 38, 3)) (by decide) (fun c => (?_ : XW _ _ _ _ _ _ _ 111 _ _)) (fun c => (?_ : XW _ _ _ _ _ _ _ 76 _ _))
    · replace vc := vc.1 c
      refine xi_iload_n (by decide +kernel : decode mX11_stepOn.2.1 111 = .ok (.iload_n 1, 1)) rfl rfl (?_ : XW _ _ _ _ _ _ _ 112 _ _)
      obtain ⟨Q1, sp, vc⟩ := vc
      refine xi_callS (b := 0) (bs := 0) (As := [.int r3]) (st := []) (by decide +kernel : decode mX11_stepOn.2.1 112 = .ok (.invokestatic 192, 3)) kX11_192 rfl rfl sp (by decide) (by decide) (Nat.le_of_ble_eq_true rfl) (by omega) (fun v9 h5 hq9 => ?_)
      obtain ⟨r5, e9, vc⟩ := vc v9 h5 hq9
      subst e9
      show XW _ _ _ _ _ _ _ 115 _ [.int r5]
      refine xi_if_eq (by decide +kernel : decode mX11_stepOn.2.1 115 = .ok (.ifCond .eq 71, 3)) (by decide) (fun c => (?_ : XW _ _ _ _ _ _ _ 186 _ _)) (fun c => (?_ : XW _ _ _ _ _ _ _ 118 _ _))
      · replace vc := vc.1 c
        refine xi_aload_n (by decide +kernel : decode mX11_stepOn.2.1 186 = .ok (.aload_n 0, 1)) rfl rfl (?_ : XW _ _ _ _ _ _ _ 187 _ _)
        refine xi_dup (by decide +kernel : decode mX11_stepOn.2.1 187 = .ok (.dup, 1)) rfl (?_ : XW _ _ _ _ _ _ _ 188 _ _)
        refine xi_getI (by decide +kernel : decode mX11_stepOn.2.1 188 = .ok (.getfield 176, 3)) fX11_176 rfl (by omega) rfl (?_ : XW _ _ _ _ _ _ _ 191 _ _)
        refine xi_iconst (v := 1) (by decide +kernel : decode mX11_stepOn.2.1 191 = .ok (.iconst 1, 1)) (by decide) (?_ : XW _ _ _ _ _ _ _ 192 _ _)
        refine xi_iadd (by decide +kernel : decode mX11_stepOn.2.1 192 = .ok (.iadd, 1)) (?_ : XW _ _ _ _ _ _ _ 193 _ _)
        refine xi_putI (by decide +kernel : decode mX11_stepOn.2.1 193 = .ok (.putfield 176, 3)) fX11_176 rfl (by omega) rfl rfl rfl (?_ : XW _ _ _ _ _ _ (xSI 56 (va_up (xI h5 56) 12 ((xI h5 56 12) + 1)) h5) 196 _ _)
        refine xi_aload_n (by decide +kernel : decode mX11_stepOn.2.1 196 = .ok (.aload_n 0, 1)) rfl rfl (?_ : XW _ _ _ _ _ _ _ 197 _ _)
        refine xi_iload_n (by decide +kernel : decode mX11_stepOn.2.1 197 = .ok (.iload_n 1, 1)) rfl rfl (?_ : XW _ _ _ _ _ _ _ 198 _ _)
        obtain ⟨Q1, sp, vc⟩ := vc
        refine xi_callS (b := 0) (bs := 0) (As := [.int r3]) (st := [.ref 56]) (by decide +kernel : decode mX11_stepOn.2.1 198 = .ok (.invokestatic 205, 3)) kX11_205 rfl rfl sp (by decide) (by decide) (Nat.le_of_ble_eq_true rfl) (by omega) (fun v9 h6 hq9 => ?_)
        obtain ⟨r6, e9, vc⟩ := vc v9 h6 hq9
        subst e9
        show XW _ _ _ _ _ _ _ 201 _ [.int r6, .ref 56]
        refine xi_if_eq (by decide +kernel : decode mX11_stepOn.2.1 201 = .ok (.ifCond .eq 7, 3)) (by decide) (fun c => (?_ : XW _ _ _ _ _ _ _ 208 _ _)) (fun c => (?_ : XW _ _ _ _ _ _ _ 204 _ _))
        · replace vc := vc.1 c
          refine xi_iconst (v := 4) (by decide +kernel : decode mX11_stepOn.2.1 208 = .ok (.iconst 4, 1)) (by decide) (?_ : XW _ _ _ _ _ _ _ 209 _ _)
          refine xi_putI (by decide +kernel : decode mX11_stepOn.2.1 209 = .ok (.putfield 185, 3)) fX11_185 rfl (by omega) rfl rfl rfl (?_ : XW _ _ _ _ _ _ (xSI 56 (va_up (xI h6 56) 14 4) h6) 212 _ _)
          refine xw_drop 1 (ls' := [some (.ref 56), none]) rfl ?_
          exact vc
        · replace vc := vc.2 c
          refine xi_iconst (v := 3) (by decide +kernel : decode mX11_stepOn.2.1 204 = .ok (.iconst 3, 1)) (by decide) (?_ : XW _ _ _ _ _ _ _ 205 _ _)
          refine xi_goto (by decide +kernel : decode mX11_stepOn.2.1 205 = .ok (.goto 4, 3)) (by decide) (?_ : XW _ _ _ _ _ _ _ 209 _ _)
          refine xi_putI (by decide +kernel : decode mX11_stepOn.2.1 209 = .ok (.putfield 185, 3)) fX11_185 rfl (by omega) rfl rfl rfl (?_ : XW _ _ _ _ _ _ (xSI 56 (va_up (xI h6 56) 14 3) h6) 212 _ _)
          refine xw_drop 1 (ls' := [some (.ref 56), none]) rfl ?_
          exact vc
      · replace vc := vc.2 c
        refine xi_aload_n (by decide +kernel : decode mX11_stepOn.2.1 118 = .ok (.aload_n 0, 1)) rfl rfl (?_ : XW _ _ _ _ _ _ _ 119 _ _)
        refine xi_iconst (v := 0) (by decide +kernel : decode mX11_stepOn.2.1 119 = .ok (.iconst 0, 1)) (by decide) (?_ : XW _ _ _ _ _ _ _ 120 _ _)
        refine xi_putI (by decide +kernel : decode mX11_stepOn.2.1 120 = .ok (.putfield 195, 3)) fX11_195 rfl (by omega) rfl rfl rfl (?_ : XW _ _ _ _ _ _ (xSI 56 (va_up (xI h5 56) 15 0) h5) 123 _ _)
        refine xw_drop 1 (ls' := [some (.ref 56), none]) rfl ?_
        exact vc
    · replace vc := vc.2 c
      refine xw_drop 1 (ls' := [some (.ref 56), none]) rfl ?_
      exact vc
  · replace vc := vc.2 c
    refine xi_aload_n (by decide +kernel : decode mX11_stepOn.2.1 61 = .ok (.aload_n 0, 1)) rfl rfl (?_ : XW _ _ _ _ _ _ _ 62 _ _)
    refine xi_iconst (v := 0) (by decide +kernel : decode mX11_stepOn.2.1 62 = .ok (.iconst 0, 1)) (by decide) (?_ : XW _ _ _ _ _ _ _ 63 _ _)
    refine xi_putI (by decide +kernel : decode mX11_stepOn.2.1 63 = .ok (.putfield 185, 3)) fX11_185 rfl (by omega) rfl rfl rfl (?_ : XW _ _ _ _ _ _ (xSI 56 (va_up (xI h3 56) 14 0) h3) 66 _ _)
    refine xi_goto (by decide +kernel : decode mX11_stepOn.2.1 66 = .ok (.goto 146, 3)) (by decide) (?_ : XW _ _ _ _ _ _ _ 212 _ _)
    refine xw_drop 1 (ls' := [some (.ref 56), none]) rfl ?_
    exact vc

set_option maxRecDepth 20000 in
theorem v_X11_stepOn_212 {h : XH} {Q : Option Value → XH → Prop} {X : String → XH → Prop} (hM : xMod (xP h)) 
    (vc : Q none (xSI 56 (va_up (xI h 56) 17 (xI h 56 12)) h)) :
    XW (xrm 2 0 0) mX11_stepOn (xE 100 Q X 0 0) 100 0 0 h 212 [some (.ref 56), none] [] := by
  refine xi_aload_n (by decide +kernel : decode mX11_stepOn.2.1 212 = .ok (.aload_n 0, 1)) rfl rfl (?_ : XW _ _ _ _ _ _ _ 213 _ _)
  refine xi_aload_n (by decide +kernel : decode mX11_stepOn.2.1 213 = .ok (.aload_n 0, 1)) rfl rfl (?_ : XW _ _ _ _ _ _ _ 214 _ _)
  refine xi_getI (by decide +kernel : decode mX11_stepOn.2.1 214 = .ok (.getfield 176, 3)) fX11_176 rfl (by omega) rfl (?_ : XW _ _ _ _ _ _ _ 217 _ _)
  refine xi_putI (by decide +kernel : decode mX11_stepOn.2.1 217 = .ok (.putfield 208, 3)) fX11_208 rfl (by omega) rfl rfl rfl (?_ : XW _ _ _ _ _ _ (xSI 56 (va_up (xI h 56) 17 (xI h 56 12)) h) 220 _ _)
  exact xi_vret (by decide +kernel : decode mX11_stepOn.2.1 220 = .ok (.return_, 1)) rfl vc

set_option maxRecDepth 20000 in
theorem v_X11_stepOn_123 {h : XH} {Q : Option Value → XH → Prop} {X : String → XH → Prop} (hM : xMod (xP h)) 
    (vc : ∃ Q1, XSpec mX11_byteAt 1 0 0 100 100 [.ref 56, .int (xI h 56 12)] h Q1 xno ∧ ∀ v h7, Q1 v h7 → ∃ r7 : Int32, v = some (.int r7) ∧ (∃ Q1, XSpec mX11_isDigit 1 0 0 100 100 [.int r7] h7 Q1 xno ∧ ∀ v h8, Q1 v h8 → ∃ r8 : Int32, v = some (.int r8) ∧ ((r8 = 0 → XW (xrm 2 0 0) mX11_stepOn (xE 100 Q X 0 0) 100 0 0 (xSI 56 (va_up (xI h8 56) 14 2) h8) 212 [some (.ref 56), none] []) ∧ (¬ r8 = 0 → ∃ Q1, XSpec mX11_byteAt 1 0 0 100 100 [.ref 56, .int (xI h8 56 12)] h8 Q1 xno ∧ ∀ v h9, Q1 v h9 → ∃ r9 : Int32, v = some (.int r9) ∧ (XW (xrm 2 0 0) mX11_stepOn (xE 100 Q X 0 0) 100 0 0 (xSI 56 (va_up (va_up (xI h9 56) 15 (if (((10 * (xI h8 56 15)) + r9) - 48) < 100000 then (((10 * (xI h8 56 15)) + r9) - 48) else 100000)) 12 ((va_up (xI h9 56) 15 (if (((10 * (xI h8 56 15)) + r9) - 48) < 100000 then (((10 * (xI h8 56 15)) + r9) - 48) else 100000) 12) + 1)) (xSI 56 (va_up (xI h9 56) 15 (if (((10 * (xI h8 56 15)) + r9) - 48) < 100000 then (((10 * (xI h8 56 15)) + r9) - 48) else 100000)) h9)) 123 [some (.ref 56), none] []))))) :
    XW (xrm 2 0 0) mX11_stepOn (xE 100 Q X 0 0) 100 0 0 h 123 [some (.ref 56), none] [] := by
  refine xi_aload_n (by decide +kernel : decode mX11_stepOn.2.1 123 = .ok (.aload_n 0, 1)) rfl rfl (?_ : XW _ _ _ _ _ _ _ 124 _ _)
  refine xi_aload_n (by decide +kernel : decode mX11_stepOn.2.1 124 = .ok (.aload_n 0, 1)) rfl rfl (?_ : XW _ _ _ _ _ _ _ 125 _ _)
  refine xi_getI (by decide +kernel : decode mX11_stepOn.2.1 125 = .ok (.getfield 176, 3)) fX11_176 rfl (by omega) rfl (?_ : XW _ _ _ _ _ _ _ 128 _ _)
  obtain ⟨Q1, sp, vc⟩ := vc
  refine xi_callV (b := 0) (bs := 0) (As := [.int (xI h 56 12)]) (st := []) (by decide +kernel : decode mX11_stepOn.2.1 128 = .ok (.invokevirtual 178, 3)) kX11_178 rfl rfl (by omega) rfl sp (by decide) (by decide) (Nat.le_of_ble_eq_true rfl) (by omega) (fun v9 h7 hq9 => ?_)
  obtain ⟨r7, e9, vc⟩ := vc v9 h7 hq9
  subst e9
  show XW _ _ _ _ _ _ _ 131 _ [.int r7]
  obtain ⟨Q1, sp, vc⟩ := vc
  refine xi_callS (b := 0) (bs := 0) (As := [.int r7]) (st := []) (by decide +kernel : decode mX11_stepOn.2.1 131 = .ok (.invokestatic 192, 3)) kX11_192 rfl rfl sp (by decide) (by decide) (Nat.le_of_ble_eq_true rfl) (by omega) (fun v9 h8 hq9 => ?_)
  obtain ⟨r8, e9, vc⟩ := vc v9 h8 hq9
  subst e9
  show XW _ _ _ _ _ _ _ 134 _ [.int r8]
  refine xi_if_eq (by decide +kernel : decode mX11_stepOn.2.1 134 = .ok (.ifCond .eq 44, 3)) (by decide) (fun c => (?_ : XW _ _ _ _ _ _ _ 178 _ _)) (fun c => (?_ : XW _ _ _ _ _ _ _ 137 _ _))
  · replace vc := vc.1 c
    refine xi_aload_n (by decide +kernel : decode mX11_stepOn.2.1 178 = .ok (.aload_n 0, 1)) rfl rfl (?_ : XW _ _ _ _ _ _ _ 179 _ _)
    refine xi_iconst (v := 2) (by decide +kernel : decode mX11_stepOn.2.1 179 = .ok (.iconst 2, 1)) (by decide) (?_ : XW _ _ _ _ _ _ _ 180 _ _)
    refine xi_putI (by decide +kernel : decode mX11_stepOn.2.1 180 = .ok (.putfield 185, 3)) fX11_185 rfl (by omega) rfl rfl rfl (?_ : XW _ _ _ _ _ _ (xSI 56 (va_up (xI h8 56) 14 2) h8) 183 _ _)
    refine xi_goto (by decide +kernel : decode mX11_stepOn.2.1 183 = .ok (.goto 29, 3)) (by decide) (?_ : XW _ _ _ _ _ _ _ 212 _ _)
    exact vc
  · replace vc := vc.2 c
    refine xi_aload_n (by decide +kernel : decode mX11_stepOn.2.1 137 = .ok (.aload_n 0, 1)) rfl rfl (?_ : XW _ _ _ _ _ _ _ 138 _ _)
    refine xi_ldc (v := 100000) (by decide +kernel : decode mX11_stepOn.2.1 138 = .ok (.ldc 198, 2)) cK_X11_198 (?_ : XW _ _ _ _ _ _ _ 140 _ _)
    refine xi_bipush (v := 10) (by decide +kernel : decode mX11_stepOn.2.1 140 = .ok (.bipush 10, 2)) (by decide) (?_ : XW _ _ _ _ _ _ _ 142 _ _)
    refine xi_aload_n (by decide +kernel : decode mX11_stepOn.2.1 142 = .ok (.aload_n 0, 1)) rfl rfl (?_ : XW _ _ _ _ _ _ _ 143 _ _)
    refine xi_getI (by decide +kernel : decode mX11_stepOn.2.1 143 = .ok (.getfield 195, 3)) fX11_195 rfl (by omega) rfl (?_ : XW _ _ _ _ _ _ _ 146 _ _)
    refine xi_imul (by decide +kernel : decode mX11_stepOn.2.1 146 = .ok (.imul, 1)) (?_ : XW _ _ _ _ _ _ _ 147 _ _)
    refine xi_aload_n (by decide +kernel : decode mX11_stepOn.2.1 147 = .ok (.aload_n 0, 1)) rfl rfl (?_ : XW _ _ _ _ _ _ _ 148 _ _)
    refine xi_aload_n (by decide +kernel : decode mX11_stepOn.2.1 148 = .ok (.aload_n 0, 1)) rfl rfl (?_ : XW _ _ _ _ _ _ _ 149 _ _)
    refine xi_getI (by decide +kernel : decode mX11_stepOn.2.1 149 = .ok (.getfield 176, 3)) fX11_176 rfl (by omega) rfl (?_ : XW _ _ _ _ _ _ _ 152 _ _)
    obtain ⟨Q1, sp, vc⟩ := vc
    refine xi_callV (b := 0) (bs := 0) (As := [.int (xI h8 56 12)]) (st := [.int (10 * (xI h8 56 15)), .int 100000, .ref 56]) (by decide +kernel : decode mX11_stepOn.2.1 152 = .ok (.invokevirtual 178, 3)) kX11_178 rfl rfl (by omega) rfl sp (by decide) (by decide) (Nat.le_of_ble_eq_true rfl) (by omega) (fun v9 h9 hq9 => ?_)
    obtain ⟨r9, e9, vc⟩ := vc v9 h9 hq9
    subst e9
    show XW _ _ _ _ _ _ _ 155 _ [.int r9, .int (10 * (xI h8 56 15)), .int 100000, .ref 56]
    refine xi_iadd (by decide +kernel : decode mX11_stepOn.2.1 155 = .ok (.iadd, 1)) (?_ : XW _ _ _ _ _ _ _ 156 _ _)
    refine xi_bipush (v := 48) (by decide +kernel : decode mX11_stepOn.2.1 156 = .ok (.bipush 48, 2)) (by decide) (?_ : XW _ _ _ _ _ _ _ 158 _ _)
    refine xi_isub (by decide +kernel : decode mX11_stepOn.2.1 158 = .ok (.isub, 1)) (?_ : XW _ _ _ _ _ _ _ 159 _ _)
    refine xi_mmin (by decide +kernel : decode mX11_stepOn.2.1 159 = .ok (.invokestatic 199, 3)) kX11_199.2.1 (by decide) (Nat.le_of_ble_eq_true rfl) (?_ : XW _ _ _ _ _ _ _ 162 _ _)
    refine xi_putI (by decide +kernel : decode mX11_stepOn.2.1 162 = .ok (.putfield 195, 3)) fX11_195 rfl (by omega) rfl rfl rfl (?_ : XW _ _ _ _ _ _ (xSI 56 (va_up (xI h9 56) 15 (if (((10 * (xI h8 56 15)) + r9) - 48) < 100000 then (((10 * (xI h8 56 15)) + r9) - 48) else 100000)) h9) 165 _ _)
    refine xi_aload_n (by decide +kernel : decode mX11_stepOn.2.1 165 = .ok (.aload_n 0, 1)) rfl rfl (?_ : XW _ _ _ _ _ _ _ 166 _ _)
    refine xi_dup (by decide +kernel : decode mX11_stepOn.2.1 166 = .ok (.dup, 1)) rfl (?_ : XW _ _ _ _ _ _ _ 167 _ _)
    refine xi_getI (by decide +kernel : decode mX11_stepOn.2.1 167 = .ok (.getfield 176, 3)) fX11_176 rfl (by omega) rfl (?_ : XW _ _ _ _ _ _ _ 170 _ [.int (va_up (xI h9 56) 15 (if (((10 * (xI h8 56 15)) + r9) - 48) < 100000 then (((10 * (xI h8 56 15)) + r9) - 48) else 100000) 12), .ref 56])
    refine xi_iconst (v := 1) (by decide +kernel : decode mX11_stepOn.2.1 170 = .ok (.iconst 1, 1)) (by decide) (?_ : XW _ _ _ _ _ _ _ 171 _ _)
    refine xi_iadd (by decide +kernel : decode mX11_stepOn.2.1 171 = .ok (.iadd, 1)) (?_ : XW _ _ _ _ _ _ _ 172 _ _)
    refine xi_putI (by decide +kernel : decode mX11_stepOn.2.1 172 = .ok (.putfield 176, 3)) fX11_176 rfl (by omega) rfl rfl rfl (?_ : XW _ _ _ _ _ _ (xSI 56 (va_up (va_up (xI h9 56) 15 (if (((10 * (xI h8 56 15)) + r9) - 48) < 100000 then (((10 * (xI h8 56 15)) + r9) - 48) else 100000)) 12 ((va_up (xI h9 56) 15 (if (((10 * (xI h8 56 15)) + r9) - 48) < 100000 then (((10 * (xI h8 56 15)) + r9) - 48) else 100000) 12) + 1)) (xSI 56 (va_up (xI h9 56) 15 (if (((10 * (xI h8 56 15)) + r9) - 48) < 100000 then (((10 * (xI h8 56 15)) + r9) - 48) else 100000)) h9)) 175 _ _)
    refine xi_goto (by decide +kernel : decode mX11_stepOn.2.1 175 = .ok (.goto (-52), 3)) (by decide) (?_ : XW _ _ _ _ _ _ _ 123 _ _)
    exact vc

set_option maxRecDepth 20000 in
theorem v_X11_stepOn_76 {h : XH} {Q : Option Value → XH → Prop} {X : String → XH → Prop} (hM : xMod (xP h)) 
    (vc : ∃ Q1, XSpec mX11_byteAt 1 0 0 100 100 [.ref 56, .int (xI h 56 12)] h Q1 xno ∧ ∀ v h10, Q1 v h10 → ∃ r10 : Int32, v = some (.int r10) ∧ (∃ Q1, XSpec mX11_isLetter 1 0 0 100 100 [.int r10] h10 Q1 xno ∧ ∀ v h11, Q1 v h11 → ∃ r11 : Int32, v = some (.int r11) ∧ ((r11 = 0 → XW (xrm 2 0 0) mX11_stepOn (xE 100 Q X 0 0) 100 0 0 (xSI 56 (va_up (xI h11 56) 14 1) h11) 212 [some (.ref 56), none] []) ∧ (¬ r11 = 0 → XW (xrm 2 0 0) mX11_stepOn (xE 100 Q X 0 0) 100 0 0 (xSI 56 (va_up (xI h11 56) 12 ((xI h11 56 12) + 1)) h11) 76 [some (.ref 56), none] [])))) :
    XW (xrm 2 0 0) mX11_stepOn (xE 100 Q X 0 0) 100 0 0 h 76 [some (.ref 56), none] [] := by
  refine xi_aload_n (by decide +kernel : decode mX11_stepOn.2.1 76 = .ok (.aload_n 0, 1)) rfl rfl (?_ : XW _ _ _ _ _ _ _ 77 _ _)
  refine xi_aload_n (by decide +kernel : decode mX11_stepOn.2.1 77 = .ok (.aload_n 0, 1)) rfl rfl (?_ : XW _ _ _ _ _ _ _ 78 _ _)
  refine xi_getI (by decide +kernel : decode mX11_stepOn.2.1 78 = .ok (.getfield 176, 3)) fX11_176 rfl (by omega) rfl (?_ : XW _ _ _ _ _ _ _ 81 _ _)
  obtain ⟨Q1, sp, vc⟩ := vc
  refine xi_callV (b := 0) (bs := 0) (As := [.int (xI h 56 12)]) (st := []) (by decide +kernel : decode mX11_stepOn.2.1 81 = .ok (.invokevirtual 178, 3)) kX11_178 rfl rfl (by omega) rfl sp (by decide) (by decide) (Nat.le_of_ble_eq_true rfl) (by omega) (fun v9 h10 hq9 => ?_)
  obtain ⟨r10, e9, vc⟩ := vc v9 h10 hq9
  subst e9
  show XW _ _ _ _ _ _ _ 84 _ [.int r10]
  obtain ⟨Q1, sp, vc⟩ := vc
  refine xi_callS (b := 0) (bs := 0) (As := [.int r10]) (st := []) (by decide +kernel : decode mX11_stepOn.2.1 84 = .ok (.invokestatic 188, 3)) kX11_188 rfl rfl sp (by decide) (by decide) (Nat.le_of_ble_eq_true rfl) (by omega) (fun v9 h11 hq9 => ?_)
  obtain ⟨r11, e9, vc⟩ := vc v9 h11 hq9
  subst e9
  show XW _ _ _ _ _ _ _ 87 _ [.int r11]
  refine xi_if_eq (by decide +kernel : decode mX11_stepOn.2.1 87 = .ok (.ifCond .eq 16, 3)) (by decide) (fun c => (?_ : XW _ _ _ _ _ _ _ 103 _ _)) (fun c => (?_ : XW _ _ _ _ _ _ _ 90 _ _))
  · replace vc := vc.1 c
    refine xi_aload_n (by decide +kernel : decode mX11_stepOn.2.1 103 = .ok (.aload_n 0, 1)) rfl rfl (?_ : XW _ _ _ _ _ _ _ 104 _ _)
    refine xi_iconst (v := 1) (by decide +kernel : decode mX11_stepOn.2.1 104 = .ok (.iconst 1, 1)) (by decide) (?_ : XW _ _ _ _ _ _ _ 105 _ _)
    refine xi_putI (by decide +kernel : decode mX11_stepOn.2.1 105 = .ok (.putfield 185, 3)) fX11_185 rfl (by omega) rfl rfl rfl (?_ : XW _ _ _ _ _ _ (xSI 56 (va_up (xI h11 56) 14 1) h11) 108 _ _)
    refine xi_goto (by decide +kernel : decode mX11_stepOn.2.1 108 = .ok (.goto 104, 3)) (by decide) (?_ : XW _ _ _ _ _ _ _ 212 _ _)
    exact vc
  · replace vc := vc.2 c
    refine xi_aload_n (by decide +kernel : decode mX11_stepOn.2.1 90 = .ok (.aload_n 0, 1)) rfl rfl (?_ : XW _ _ _ _ _ _ _ 91 _ _)
    refine xi_dup (by decide +kernel : decode mX11_stepOn.2.1 91 = .ok (.dup, 1)) rfl (?_ : XW _ _ _ _ _ _ _ 92 _ _)
    refine xi_getI (by decide +kernel : decode mX11_stepOn.2.1 92 = .ok (.getfield 176, 3)) fX11_176 rfl (by omega) rfl (?_ : XW _ _ _ _ _ _ _ 95 _ _)
    refine xi_iconst (v := 1) (by decide +kernel : decode mX11_stepOn.2.1 95 = .ok (.iconst 1, 1)) (by decide) (?_ : XW _ _ _ _ _ _ _ 96 _ _)
    refine xi_iadd (by decide +kernel : decode mX11_stepOn.2.1 96 = .ok (.iadd, 1)) (?_ : XW _ _ _ _ _ _ _ 97 _ _)
    refine xi_putI (by decide +kernel : decode mX11_stepOn.2.1 97 = .ok (.putfield 176, 3)) fX11_176 rfl (by omega) rfl rfl rfl (?_ : XW _ _ _ _ _ _ (xSI 56 (va_up (xI h11 56) 12 ((xI h11 56 12) + 1)) h11) 100 _ _)
    refine xi_goto (by decide +kernel : decode mX11_stepOn.2.1 100 = .ok (.goto (-24), 3)) (by decide) (?_ : XW _ _ _ _ _ _ _ 76 _ _)
    exact vc

set_option maxRecDepth 20000 in
theorem v_X11_wrong_0 {h : XH} {Q : Option Value → XH → Prop} {X : String → XH → Prop} (hM : xMod (xP h))  (k : Int32)
    (vc : ((xI h 56 18) = 0 → Q none (xSI 56 (va_up (va_up (xI h 56) 18 k) 19 (va_up (xI h 56) 18 k 16)) (xSI 56 (va_up (xI h 56) 18 k) h))) ∧ (¬ (xI h 56 18) = 0 → Q none h)) :
    XW (xrm 1 0 0) mX11_wrong (xE 100 Q X 0 0) 100 0 0 h 0 [some (.ref 56), some (.int k)] [] := by
  refine xi_aload_n (by decide +kernel : decode mX11_wrong.2.1 0 = .ok (.aload_n 0, 1)) rfl rfl (?_ : XW _ _ _ _ _ _ _ 1 _ _)
  refine xi_getI (by decide +kernel : decode mX11_wrong.2.1 1 = .ok (.getfield 211, 3)) fX11_211 rfl (by omega) rfl (?_ : XW _ _ _ _ _ _ _ 4 _ _)
  refine xi_if_eq (by decide +kernel : decode mX11_wrong.2.1 4 = .ok (.ifCond .eq 4, 3)) (by decide) (fun c => (?_ : XW _ _ _ _ _ _ _ 8 _ _)) (fun c => (?_ : XW _ _ _ _ _ _ _ 7 _ _))
  · replace vc := vc.1 c
    refine xi_aload_n (by decide +kernel : decode mX11_wrong.2.1 8 = .ok (.aload_n 0, 1)) rfl rfl (?_ : XW _ _ _ _ _ _ _ 9 _ _)
    refine xi_iload_n (by decide +kernel : decode mX11_wrong.2.1 9 = .ok (.iload_n 1, 1)) rfl rfl (?_ : XW _ _ _ _ _ _ _ 10 _ _)
    refine xi_putI (by decide +kernel : decode mX11_wrong.2.1 10 = .ok (.putfield 211, 3)) fX11_211 rfl (by omega) rfl rfl rfl (?_ : XW _ _ _ _ _ _ (xSI 56 (va_up (xI h 56) 18 k) h) 13 _ _)
    refine xi_aload_n (by decide +kernel : decode mX11_wrong.2.1 13 = .ok (.aload_n 0, 1)) rfl rfl (?_ : XW _ _ _ _ _ _ _ 14 _ _)
    refine xi_aload_n (by decide +kernel : decode mX11_wrong.2.1 14 = .ok (.aload_n 0, 1)) rfl rfl (?_ : XW _ _ _ _ _ _ _ 15 _ _)
    refine xi_getI (by decide +kernel : decode mX11_wrong.2.1 15 = .ok (.getfield 182, 3)) fX11_182 rfl (by omega) rfl (?_ : XW _ _ _ _ _ _ _ 18 _ [.int (va_up (xI h 56) 18 k 16), .ref 56])
    refine xi_putI (by decide +kernel : decode mX11_wrong.2.1 18 = .ok (.putfield 214, 3)) fX11_214 rfl (by omega) rfl rfl rfl (?_ : XW _ _ _ _ _ _ (xSI 56 (va_up (va_up (xI h 56) 18 k) 19 (va_up (xI h 56) 18 k 16)) (xSI 56 (va_up (xI h 56) 18 k) h)) 21 _ _)
    exact xi_vret (by decide +kernel : decode mX11_wrong.2.1 21 = .ok (.return_, 1)) rfl vc
  · replace vc := vc.2 c
    exact xi_vret (by decide +kernel : decode mX11_wrong.2.1 7 = .ok (.return_, 1)) rfl vc

set_option maxRecDepth 20000 in
theorem v_X11_is_0 {h : XH} {Q : Option Value → XH → Prop} {X : String → XH → Prop} (hM : xMod (xP h)) (i : Nat) (hi : i < jsN) 
    (vc : (¬ (xI h 56 18) = 0 → XW (xrm 12 0 0) mX11_is (xE 100 Q X 0 0) 100 0 0 h 39 [some (.ref 56), some (.ref (1000 + i)), some (.int 0), some (.int 0)] []) ∧ ((xI h 56 18) = 0 → (¬ (xI h 56 14) = 1 → XW (xrm 12 0 0) mX11_is (xE 100 Q X 0 0) 100 0 0 h 39 [some (.ref 56), some (.ref (1000 + i)), some (.int 0), some (.int 0)] []) ∧ ((xI h 56 14) = 1 → ∃ Q1, XSpec mJ0_length_8abf5 2 0 0 100 100 [.ref (1000 + i)] h Q1 xno ∧ ∀ v h1, Q1 v h1 → ∃ r1 : Int32, v = some (.int r1) ∧ ((¬ r1 = ((xI h1 56 17) - (xI h1 56 16)) → XW (xrm 12 0 0) mX11_is (xE 100 Q X 0 0) 100 0 0 h1 39 [some (.ref 56), some (.ref (1000 + i)), some (.int 0), some (.int 0)] []) ∧ (r1 = ((xI h1 56 17) - (xI h1 56 16)) → XW (xrm 12 0 0) mX11_is (xE 100 Q X 0 0) 100 0 0 h1 39 [some (.ref 56), some (.ref (1000 + i)), some (.int 1), some (.int 0)] []))))) :
    XW (xrm 12 0 0) mX11_is (xE 100 Q X 0 0) 100 0 0 h 0 [some (.ref 56), some (.ref (1000 + i)), none, none] [] := by
  refine xi_aload_n (by decide +kernel : decode mX11_is.2.1 0 = .ok (.aload_n 0, 1)) rfl rfl (?_ : XW _ _ _ _ _ _ _ 1 _ _)
  refine xi_getI (by decide +kernel : decode mX11_is.2.1 1 = .ok (.getfield 211, 3)) fX11_211 rfl (by omega) rfl (?_ : XW _ _ _ _ _ _ _ 4 _ _)
  refine xi_if_ne (by decide +kernel : decode mX11_is.2.1 4 = .ok (.ifCond .ne 31, 3)) (by decide) (fun c => (?_ : XW _ _ _ _ _ _ _ 35 _ _)) (fun c => (?_ : XW _ _ _ _ _ _ _ 7 _ _))
  · replace vc := vc.1 c
    refine xi_iconst (v := 0) (by decide +kernel : decode mX11_is.2.1 35 = .ok (.iconst 0, 1)) (by decide) (?_ : XW _ _ _ _ _ _ _ 36 _ _)
    refine xi_istore_n (ls' := [some (.ref 56), some (.ref (1000 + i)), some (.int 0), none]) (by decide +kernel : decode mX11_is.2.1 36 = .ok (.istore_n 2, 1)) rfl (by decide) rfl (?_ : XW _ _ _ _ _ _ _ 37 _ _)
    refine xi_iconst (v := 0) (by decide +kernel : decode mX11_is.2.1 37 = .ok (.iconst 0, 1)) (by decide) (?_ : XW _ _ _ _ _ _ _ 38 _ _)
    refine xi_istore_n (ls' := [some (.ref 56), some (.ref (1000 + i)), some (.int 0), some (.int 0)]) (by decide +kernel : decode mX11_is.2.1 38 = .ok (.istore_n 3, 1)) rfl (by decide) rfl (?_ : XW _ _ _ _ _ _ _ 39 _ _)
    exact vc
  · replace vc := vc.2 c
    refine xi_aload_n (by decide +kernel : decode mX11_is.2.1 7 = .ok (.aload_n 0, 1)) rfl rfl (?_ : XW _ _ _ _ _ _ _ 8 _ _)
    refine xi_getI (by decide +kernel : decode mX11_is.2.1 8 = .ok (.getfield 185, 3)) fX11_185 rfl (by omega) rfl (?_ : XW _ _ _ _ _ _ _ 11 _ _)
    refine xi_iconst (v := 1) (by decide +kernel : decode mX11_is.2.1 11 = .ok (.iconst 1, 1)) (by decide) (?_ : XW _ _ _ _ _ _ _ 12 _ _)
    refine xi_icmp_ne (by decide +kernel : decode mX11_is.2.1 12 = .ok (.if_icmp .ne 23, 3)) (by decide) (fun c => (?_ : XW _ _ _ _ _ _ _ 35 _ _)) (fun c => (?_ : XW _ _ _ _ _ _ _ 15 _ _))
    · replace vc := vc.1 c
      refine xi_iconst (v := 0) (by decide +kernel : decode mX11_is.2.1 35 = .ok (.iconst 0, 1)) (by decide) (?_ : XW _ _ _ _ _ _ _ 36 _ _)
      refine xi_istore_n (ls' := [some (.ref 56), some (.ref (1000 + i)), some (.int 0), none]) (by decide +kernel : decode mX11_is.2.1 36 = .ok (.istore_n 2, 1)) rfl (by decide) rfl (?_ : XW _ _ _ _ _ _ _ 37 _ _)
      refine xi_iconst (v := 0) (by decide +kernel : decode mX11_is.2.1 37 = .ok (.iconst 0, 1)) (by decide) (?_ : XW _ _ _ _ _ _ _ 38 _ _)
      refine xi_istore_n (ls' := [some (.ref 56), some (.ref (1000 + i)), some (.int 0), some (.int 0)]) (by decide +kernel : decode mX11_is.2.1 38 = .ok (.istore_n 3, 1)) rfl (by decide) rfl (?_ : XW _ _ _ _ _ _ _ 39 _ _)
      exact vc
    · replace vc := vc.2 c
      refine xi_aload_n (by decide +kernel : decode mX11_is.2.1 15 = .ok (.aload_n 1, 1)) rfl rfl (?_ : XW _ _ _ _ _ _ _ 16 _ _)
      obtain ⟨Q1, sp, vc⟩ := vc
      refine xi_callVs (b := 0) (bs := 0) (As := []) (st := []) (by decide +kernel : decode mX11_is.2.1 16 = .ok (.invokevirtual 217, 3)) (xVs.of (own := RX11) (y := mJ0_length_8abf5) cM_X11_217 cI_J0_length_8abf5 cE_J0_length_8abf5 cN_J0 cC_J0_length_8abf5 cD_J0_length_8abf5) rfl hi rfl sp (by decide) (by decide) (Nat.le_of_ble_eq_true rfl) (by omega) (fun v9 h1 hq9 => ?_)
      obtain ⟨r1, e9, vc⟩ := vc v9 h1 hq9
      subst e9
      show XW _ _ _ _ _ _ _ 19 _ [.int r1]
      refine xi_aload_n (by decide +kernel : decode mX11_is.2.1 19 = .ok (.aload_n 0, 1)) rfl rfl (?_ : XW _ _ _ _ _ _ _ 20 _ _)
      refine xi_getI (by decide +kernel : decode mX11_is.2.1 20 = .ok (.getfield 208, 3)) fX11_208 rfl (by omega) rfl (?_ : XW _ _ _ _ _ _ _ 23 _ _)
      refine xi_aload_n (by decide +kernel : decode mX11_is.2.1 23 = .ok (.aload_n 0, 1)) rfl rfl (?_ : XW _ _ _ _ _ _ _ 24 _ _)
      refine xi_getI (by decide +kernel : decode mX11_is.2.1 24 = .ok (.getfield 182, 3)) fX11_182 rfl (by omega) rfl (?_ : XW _ _ _ _ _ _ _ 27 _ _)
      refine xi_isub (by decide +kernel : decode mX11_is.2.1 27 = .ok (.isub, 1)) (?_ : XW _ _ _ _ _ _ _ 28 _ _)
      refine xi_icmp_ne (by decide +kernel : decode mX11_is.2.1 28 = .ok (.if_icmp .ne 7, 3)) (by decide) (fun c => (?_ : XW _ _ _ _ _ _ _ 35 _ _)) (fun c => (?_ : XW _ _ _ _ _ _ _ 31 _ _))
      · replace vc := vc.1 c
        refine xi_iconst (v := 0) (by decide +kernel : decode mX11_is.2.1 35 = .ok (.iconst 0, 1)) (by decide) (?_ : XW _ _ _ _ _ _ _ 36 _ _)
        refine xi_istore_n (ls' := [some (.ref 56), some (.ref (1000 + i)), some (.int 0), none]) (by decide +kernel : decode mX11_is.2.1 36 = .ok (.istore_n 2, 1)) rfl (by decide) rfl (?_ : XW _ _ _ _ _ _ _ 37 _ _)
        refine xi_iconst (v := 0) (by decide +kernel : decode mX11_is.2.1 37 = .ok (.iconst 0, 1)) (by decide) (?_ : XW _ _ _ _ _ _ _ 38 _ _)
        refine xi_istore_n (ls' := [some (.ref 56), some (.ref (1000 + i)), some (.int 0), some (.int 0)]) (by decide +kernel : decode mX11_is.2.1 38 = .ok (.istore_n 3, 1)) rfl (by decide) rfl (?_ : XW _ _ _ _ _ _ _ 39 _ _)
        exact vc
      · replace vc := vc.2 c
        refine xi_iconst (v := 1) (by decide +kernel : decode mX11_is.2.1 31 = .ok (.iconst 1, 1)) (by decide) (?_ : XW _ _ _ _ _ _ _ 32 _ _)
        refine xi_goto (by decide +kernel : decode mX11_is.2.1 32 = .ok (.goto 4, 3)) (by decide) (?_ : XW _ _ _ _ _ _ _ 36 _ _)
        refine xi_istore_n (ls' := [some (.ref 56), some (.ref (1000 + i)), some (.int 1), none]) (by decide +kernel : decode mX11_is.2.1 36 = .ok (.istore_n 2, 1)) rfl (by decide) rfl (?_ : XW _ _ _ _ _ _ _ 37 _ _)
        refine xi_iconst (v := 0) (by decide +kernel : decode mX11_is.2.1 37 = .ok (.iconst 0, 1)) (by decide) (?_ : XW _ _ _ _ _ _ _ 38 _ _)
        refine xi_istore_n (ls' := [some (.ref 56), some (.ref (1000 + i)), some (.int 1), some (.int 0)]) (by decide +kernel : decode mX11_is.2.1 38 = .ok (.istore_n 3, 1)) rfl (by decide) rfl (?_ : XW _ _ _ _ _ _ _ 39 _ _)
        exact vc

set_option maxRecDepth 20000 in
theorem v_X11_is_39 {h : XH} {Q : Option Value → XH → Prop} {X : String → XH → Prop} (hM : xMod (xP h)) (i : Nat) (hi : i < jsN)  (x2 : Int32) (x3 : Int32)
    (vc : (x2 = 0 → (narrow .boolean (.int x2) = .int x2) ∧ (Q (some (.int x2)) h)) ∧ (¬ x2 = 0 → ∃ Q1, XSpec mJ0_length_8abf5 2 0 0 100 100 [.ref (1000 + i)] h Q1 xno ∧ ∀ v h2, Q1 v h2 → ∃ r2 : Int32, v = some (.int r2) ∧ ((r2 ≤ x3 → (narrow .boolean (.int x2) = .int x2) ∧ (Q (some (.int x2)) h2)) ∧ (¬ r2 ≤ x3 → ∃ Q1, XSpec mJ0_charAt_5068e 4 0 0 100 100 [.ref (1000 + i), .int x3] h2 Q1 xno ∧ ∀ v h3, Q1 v h3 → ∃ r3 : Int32, v = some (.int r3) ∧ ((xP h3 56 10 = some 66) ∧ ((vp_in ((xI h3 56 16) + x3) 500) ∧ ((¬ r3 = (xI h3 66 ((xI h3 56 16) + x3).toNatClampNeg) → XW (xrm 12 0 0) mX11_is (xE 100 Q X 0 0) 100 0 0 h3 39 [some (.ref 56), some (.ref (1000 + i)), some (.int 0), some (.int (x3 + 1))] []) ∧ (r3 = (xI h3 66 ((xI h3 56 16) + x3).toNatClampNeg) → XW (xrm 12 0 0) mX11_is (xE 100 Q X 0 0) 100 0 0 h3 39 [some (.ref 56), some (.ref (1000 + i)), some (.int 1), some (.int (x3 + 1))] [])))))))) :
    XW (xrm 12 0 0) mX11_is (xE 100 Q X 0 0) 100 0 0 h 39 [some (.ref 56), some (.ref (1000 + i)), some (.int x2), some (.int x3)] [] := by
  refine xi_iload_n (by decide +kernel : decode mX11_is.2.1 39 = .ok (.iload_n 2, 1)) rfl rfl (?_ : XW _ _ _ _ _ _ _ 40 _ _)
  refine xi_if_eq (by decide +kernel : decode mX11_is.2.1 40 = .ok (.ifCond .eq 42, 3)) (by decide) (fun c => (?_ : XW _ _ _ _ _ _ _ 82 _ _)) (fun c => (?_ : XW _ _ _ _ _ _ _ 43 _ _))
  · replace vc := vc.1 c
    refine xi_iload_n (by decide +kernel : decode mX11_is.2.1 82 = .ok (.iload_n 2, 1)) rfl rfl (?_ : XW _ _ _ _ _ _ _ 83 _ _)
    obtain ⟨s1, vc⟩ := vc
    exact xi_iret (by decide +kernel : decode mX11_is.2.1 83 = .ok (.ireturn, 1)) rfl s1 vc
  · replace vc := vc.2 c
    refine xi_iload_n (by decide +kernel : decode mX11_is.2.1 43 = .ok (.iload_n 3, 1)) rfl rfl (?_ : XW _ _ _ _ _ _ _ 44 _ _)
    refine xi_aload_n (by decide +kernel : decode mX11_is.2.1 44 = .ok (.aload_n 1, 1)) rfl rfl (?_ : XW _ _ _ _ _ _ _ 45 _ _)
    obtain ⟨Q1, sp, vc⟩ := vc
    refine xi_callVs (b := 0) (bs := 0) (As := []) (st := [.int x3]) (by decide +kernel : decode mX11_is.2.1 45 = .ok (.invokevirtual 217, 3)) (xVs.of (own := RX11) (y := mJ0_length_8abf5) cM_X11_217 cI_J0_length_8abf5 cE_J0_length_8abf5 cN_J0 cC_J0_length_8abf5 cD_J0_length_8abf5) rfl hi rfl sp (by decide) (by decide) (Nat.le_of_ble_eq_true rfl) (by omega) (fun v9 h2 hq9 => ?_)
    obtain ⟨r2, e9, vc⟩ := vc v9 h2 hq9
    subst e9
    show XW _ _ _ _ _ _ _ 48 _ [.int r2, .int x3]
    refine xi_icmp_ge (by decide +kernel : decode mX11_is.2.1 48 = .ok (.if_icmp .ge 34, 3)) (by decide) (fun c => (?_ : XW _ _ _ _ _ _ _ 82 _ _)) (fun c => (?_ : XW _ _ _ _ _ _ _ 51 _ _))
    · replace vc := vc.1 c
      refine xi_iload_n (by decide +kernel : decode mX11_is.2.1 82 = .ok (.iload_n 2, 1)) rfl rfl (?_ : XW _ _ _ _ _ _ _ 83 _ _)
      obtain ⟨s1, vc⟩ := vc
      exact xi_iret (by decide +kernel : decode mX11_is.2.1 83 = .ok (.ireturn, 1)) rfl s1 vc
    · replace vc := vc.2 c
      refine xi_aload_n (by decide +kernel : decode mX11_is.2.1 51 = .ok (.aload_n 1, 1)) rfl rfl (?_ : XW _ _ _ _ _ _ _ 52 _ _)
      refine xi_iload_n (by decide +kernel : decode mX11_is.2.1 52 = .ok (.iload_n 3, 1)) rfl rfl (?_ : XW _ _ _ _ _ _ _ 53 _ _)
      obtain ⟨Q1, sp, vc⟩ := vc
      refine xi_callVs (b := 0) (bs := 0) (As := [.int x3]) (st := []) (by decide +kernel : decode mX11_is.2.1 53 = .ok (.invokevirtual 221, 3)) (xVs.of (own := RX11) (y := mJ0_charAt_5068e) cM_X11_221 cI_J0_charAt_5068e cE_J0_charAt_5068e cN_J0 cC_J0_charAt_5068e cD_J0_charAt_5068e) rfl hi rfl sp (by decide) (by decide) (Nat.le_of_ble_eq_true rfl) (by omega) (fun v9 h3 hq9 => ?_)
      obtain ⟨r3, e9, vc⟩ := vc v9 h3 hq9
      subst e9
      show XW _ _ _ _ _ _ _ 56 _ [.int r3]
      refine xi_aload_n (by decide +kernel : decode mX11_is.2.1 56 = .ok (.aload_n 0, 1)) rfl rfl (?_ : XW _ _ _ _ _ _ _ 57 _ _)
      obtain ⟨s1, vc⟩ := vc
      refine xi_getR (y := 66) (by decide +kernel : decode mX11_is.2.1 57 = .ok (.getfield 54, 3)) fX11_54 rfl (by omega) rfl s1 (?_ : XW _ _ _ _ _ _ _ 60 _ _)
      refine xi_aload_n (by decide +kernel : decode mX11_is.2.1 60 = .ok (.aload_n 0, 1)) rfl rfl (?_ : XW _ _ _ _ _ _ _ 61 _ _)
      refine xi_getI (by decide +kernel : decode mX11_is.2.1 61 = .ok (.getfield 182, 3)) fX11_182 rfl (by omega) rfl (?_ : XW _ _ _ _ _ _ _ 64 _ _)
      refine xi_iload_n (by decide +kernel : decode mX11_is.2.1 64 = .ok (.iload_n 3, 1)) rfl rfl (?_ : XW _ _ _ _ _ _ _ 65 _ _)
      refine xi_iadd (by decide +kernel : decode mX11_is.2.1 65 = .ok (.iadd, 1)) (?_ : XW _ _ _ _ _ _ _ 66 _ _)
      obtain ⟨s1, vc⟩ := vc
      refine xi_iald (by decide +kernel : decode mX11_is.2.1 66 = .ok (.iaload, 1)) rfl (by omega) s1 (?_ : XW _ _ _ _ _ _ _ 67 _ _)
      refine xi_icmp_ne (by decide +kernel : decode mX11_is.2.1 67 = .ok (.if_icmp .ne 7, 3)) (by decide) (fun c => (?_ : XW _ _ _ _ _ _ _ 74 _ _)) (fun c => (?_ : XW _ _ _ _ _ _ _ 70 _ _))
      · replace vc := vc.1 c
        refine xi_iconst (v := 0) (by decide +kernel : decode mX11_is.2.1 74 = .ok (.iconst 0, 1)) (by decide) (?_ : XW _ _ _ _ _ _ _ 75 _ _)
        refine xi_istore_n (ls' := [some (.ref 56), some (.ref (1000 + i)), some (.int 0), some (.int x3)]) (by decide +kernel : decode mX11_is.2.1 75 = .ok (.istore_n 2, 1)) rfl (by decide) rfl (?_ : XW _ _ _ _ _ _ _ 76 _ _)
        refine xi_iinc (v := x3 + 1) (ls' := [some (.ref 56), some (.ref (1000 + i)), some (.int 0), some (.int (x3 + 1))]) (by decide +kernel : decode mX11_is.2.1 76 = .ok (.iinc 3 1, 3)) rfl rfl (by decide) rfl (?_ : XW _ _ _ _ _ _ _ 79 _ _)
        refine xi_goto (by decide +kernel : decode mX11_is.2.1 79 = .ok (.goto (-40), 3)) (by decide) (?_ : XW _ _ _ _ _ _ _ 39 _ _)
        exact vc
      · replace vc := vc.2 c
        refine xi_iconst (v := 1) (by decide +kernel : decode mX11_is.2.1 70 = .ok (.iconst 1, 1)) (by decide) (?_ : XW _ _ _ _ _ _ _ 71 _ _)
        refine xi_goto (by decide +kernel : decode mX11_is.2.1 71 = .ok (.goto 4, 3)) (by decide) (?_ : XW _ _ _ _ _ _ _ 75 _ _)
        refine xi_istore_n (ls' := [some (.ref 56), some (.ref (1000 + i)), some (.int 1), some (.int x3)]) (by decide +kernel : decode mX11_is.2.1 75 = .ok (.istore_n 2, 1)) rfl (by decide) rfl (?_ : XW _ _ _ _ _ _ _ 76 _ _)
        refine xi_iinc (v := x3 + 1) (ls' := [some (.ref 56), some (.ref (1000 + i)), some (.int 1), some (.int (x3 + 1))]) (by decide +kernel : decode mX11_is.2.1 76 = .ok (.iinc 3 1, 3)) rfl rfl (by decide) rfl (?_ : XW _ _ _ _ _ _ _ 79 _ _)
        refine xi_goto (by decide +kernel : decode mX11_is.2.1 79 = .ok (.goto (-40), 3)) (by decide) (?_ : XW _ _ _ _ _ _ _ 39 _ _)
        exact vc

set_option maxRecDepth 20000 in
theorem v_X11_which_0 {h : XH} {Q : Option Value → XH → Prop} {X : String → XH → Prop} (hM : xMod (xP h)) (a9 N9 : Nat) (ha9 : SH a9 = .inl (.object "java/lang/String", N9)) (han : a9 < 100) 
    (vc : XW (xrm 13 0 0) mX11_which (xE 100 Q X 0 0) 100 0 0 h 2 [some (.ref 56), some (.ref a9), some (.int 0)] []) :
    XW (xrm 13 0 0) mX11_which (xE 100 Q X 0 0) 100 0 0 h 0 [some (.ref 56), some (.ref a9), none] [] := by
  refine xi_iconst (v := 0) (by decide +kernel : decode mX11_which.2.1 0 = .ok (.iconst 0, 1)) (by decide) (?_ : XW _ _ _ _ _ _ _ 1 _ _)
  refine xi_istore_n (ls' := [some (.ref 56), some (.ref a9), some (.int 0)]) (by decide +kernel : decode mX11_which.2.1 1 = .ok (.istore_n 2, 1)) rfl (by decide) rfl (?_ : XW _ _ _ _ _ _ _ 2 _ _)
  exact vc

set_option maxRecDepth 20000 in
theorem v_X11_which_2 {h : XH} {Q : Option Value → XH → Prop} {X : String → XH → Prop} (hM : xMod (xP h)) (a9 N9 : Nat) (ha9 : SH a9 = .inl (.object "java/lang/String", N9)) (han : a9 < 100)  (x2 : Int32)
    (vc : ((nI N9) ≤ x2 → Q (some (.int (-1))) h) ∧ (¬ (nI N9) ≤ x2 → (vp_in x2 N9) ∧ (∃ y1 : Nat, (xP h a9 x2.toNatClampNeg = some y1) ∧ (∃ Q1, XSpec mX11_is 12 0 0 100 100 [.ref 56, .ref y1] h Q1 xno ∧ ∀ v h2, Q1 v h2 → ∃ r2 : Int32, v = some (.int r2) ∧ ((r2 = 0 → XW (xrm 13 0 0) mX11_which (xE 100 Q X 0 0) 100 0 0 h2 2 [some (.ref 56), some (.ref a9), some (.int (x2 + 1))] []) ∧ (¬ r2 = 0 → Q (some (.int x2)) h2)))))) :
    XW (xrm 13 0 0) mX11_which (xE 100 Q X 0 0) 100 0 0 h 2 [some (.ref 56), some (.ref a9), some (.int x2)] [] := by
  refine xi_iload_n (by decide +kernel : decode mX11_which.2.1 2 = .ok (.iload_n 2, 1)) rfl rfl (?_ : XW _ _ _ _ _ _ _ 3 _ _)
  refine xi_aload_n (by decide +kernel : decode mX11_which.2.1 3 = .ok (.aload_n 1, 1)) rfl rfl (?_ : XW _ _ _ _ _ _ _ 4 _ _)
  refine xi_alen (v := nI N9) (by decide +kernel : decode mX11_which.2.1 4 = .ok (.arraylength, 1)) ha9 (by omega) (Or.inr (Or.inr rfl)) rfl (?_ : XW _ _ _ _ _ _ _ 5 _ _)
  refine xi_icmp_ge (by decide +kernel : decode mX11_which.2.1 5 = .ok (.if_icmp .ge 21, 3)) (by decide) (fun c => (?_ : XW _ _ _ _ _ _ _ 26 _ _)) (fun c => (?_ : XW _ _ _ _ _ _ _ 8 _ _))
  · replace vc := vc.1 c
    refine xi_iconst (v := (-1)) (by decide +kernel : decode mX11_which.2.1 26 = .ok (.iconst (-1), 1)) (by decide) (?_ : XW _ _ _ _ _ _ _ 27 _ _)
    exact xi_iret (by decide +kernel : decode mX11_which.2.1 27 = .ok (.ireturn, 1)) rfl rfl vc
  · replace vc := vc.2 c
    refine xi_aload_n (by decide +kernel : decode mX11_which.2.1 8 = .ok (.aload_n 0, 1)) rfl rfl (?_ : XW _ _ _ _ _ _ _ 9 _ _)
    refine xi_aload_n (by decide +kernel : decode mX11_which.2.1 9 = .ok (.aload_n 1, 1)) rfl rfl (?_ : XW _ _ _ _ _ _ _ 10 _ _)
    refine xi_iload_n (by decide +kernel : decode mX11_which.2.1 10 = .ok (.iload_n 2, 1)) rfl rfl (?_ : XW _ _ _ _ _ _ _ 11 _ _)
    obtain ⟨s1, vc⟩ := vc
    obtain ⟨y1, s2, vc⟩ := vc
    refine xi_aald (y := y1) (by decide +kernel : decode mX11_which.2.1 11 = .ok (.aaload, 1)) ha9 (by omega) s1 s2 (?_ : XW _ _ _ _ _ _ _ 12 _ [.ref y1, .ref 56])
    obtain ⟨Q1, sp, vc⟩ := vc
    refine xi_callV (b := 0) (bs := 0) (As := [.ref y1]) (st := []) (by decide +kernel : decode mX11_which.2.1 12 = .ok (.invokevirtual 225, 3)) kX11_225 rfl rfl (by omega) rfl sp (by decide) (by decide) (Nat.le_of_ble_eq_true rfl) (by omega) (fun v9 h2 hq9 => ?_)
    obtain ⟨r2, e9, vc⟩ := vc v9 h2 hq9
    subst e9
    show XW _ _ _ _ _ _ _ 15 _ [.int r2]
    refine xi_if_eq (by decide +kernel : decode mX11_which.2.1 15 = .ok (.ifCond .eq 5, 3)) (by decide) (fun c => (?_ : XW _ _ _ _ _ _ _ 20 _ _)) (fun c => (?_ : XW _ _ _ _ _ _ _ 18 _ _))
    · replace vc := vc.1 c
      refine xi_iinc (v := x2 + 1) (ls' := [some (.ref 56), some (.ref a9), some (.int (x2 + 1))]) (by decide +kernel : decode mX11_which.2.1 20 = .ok (.iinc 2 1, 3)) rfl rfl (by decide) rfl (?_ : XW _ _ _ _ _ _ _ 23 _ _)
      refine xi_goto (by decide +kernel : decode mX11_which.2.1 23 = .ok (.goto (-21), 3)) (by decide) (?_ : XW _ _ _ _ _ _ _ 2 _ _)
      exact vc
    · replace vc := vc.2 c
      refine xi_iload_n (by decide +kernel : decode mX11_which.2.1 18 = .ok (.iload_n 2, 1)) rfl rfl (?_ : XW _ _ _ _ _ _ _ 19 _ _)
      exact xi_iret (by decide +kernel : decode mX11_which.2.1 19 = .ok (.ireturn, 1)) rfl rfl vc

set_option maxRecDepth 20000 in
theorem v_X11_isMarked_0 {h : XH} {Q : Option Value → XH → Prop} {X : String → XH → Prop} (hM : xMod (xP h))  (cx : Int32)
    (vc : (¬ (xI h 56 18) = 0 → Q (some (.int 0)) h) ∧ ((xI h 56 18) = 0 → (¬ (xI h 56 14) = 3 → Q (some (.int 0)) h) ∧ ((xI h 56 14) = 3 → (vp_in (xI h 56 16) 500) ∧ ((¬ (xI h 66 (xI h 56 16).toNatClampNeg) = cx → Q (some (.int 0)) h) ∧ ((xI h 66 (xI h 56 16).toNatClampNeg) = cx → Q (some (.int 1)) h))))) :
    XW (xrm 1 0 0) mX11_isMarked (xE 100 Q X 0 0) 100 0 0 h 0 [some (.ref 56), some (.int cx)] [] := by
  refine xi_aload_n (by decide +kernel : decode mX11_isMarked.2.1 0 = .ok (.aload_n 0, 1)) rfl rfl (?_ : XW _ _ _ _ _ _ _ 1 _ _)
  refine xi_getI (by decide +kernel : decode mX11_isMarked.2.1 1 = .ok (.getfield 211, 3)) fX11_211 rfl (by omega) rfl (?_ : XW _ _ _ _ _ _ _ 4 _ _)
  refine xi_if_ne (by decide +kernel : decode mX11_isMarked.2.1 4 = .ok (.ifCond .ne 28, 3)) (by decide) (fun c => (?_ : XW _ _ _ _ _ _ _ 32 _ _)) (fun c => (?_ : XW _ _ _ _ _ _ _ 7 _ _))
  · replace vc := vc.1 c
    refine xi_iconst (v := 0) (by decide +kernel : decode mX11_isMarked.2.1 32 = .ok (.iconst 0, 1)) (by decide) (?_ : XW _ _ _ _ _ _ _ 33 _ _)
    exact xi_iret (by decide +kernel : decode mX11_isMarked.2.1 33 = .ok (.ireturn, 1)) rfl rfl vc
  · replace vc := vc.2 c
    refine xi_aload_n (by decide +kernel : decode mX11_isMarked.2.1 7 = .ok (.aload_n 0, 1)) rfl rfl (?_ : XW _ _ _ _ _ _ _ 8 _ _)
    refine xi_getI (by decide +kernel : decode mX11_isMarked.2.1 8 = .ok (.getfield 185, 3)) fX11_185 rfl (by omega) rfl (?_ : XW _ _ _ _ _ _ _ 11 _ _)
    refine xi_iconst (v := 3) (by decide +kernel : decode mX11_isMarked.2.1 11 = .ok (.iconst 3, 1)) (by decide) (?_ : XW _ _ _ _ _ _ _ 12 _ _)
    refine xi_icmp_ne (by decide +kernel : decode mX11_isMarked.2.1 12 = .ok (.if_icmp .ne 20, 3)) (by decide) (fun c => (?_ : XW _ _ _ _ _ _ _ 32 _ _)) (fun c => (?_ : XW _ _ _ _ _ _ _ 15 _ _))
    · replace vc := vc.1 c
      refine xi_iconst (v := 0) (by decide +kernel : decode mX11_isMarked.2.1 32 = .ok (.iconst 0, 1)) (by decide) (?_ : XW _ _ _ _ _ _ _ 33 _ _)
      exact xi_iret (by decide +kernel : decode mX11_isMarked.2.1 33 = .ok (.ireturn, 1)) rfl rfl vc
    · replace vc := vc.2 c
      refine xi_aload_n (by decide +kernel : decode mX11_isMarked.2.1 15 = .ok (.aload_n 0, 1)) rfl rfl (?_ : XW _ _ _ _ _ _ _ 16 _ _)
      refine xi_getR (y := 66) (by decide +kernel : decode mX11_isMarked.2.1 16 = .ok (.getfield 54, 3)) fX11_54 rfl (by omega) rfl (mp_tape hM) (?_ : XW _ _ _ _ _ _ _ 19 _ _)
      refine xi_aload_n (by decide +kernel : decode mX11_isMarked.2.1 19 = .ok (.aload_n 0, 1)) rfl rfl (?_ : XW _ _ _ _ _ _ _ 20 _ _)
      refine xi_getI (by decide +kernel : decode mX11_isMarked.2.1 20 = .ok (.getfield 182, 3)) fX11_182 rfl (by omega) rfl (?_ : XW _ _ _ _ _ _ _ 23 _ _)
      obtain ⟨s1, vc⟩ := vc
      refine xi_iald (by decide +kernel : decode mX11_isMarked.2.1 23 = .ok (.iaload, 1)) rfl (by omega) s1 (?_ : XW _ _ _ _ _ _ _ 24 _ _)
      refine xi_iload_n (by decide +kernel : decode mX11_isMarked.2.1 24 = .ok (.iload_n 1, 1)) rfl rfl (?_ : XW _ _ _ _ _ _ _ 25 _ _)
      refine xi_icmp_ne (by decide +kernel : decode mX11_isMarked.2.1 25 = .ok (.if_icmp .ne 7, 3)) (by decide) (fun c => (?_ : XW _ _ _ _ _ _ _ 32 _ _)) (fun c => (?_ : XW _ _ _ _ _ _ _ 28 _ _))
      · replace vc := vc.1 c
        refine xi_iconst (v := 0) (by decide +kernel : decode mX11_isMarked.2.1 32 = .ok (.iconst 0, 1)) (by decide) (?_ : XW _ _ _ _ _ _ _ 33 _ _)
        exact xi_iret (by decide +kernel : decode mX11_isMarked.2.1 33 = .ok (.ireturn, 1)) rfl rfl vc
      · replace vc := vc.2 c
        refine xi_iconst (v := 1) (by decide +kernel : decode mX11_isMarked.2.1 28 = .ok (.iconst 1, 1)) (by decide) (?_ : XW _ _ _ _ _ _ _ 29 _ _)
        refine xi_goto (by decide +kernel : decode mX11_isMarked.2.1 29 = .ok (.goto 4, 3)) (by decide) (?_ : XW _ _ _ _ _ _ _ 33 _ _)
        exact xi_iret (by decide +kernel : decode mX11_isMarked.2.1 33 = .ok (.ireturn, 1)) rfl rfl vc

set_option maxRecDepth 20000 in
theorem v_X11_mark_0 {h : XH} {Q : Option Value → XH → Prop} {X : String → XH → Prop} (hM : xMod (xP h))  (cx : Int32)
    (vc : (¬ (xI h 56 18) = 0 → (¬ (xI h 56 18) = 0 → Q none h) ∧ ((xI h 56 18) = 0 → ∃ Q1, XSpec mX11_stepOn 2 0 0 100 100 [.ref 56] h Q1 xno ∧ ∀ v h1, Q1 v h1 → v = none ∧ (Q none h1))) ∧ ((xI h 56 18) = 0 → ∃ Q1, XSpec mX11_isMarked 1 0 0 100 100 [.ref 56, .int cx] h Q1 xno ∧ ∀ v h2, Q1 v h2 → ∃ r2 : Int32, v = some (.int r2) ∧ ((¬ r2 = 0 → (¬ (xI h2 56 18) = 0 → Q none h2) ∧ ((xI h2 56 18) = 0 → ∃ Q1, XSpec mX11_stepOn 2 0 0 100 100 [.ref 56] h2 Q1 xno ∧ ∀ v h3, Q1 v h3 → v = none ∧ (Q none h3))) ∧ (r2 = 0 → ∃ Q1, XSpec mX11_wrong 1 0 0 100 100 [.ref 56, .int 1] h2 Q1 xno ∧ ∀ v h4, Q1 v h4 → v = none ∧ ((¬ (xI h4 56 18) = 0 → Q none h4) ∧ ((xI h4 56 18) = 0 → ∃ Q1, XSpec mX11_stepOn 2 0 0 100 100 [.ref 56] h4 Q1 xno ∧ ∀ v h5, Q1 v h5 → v = none ∧ (Q none h5))))))) :
    XW (xrm 3 0 0) mX11_mark (xE 100 Q X 0 0) 100 0 0 h 0 [some (.ref 56), some (.int cx)] [] := by
  refine xi_aload_n (by decide +kernel : decode mX11_mark.2.1 0 = .ok (.aload_n 0, 1)) rfl rfl (?_ : XW _ _ _ _ _ _ _ 1 _ _)
  refine xi_getI (by decide +kernel : decode mX11_mark.2.1 1 = .ok (.getfield 211, 3)) fX11_211 rfl (by omega) rfl (?_ : XW _ _ _ _ _ _ _ 4 _ _)
  refine xi_if_ne (by decide +kernel : decode mX11_mark.2.1 4 = .ok (.ifCond .ne 16, 3)) (by decide) (fun c => (?_ : XW _ _ _ _ _ _ _ 20 _ _)) (fun c => (?_ : XW _ _ _ _ _ _ _ 7 _ _))
  · replace vc := vc.1 c
    refine xi_aload_n (by decide +kernel : decode mX11_mark.2.1 20 = .ok (.aload_n 0, 1)) rfl rfl (?_ : XW _ _ _ _ _ _ _ 21 _ _)
    refine xi_getI (by decide +kernel : decode mX11_mark.2.1 21 = .ok (.getfield 211, 3)) fX11_211 rfl (by omega) rfl (?_ : XW _ _ _ _ _ _ _ 24 _ _)
    refine xi_if_ne (by decide +kernel : decode mX11_mark.2.1 24 = .ok (.ifCond .ne 7, 3)) (by decide) (fun c => (?_ : XW _ _ _ _ _ _ _ 31 _ _)) (fun c => (?_ : XW _ _ _ _ _ _ _ 27 _ _))
    · replace vc := vc.1 c
      exact xi_vret (by decide +kernel : decode mX11_mark.2.1 31 = .ok (.return_, 1)) rfl vc
    · replace vc := vc.2 c
      refine xi_aload_n (by decide +kernel : decode mX11_mark.2.1 27 = .ok (.aload_n 0, 1)) rfl rfl (?_ : XW _ _ _ _ _ _ _ 28 _ _)
      obtain ⟨Q1, sp, vc⟩ := vc
      refine xi_callV (b := 0) (bs := 0) (As := []) (st := []) (by decide +kernel : decode mX11_mark.2.1 28 = .ok (.invokevirtual 236, 3)) kX11_236 rfl rfl (by omega) rfl sp (by decide) (by decide) (Nat.le_of_ble_eq_true rfl) (by omega) (fun v9 h1 hq9 => ?_)
      obtain ⟨e9, vc⟩ := vc v9 h1 hq9
      subst e9
      show XW _ _ _ _ _ _ _ 31 _ []
      exact xi_vret (by decide +kernel : decode mX11_mark.2.1 31 = .ok (.return_, 1)) rfl vc
  · replace vc := vc.2 c
    refine xi_aload_n (by decide +kernel : decode mX11_mark.2.1 7 = .ok (.aload_n 0, 1)) rfl rfl (?_ : XW _ _ _ _ _ _ _ 8 _ _)
    refine xi_iload_n (by decide +kernel : decode mX11_mark.2.1 8 = .ok (.iload_n 1, 1)) rfl rfl (?_ : XW _ _ _ _ _ _ _ 9 _ _)
    obtain ⟨Q1, sp, vc⟩ := vc
    refine xi_callV (b := 0) (bs := 0) (As := [.int cx]) (st := []) (by decide +kernel : decode mX11_mark.2.1 9 = .ok (.invokevirtual 229, 3)) kX11_229 rfl rfl (by omega) rfl sp (by decide) (by decide) (Nat.le_of_ble_eq_true rfl) (by omega) (fun v9 h2 hq9 => ?_)
    obtain ⟨r2, e9, vc⟩ := vc v9 h2 hq9
    subst e9
    show XW _ _ _ _ _ _ _ 12 _ [.int r2]
    refine xi_if_ne (by decide +kernel : decode mX11_mark.2.1 12 = .ok (.ifCond .ne 8, 3)) (by decide) (fun c => (?_ : XW _ _ _ _ _ _ _ 20 _ _)) (fun c => (?_ : XW _ _ _ _ _ _ _ 15 _ _))
    · replace vc := vc.1 c
      refine xi_aload_n (by decide +kernel : decode mX11_mark.2.1 20 = .ok (.aload_n 0, 1)) rfl rfl (?_ : XW _ _ _ _ _ _ _ 21 _ _)
      refine xi_getI (by decide +kernel : decode mX11_mark.2.1 21 = .ok (.getfield 211, 3)) fX11_211 rfl (by omega) rfl (?_ : XW _ _ _ _ _ _ _ 24 _ _)
      refine xi_if_ne (by decide +kernel : decode mX11_mark.2.1 24 = .ok (.ifCond .ne 7, 3)) (by decide) (fun c => (?_ : XW _ _ _ _ _ _ _ 31 _ _)) (fun c => (?_ : XW _ _ _ _ _ _ _ 27 _ _))
      · replace vc := vc.1 c
        exact xi_vret (by decide +kernel : decode mX11_mark.2.1 31 = .ok (.return_, 1)) rfl vc
      · replace vc := vc.2 c
        refine xi_aload_n (by decide +kernel : decode mX11_mark.2.1 27 = .ok (.aload_n 0, 1)) rfl rfl (?_ : XW _ _ _ _ _ _ _ 28 _ _)
        obtain ⟨Q1, sp, vc⟩ := vc
        refine xi_callV (b := 0) (bs := 0) (As := []) (st := []) (by decide +kernel : decode mX11_mark.2.1 28 = .ok (.invokevirtual 236, 3)) kX11_236 rfl rfl (by omega) rfl sp (by decide) (by decide) (Nat.le_of_ble_eq_true rfl) (by omega) (fun v9 h3 hq9 => ?_)
        obtain ⟨e9, vc⟩ := vc v9 h3 hq9
        subst e9
        show XW _ _ _ _ _ _ _ 31 _ []
        exact xi_vret (by decide +kernel : decode mX11_mark.2.1 31 = .ok (.return_, 1)) rfl vc
    · replace vc := vc.2 c
      refine xi_aload_n (by decide +kernel : decode mX11_mark.2.1 15 = .ok (.aload_n 0, 1)) rfl rfl (?_ : XW _ _ _ _ _ _ _ 16 _ _)
      refine xi_iconst (v := 1) (by decide +kernel : decode mX11_mark.2.1 16 = .ok (.iconst 1, 1)) (by decide) (?_ : XW _ _ _ _ _ _ _ 17 _ _)
      obtain ⟨Q1, sp, vc⟩ := vc
      refine xi_callV (b := 0) (bs := 0) (As := [.int 1]) (st := []) (by decide +kernel : decode mX11_mark.2.1 17 = .ok (.invokevirtual 232, 3)) kX11_232 rfl rfl (by omega) rfl sp (by decide) (by decide) (Nat.le_of_ble_eq_true rfl) (by omega) (fun v9 h4 hq9 => ?_)
      obtain ⟨e9, vc⟩ := vc v9 h4 hq9
      subst e9
      show XW _ _ _ _ _ _ _ 20 _ []
      refine xi_aload_n (by decide +kernel : decode mX11_mark.2.1 20 = .ok (.aload_n 0, 1)) rfl rfl (?_ : XW _ _ _ _ _ _ _ 21 _ _)
      refine xi_getI (by decide +kernel : decode mX11_mark.2.1 21 = .ok (.getfield 211, 3)) fX11_211 rfl (by omega) rfl (?_ : XW _ _ _ _ _ _ _ 24 _ _)
      refine xi_if_ne (by decide +kernel : decode mX11_mark.2.1 24 = .ok (.ifCond .ne 7, 3)) (by decide) (fun c => (?_ : XW _ _ _ _ _ _ _ 31 _ _)) (fun c => (?_ : XW _ _ _ _ _ _ _ 27 _ _))
      · replace vc := vc.1 c
        exact xi_vret (by decide +kernel : decode mX11_mark.2.1 31 = .ok (.return_, 1)) rfl vc
      · replace vc := vc.2 c
        refine xi_aload_n (by decide +kernel : decode mX11_mark.2.1 27 = .ok (.aload_n 0, 1)) rfl rfl (?_ : XW _ _ _ _ _ _ _ 28 _ _)
        obtain ⟨Q1, sp, vc⟩ := vc
        refine xi_callV (b := 0) (bs := 0) (As := []) (st := []) (by decide +kernel : decode mX11_mark.2.1 28 = .ok (.invokevirtual 236, 3)) kX11_236 rfl rfl (by omega) rfl sp (by decide) (by decide) (Nat.le_of_ble_eq_true rfl) (by omega) (fun v9 h5 hq9 => ?_)
        obtain ⟨e9, vc⟩ := vc v9 h5 hq9
        subst e9
        show XW _ _ _ _ _ _ _ 31 _ []
        exact xi_vret (by decide +kernel : decode mX11_mark.2.1 31 = .ok (.return_, 1)) rfl vc

set_option maxRecDepth 20000 in
theorem v_X11_numberNow_0 {h : XH} {Q : Option Value → XH → Prop} {X : String → XH → Prop} (hM : xMod (xP h))  (ax : Int32) (bx : Int32)
    (vc : ((xI h 56 18) = 0 → ((xI h 56 14) = 2 → (4 < ((xI h 56 17) - (xI h 56 16)) → ∃ Q1, XSpec mX11_wrong 1 0 0 100 100 [.ref 56, .int 2] h Q1 xno ∧ ∀ v h1, Q1 v h1 → v = none ∧ (XW (xrm 2 0 0) mX11_numberNow (xE 100 Q X 0 0) 100 0 0 h1 59 [some (.ref 56), none, none] [])) ∧ (¬ 4 < ((xI h 56 17) - (xI h 56 16)) → ((xI h 56 15) < ax → ∃ Q1, XSpec mX11_wrong 1 0 0 100 100 [.ref 56, .int 2] h Q1 xno ∧ ∀ v h2, Q1 v h2 → v = none ∧ (XW (xrm 2 0 0) mX11_numberNow (xE 100 Q X 0 0) 100 0 0 h2 59 [some (.ref 56), none, none] [])) ∧ (¬ (xI h 56 15) < ax → ((xI h 56 15) ≤ bx → XW (xrm 2 0 0) mX11_numberNow (xE 100 Q X 0 0) 100 0 0 h 59 [some (.ref 56), none, none] []) ∧ (¬ (xI h 56 15) ≤ bx → ∃ Q1, XSpec mX11_wrong 1 0 0 100 100 [.ref 56, .int 2] h Q1 xno ∧ ∀ v h3, Q1 v h3 → v = none ∧ (XW (xrm 2 0 0) mX11_numberNow (xE 100 Q X 0 0) 100 0 0 h3 59 [some (.ref 56), none, none] []))))) ∧ (¬ (xI h 56 14) = 2 → ∃ Q1, XSpec mX11_wrong 1 0 0 100 100 [.ref 56, .int 1] h Q1 xno ∧ ∀ v h4, Q1 v h4 → v = none ∧ (XW (xrm 2 0 0) mX11_numberNow (xE 100 Q X 0 0) 100 0 0 h4 59 [some (.ref 56), none, none] []))) ∧ (¬ (xI h 56 18) = 0 → Q (some (.int 0)) h)) :
    XW (xrm 2 0 0) mX11_numberNow (xE 100 Q X 0 0) 100 0 0 h 0 [some (.ref 56), some (.int ax), some (.int bx)] [] := by
  refine xi_aload_n (by decide +kernel : decode mX11_numberNow.2.1 0 = .ok (.aload_n 0, 1)) rfl rfl (?_ : XW _ _ _ _ _ _ _ 1 _ _)
  refine xi_getI (by decide +kernel : decode mX11_numberNow.2.1 1 = .ok (.getfield 211, 3)) fX11_211 rfl (by omega) rfl (?_ : XW _ _ _ _ _ _ _ 4 _ _)
  refine xi_if_eq (by decide +kernel : decode mX11_numberNow.2.1 4 = .ok (.ifCond .eq 5, 3)) (by decide) (fun c => (?_ : XW _ _ _ _ _ _ _ 9 _ _)) (fun c => (?_ : XW _ _ _ _ _ _ _ 7 _ _))
  · replace vc := vc.1 c
    refine xi_aload_n (by decide +kernel : decode mX11_numberNow.2.1 9 = .ok (.aload_n 0, 1)) rfl rfl (?_ : XW _ _ _ _ _ _ _ 10 _ _)
    refine xi_getI (by decide +kernel : decode mX11_numberNow.2.1 10 = .ok (.getfield 185, 3)) fX11_185 rfl (by omega) rfl (?_ : XW _ _ _ _ _ _ _ 13 _ _)
    refine xi_iconst (v := 2) (by decide +kernel : decode mX11_numberNow.2.1 13 = .ok (.iconst 2, 1)) (by decide) (?_ : XW _ _ _ _ _ _ _ 14 _ _)
    refine xi_icmp_eq (by decide +kernel : decode mX11_numberNow.2.1 14 = .ok (.if_icmp .eq 11, 3)) (by decide) (fun c => (?_ : XW _ _ _ _ _ _ _ 25 _ _)) (fun c => (?_ : XW _ _ _ _ _ _ _ 17 _ _))
    · replace vc := vc.1 c
      refine xi_aload_n (by decide +kernel : decode mX11_numberNow.2.1 25 = .ok (.aload_n 0, 1)) rfl rfl (?_ : XW _ _ _ _ _ _ _ 26 _ _)
      refine xi_getI (by decide +kernel : decode mX11_numberNow.2.1 26 = .ok (.getfield 208, 3)) fX11_208 rfl (by omega) rfl (?_ : XW _ _ _ _ _ _ _ 29 _ _)
      refine xi_aload_n (by decide +kernel : decode mX11_numberNow.2.1 29 = .ok (.aload_n 0, 1)) rfl rfl (?_ : XW _ _ _ _ _ _ _ 30 _ _)
      refine xi_getI (by decide +kernel : decode mX11_numberNow.2.1 30 = .ok (.getfield 182, 3)) fX11_182 rfl (by omega) rfl (?_ : XW _ _ _ _ _ _ _ 33 _ _)
      refine xi_isub (by decide +kernel : decode mX11_numberNow.2.1 33 = .ok (.isub, 1)) (?_ : XW _ _ _ _ _ _ _ 34 _ _)
      refine xi_iconst (v := 4) (by decide +kernel : decode mX11_numberNow.2.1 34 = .ok (.iconst 4, 1)) (by decide) (?_ : XW _ _ _ _ _ _ _ 35 _ _)
      refine xi_icmp_gt (by decide +kernel : decode mX11_numberNow.2.1 35 = .ok (.if_icmp .gt 19, 3)) (by decide) (fun c => (?_ : XW _ _ _ _ _ _ _ 54 _ _)) (fun c => (?_ : XW _ _ _ _ _ _ _ 38 _ _))
      · replace vc := vc.1 c
        refine xi_aload_n (by decide +kernel : decode mX11_numberNow.2.1 54 = .ok (.aload_n 0, 1)) rfl rfl (?_ : XW _ _ _ _ _ _ _ 55 _ _)
        refine xi_iconst (v := 2) (by decide +kernel : decode mX11_numberNow.2.1 55 = .ok (.iconst 2, 1)) (by decide) (?_ : XW _ _ _ _ _ _ _ 56 _ _)
        obtain ⟨Q1, sp, vc⟩ := vc
        refine xi_callV (b := 0) (bs := 0) (As := [.int 2]) (st := []) (by decide +kernel : decode mX11_numberNow.2.1 56 = .ok (.invokevirtual 232, 3)) kX11_232 rfl rfl (by omega) rfl sp (by decide) (by decide) (Nat.le_of_ble_eq_true rfl) (by omega) (fun v9 h1 hq9 => ?_)
        obtain ⟨e9, vc⟩ := vc v9 h1 hq9
        subst e9
        show XW _ _ _ _ _ _ _ 59 _ []
        refine xw_drop 1 (ls' := [some (.ref 56), none, some (.int bx)]) rfl ?_
        refine xw_drop 2 (ls' := [some (.ref 56), none, none]) rfl ?_
        exact vc
      · replace vc := vc.2 c
        refine xi_aload_n (by decide +kernel : decode mX11_numberNow.2.1 38 = .ok (.aload_n 0, 1)) rfl rfl (?_ : XW _ _ _ _ _ _ _ 39 _ _)
        refine xi_getI (by decide +kernel : decode mX11_numberNow.2.1 39 = .ok (.getfield 195, 3)) fX11_195 rfl (by omega) rfl (?_ : XW _ _ _ _ _ _ _ 42 _ _)
        refine xi_iload_n (by decide +kernel : decode mX11_numberNow.2.1 42 = .ok (.iload_n 1, 1)) rfl rfl (?_ : XW _ _ _ _ _ _ _ 43 _ _)
        refine xi_icmp_lt (by decide +kernel : decode mX11_numberNow.2.1 43 = .ok (.if_icmp .lt 11, 3)) (by decide) (fun c => (?_ : XW _ _ _ _ _ _ _ 54 _ _)) (fun c => (?_ : XW _ _ _ _ _ _ _ 46 _ _))
        · replace vc := vc.1 c
          refine xi_aload_n (by decide +kernel : decode mX11_numberNow.2.1 54 = .ok (.aload_n 0, 1)) rfl rfl (?_ : XW _ _ _ _ _ _ _ 55 _ _)
          refine xi_iconst (v := 2) (by decide +kernel : decode mX11_numberNow.2.1 55 = .ok (.iconst 2, 1)) (by decide) (?_ : XW _ _ _ _ _ _ _ 56 _ _)
          obtain ⟨Q1, sp, vc⟩ := vc
          refine xi_callV (b := 0) (bs := 0) (As := [.int 2]) (st := []) (by decide +kernel : decode mX11_numberNow.2.1 56 = .ok (.invokevirtual 232, 3)) kX11_232 rfl rfl (by omega) rfl sp (by decide) (by decide) (Nat.le_of_ble_eq_true rfl) (by omega) (fun v9 h2 hq9 => ?_)
          obtain ⟨e9, vc⟩ := vc v9 h2 hq9
          subst e9
          show XW _ _ _ _ _ _ _ 59 _ []
          refine xw_drop 1 (ls' := [some (.ref 56), none, some (.int bx)]) rfl ?_
          refine xw_drop 2 (ls' := [some (.ref 56), none, none]) rfl ?_
          exact vc
        · replace vc := vc.2 c
          refine xi_aload_n (by decide +kernel : decode mX11_numberNow.2.1 46 = .ok (.aload_n 0, 1)) rfl rfl (?_ : XW _ _ _ _ _ _ _ 47 _ _)
          refine xi_getI (by decide +kernel : decode mX11_numberNow.2.1 47 = .ok (.getfield 195, 3)) fX11_195 rfl (by omega) rfl (?_ : XW _ _ _ _ _ _ _ 50 _ _)
          refine xi_iload_n (by decide +kernel : decode mX11_numberNow.2.1 50 = .ok (.iload_n 2, 1)) rfl rfl (?_ : XW _ _ _ _ _ _ _ 51 _ _)
          refine xi_icmp_le (by decide +kernel : decode mX11_numberNow.2.1 51 = .ok (.if_icmp .le 8, 3)) (by decide) (fun c => (?_ : XW _ _ _ _ _ _ _ 59 _ _)) (fun c => (?_ : XW _ _ _ _ _ _ _ 54 _ _))
          · replace vc := vc.1 c
            refine xw_drop 1 (ls' := [some (.ref 56), none, some (.int bx)]) rfl ?_
            refine xw_drop 2 (ls' := [some (.ref 56), none, none]) rfl ?_
            exact vc
          · replace vc := vc.2 c
            refine xi_aload_n (by decide +kernel : decode mX11_numberNow.2.1 54 = .ok (.aload_n 0, 1)) rfl rfl (?_ : XW _ _ _ _ _ _ _ 55 _ _)
            refine xi_iconst (v := 2) (by decide +kernel : decode mX11_numberNow.2.1 55 = .ok (.iconst 2, 1)) (by decide) (?_ : XW _ _ _ _ _ _ _ 56 _ _)
            obtain ⟨Q1, sp, vc⟩ := vc
            refine xi_callV (b := 0) (bs := 0) (As := [.int 2]) (st := []) (by decide +kernel : decode mX11_numberNow.2.1 56 = .ok (.invokevirtual 232, 3)) kX11_232 rfl rfl (by omega) rfl sp (by decide) (by decide) (Nat.le_of_ble_eq_true rfl) (by omega) (fun v9 h3 hq9 => ?_)
            obtain ⟨e9, vc⟩ := vc v9 h3 hq9
            subst e9
            show XW _ _ _ _ _ _ _ 59 _ []
            refine xw_drop 1 (ls' := [some (.ref 56), none, some (.int bx)]) rfl ?_
            refine xw_drop 2 (ls' := [some (.ref 56), none, none]) rfl ?_
            exact vc
    · replace vc := vc.2 c
      refine xi_aload_n (by decide +kernel : decode mX11_numberNow.2.1 17 = .ok (.aload_n 0, 1)) rfl rfl (?_ : XW _ _ _ _ _ _ _ 18 _ _)
      refine xi_iconst (v := 1) (by decide +kernel : decode mX11_numberNow.2.1 18 = .ok (.iconst 1, 1)) (by decide) (?_ : XW _ _ _ _ _ _ _ 19 _ _)
      obtain ⟨Q1, sp, vc⟩ := vc
      refine xi_callV (b := 0) (bs := 0) (As := [.int 1]) (st := []) (by decide +kernel : decode mX11_numberNow.2.1 19 = .ok (.invokevirtual 232, 3)) kX11_232 rfl rfl (by omega) rfl sp (by decide) (by decide) (Nat.le_of_ble_eq_true rfl) (by omega) (fun v9 h4 hq9 => ?_)
      obtain ⟨e9, vc⟩ := vc v9 h4 hq9
      subst e9
      show XW _ _ _ _ _ _ _ 22 _ []
      refine xi_goto (by decide +kernel : decode mX11_numberNow.2.1 22 = .ok (.goto 37, 3)) (by decide) (?_ : XW _ _ _ _ _ _ _ 59 _ _)
      refine xw_drop 1 (ls' := [some (.ref 56), none, some (.int bx)]) rfl ?_
      refine xw_drop 2 (ls' := [some (.ref 56), none, none]) rfl ?_
      exact vc
  · replace vc := vc.2 c
    refine xi_iconst (v := 0) (by decide +kernel : decode mX11_numberNow.2.1 7 = .ok (.iconst 0, 1)) (by decide) (?_ : XW _ _ _ _ _ _ _ 8 _ _)
    exact xi_iret (by decide +kernel : decode mX11_numberNow.2.1 8 = .ok (.ireturn, 1)) rfl rfl vc

set_option maxRecDepth 20000 in
theorem v_X11_numberNow_59 {h : XH} {Q : Option Value → XH → Prop} {X : String → XH → Prop} (hM : xMod (xP h)) 
    (vc : (¬ (xI h 56 18) = 0 → Q (some (.int 0)) h) ∧ ((xI h 56 18) = 0 → Q (some (.int (xI h 56 15))) h)) :
    XW (xrm 2 0 0) mX11_numberNow (xE 100 Q X 0 0) 100 0 0 h 59 [some (.ref 56), none, none] [] := by
  refine xi_aload_n (by decide +kernel : decode mX11_numberNow.2.1 59 = .ok (.aload_n 0, 1)) rfl rfl (?_ : XW _ _ _ _ _ _ _ 60 _ _)
  refine xi_getI (by decide +kernel : decode mX11_numberNow.2.1 60 = .ok (.getfield 211, 3)) fX11_211 rfl (by omega) rfl (?_ : XW _ _ _ _ _ _ _ 63 _ _)
  refine xi_if_ne (by decide +kernel : decode mX11_numberNow.2.1 63 = .ok (.ifCond .ne 10, 3)) (by decide) (fun c => (?_ : XW _ _ _ _ _ _ _ 73 _ _)) (fun c => (?_ : XW _ _ _ _ _ _ _ 66 _ _))
  · replace vc := vc.1 c
    refine xi_iconst (v := 0) (by decide +kernel : decode mX11_numberNow.2.1 73 = .ok (.iconst 0, 1)) (by decide) (?_ : XW _ _ _ _ _ _ _ 74 _ _)
    exact xi_iret (by decide +kernel : decode mX11_numberNow.2.1 74 = .ok (.ireturn, 1)) rfl rfl vc
  · replace vc := vc.2 c
    refine xi_aload_n (by decide +kernel : decode mX11_numberNow.2.1 66 = .ok (.aload_n 0, 1)) rfl rfl (?_ : XW _ _ _ _ _ _ _ 67 _ _)
    refine xi_getI (by decide +kernel : decode mX11_numberNow.2.1 67 = .ok (.getfield 195, 3)) fX11_195 rfl (by omega) rfl (?_ : XW _ _ _ _ _ _ _ 70 _ _)
    refine xi_goto (by decide +kernel : decode mX11_numberNow.2.1 70 = .ok (.goto 4, 3)) (by decide) (?_ : XW _ _ _ _ _ _ _ 74 _ _)
    exact xi_iret (by decide +kernel : decode mX11_numberNow.2.1 74 = .ok (.ireturn, 1)) rfl rfl vc

set_option maxRecDepth 20000 in
theorem v_X11_readNumber_0 {h : XH} {Q : Option Value → XH → Prop} {X : String → XH → Prop} (hM : xMod (xP h))  (ax : Int32) (bx : Int32)
    (vc : ∃ Q1, XSpec mX11_numberNow 2 0 0 100 100 [.ref 56, .int ax, .int bx] h Q1 xno ∧ ∀ v h1, Q1 v h1 → ∃ r1 : Int32, v = some (.int r1) ∧ ((¬ (xI h1 56 18) = 0 → Q (some (.int r1)) h1) ∧ ((xI h1 56 18) = 0 → ∃ Q1, XSpec mX11_stepOn 2 0 0 100 100 [.ref 56] h1 Q1 xno ∧ ∀ v h2, Q1 v h2 → v = none ∧ (Q (some (.int r1)) h2)))) :
    XW (xrm 3 0 0) mX11_readNumber (xE 100 Q X 0 0) 100 0 0 h 0 [some (.ref 56), some (.int ax), some (.int bx), none] [] := by
  refine xi_aload_n (by decide +kernel : decode mX11_readNumber.2.1 0 = .ok (.aload_n 0, 1)) rfl rfl (?_ : XW _ _ _ _ _ _ _ 1 _ _)
  refine xi_iload_n (by decide +kernel : decode mX11_readNumber.2.1 1 = .ok (.iload_n 1, 1)) rfl rfl (?_ : XW _ _ _ _ _ _ _ 2 _ _)
  refine xi_iload_n (by decide +kernel : decode mX11_readNumber.2.1 2 = .ok (.iload_n 2, 1)) rfl rfl (?_ : XW _ _ _ _ _ _ _ 3 _ _)
  obtain ⟨Q1, sp, vc⟩ := vc
  refine xi_callV (b := 0) (bs := 0) (As := [.int ax, .int bx]) (st := []) (by decide +kernel : decode mX11_readNumber.2.1 3 = .ok (.invokevirtual 239, 3)) kX11_239 rfl rfl (by omega) rfl sp (by decide) (by decide) (Nat.le_of_ble_eq_true rfl) (by omega) (fun v9 h1 hq9 => ?_)
  obtain ⟨r1, e9, vc⟩ := vc v9 h1 hq9
  subst e9
  show XW _ _ _ _ _ _ _ 6 _ [.int r1]
  refine xi_istore_n (ls' := [some (.ref 56), some (.int ax), some (.int bx), some (.int r1)]) (by decide +kernel : decode mX11_readNumber.2.1 6 = .ok (.istore_n 3, 1)) rfl (by decide) rfl (?_ : XW _ _ _ _ _ _ _ 7 _ _)
  refine xi_aload_n (by decide +kernel : decode mX11_readNumber.2.1 7 = .ok (.aload_n 0, 1)) rfl rfl (?_ : XW _ _ _ _ _ _ _ 8 _ _)
  refine xi_getI (by decide +kernel : decode mX11_readNumber.2.1 8 = .ok (.getfield 211, 3)) fX11_211 rfl (by omega) rfl (?_ : XW _ _ _ _ _ _ _ 11 _ _)
  refine xi_if_ne (by decide +kernel : decode mX11_readNumber.2.1 11 = .ok (.ifCond .ne 7, 3)) (by decide) (fun c => (?_ : XW _ _ _ _ _ _ _ 18 _ _)) (fun c => (?_ : XW _ _ _ _ _ _ _ 14 _ _))
  · replace vc := vc.1 c
    refine xi_iload_n (by decide +kernel : decode mX11_readNumber.2.1 18 = .ok (.iload_n 3, 1)) rfl rfl (?_ : XW _ _ _ _ _ _ _ 19 _ _)
    exact xi_iret (by decide +kernel : decode mX11_readNumber.2.1 19 = .ok (.ireturn, 1)) rfl rfl vc
  · replace vc := vc.2 c
    refine xi_aload_n (by decide +kernel : decode mX11_readNumber.2.1 14 = .ok (.aload_n 0, 1)) rfl rfl (?_ : XW _ _ _ _ _ _ _ 15 _ _)
    obtain ⟨Q1, sp, vc⟩ := vc
    refine xi_callV (b := 0) (bs := 0) (As := []) (st := []) (by decide +kernel : decode mX11_readNumber.2.1 15 = .ok (.invokevirtual 236, 3)) kX11_236 rfl rfl (by omega) rfl sp (by decide) (by decide) (Nat.le_of_ble_eq_true rfl) (by omega) (fun v9 h2 hq9 => ?_)
    obtain ⟨e9, vc⟩ := vc v9 h2 hq9
    subst e9
    show XW _ _ _ _ _ _ _ 18 _ []
    refine xi_iload_n (by decide +kernel : decode mX11_readNumber.2.1 18 = .ok (.iload_n 3, 1)) rfl rfl (?_ : XW _ _ _ _ _ _ _ 19 _ _)
    exact xi_iret (by decide +kernel : decode mX11_readNumber.2.1 19 = .ok (.ireturn, 1)) rfl rfl vc

set_option maxRecDepth 20000 in
theorem v_X11_lay_0 {h : XH} {Q : Option Value → XH → Prop} {X : String → XH → Prop} (hM : xMod (xP h))  (cx : Int32)
    (vc : ((xI h 56 18) = 0 → (vp_in (500 + (xI h 59 14)) 1000) ∧ (Q none (xSI 59 (va_up (xI h 59) 14 ((xI h 59 14) + 1)) (xSI 63 (va_up (xI h 63) (500 + (xI h 59 14)).toNatClampNeg cx) h)))) ∧ (¬ (xI h 56 18) = 0 → Q none h)) :
    XW (xrm 1 0 0) mX11_lay (xE 100 Q X 0 0) 100 0 0 h 0 [some (.ref 56), some (.int cx)] [] := by
  refine xi_aload_n (by decide +kernel : decode mX11_lay.2.1 0 = .ok (.aload_n 0, 1)) rfl rfl (?_ : XW _ _ _ _ _ _ _ 1 _ _)
  refine xi_getI (by decide +kernel : decode mX11_lay.2.1 1 = .ok (.getfield 211, 3)) fX11_211 rfl (by omega) rfl (?_ : XW _ _ _ _ _ _ _ 4 _ _)
  refine xi_if_eq (by decide +kernel : decode mX11_lay.2.1 4 = .ok (.ifCond .eq 4, 3)) (by decide) (fun c => (?_ : XW _ _ _ _ _ _ _ 8 _ _)) (fun c => (?_ : XW _ _ _ _ _ _ _ 7 _ _))
  · replace vc := vc.1 c
    refine xi_aload_n (by decide +kernel : decode mX11_lay.2.1 8 = .ok (.aload_n 0, 1)) rfl rfl (?_ : XW _ _ _ _ _ _ _ 9 _ _)
    refine xi_getR (y := 63) (by decide +kernel : decode mX11_lay.2.1 9 = .ok (.getfield 45, 3)) fX11_45 rfl (by omega) rfl (mp_signs hM) (?_ : XW _ _ _ _ _ _ _ 12 _ _)
    refine xi_sipush (v := 500) (by decide +kernel : decode mX11_lay.2.1 12 = .ok (.sipush 500, 3)) (by decide) (?_ : XW _ _ _ _ _ _ _ 15 _ _)
    refine xi_aload_n (by decide +kernel : decode mX11_lay.2.1 15 = .ok (.aload_n 0, 1)) rfl rfl (?_ : XW _ _ _ _ _ _ _ 16 _ _)
    refine xi_getR (y := 59) (by decide +kernel : decode mX11_lay.2.1 16 = .ok (.getfield 32, 3)) fX11_32 rfl (by omega) rfl (mp_told hM) (?_ : XW _ _ _ _ _ _ _ 19 _ _)
    refine xi_bipush (v := 14) (by decide +kernel : decode mX11_lay.2.1 19 = .ok (.bipush 14, 2)) (by decide) (?_ : XW _ _ _ _ _ _ _ 21 _ _)
    refine xi_iald (by decide +kernel : decode mX11_lay.2.1 21 = .ok (.iaload, 1)) rfl (by omega) (by unfold vp_in; decide) (?_ : XW _ _ _ _ _ _ _ 22 _ [.int (xI h 59 14), .int 500, .ref 63])
    refine xi_iadd (by decide +kernel : decode mX11_lay.2.1 22 = .ok (.iadd, 1)) (?_ : XW _ _ _ _ _ _ _ 23 _ _)
    refine xi_iload_n (by decide +kernel : decode mX11_lay.2.1 23 = .ok (.iload_n 1, 1)) rfl rfl (?_ : XW _ _ _ _ _ _ _ 24 _ _)
    obtain ⟨s1, vc⟩ := vc
    refine xi_iast (by decide +kernel : decode mX11_lay.2.1 24 = .ok (.iastore, 1)) rfl (by omega) s1 (?_ : XW _ _ _ _ _ _ (xSI 63 (va_up (xI h 63) (500 + (xI h 59 14)).toNatClampNeg cx) h) 25 _ _)
    refine xi_aload_n (by decide +kernel : decode mX11_lay.2.1 25 = .ok (.aload_n 0, 1)) rfl rfl (?_ : XW _ _ _ _ _ _ _ 26 _ _)
    refine xi_getR (y := 59) (by decide +kernel : decode mX11_lay.2.1 26 = .ok (.getfield 32, 3)) fX11_32 rfl (by omega) rfl (mp_told hM) (?_ : XW _ _ _ _ _ _ _ 29 _ _)
    refine xi_bipush (v := 14) (by decide +kernel : decode mX11_lay.2.1 29 = .ok (.bipush 14, 2)) (by decide) (?_ : XW _ _ _ _ _ _ _ 31 _ _)
    refine xi_dup2 (by decide +kernel : decode mX11_lay.2.1 31 = .ok (.dup2, 1)) rfl rfl (?_ : XW _ _ _ _ _ _ _ 32 _ _)
    refine xi_iald (by decide +kernel : decode mX11_lay.2.1 32 = .ok (.iaload, 1)) rfl (by omega) (by unfold vp_in; decide) (?_ : XW _ _ _ _ _ _ _ 33 _ [.int (xI h 59 14), .int 14, .ref 59])
    refine xi_iconst (v := 1) (by decide +kernel : decode mX11_lay.2.1 33 = .ok (.iconst 1, 1)) (by decide) (?_ : XW _ _ _ _ _ _ _ 34 _ _)
    refine xi_iadd (by decide +kernel : decode mX11_lay.2.1 34 = .ok (.iadd, 1)) (?_ : XW _ _ _ _ _ _ _ 35 _ _)
    refine xi_iast (by decide +kernel : decode mX11_lay.2.1 35 = .ok (.iastore, 1)) rfl (by omega) (by unfold vp_in; decide) (?_ : XW _ _ _ _ _ _ (xSI 59 (va_up (xI h 59) 14 ((xI h 59 14) + 1)) (xSI 63 (va_up (xI h 63) (500 + (xI h 59 14)).toNatClampNeg cx) h)) 36 _ _)
    exact xi_vret (by decide +kernel : decode mX11_lay.2.1 36 = .ok (.return_, 1)) rfl vc
  · replace vc := vc.2 c
    exact xi_vret (by decide +kernel : decode mX11_lay.2.1 7 = .ok (.return_, 1)) rfl vc

set_option maxRecDepth 20000 in
theorem v_X11_readPart_0 {h : XH} {Q : Option Value → XH → Prop} {X : String → XH → Prop} (D : Nat) (hD : 18 ≤ D) (hM : xMod (xP h))  (ax : Int32)
    (vc : ((xI h 56 18) = 0 → (¬ (xI h 56 14) = 2 → (¬ (xI h 56 14) = 1 → ∃ Q1, XSpec mX11_mark 3 0 0 100 100 [.ref 56, .int 40] h Q1 xno ∧ ∀ v h1, Q1 v h1 → v = none ∧ (∃ Q1, XSpec mX11_readExpression D 0 0 100 100 [.ref 56, .int (ax + 1)] h1 Q1 xno ∧ ∀ v h2, Q1 v h2 → v = none ∧ (∃ Q1, XSpec mX11_mark 3 0 0 100 100 [.ref 56, .int 41] h2 Q1 xno ∧ ∀ v h3, Q1 v h3 → v = none ∧ (Q none h3)))) ∧ ((xI h 56 14) = 1 → ∃ Q1, XSpec mX11_which 13 0 0 100 100 [.ref 56, .ref 58] h Q1 xno ∧ ∀ v h4, Q1 v h4 → ∃ r4 : Int32, v = some (.int r4) ∧ ((¬ r4 = (-1) → ∃ Q1, XSpec mX11_lay 1 0 0 100 100 [.ref 56, .int ((-1) - r4)] h4 Q1 xno ∧ ∀ v h5, Q1 v h5 → v = none ∧ ((¬ (xI h5 56 18) = 0 → Q none h5) ∧ ((xI h5 56 18) = 0 → ∃ Q1, XSpec mX11_stepOn 2 0 0 100 100 [.ref 56] h5 Q1 xno ∧ ∀ v h6, Q1 v h6 → v = none ∧ (Q none h6)))) ∧ (r4 = (-1) → ∃ Q1, XSpec mX11_wrong 1 0 0 100 100 [.ref 56, .int 3] h4 Q1 xno ∧ ∀ v h7, Q1 v h7 → v = none ∧ (∃ Q1, XSpec mX11_lay 1 0 0 100 100 [.ref 56, .int ((-1) - r4)] h7 Q1 xno ∧ ∀ v h8, Q1 v h8 → v = none ∧ ((¬ (xI h8 56 18) = 0 → Q none h8) ∧ ((xI h8 56 18) = 0 → ∃ Q1, XSpec mX11_stepOn 2 0 0 100 100 [.ref 56] h8 Q1 xno ∧ ∀ v h9, Q1 v h9 → v = none ∧ (Q none h9)))))))) ∧ ((xI h 56 14) = 2 → ∃ Q1, XSpec mX11_readNumber 3 0 0 100 100 [.ref 56, .int 0, .int 9999] h Q1 xno ∧ ∀ v h10, Q1 v h10 → ∃ r10 : Int32, v = some (.int r10) ∧ (∃ Q1, XSpec mX11_lay 1 0 0 100 100 [.ref 56, .int r10] h10 Q1 xno ∧ ∀ v h11, Q1 v h11 → v = none ∧ (Q none h11)))) ∧ (¬ (xI h 56 18) = 0 → Q none h)) :
    XW (xrm (D + 1) 0 0) mX11_readPart (xE 100 Q X 0 0) 100 0 0 h 0 [some (.ref 56), some (.int ax), none] [] := by
  refine xi_aload_n (by decide +kernel : decode mX11_readPart.2.1 0 = .ok (.aload_n 0, 1)) rfl rfl (?_ : XW _ _ _ _ _ _ _ 1 _ _)
  refine xi_getI (by decide +kernel : decode mX11_readPart.2.1 1 = .ok (.getfield 211, 3)) fX11_211 rfl (by omega) rfl (?_ : XW _ _ _ _ _ _ _ 4 _ _)
  refine xi_if_eq (by decide +kernel : decode mX11_readPart.2.1 4 = .ok (.ifCond .eq 4, 3)) (by decide) (fun c => (?_ : XW _ _ _ _ _ _ _ 8 _ _)) (fun c => (?_ : XW _ _ _ _ _ _ _ 7 _ _))
  · replace vc := vc.1 c
    refine xi_aload_n (by decide +kernel : decode mX11_readPart.2.1 8 = .ok (.aload_n 0, 1)) rfl rfl (?_ : XW _ _ _ _ _ _ _ 9 _ _)
    refine xi_getI (by decide +kernel : decode mX11_readPart.2.1 9 = .ok (.getfield 185, 3)) fX11_185 rfl (by omega) rfl (?_ : XW _ _ _ _ _ _ _ 12 _ _)
    refine xi_iconst (v := 2) (by decide +kernel : decode mX11_readPart.2.1 12 = .ok (.iconst 2, 1)) (by decide) (?_ : XW _ _ _ _ _ _ _ 13 _ _)
    refine xi_icmp_ne (by decide +kernel : decode mX11_readPart.2.1 13 = .ok (.if_icmp .ne 16, 3)) (by decide) (fun c => (?_ : XW _ _ _ _ _ _ _ 29 _ _)) (fun c => (?_ : XW _ _ _ _ _ _ _ 16 _ _))
    · replace vc := vc.1 c
      refine xi_aload_n (by decide +kernel : decode mX11_readPart.2.1 29 = .ok (.aload_n 0, 1)) rfl rfl (?_ : XW _ _ _ _ _ _ _ 30 _ _)
      refine xi_getI (by decide +kernel : decode mX11_readPart.2.1 30 = .ok (.getfield 185, 3)) fX11_185 rfl (by omega) rfl (?_ : XW _ _ _ _ _ _ _ 33 _ _)
      refine xi_iconst (v := 1) (by decide +kernel : decode mX11_readPart.2.1 33 = .ok (.iconst 1, 1)) (by decide) (?_ : XW _ _ _ _ _ _ _ 34 _ _)
      refine xi_icmp_ne (by decide +kernel : decode mX11_readPart.2.1 34 = .ok (.if_icmp .ne 41, 3)) (by decide) (fun c => (?_ : XW _ _ _ _ _ _ _ 75 _ _)) (fun c => (?_ : XW _ _ _ _ _ _ _ 37 _ _))
      · replace vc := vc.1 c
        refine xi_aload_n (by decide +kernel : decode mX11_readPart.2.1 75 = .ok (.aload_n 0, 1)) rfl rfl (?_ : XW _ _ _ _ _ _ _ 76 _ _)
        refine xi_bipush (v := 40) (by decide +kernel : decode mX11_readPart.2.1 76 = .ok (.bipush 40, 2)) (by decide) (?_ : XW _ _ _ _ _ _ _ 78 _ _)
        obtain ⟨Q1, sp, vc⟩ := vc
        refine xi_callV (b := 0) (bs := 0) (As := [.int 40]) (st := []) (by decide +kernel : decode mX11_readPart.2.1 78 = .ok (.invokevirtual 252, 3)) kX11_252 rfl rfl (by omega) rfl sp (xrm_f (by omega)) (xrm_l (by omega) (Nat.le_of_ble_eq_true rfl)) (Nat.le_of_ble_eq_true rfl) (by omega) (fun v9 h1 hq9 => ?_)
        obtain ⟨e9, vc⟩ := vc v9 h1 hq9
        subst e9
        show XW _ _ _ _ _ _ _ 81 _ []
        refine xi_aload_n (by decide +kernel : decode mX11_readPart.2.1 81 = .ok (.aload_n 0, 1)) rfl rfl (?_ : XW _ _ _ _ _ _ _ 82 _ _)
        refine xi_iload_n (by decide +kernel : decode mX11_readPart.2.1 82 = .ok (.iload_n 1, 1)) rfl rfl (?_ : XW _ _ _ _ _ _ _ 83 _ _)
        refine xi_iconst (v := 1) (by decide +kernel : decode mX11_readPart.2.1 83 = .ok (.iconst 1, 1)) (by decide) (?_ : XW _ _ _ _ _ _ _ 84 _ _)
        refine xi_iadd (by decide +kernel : decode mX11_readPart.2.1 84 = .ok (.iadd, 1)) (?_ : XW _ _ _ _ _ _ _ 85 _ _)
        obtain ⟨Q1, sp, vc⟩ := vc
        refine xi_callV (b := 0) (bs := 0) (As := [.int (ax + 1)]) (st := []) (by decide +kernel : decode mX11_readPart.2.1 85 = .ok (.invokevirtual 255, 3)) kX11_255 rfl rfl (by omega) rfl sp (xrm_f (by omega)) (xrm_l (by omega) (Nat.le_of_ble_eq_true rfl)) (Nat.le_of_ble_eq_true rfl) (by omega) (fun v9 h2 hq9 => ?_)
        obtain ⟨e9, vc⟩ := vc v9 h2 hq9
        subst e9
        show XW _ _ _ _ _ _ _ 88 _ []
        refine xi_aload_n (by decide +kernel : decode mX11_readPart.2.1 88 = .ok (.aload_n 0, 1)) rfl rfl (?_ : XW _ _ _ _ _ _ _ 89 _ _)
        refine xi_bipush (v := 41) (by decide +kernel : decode mX11_readPart.2.1 89 = .ok (.bipush 41, 2)) (by decide) (?_ : XW _ _ _ _ _ _ _ 91 _ _)
        obtain ⟨Q1, sp, vc⟩ := vc
        refine xi_callV (b := 0) (bs := 0) (As := [.int 41]) (st := []) (by decide +kernel : decode mX11_readPart.2.1 91 = .ok (.invokevirtual 252, 3)) kX11_252 rfl rfl (by omega) rfl sp (xrm_f (by omega)) (xrm_l (by omega) (Nat.le_of_ble_eq_true rfl)) (Nat.le_of_ble_eq_true rfl) (by omega) (fun v9 h3 hq9 => ?_)
        obtain ⟨e9, vc⟩ := vc v9 h3 hq9
        subst e9
        show XW _ _ _ _ _ _ _ 94 _ []
        exact xi_vret (by decide +kernel : decode mX11_readPart.2.1 94 = .ok (.return_, 1)) rfl vc
      · replace vc := vc.2 c
        refine xi_aload_n (by decide +kernel : decode mX11_readPart.2.1 37 = .ok (.aload_n 0, 1)) rfl rfl (?_ : XW _ _ _ _ _ _ _ 38 _ _)
        refine xi_aload_n (by decide +kernel : decode mX11_readPart.2.1 38 = .ok (.aload_n 0, 1)) rfl rfl (?_ : XW _ _ _ _ _ _ _ 39 _ _)
        refine xi_getR (y := 58) (by decide +kernel : decode mX11_readPart.2.1 39 = .ok (.getfield 29, 3)) fX11_29 rfl (by omega) rfl (mp_values hM) (?_ : XW _ _ _ _ _ _ _ 42 _ _)
        obtain ⟨Q1, sp, vc⟩ := vc
        refine xi_callV (b := 0) (bs := 0) (As := [.ref 58]) (st := []) (by decide +kernel : decode mX11_readPart.2.1 42 = .ok (.invokevirtual 248, 3)) kX11_248 rfl rfl (by omega) rfl sp (xrm_f (by omega)) (xrm_l (by omega) (Nat.le_of_ble_eq_true rfl)) (Nat.le_of_ble_eq_true rfl) (by omega) (fun v9 h4 hq9 => ?_)
        obtain ⟨r4, e9, vc⟩ := vc v9 h4 hq9
        subst e9
        show XW _ _ _ _ _ _ _ 45 _ [.int r4]
        refine xi_istore_n (ls' := [some (.ref 56), some (.int ax), some (.int r4)]) (by decide +kernel : decode mX11_readPart.2.1 45 = .ok (.istore_n 2, 1)) rfl (by decide) rfl (?_ : XW _ _ _ _ _ _ _ 46 _ _)
        refine xi_iload_n (by decide +kernel : decode mX11_readPart.2.1 46 = .ok (.iload_n 2, 1)) rfl rfl (?_ : XW _ _ _ _ _ _ _ 47 _ _)
        refine xi_iconst (v := (-1)) (by decide +kernel : decode mX11_readPart.2.1 47 = .ok (.iconst (-1), 1)) (by decide) (?_ : XW _ _ _ _ _ _ _ 48 _ _)
        refine xi_icmp_ne (by decide +kernel : decode mX11_readPart.2.1 48 = .ok (.if_icmp .ne 8, 3)) (by decide) (fun c => (?_ : XW _ _ _ _ _ _ _ 56 _ _)) (fun c => (?_ : XW _ _ _ _ _ _ _ 51 _ _))
        · replace vc := vc.1 c
          refine xi_aload_n (by decide +kernel : decode mX11_readPart.2.1 56 = .ok (.aload_n 0, 1)) rfl rfl (?_ : XW _ _ _ _ _ _ _ 57 _ _)
          refine xi_iconst (v := (-1)) (by decide +kernel : decode mX11_readPart.2.1 57 = .ok (.iconst (-1), 1)) (by decide) (?_ : XW _ _ _ _ _ _ _ 58 _ _)
          refine xi_iload_n (by decide +kernel : decode mX11_readPart.2.1 58 = .ok (.iload_n 2, 1)) rfl rfl (?_ : XW _ _ _ _ _ _ _ 59 _ _)
          refine xi_isub (by decide +kernel : decode mX11_readPart.2.1 59 = .ok (.isub, 1)) (?_ : XW _ _ _ _ _ _ _ 60 _ _)
          obtain ⟨Q1, sp, vc⟩ := vc
          refine xi_callV (b := 0) (bs := 0) (As := [.int ((-1) - r4)]) (st := []) (by decide +kernel : decode mX11_readPart.2.1 60 = .ok (.invokevirtual 245, 3)) kX11_245 rfl rfl (by omega) rfl sp (xrm_f (by omega)) (xrm_l (by omega) (Nat.le_of_ble_eq_true rfl)) (Nat.le_of_ble_eq_true rfl) (by omega) (fun v9 h5 hq9 => ?_)
          obtain ⟨e9, vc⟩ := vc v9 h5 hq9
          subst e9
          show XW _ _ _ _ _ _ _ 63 _ []
          refine xi_aload_n (by decide +kernel : decode mX11_readPart.2.1 63 = .ok (.aload_n 0, 1)) rfl rfl (?_ : XW _ _ _ _ _ _ _ 64 _ _)
          refine xi_getI (by decide +kernel : decode mX11_readPart.2.1 64 = .ok (.getfield 211, 3)) fX11_211 rfl (by omega) rfl (?_ : XW _ _ _ _ _ _ _ 67 _ _)
          refine xi_if_ne (by decide +kernel : decode mX11_readPart.2.1 67 = .ok (.ifCond .ne 7, 3)) (by decide) (fun c => (?_ : XW _ _ _ _ _ _ _ 74 _ _)) (fun c => (?_ : XW _ _ _ _ _ _ _ 70 _ _))
          · replace vc := vc.1 c
            exact xi_vret (by decide +kernel : decode mX11_readPart.2.1 74 = .ok (.return_, 1)) rfl vc
          · replace vc := vc.2 c
            refine xi_aload_n (by decide +kernel : decode mX11_readPart.2.1 70 = .ok (.aload_n 0, 1)) rfl rfl (?_ : XW _ _ _ _ _ _ _ 71 _ _)
            obtain ⟨Q1, sp, vc⟩ := vc
            refine xi_callV (b := 0) (bs := 0) (As := []) (st := []) (by decide +kernel : decode mX11_readPart.2.1 71 = .ok (.invokevirtual 236, 3)) kX11_236 rfl rfl (by omega) rfl sp (xrm_f (by omega)) (xrm_l (by omega) (Nat.le_of_ble_eq_true rfl)) (Nat.le_of_ble_eq_true rfl) (by omega) (fun v9 h6 hq9 => ?_)
            obtain ⟨e9, vc⟩ := vc v9 h6 hq9
            subst e9
            show XW _ _ _ _ _ _ _ 74 _ []
            exact xi_vret (by decide +kernel : decode mX11_readPart.2.1 74 = .ok (.return_, 1)) rfl vc
        · replace vc := vc.2 c
          refine xi_aload_n (by decide +kernel : decode mX11_readPart.2.1 51 = .ok (.aload_n 0, 1)) rfl rfl (?_ : XW _ _ _ _ _ _ _ 52 _ _)
          refine xi_iconst (v := 3) (by decide +kernel : decode mX11_readPart.2.1 52 = .ok (.iconst 3, 1)) (by decide) (?_ : XW _ _ _ _ _ _ _ 53 _ _)
          obtain ⟨Q1, sp, vc⟩ := vc
          refine xi_callV (b := 0) (bs := 0) (As := [.int 3]) (st := []) (by decide +kernel : decode mX11_readPart.2.1 53 = .ok (.invokevirtual 232, 3)) kX11_232 rfl rfl (by omega) rfl sp (xrm_f (by omega)) (xrm_l (by omega) (Nat.le_of_ble_eq_true rfl)) (Nat.le_of_ble_eq_true rfl) (by omega) (fun v9 h7 hq9 => ?_)
          obtain ⟨e9, vc⟩ := vc v9 h7 hq9
          subst e9
          show XW _ _ _ _ _ _ _ 56 _ []
          refine xi_aload_n (by decide +kernel : decode mX11_readPart.2.1 56 = .ok (.aload_n 0, 1)) rfl rfl (?_ : XW _ _ _ _ _ _ _ 57 _ _)
          refine xi_iconst (v := (-1)) (by decide +kernel : decode mX11_readPart.2.1 57 = .ok (.iconst (-1), 1)) (by decide) (?_ : XW _ _ _ _ _ _ _ 58 _ _)
          refine xi_iload_n (by decide +kernel : decode mX11_readPart.2.1 58 = .ok (.iload_n 2, 1)) rfl rfl (?_ : XW _ _ _ _ _ _ _ 59 _ _)
          refine xi_isub (by decide +kernel : decode mX11_readPart.2.1 59 = .ok (.isub, 1)) (?_ : XW _ _ _ _ _ _ _ 60 _ _)
          obtain ⟨Q1, sp, vc⟩ := vc
          refine xi_callV (b := 0) (bs := 0) (As := [.int ((-1) - r4)]) (st := []) (by decide +kernel : decode mX11_readPart.2.1 60 = .ok (.invokevirtual 245, 3)) kX11_245 rfl rfl (by omega) rfl sp (xrm_f (by omega)) (xrm_l (by omega) (Nat.le_of_ble_eq_true rfl)) (Nat.le_of_ble_eq_true rfl) (by omega) (fun v9 h8 hq9 => ?_)
          obtain ⟨e9, vc⟩ := vc v9 h8 hq9
          subst e9
          show XW _ _ _ _ _ _ _ 63 _ []
          refine xi_aload_n (by decide +kernel : decode mX11_readPart.2.1 63 = .ok (.aload_n 0, 1)) rfl rfl (?_ : XW _ _ _ _ _ _ _ 64 _ _)
          refine xi_getI (by decide +kernel : decode mX11_readPart.2.1 64 = .ok (.getfield 211, 3)) fX11_211 rfl (by omega) rfl (?_ : XW _ _ _ _ _ _ _ 67 _ _)
          refine xi_if_ne (by decide +kernel : decode mX11_readPart.2.1 67 = .ok (.ifCond .ne 7, 3)) (by decide) (fun c => (?_ : XW _ _ _ _ _ _ _ 74 _ _)) (fun c => (?_ : XW _ _ _ _ _ _ _ 70 _ _))
          · replace vc := vc.1 c
            exact xi_vret (by decide +kernel : decode mX11_readPart.2.1 74 = .ok (.return_, 1)) rfl vc
          · replace vc := vc.2 c
            refine xi_aload_n (by decide +kernel : decode mX11_readPart.2.1 70 = .ok (.aload_n 0, 1)) rfl rfl (?_ : XW _ _ _ _ _ _ _ 71 _ _)
            obtain ⟨Q1, sp, vc⟩ := vc
            refine xi_callV (b := 0) (bs := 0) (As := []) (st := []) (by decide +kernel : decode mX11_readPart.2.1 71 = .ok (.invokevirtual 236, 3)) kX11_236 rfl rfl (by omega) rfl sp (xrm_f (by omega)) (xrm_l (by omega) (Nat.le_of_ble_eq_true rfl)) (Nat.le_of_ble_eq_true rfl) (by omega) (fun v9 h9 hq9 => ?_)
            obtain ⟨e9, vc⟩ := vc v9 h9 hq9
            subst e9
            show XW _ _ _ _ _ _ _ 74 _ []
            exact xi_vret (by decide +kernel : decode mX11_readPart.2.1 74 = .ok (.return_, 1)) rfl vc
    · replace vc := vc.2 c
      refine xi_aload_n (by decide +kernel : decode mX11_readPart.2.1 16 = .ok (.aload_n 0, 1)) rfl rfl (?_ : XW _ _ _ _ _ _ _ 17 _ _)
      refine xi_aload_n (by decide +kernel : decode mX11_readPart.2.1 17 = .ok (.aload_n 0, 1)) rfl rfl (?_ : XW _ _ _ _ _ _ _ 18 _ _)
      refine xi_iconst (v := 0) (by decide +kernel : decode mX11_readPart.2.1 18 = .ok (.iconst 0, 1)) (by decide) (?_ : XW _ _ _ _ _ _ _ 19 _ _)
      refine xi_sipush (v := 9999) (by decide +kernel : decode mX11_readPart.2.1 19 = .ok (.sipush 9999, 3)) (by decide) (?_ : XW _ _ _ _ _ _ _ 22 _ _)
      obtain ⟨Q1, sp, vc⟩ := vc
      refine xi_callV (b := 0) (bs := 0) (As := [.int 0, .int 9999]) (st := [.ref 56]) (by decide +kernel : decode mX11_readPart.2.1 22 = .ok (.invokevirtual 242, 3)) kX11_242 rfl rfl (by omega) rfl sp (xrm_f (by omega)) (xrm_l (by omega) (Nat.le_of_ble_eq_true rfl)) (Nat.le_of_ble_eq_true rfl) (by omega) (fun v9 h10 hq9 => ?_)
      obtain ⟨r10, e9, vc⟩ := vc v9 h10 hq9
      subst e9
      show XW _ _ _ _ _ _ _ 25 _ [.int r10, .ref 56]
      obtain ⟨Q1, sp, vc⟩ := vc
      refine xi_callV (b := 0) (bs := 0) (As := [.int r10]) (st := []) (by decide +kernel : decode mX11_readPart.2.1 25 = .ok (.invokevirtual 245, 3)) kX11_245 rfl rfl (by omega) rfl sp (xrm_f (by omega)) (xrm_l (by omega) (Nat.le_of_ble_eq_true rfl)) (Nat.le_of_ble_eq_true rfl) (by omega) (fun v9 h11 hq9 => ?_)
      obtain ⟨e9, vc⟩ := vc v9 h11 hq9
      subst e9
      show XW _ _ _ _ _ _ _ 28 _ []
      exact xi_vret (by decide +kernel : decode mX11_readPart.2.1 28 = .ok (.return_, 1)) rfl vc
  · replace vc := vc.2 c
    exact xi_vret (by decide +kernel : decode mX11_readPart.2.1 7 = .ok (.return_, 1)) rfl vc

set_option maxRecDepth 20000 in
theorem v_X11_readProduct_0 {h : XH} {Q : Option Value → XH → Prop} {X : String → XH → Prop} (D : Nat) (hD : 18 ≤ D) (hM : xMod (xP h))  (ax : Int32)
    (vc : ∃ Q1, XSpec mX11_readPart (D + 1) 0 0 100 100 [.ref 56, .int ax] h Q1 xno ∧ ∀ v h1, Q1 v h1 → v = none ∧ (XW (xrm (D + 2) 0 0) mX11_readProduct (xE 100 Q X 0 0) 100 0 0 h1 5 [some (.ref 56), some (.int ax), none] [])) :
    XW (xrm (D + 2) 0 0) mX11_readProduct (xE 100 Q X 0 0) 100 0 0 h 0 [some (.ref 56), some (.int ax), none] [] := by
  refine xi_aload_n (by decide +kernel : decode mX11_readProduct.2.1 0 = .ok (.aload_n 0, 1)) rfl rfl (?_ : XW _ _ _ _ _ _ _ 1 _ _)
  refine xi_iload_n (by decide +kernel : decode mX11_readProduct.2.1 1 = .ok (.iload_n 1, 1)) rfl rfl (?_ : XW _ _ _ _ _ _ _ 2 _ _)
  obtain ⟨Q1, sp, vc⟩ := vc
  refine xi_callV (b := 0) (bs := 0) (As := [.int ax]) (st := []) (by decide +kernel : decode mX11_readProduct.2.1 2 = .ok (.invokevirtual 258, 3)) kX11_258 rfl rfl (by omega) rfl sp (xrm_f (by omega)) (xrm_l (by omega) (Nat.le_of_ble_eq_true rfl)) (Nat.le_of_ble_eq_true rfl) (by omega) (fun v9 h1 hq9 => ?_)
  obtain ⟨e9, vc⟩ := vc v9 h1 hq9
  subst e9
  show XW _ _ _ _ _ _ _ 5 _ []
  exact vc

set_option maxRecDepth 20000 in
theorem v_X11_readProduct_5 {h : XH} {Q : Option Value → XH → Prop} {X : String → XH → Prop} (D : Nat) (hD : 18 ≤ D) (hM : xMod (xP h))  (x1 : Int32)
    (vc : ∃ Q1, XSpec mX11_isMarked 1 0 0 100 100 [.ref 56, .int 42] h Q1 xno ∧ ∀ v h2, Q1 v h2 → ∃ r2 : Int32, v = some (.int r2) ∧ ((¬ r2 = 0 → XW (xrm (D + 2) 0 0) mX11_readProduct (xE 100 Q X 0 0) 100 0 0 h2 23 [some (.ref 56), some (.int x1), none] []) ∧ (r2 = 0 → ∃ Q1, XSpec mX11_isMarked 1 0 0 100 100 [.ref 56, .int 47] h2 Q1 xno ∧ ∀ v h3, Q1 v h3 → ∃ r3 : Int32, v = some (.int r3) ∧ ((r3 = 0 → Q none h3) ∧ (¬ r3 = 0 → XW (xrm (D + 2) 0 0) mX11_readProduct (xE 100 Q X 0 0) 100 0 0 h3 23 [some (.ref 56), some (.int x1), none] []))))) :
    XW (xrm (D + 2) 0 0) mX11_readProduct (xE 100 Q X 0 0) 100 0 0 h 5 [some (.ref 56), some (.int x1), none] [] := by
  refine xi_aload_n (by decide +kernel : decode mX11_readProduct.2.1 5 = .ok (.aload_n 0, 1)) rfl rfl (?_ : XW _ _ _ _ _ _ _ 6 _ _)
  refine xi_bipush (v := 42) (by decide +kernel : decode mX11_readProduct.2.1 6 = .ok (.bipush 42, 2)) (by decide) (?_ : XW _ _ _ _ _ _ _ 8 _ _)
  obtain ⟨Q1, sp, vc⟩ := vc
  refine xi_callV (b := 0) (bs := 0) (As := [.int 42]) (st := []) (by decide +kernel : decode mX11_readProduct.2.1 8 = .ok (.invokevirtual 229, 3)) kX11_229 rfl rfl (by omega) rfl sp (xrm_f (by omega)) (xrm_l (by omega) (Nat.le_of_ble_eq_true rfl)) (Nat.le_of_ble_eq_true rfl) (by omega) (fun v9 h2 hq9 => ?_)
  obtain ⟨r2, e9, vc⟩ := vc v9 h2 hq9
  subst e9
  show XW _ _ _ _ _ _ _ 11 _ [.int r2]
  refine xi_if_ne (by decide +kernel : decode mX11_readProduct.2.1 11 = .ok (.ifCond .ne 12, 3)) (by decide) (fun c => (?_ : XW _ _ _ _ _ _ _ 23 _ _)) (fun c => (?_ : XW _ _ _ _ _ _ _ 14 _ _))
  · replace vc := vc.1 c
    exact vc
  · replace vc := vc.2 c
    refine xi_aload_n (by decide +kernel : decode mX11_readProduct.2.1 14 = .ok (.aload_n 0, 1)) rfl rfl (?_ : XW _ _ _ _ _ _ _ 15 _ _)
    refine xi_bipush (v := 47) (by decide +kernel : decode mX11_readProduct.2.1 15 = .ok (.bipush 47, 2)) (by decide) (?_ : XW _ _ _ _ _ _ _ 17 _ _)
    obtain ⟨Q1, sp, vc⟩ := vc
    refine xi_callV (b := 0) (bs := 0) (As := [.int 47]) (st := []) (by decide +kernel : decode mX11_readProduct.2.1 17 = .ok (.invokevirtual 229, 3)) kX11_229 rfl rfl (by omega) rfl sp (xrm_f (by omega)) (xrm_l (by omega) (Nat.le_of_ble_eq_true rfl)) (Nat.le_of_ble_eq_true rfl) (by omega) (fun v9 h3 hq9 => ?_)
    obtain ⟨r3, e9, vc⟩ := vc v9 h3 hq9
    subst e9
    show XW _ _ _ _ _ _ _ 20 _ [.int r3]
    refine xi_if_eq (by decide +kernel : decode mX11_readProduct.2.1 20 = .ok (.ifCond .eq 37, 3)) (by decide) (fun c => (?_ : XW _ _ _ _ _ _ _ 57 _ _)) (fun c => (?_ : XW _ _ _ _ _ _ _ 23 _ _))
    · replace vc := vc.1 c
      exact xi_vret (by decide +kernel : decode mX11_readProduct.2.1 57 = .ok (.return_, 1)) rfl vc
    · replace vc := vc.2 c
      exact vc

set_option maxRecDepth 20000 in
theorem v_X11_readProduct_23 {h : XH} {Q : Option Value → XH → Prop} {X : String → XH → Prop} (D : Nat) (hD : 18 ≤ D) (hM : xMod (xP h))  (x1 : Int32)
    (vc : ∃ Q1, XSpec mX11_isMarked 1 0 0 100 100 [.ref 56, .int 42] h Q1 xno ∧ ∀ v h4, Q1 v h4 → ∃ r4 : Int32, v = some (.int r4) ∧ ((r4 = 0 → XW (xrm (D + 2) 0 0) mX11_readProduct (xE 100 Q X 0 0) 100 0 0 h4 40 [some (.ref 56), some (.int x1), some (.int (-23))] []) ∧ (¬ r4 = 0 → XW (xrm (D + 2) 0 0) mX11_readProduct (xE 100 Q X 0 0) 100 0 0 h4 40 [some (.ref 56), some (.int x1), some (.int (-22))] []))) :
    XW (xrm (D + 2) 0 0) mX11_readProduct (xE 100 Q X 0 0) 100 0 0 h 23 [some (.ref 56), some (.int x1), none] [] := by
  refine xi_aload_n (by decide +kernel : decode mX11_readProduct.2.1 23 = .ok (.aload_n 0, 1)) rfl rfl (?_ : XW _ _ _ _ _ _ _ 24 _ _)
  refine xi_bipush (v := 42) (by decide +kernel : decode mX11_readProduct.2.1 24 = .ok (.bipush 42, 2)) (by decide) (?_ : XW _ _ _ _ _ _ _ 26 _ _)
  obtain ⟨Q1, sp, vc⟩ := vc
  refine xi_callV (b := 0) (bs := 0) (As := [.int 42]) (st := []) (by decide +kernel : decode mX11_readProduct.2.1 26 = .ok (.invokevirtual 229, 3)) kX11_229 rfl rfl (by omega) rfl sp (xrm_f (by omega)) (xrm_l (by omega) (Nat.le_of_ble_eq_true rfl)) (Nat.le_of_ble_eq_true rfl) (by omega) (fun v9 h4 hq9 => ?_)
  obtain ⟨r4, e9, vc⟩ := vc v9 h4 hq9
  subst e9
  show XW _ _ _ _ _ _ _ 29 _ [.int r4]
  refine xi_if_eq (by decide +kernel : decode mX11_readProduct.2.1 29 = .ok (.ifCond .eq 8, 3)) (by decide) (fun c => (?_ : XW _ _ _ _ _ _ _ 37 _ _)) (fun c => (?_ : XW _ _ _ _ _ _ _ 32 _ _))
  · replace vc := vc.1 c
    refine xi_bipush (v := (-23)) (by decide +kernel : decode mX11_readProduct.2.1 37 = .ok (.bipush (-23), 2)) (by decide) (?_ : XW _ _ _ _ _ _ _ 39 _ _)
    refine xi_istore_n (ls' := [some (.ref 56), some (.int x1), some (.int (-23))]) (by decide +kernel : decode mX11_readProduct.2.1 39 = .ok (.istore_n 2, 1)) rfl (by decide) rfl (?_ : XW _ _ _ _ _ _ _ 40 _ _)
    exact vc
  · replace vc := vc.2 c
    refine xi_bipush (v := (-22)) (by decide +kernel : decode mX11_readProduct.2.1 32 = .ok (.bipush (-22), 2)) (by decide) (?_ : XW _ _ _ _ _ _ _ 34 _ _)
    refine xi_goto (by decide +kernel : decode mX11_readProduct.2.1 34 = .ok (.goto 5, 3)) (by decide) (?_ : XW _ _ _ _ _ _ _ 39 _ _)
    refine xi_istore_n (ls' := [some (.ref 56), some (.int x1), some (.int (-22))]) (by decide +kernel : decode mX11_readProduct.2.1 39 = .ok (.istore_n 2, 1)) rfl (by decide) rfl (?_ : XW _ _ _ _ _ _ _ 40 _ _)
    exact vc

set_option maxRecDepth 20000 in
theorem v_X11_readProduct_40 {h : XH} {Q : Option Value → XH → Prop} {X : String → XH → Prop} (D : Nat) (hD : 18 ≤ D) (hM : xMod (xP h))  (x1 : Int32) (x2 : Int32)
    (vc : ∃ Q1, XSpec mX11_stepOn 2 0 0 100 100 [.ref 56] h Q1 xno ∧ ∀ v h5, Q1 v h5 → v = none ∧ (∃ Q1, XSpec mX11_readPart (D + 1) 0 0 100 100 [.ref 56, .int x1] h5 Q1 xno ∧ ∀ v h6, Q1 v h6 → v = none ∧ (∃ Q1, XSpec mX11_lay 1 0 0 100 100 [.ref 56, .int x2] h6 Q1 xno ∧ ∀ v h7, Q1 v h7 → v = none ∧ (XW (xrm (D + 2) 0 0) mX11_readProduct (xE 100 Q X 0 0) 100 0 0 h7 5 [some (.ref 56), some (.int x1), none] [])))) :
    XW (xrm (D + 2) 0 0) mX11_readProduct (xE 100 Q X 0 0) 100 0 0 h 40 [some (.ref 56), some (.int x1), some (.int x2)] [] := by
  refine xi_aload_n (by decide +kernel : decode mX11_readProduct.2.1 40 = .ok (.aload_n 0, 1)) rfl rfl (?_ : XW _ _ _ _ _ _ _ 41 _ _)
  obtain ⟨Q1, sp, vc⟩ := vc
  refine xi_callV (b := 0) (bs := 0) (As := []) (st := []) (by decide +kernel : decode mX11_readProduct.2.1 41 = .ok (.invokevirtual 236, 3)) kX11_236 rfl rfl (by omega) rfl sp (xrm_f (by omega)) (xrm_l (by omega) (Nat.le_of_ble_eq_true rfl)) (Nat.le_of_ble_eq_true rfl) (by omega) (fun v9 h5 hq9 => ?_)
  obtain ⟨e9, vc⟩ := vc v9 h5 hq9
  subst e9
  show XW _ _ _ _ _ _ _ 44 _ []
  refine xi_aload_n (by decide +kernel : decode mX11_readProduct.2.1 44 = .ok (.aload_n 0, 1)) rfl rfl (?_ : XW _ _ _ _ _ _ _ 45 _ _)
  refine xi_iload_n (by decide +kernel : decode mX11_readProduct.2.1 45 = .ok (.iload_n 1, 1)) rfl rfl (?_ : XW _ _ _ _ _ _ _ 46 _ _)
  obtain ⟨Q1, sp, vc⟩ := vc
  refine xi_callV (b := 0) (bs := 0) (As := [.int x1]) (st := []) (by decide +kernel : decode mX11_readProduct.2.1 46 = .ok (.invokevirtual 258, 3)) kX11_258 rfl rfl (by omega) rfl sp (xrm_f (by omega)) (xrm_l (by omega) (Nat.le_of_ble_eq_true rfl)) (Nat.le_of_ble_eq_true rfl) (by omega) (fun v9 h6 hq9 => ?_)
  obtain ⟨e9, vc⟩ := vc v9 h6 hq9
  subst e9
  show XW _ _ _ _ _ _ _ 49 _ []
  refine xi_aload_n (by decide +kernel : decode mX11_readProduct.2.1 49 = .ok (.aload_n 0, 1)) rfl rfl (?_ : XW _ _ _ _ _ _ _ 50 _ _)
  refine xi_iload_n (by decide +kernel : decode mX11_readProduct.2.1 50 = .ok (.iload_n 2, 1)) rfl rfl (?_ : XW _ _ _ _ _ _ _ 51 _ _)
  obtain ⟨Q1, sp, vc⟩ := vc
  refine xi_callV (b := 0) (bs := 0) (As := [.int x2]) (st := []) (by decide +kernel : decode mX11_readProduct.2.1 51 = .ok (.invokevirtual 245, 3)) kX11_245 rfl rfl (by omega) rfl sp (xrm_f (by omega)) (xrm_l (by omega) (Nat.le_of_ble_eq_true rfl)) (Nat.le_of_ble_eq_true rfl) (by omega) (fun v9 h7 hq9 => ?_)
  obtain ⟨e9, vc⟩ := vc v9 h7 hq9
  subst e9
  show XW _ _ _ _ _ _ _ 54 _ []
  refine xi_goto (by decide +kernel : decode mX11_readProduct.2.1 54 = .ok (.goto (-49), 3)) (by decide) (?_ : XW _ _ _ _ _ _ _ 5 _ _)
  refine xw_drop 2 (ls' := [some (.ref 56), some (.int x1), none]) rfl ?_
  exact vc

set_option maxRecDepth 20000 in
theorem v_X11_readSum_0 {h : XH} {Q : Option Value → XH → Prop} {X : String → XH → Prop} (D : Nat) (hD : 18 ≤ D) (hM : xMod (xP h))  (ax : Int32)
    (vc : ∃ Q1, XSpec mX11_readProduct (D + 2) 0 0 100 100 [.ref 56, .int ax] h Q1 xno ∧ ∀ v h1, Q1 v h1 → v = none ∧ (XW (xrm (D + 3) 0 0) mX11_readSum (xE 100 Q X 0 0) 100 0 0 h1 5 [some (.ref 56), some (.int ax), none] [])) :
    XW (xrm (D + 3) 0 0) mX11_readSum (xE 100 Q X 0 0) 100 0 0 h 0 [some (.ref 56), some (.int ax), none] [] := by
  refine xi_aload_n (by decide +kernel : decode mX11_readSum.2.1 0 = .ok (.aload_n 0, 1)) rfl rfl (?_ : XW _ _ _ _ _ _ _ 1 _ _)
  refine xi_iload_n (by decide +kernel : decode mX11_readSum.2.1 1 = .ok (.iload_n 1, 1)) rfl rfl (?_ : XW _ _ _ _ _ _ _ 2 _ _)
  obtain ⟨Q1, sp, vc⟩ := vc
  refine xi_callV (b := 0) (bs := 0) (As := [.int ax]) (st := []) (by decide +kernel : decode mX11_readSum.2.1 2 = .ok (.invokevirtual 261, 3)) kX11_261 rfl rfl (by omega) rfl sp (xrm_f (by omega)) (xrm_l (by omega) (Nat.le_of_ble_eq_true rfl)) (Nat.le_of_ble_eq_true rfl) (by omega) (fun v9 h1 hq9 => ?_)
  obtain ⟨e9, vc⟩ := vc v9 h1 hq9
  subst e9
  show XW _ _ _ _ _ _ _ 5 _ []
  exact vc

set_option maxRecDepth 20000 in
theorem v_X11_readSum_5 {h : XH} {Q : Option Value → XH → Prop} {X : String → XH → Prop} (D : Nat) (hD : 18 ≤ D) (hM : xMod (xP h))  (x1 : Int32)
    (vc : ∃ Q1, XSpec mX11_isMarked 1 0 0 100 100 [.ref 56, .int 43] h Q1 xno ∧ ∀ v h2, Q1 v h2 → ∃ r2 : Int32, v = some (.int r2) ∧ ((¬ r2 = 0 → XW (xrm (D + 3) 0 0) mX11_readSum (xE 100 Q X 0 0) 100 0 0 h2 23 [some (.ref 56), some (.int x1), none] []) ∧ (r2 = 0 → ∃ Q1, XSpec mX11_isMarked 1 0 0 100 100 [.ref 56, .int 45] h2 Q1 xno ∧ ∀ v h3, Q1 v h3 → ∃ r3 : Int32, v = some (.int r3) ∧ ((r3 = 0 → Q none h3) ∧ (¬ r3 = 0 → XW (xrm (D + 3) 0 0) mX11_readSum (xE 100 Q X 0 0) 100 0 0 h3 23 [some (.ref 56), some (.int x1), none] []))))) :
    XW (xrm (D + 3) 0 0) mX11_readSum (xE 100 Q X 0 0) 100 0 0 h 5 [some (.ref 56), some (.int x1), none] [] := by
  refine xi_aload_n (by decide +kernel : decode mX11_readSum.2.1 5 = .ok (.aload_n 0, 1)) rfl rfl (?_ : XW _ _ _ _ _ _ _ 6 _ _)
  refine xi_bipush (v := 43) (by decide +kernel : decode mX11_readSum.2.1 6 = .ok (.bipush 43, 2)) (by decide) (?_ : XW _ _ _ _ _ _ _ 8 _ _)
  obtain ⟨Q1, sp, vc⟩ := vc
  refine xi_callV (b := 0) (bs := 0) (As := [.int 43]) (st := []) (by decide +kernel : decode mX11_readSum.2.1 8 = .ok (.invokevirtual 229, 3)) kX11_229 rfl rfl (by omega) rfl sp (xrm_f (by omega)) (xrm_l (by omega) (Nat.le_of_ble_eq_true rfl)) (Nat.le_of_ble_eq_true rfl) (by omega) (fun v9 h2 hq9 => ?_)
  obtain ⟨r2, e9, vc⟩ := vc v9 h2 hq9
  subst e9
  show XW _ _ _ _ _ _ _ 11 _ [.int r2]
  refine xi_if_ne (by decide +kernel : decode mX11_readSum.2.1 11 = .ok (.ifCond .ne 12, 3)) (by decide) (fun c => (?_ : XW _ _ _ _ _ _ _ 23 _ _)) (fun c => (?_ : XW _ _ _ _ _ _ _ 14 _ _))
  · replace vc := vc.1 c
    exact vc
  · replace vc := vc.2 c
    refine xi_aload_n (by decide +kernel : decode mX11_readSum.2.1 14 = .ok (.aload_n 0, 1)) rfl rfl (?_ : XW _ _ _ _ _ _ _ 15 _ _)
    refine xi_bipush (v := 45) (by decide +kernel : decode mX11_readSum.2.1 15 = .ok (.bipush 45, 2)) (by decide) (?_ : XW _ _ _ _ _ _ _ 17 _ _)
    obtain ⟨Q1, sp, vc⟩ := vc
    refine xi_callV (b := 0) (bs := 0) (As := [.int 45]) (st := []) (by decide +kernel : decode mX11_readSum.2.1 17 = .ok (.invokevirtual 229, 3)) kX11_229 rfl rfl (by omega) rfl sp (xrm_f (by omega)) (xrm_l (by omega) (Nat.le_of_ble_eq_true rfl)) (Nat.le_of_ble_eq_true rfl) (by omega) (fun v9 h3 hq9 => ?_)
    obtain ⟨r3, e9, vc⟩ := vc v9 h3 hq9
    subst e9
    show XW _ _ _ _ _ _ _ 20 _ [.int r3]
    refine xi_if_eq (by decide +kernel : decode mX11_readSum.2.1 20 = .ok (.ifCond .eq 37, 3)) (by decide) (fun c => (?_ : XW _ _ _ _ _ _ _ 57 _ _)) (fun c => (?_ : XW _ _ _ _ _ _ _ 23 _ _))
    · replace vc := vc.1 c
      exact xi_vret (by decide +kernel : decode mX11_readSum.2.1 57 = .ok (.return_, 1)) rfl vc
    · replace vc := vc.2 c
      exact vc

set_option maxRecDepth 20000 in
theorem v_X11_readSum_23 {h : XH} {Q : Option Value → XH → Prop} {X : String → XH → Prop} (D : Nat) (hD : 18 ≤ D) (hM : xMod (xP h))  (x1 : Int32)
    (vc : ∃ Q1, XSpec mX11_isMarked 1 0 0 100 100 [.ref 56, .int 43] h Q1 xno ∧ ∀ v h4, Q1 v h4 → ∃ r4 : Int32, v = some (.int r4) ∧ ((r4 = 0 → XW (xrm (D + 3) 0 0) mX11_readSum (xE 100 Q X 0 0) 100 0 0 h4 40 [some (.ref 56), some (.int x1), some (.int (-21))] []) ∧ (¬ r4 = 0 → XW (xrm (D + 3) 0 0) mX11_readSum (xE 100 Q X 0 0) 100 0 0 h4 40 [some (.ref 56), some (.int x1), some (.int (-20))] []))) :
    XW (xrm (D + 3) 0 0) mX11_readSum (xE 100 Q X 0 0) 100 0 0 h 23 [some (.ref 56), some (.int x1), none] [] := by
  refine xi_aload_n (by decide +kernel : decode mX11_readSum.2.1 23 = .ok (.aload_n 0, 1)) rfl rfl (?_ : XW _ _ _ _ _ _ _ 24 _ _)
  refine xi_bipush (v := 43) (by decide +kernel : decode mX11_readSum.2.1 24 = .ok (.bipush 43, 2)) (by decide) (?_ : XW _ _ _ _ _ _ _ 26 _ _)
  obtain ⟨Q1, sp, vc⟩ := vc
  refine xi_callV (b := 0) (bs := 0) (As := [.int 43]) (st := []) (by decide +kernel : decode mX11_readSum.2.1 26 = .ok (.invokevirtual 229, 3)) kX11_229 rfl rfl (by omega) rfl sp (xrm_f (by omega)) (xrm_l (by omega) (Nat.le_of_ble_eq_true rfl)) (Nat.le_of_ble_eq_true rfl) (by omega) (fun v9 h4 hq9 => ?_)
  obtain ⟨r4, e9, vc⟩ := vc v9 h4 hq9
  subst e9
  show XW _ _ _ _ _ _ _ 29 _ [.int r4]
  refine xi_if_eq (by decide +kernel : decode mX11_readSum.2.1 29 = .ok (.ifCond .eq 8, 3)) (by decide) (fun c => (?_ : XW _ _ _ _ _ _ _ 37 _ _)) (fun c => (?_ : XW _ _ _ _ _ _ _ 32 _ _))
  · replace vc := vc.1 c
    refine xi_bipush (v := (-21)) (by decide +kernel : decode mX11_readSum.2.1 37 = .ok (.bipush (-21), 2)) (by decide) (?_ : XW _ _ _ _ _ _ _ 39 _ _)
    refine xi_istore_n (ls' := [some (.ref 56), some (.int x1), some (.int (-21))]) (by decide +kernel : decode mX11_readSum.2.1 39 = .ok (.istore_n 2, 1)) rfl (by decide) rfl (?_ : XW _ _ _ _ _ _ _ 40 _ _)
    exact vc
  · replace vc := vc.2 c
    refine xi_bipush (v := (-20)) (by decide +kernel : decode mX11_readSum.2.1 32 = .ok (.bipush (-20), 2)) (by decide) (?_ : XW _ _ _ _ _ _ _ 34 _ _)
    refine xi_goto (by decide +kernel : decode mX11_readSum.2.1 34 = .ok (.goto 5, 3)) (by decide) (?_ : XW _ _ _ _ _ _ _ 39 _ _)
    refine xi_istore_n (ls' := [some (.ref 56), some (.int x1), some (.int (-20))]) (by decide +kernel : decode mX11_readSum.2.1 39 = .ok (.istore_n 2, 1)) rfl (by decide) rfl (?_ : XW _ _ _ _ _ _ _ 40 _ _)
    exact vc

set_option maxRecDepth 20000 in
theorem v_X11_readSum_40 {h : XH} {Q : Option Value → XH → Prop} {X : String → XH → Prop} (D : Nat) (hD : 18 ≤ D) (hM : xMod (xP h))  (x1 : Int32) (x2 : Int32)
    (vc : ∃ Q1, XSpec mX11_stepOn 2 0 0 100 100 [.ref 56] h Q1 xno ∧ ∀ v h5, Q1 v h5 → v = none ∧ (∃ Q1, XSpec mX11_readProduct (D + 2) 0 0 100 100 [.ref 56, .int x1] h5 Q1 xno ∧ ∀ v h6, Q1 v h6 → v = none ∧ (∃ Q1, XSpec mX11_lay 1 0 0 100 100 [.ref 56, .int x2] h6 Q1 xno ∧ ∀ v h7, Q1 v h7 → v = none ∧ (XW (xrm (D + 3) 0 0) mX11_readSum (xE 100 Q X 0 0) 100 0 0 h7 5 [some (.ref 56), some (.int x1), none] [])))) :
    XW (xrm (D + 3) 0 0) mX11_readSum (xE 100 Q X 0 0) 100 0 0 h 40 [some (.ref 56), some (.int x1), some (.int x2)] [] := by
  refine xi_aload_n (by decide +kernel : decode mX11_readSum.2.1 40 = .ok (.aload_n 0, 1)) rfl rfl (?_ : XW _ _ _ _ _ _ _ 41 _ _)
  obtain ⟨Q1, sp, vc⟩ := vc
  refine xi_callV (b := 0) (bs := 0) (As := []) (st := []) (by decide +kernel : decode mX11_readSum.2.1 41 = .ok (.invokevirtual 236, 3)) kX11_236 rfl rfl (by omega) rfl sp (xrm_f (by omega)) (xrm_l (by omega) (Nat.le_of_ble_eq_true rfl)) (Nat.le_of_ble_eq_true rfl) (by omega) (fun v9 h5 hq9 => ?_)
  obtain ⟨e9, vc⟩ := vc v9 h5 hq9
  subst e9
  show XW _ _ _ _ _ _ _ 44 _ []
  refine xi_aload_n (by decide +kernel : decode mX11_readSum.2.1 44 = .ok (.aload_n 0, 1)) rfl rfl (?_ : XW _ _ _ _ _ _ _ 45 _ _)
  refine xi_iload_n (by decide +kernel : decode mX11_readSum.2.1 45 = .ok (.iload_n 1, 1)) rfl rfl (?_ : XW _ _ _ _ _ _ _ 46 _ _)
  obtain ⟨Q1, sp, vc⟩ := vc
  refine xi_callV (b := 0) (bs := 0) (As := [.int x1]) (st := []) (by decide +kernel : decode mX11_readSum.2.1 46 = .ok (.invokevirtual 261, 3)) kX11_261 rfl rfl (by omega) rfl sp (xrm_f (by omega)) (xrm_l (by omega) (Nat.le_of_ble_eq_true rfl)) (Nat.le_of_ble_eq_true rfl) (by omega) (fun v9 h6 hq9 => ?_)
  obtain ⟨e9, vc⟩ := vc v9 h6 hq9
  subst e9
  show XW _ _ _ _ _ _ _ 49 _ []
  refine xi_aload_n (by decide +kernel : decode mX11_readSum.2.1 49 = .ok (.aload_n 0, 1)) rfl rfl (?_ : XW _ _ _ _ _ _ _ 50 _ _)
  refine xi_iload_n (by decide +kernel : decode mX11_readSum.2.1 50 = .ok (.iload_n 2, 1)) rfl rfl (?_ : XW _ _ _ _ _ _ _ 51 _ _)
  obtain ⟨Q1, sp, vc⟩ := vc
  refine xi_callV (b := 0) (bs := 0) (As := [.int x2]) (st := []) (by decide +kernel : decode mX11_readSum.2.1 51 = .ok (.invokevirtual 245, 3)) kX11_245 rfl rfl (by omega) rfl sp (xrm_f (by omega)) (xrm_l (by omega) (Nat.le_of_ble_eq_true rfl)) (Nat.le_of_ble_eq_true rfl) (by omega) (fun v9 h7 hq9 => ?_)
  obtain ⟨e9, vc⟩ := vc v9 h7 hq9
  subst e9
  show XW _ _ _ _ _ _ _ 54 _ []
  refine xi_goto (by decide +kernel : decode mX11_readSum.2.1 54 = .ok (.goto (-49), 3)) (by decide) (?_ : XW _ _ _ _ _ _ _ 5 _ _)
  refine xw_drop 2 (ls' := [some (.ref 56), some (.int x1), none]) rfl ?_
  exact vc

set_option maxRecDepth 20000 in
theorem v_X11_readNot_0 {h : XH} {Q : Option Value → XH → Prop} {X : String → XH → Prop} (D : Nat) (hD : 18 ≤ D) (hM : xMod (xP h))  (ax : Int32)
    (vc : XW (xrm (D + 4) 0 0) mX11_readNot (xE 100 Q X 0 0) 100 0 0 h 2 [some (.ref 56), some (.int ax), some (.int 0), none] []) :
    XW (xrm (D + 4) 0 0) mX11_readNot (xE 100 Q X 0 0) 100 0 0 h 0 [some (.ref 56), some (.int ax), none, none] [] := by
  refine xi_iconst (v := 0) (by decide +kernel : decode mX11_readNot.2.1 0 = .ok (.iconst 0, 1)) (by decide) (?_ : XW _ _ _ _ _ _ _ 1 _ _)
  refine xi_istore_n (ls' := [some (.ref 56), some (.int ax), some (.int 0), none]) (by decide +kernel : decode mX11_readNot.2.1 1 = .ok (.istore_n 2, 1)) rfl (by decide) rfl (?_ : XW _ _ _ _ _ _ _ 2 _ _)
  exact vc

set_option maxRecDepth 20000 in
theorem v_X11_readNot_2 {h : XH} {Q : Option Value → XH → Prop} {X : String → XH → Prop} (D : Nat) (hD : 18 ≤ D) (hM : xMod (xP h))  (x1 : Int32) (x2 : Int32)
    (vc : ∃ Q1, XSpec mX11_is 12 0 0 100 100 [.ref 56, .ref (1000 + 43)] h Q1 xno ∧ ∀ v h1, Q1 v h1 → ∃ r1 : Int32, v = some (.int r1) ∧ ((r1 = 0 → XW (xrm (D + 4) 0 0) mX11_readNot (xE 100 Q X 0 0) 100 0 0 h1 40 [some (.ref 56), some (.int x1), some (.int x2), none] []) ∧ (¬ r1 = 0 → (¬ x2 = 6 → (¬ (xI h1 56 18) = 0 → XW (xrm (D + 4) 0 0) mX11_readNot (xE 100 Q X 0 0) 100 0 0 h1 2 [some (.ref 56), some (.int x1), some (.int (x2 + 1)), none] []) ∧ ((xI h1 56 18) = 0 → ∃ Q1, XSpec mX11_stepOn 2 0 0 100 100 [.ref 56] h1 Q1 xno ∧ ∀ v h2, Q1 v h2 → v = none ∧ (XW (xrm (D + 4) 0 0) mX11_readNot (xE 100 Q X 0 0) 100 0 0 h2 2 [some (.ref 56), some (.int x1), some (.int (x2 + 1)), none] []))) ∧ (x2 = 6 → ∃ Q1, XSpec mX11_wrong 1 0 0 100 100 [.ref 56, .int 2] h1 Q1 xno ∧ ∀ v h3, Q1 v h3 → v = none ∧ ((¬ (xI h3 56 18) = 0 → XW (xrm (D + 4) 0 0) mX11_readNot (xE 100 Q X 0 0) 100 0 0 h3 2 [some (.ref 56), some (.int x1), some (.int (x2 + 1)), none] []) ∧ ((xI h3 56 18) = 0 → ∃ Q1, XSpec mX11_stepOn 2 0 0 100 100 [.ref 56] h3 Q1 xno ∧ ∀ v h4, Q1 v h4 → v = none ∧ (XW (xrm (D + 4) 0 0) mX11_readNot (xE 100 Q X 0 0) 100 0 0 h4 2 [some (.ref 56), some (.int x1), some (.int (x2 + 1)), none] []))))))) :
    XW (xrm (D + 4) 0 0) mX11_readNot (xE 100 Q X 0 0) 100 0 0 h 2 [some (.ref 56), some (.int x1), some (.int x2), none] [] := by
  refine xi_aload_n (by decide +kernel : decode mX11_readNot.2.1 2 = .ok (.aload_n 0, 1)) rfl rfl (?_ : XW _ _ _ _ _ _ _ 3 _ _)
  refine xi_ldcwS (j := 43) (by decide +kernel : decode mX11_readNot.2.1 3 = .ok (.ldc_w 264, 3)) rfl (by decide) (?_ : XW _ _ _ _ _ _ _ 6 _ _)
  obtain ⟨Q1, sp, vc⟩ := vc
  refine xi_callV (b := 0) (bs := 0) (As := [.ref (1000 + 43)]) (st := []) (by decide +kernel : decode mX11_readNot.2.1 6 = .ok (.invokevirtual 225, 3)) kX11_225 rfl rfl (by omega) rfl sp (xrm_f (by omega)) (xrm_l (by omega) (Nat.le_of_ble_eq_true rfl)) (Nat.le_of_ble_eq_true rfl) (by omega) (fun v9 h1 hq9 => ?_)
  obtain ⟨r1, e9, vc⟩ := vc v9 h1 hq9
  subst e9
  show XW _ _ _ _ _ _ _ 9 _ [.int r1]
  refine xi_if_eq (by decide +kernel : decode mX11_readNot.2.1 9 = .ok (.ifCond .eq 31, 3)) (by decide) (fun c => (?_ : XW _ _ _ _ _ _ _ 40 _ _)) (fun c => (?_ : XW _ _ _ _ _ _ _ 12 _ _))
  · replace vc := vc.1 c
    exact vc
  · replace vc := vc.2 c
    refine xi_iload_n (by decide +kernel : decode mX11_readNot.2.1 12 = .ok (.iload_n 2, 1)) rfl rfl (?_ : XW _ _ _ _ _ _ _ 13 _ _)
    refine xi_bipush (v := 6) (by decide +kernel : decode mX11_readNot.2.1 13 = .ok (.bipush 6, 2)) (by decide) (?_ : XW _ _ _ _ _ _ _ 15 _ _)
    refine xi_icmp_ne (by decide +kernel : decode mX11_readNot.2.1 15 = .ok (.if_icmp .ne 8, 3)) (by decide) (fun c => (?_ : XW _ _ _ _ _ _ _ 23 _ _)) (fun c => (?_ : XW _ _ _ _ _ _ _ 18 _ _))
    · replace vc := vc.1 c
      refine xi_iinc (v := x2 + 1) (ls' := [some (.ref 56), some (.int x1), some (.int (x2 + 1)), none]) (by decide +kernel : decode mX11_readNot.2.1 23 = .ok (.iinc 2 1, 3)) rfl rfl (by decide) rfl (?_ : XW _ _ _ _ _ _ _ 26 _ _)
      refine xi_aload_n (by decide +kernel : decode mX11_readNot.2.1 26 = .ok (.aload_n 0, 1)) rfl rfl (?_ : XW _ _ _ _ _ _ _ 27 _ _)
      refine xi_getI (by decide +kernel : decode mX11_readNot.2.1 27 = .ok (.getfield 211, 3)) fX11_211 rfl (by omega) rfl (?_ : XW _ _ _ _ _ _ _ 30 _ _)
      refine xi_if_ne (by decide +kernel : decode mX11_readNot.2.1 30 = .ok (.ifCond .ne (-28), 3)) (by decide) (fun c => (?_ : XW _ _ _ _ _ _ _ 2 _ _)) (fun c => (?_ : XW _ _ _ _ _ _ _ 33 _ _))
      · replace vc := vc.1 c
        exact vc
      · replace vc := vc.2 c
        refine xi_aload_n (by decide +kernel : decode mX11_readNot.2.1 33 = .ok (.aload_n 0, 1)) rfl rfl (?_ : XW _ _ _ _ _ _ _ 34 _ _)
        obtain ⟨Q1, sp, vc⟩ := vc
        refine xi_callV (b := 0) (bs := 0) (As := []) (st := []) (by decide +kernel : decode mX11_readNot.2.1 34 = .ok (.invokevirtual 236, 3)) kX11_236 rfl rfl (by omega) rfl sp (xrm_f (by omega)) (xrm_l (by omega) (Nat.le_of_ble_eq_true rfl)) (Nat.le_of_ble_eq_true rfl) (by omega) (fun v9 h2 hq9 => ?_)
        obtain ⟨e9, vc⟩ := vc v9 h2 hq9
        subst e9
        show XW _ _ _ _ _ _ _ 37 _ []
        refine xi_goto (by decide +kernel : decode mX11_readNot.2.1 37 = .ok (.goto (-35), 3)) (by decide) (?_ : XW _ _ _ _ _ _ _ 2 _ _)
        exact vc
    · replace vc := vc.2 c
      refine xi_aload_n (by decide +kernel : decode mX11_readNot.2.1 18 = .ok (.aload_n 0, 1)) rfl rfl (?_ : XW _ _ _ _ _ _ _ 19 _ _)
      refine xi_iconst (v := 2) (by decide +kernel : decode mX11_readNot.2.1 19 = .ok (.iconst 2, 1)) (by decide) (?_ : XW _ _ _ _ _ _ _ 20 _ _)
      obtain ⟨Q1, sp, vc⟩ := vc
      refine xi_callV (b := 0) (bs := 0) (As := [.int 2]) (st := []) (by decide +kernel : decode mX11_readNot.2.1 20 = .ok (.invokevirtual 232, 3)) kX11_232 rfl rfl (by omega) rfl sp (xrm_f (by omega)) (xrm_l (by omega) (Nat.le_of_ble_eq_true rfl)) (Nat.le_of_ble_eq_true rfl) (by omega) (fun v9 h3 hq9 => ?_)
      obtain ⟨e9, vc⟩ := vc v9 h3 hq9
      subst e9
      show XW _ _ _ _ _ _ _ 23 _ []
      refine xi_iinc (v := x2 + 1) (ls' := [some (.ref 56), some (.int x1), some (.int (x2 + 1)), none]) (by decide +kernel : decode mX11_readNot.2.1 23 = .ok (.iinc 2 1, 3)) rfl rfl (by decide) rfl (?_ : XW _ _ _ _ _ _ _ 26 _ _)
      refine xi_aload_n (by decide +kernel : decode mX11_readNot.2.1 26 = .ok (.aload_n 0, 1)) rfl rfl (?_ : XW _ _ _ _ _ _ _ 27 _ _)
      refine xi_getI (by decide +kernel : decode mX11_readNot.2.1 27 = .ok (.getfield 211, 3)) fX11_211 rfl (by omega) rfl (?_ : XW _ _ _ _ _ _ _ 30 _ _)
      refine xi_if_ne (by decide +kernel : decode mX11_readNot.2.1 30 = .ok (.ifCond .ne (-28), 3)) (by decide) (fun c => (?_ : XW _ _ _ _ _ _ _ 2 _ _)) (fun c => (?_ : XW _ _ _ _ _ _ _ 33 _ _))
      · replace vc := vc.1 c
        exact vc
      · replace vc := vc.2 c
        refine xi_aload_n (by decide +kernel : decode mX11_readNot.2.1 33 = .ok (.aload_n 0, 1)) rfl rfl (?_ : XW _ _ _ _ _ _ _ 34 _ _)
        obtain ⟨Q1, sp, vc⟩ := vc
        refine xi_callV (b := 0) (bs := 0) (As := []) (st := []) (by decide +kernel : decode mX11_readNot.2.1 34 = .ok (.invokevirtual 236, 3)) kX11_236 rfl rfl (by omega) rfl sp (xrm_f (by omega)) (xrm_l (by omega) (Nat.le_of_ble_eq_true rfl)) (Nat.le_of_ble_eq_true rfl) (by omega) (fun v9 h4 hq9 => ?_)
        obtain ⟨e9, vc⟩ := vc v9 h4 hq9
        subst e9
        show XW _ _ _ _ _ _ _ 37 _ []
        refine xi_goto (by decide +kernel : decode mX11_readNot.2.1 37 = .ok (.goto (-35), 3)) (by decide) (?_ : XW _ _ _ _ _ _ _ 2 _ _)
        exact vc

set_option maxRecDepth 20000 in
theorem v_X11_readNot_40 {h : XH} {Q : Option Value → XH → Prop} {X : String → XH → Prop} (D : Nat) (hD : 18 ≤ D) (hM : xMod (xP h))  (x1 : Int32) (x2 : Int32)
    (vc : ∃ Q1, XSpec mX11_readSum (D + 3) 0 0 100 100 [.ref 56, .int x1] h Q1 xno ∧ ∀ v h5, Q1 v h5 → v = none ∧ (∃ Q1, XSpec mX11_isMarked 1 0 0 100 100 [.ref 56, .int 60] h5 Q1 xno ∧ ∀ v h6, Q1 v h6 → ∃ r6 : Int32, v = some (.int r6) ∧ ((¬ r6 = 0 → XW (xrm (D + 4) 0 0) mX11_readNot (xE 100 Q X 0 0) 100 0 0 h6 63 [some (.ref 56), some (.int x1), some (.int x2), none] []) ∧ (r6 = 0 → ∃ Q1, XSpec mX11_isMarked 1 0 0 100 100 [.ref 56, .int 61] h6 Q1 xno ∧ ∀ v h7, Q1 v h7 → ∃ r7 : Int32, v = some (.int r7) ∧ ((r7 = 0 → XW (xrm (D + 4) 0 0) mX11_readNot (xE 100 Q X 0 0) 100 0 0 h7 94 [some (.ref 56), none, some (.int x2), none] []) ∧ (¬ r7 = 0 → XW (xrm (D + 4) 0 0) mX11_readNot (xE 100 Q X 0 0) 100 0 0 h7 63 [some (.ref 56), some (.int x1), some (.int x2), none] [])))))) :
    XW (xrm (D + 4) 0 0) mX11_readNot (xE 100 Q X 0 0) 100 0 0 h 40 [some (.ref 56), some (.int x1), some (.int x2), none] [] := by
  refine xi_aload_n (by decide +kernel : decode mX11_readNot.2.1 40 = .ok (.aload_n 0, 1)) rfl rfl (?_ : XW _ _ _ _ _ _ _ 41 _ _)
  refine xi_iload_n (by decide +kernel : decode mX11_readNot.2.1 41 = .ok (.iload_n 1, 1)) rfl rfl (?_ : XW _ _ _ _ _ _ _ 42 _ _)
  obtain ⟨Q1, sp, vc⟩ := vc
  refine xi_callV (b := 0) (bs := 0) (As := [.int x1]) (st := []) (by decide +kernel : decode mX11_readNot.2.1 42 = .ok (.invokevirtual 266, 3)) kX11_266 rfl rfl (by omega) rfl sp (xrm_f (by omega)) (xrm_l (by omega) (Nat.le_of_ble_eq_true rfl)) (Nat.le_of_ble_eq_true rfl) (by omega) (fun v9 h5 hq9 => ?_)
  obtain ⟨e9, vc⟩ := vc v9 h5 hq9
  subst e9
  show XW _ _ _ _ _ _ _ 45 _ []
  refine xi_aload_n (by decide +kernel : decode mX11_readNot.2.1 45 = .ok (.aload_n 0, 1)) rfl rfl (?_ : XW _ _ _ _ _ _ _ 46 _ _)
  refine xi_bipush (v := 60) (by decide +kernel : decode mX11_readNot.2.1 46 = .ok (.bipush 60, 2)) (by decide) (?_ : XW _ _ _ _ _ _ _ 48 _ _)
  obtain ⟨Q1, sp, vc⟩ := vc
  refine xi_callV (b := 0) (bs := 0) (As := [.int 60]) (st := []) (by decide +kernel : decode mX11_readNot.2.1 48 = .ok (.invokevirtual 229, 3)) kX11_229 rfl rfl (by omega) rfl sp (xrm_f (by omega)) (xrm_l (by omega) (Nat.le_of_ble_eq_true rfl)) (Nat.le_of_ble_eq_true rfl) (by omega) (fun v9 h6 hq9 => ?_)
  obtain ⟨r6, e9, vc⟩ := vc v9 h6 hq9
  subst e9
  show XW _ _ _ _ _ _ _ 51 _ [.int r6]
  refine xi_if_ne (by decide +kernel : decode mX11_readNot.2.1 51 = .ok (.ifCond .ne 12, 3)) (by decide) (fun c => (?_ : XW _ _ _ _ _ _ _ 63 _ _)) (fun c => (?_ : XW _ _ _ _ _ _ _ 54 _ _))
  · replace vc := vc.1 c
    exact vc
  · replace vc := vc.2 c
    refine xi_aload_n (by decide +kernel : decode mX11_readNot.2.1 54 = .ok (.aload_n 0, 1)) rfl rfl (?_ : XW _ _ _ _ _ _ _ 55 _ _)
    refine xi_bipush (v := 61) (by decide +kernel : decode mX11_readNot.2.1 55 = .ok (.bipush 61, 2)) (by decide) (?_ : XW _ _ _ _ _ _ _ 57 _ _)
    obtain ⟨Q1, sp, vc⟩ := vc
    refine xi_callV (b := 0) (bs := 0) (As := [.int 61]) (st := []) (by decide +kernel : decode mX11_readNot.2.1 57 = .ok (.invokevirtual 229, 3)) kX11_229 rfl rfl (by omega) rfl sp (xrm_f (by omega)) (xrm_l (by omega) (Nat.le_of_ble_eq_true rfl)) (Nat.le_of_ble_eq_true rfl) (by omega) (fun v9 h7 hq9 => ?_)
    obtain ⟨r7, e9, vc⟩ := vc v9 h7 hq9
    subst e9
    show XW _ _ _ _ _ _ _ 60 _ [.int r7]
    refine xi_if_eq (by decide +kernel : decode mX11_readNot.2.1 60 = .ok (.ifCond .eq 34, 3)) (by decide) (fun c => (?_ : XW _ _ _ _ _ _ _ 94 _ _)) (fun c => (?_ : XW _ _ _ _ _ _ _ 63 _ _))
    · replace vc := vc.1 c
      refine xw_drop 1 (ls' := [some (.ref 56), none, some (.int x2), none]) rfl ?_
      exact vc
    · replace vc := vc.2 c
      exact vc

set_option maxRecDepth 20000 in
theorem v_X11_readNot_63 {h : XH} {Q : Option Value → XH → Prop} {X : String → XH → Prop} (D : Nat) (hD : 18 ≤ D) (hM : xMod (xP h))  (x1 : Int32) (x2 : Int32)
    (vc : ∃ Q1, XSpec mX11_isMarked 1 0 0 100 100 [.ref 56, .int 60] h Q1 xno ∧ ∀ v h8, Q1 v h8 → ∃ r8 : Int32, v = some (.int r8) ∧ ((r8 = 0 → XW (xrm (D + 4) 0 0) mX11_readNot (xE 100 Q X 0 0) 100 0 0 h8 80 [some (.ref 56), some (.int x1), some (.int x2), some (.int (-25))] []) ∧ (¬ r8 = 0 → XW (xrm (D + 4) 0 0) mX11_readNot (xE 100 Q X 0 0) 100 0 0 h8 80 [some (.ref 56), some (.int x1), some (.int x2), some (.int (-24))] []))) :
    XW (xrm (D + 4) 0 0) mX11_readNot (xE 100 Q X 0 0) 100 0 0 h 63 [some (.ref 56), some (.int x1), some (.int x2), none] [] := by
  refine xi_aload_n (by decide +kernel : decode mX11_readNot.2.1 63 = .ok (.aload_n 0, 1)) rfl rfl (?_ : XW _ _ _ _ _ _ _ 64 _ _)
  refine xi_bipush (v := 60) (by decide +kernel : decode mX11_readNot.2.1 64 = .ok (.bipush 60, 2)) (by decide) (?_ : XW _ _ _ _ _ _ _ 66 _ _)
  obtain ⟨Q1, sp, vc⟩ := vc
  refine xi_callV (b := 0) (bs := 0) (As := [.int 60]) (st := []) (by decide +kernel : decode mX11_readNot.2.1 66 = .ok (.invokevirtual 229, 3)) kX11_229 rfl rfl (by omega) rfl sp (xrm_f (by omega)) (xrm_l (by omega) (Nat.le_of_ble_eq_true rfl)) (Nat.le_of_ble_eq_true rfl) (by omega) (fun v9 h8 hq9 => ?_)
  obtain ⟨r8, e9, vc⟩ := vc v9 h8 hq9
  subst e9
  show XW _ _ _ _ _ _ _ 69 _ [.int r8]
  refine xi_if_eq (by decide +kernel : decode mX11_readNot.2.1 69 = .ok (.ifCond .eq 8, 3)) (by decide) (fun c => (?_ : XW _ _ _ _ _ _ _ 77 _ _)) (fun c => (?_ : XW _ _ _ _ _ _ _ 72 _ _))
  · replace vc := vc.1 c
    refine xi_bipush (v := (-25)) (by decide +kernel : decode mX11_readNot.2.1 77 = .ok (.bipush (-25), 2)) (by decide) (?_ : XW _ _ _ _ _ _ _ 79 _ _)
    refine xi_istore_n (ls' := [some (.ref 56), some (.int x1), some (.int x2), some (.int (-25))]) (by decide +kernel : decode mX11_readNot.2.1 79 = .ok (.istore_n 3, 1)) rfl (by decide) rfl (?_ : XW _ _ _ _ _ _ _ 80 _ _)
    exact vc
  · replace vc := vc.2 c
    refine xi_bipush (v := (-24)) (by decide +kernel : decode mX11_readNot.2.1 72 = .ok (.bipush (-24), 2)) (by decide) (?_ : XW _ _ _ _ _ _ _ 74 _ _)
    refine xi_goto (by decide +kernel : decode mX11_readNot.2.1 74 = .ok (.goto 5, 3)) (by decide) (?_ : XW _ _ _ _ _ _ _ 79 _ _)
    refine xi_istore_n (ls' := [some (.ref 56), some (.int x1), some (.int x2), some (.int (-24))]) (by decide +kernel : decode mX11_readNot.2.1 79 = .ok (.istore_n 3, 1)) rfl (by decide) rfl (?_ : XW _ _ _ _ _ _ _ 80 _ _)
    exact vc

set_option maxRecDepth 20000 in
theorem v_X11_readNot_94 {h : XH} {Q : Option Value → XH → Prop} {X : String → XH → Prop} (D : Nat) (hD : 18 ≤ D) (hM : xMod (xP h))  (x2 : Int32)
    (vc : XW (xrm (D + 4) 0 0) mX11_readNot (xE 100 Q X 0 0) 100 0 0 h 96 [some (.ref 56), none, some (.int x2), some (.int 0)] []) :
    XW (xrm (D + 4) 0 0) mX11_readNot (xE 100 Q X 0 0) 100 0 0 h 94 [some (.ref 56), none, some (.int x2), none] [] := by
  refine xi_iconst (v := 0) (by decide +kernel : decode mX11_readNot.2.1 94 = .ok (.iconst 0, 1)) (by decide) (?_ : XW _ _ _ _ _ _ _ 95 _ _)
  refine xi_istore_n (ls' := [some (.ref 56), none, some (.int x2), some (.int 0)]) (by decide +kernel : decode mX11_readNot.2.1 95 = .ok (.istore_n 3, 1)) rfl (by decide) rfl (?_ : XW _ _ _ _ _ _ _ 96 _ _)
  exact vc

set_option maxRecDepth 20000 in
theorem v_X11_readNot_80 {h : XH} {Q : Option Value → XH → Prop} {X : String → XH → Prop} (D : Nat) (hD : 18 ≤ D) (hM : xMod (xP h))  (x1 : Int32) (x2 : Int32) (x3 : Int32)
    (vc : ∃ Q1, XSpec mX11_stepOn 2 0 0 100 100 [.ref 56] h Q1 xno ∧ ∀ v h9, Q1 v h9 → v = none ∧ (∃ Q1, XSpec mX11_readSum (D + 3) 0 0 100 100 [.ref 56, .int x1] h9 Q1 xno ∧ ∀ v h10, Q1 v h10 → v = none ∧ (∃ Q1, XSpec mX11_lay 1 0 0 100 100 [.ref 56, .int x3] h10 Q1 xno ∧ ∀ v h11, Q1 v h11 → v = none ∧ (XW (xrm (D + 4) 0 0) mX11_readNot (xE 100 Q X 0 0) 100 0 0 h11 94 [some (.ref 56), none, some (.int x2), none] [])))) :
    XW (xrm (D + 4) 0 0) mX11_readNot (xE 100 Q X 0 0) 100 0 0 h 80 [some (.ref 56), some (.int x1), some (.int x2), some (.int x3)] [] := by
  refine xi_aload_n (by decide +kernel : decode mX11_readNot.2.1 80 = .ok (.aload_n 0, 1)) rfl rfl (?_ : XW _ _ _ _ _ _ _ 81 _ _)
  obtain ⟨Q1, sp, vc⟩ := vc
  refine xi_callV (b := 0) (bs := 0) (As := []) (st := []) (by decide +kernel : decode mX11_readNot.2.1 81 = .ok (.invokevirtual 236, 3)) kX11_236 rfl rfl (by omega) rfl sp (xrm_f (by omega)) (xrm_l (by omega) (Nat.le_of_ble_eq_true rfl)) (Nat.le_of_ble_eq_true rfl) (by omega) (fun v9 h9 hq9 => ?_)
  obtain ⟨e9, vc⟩ := vc v9 h9 hq9
  subst e9
  show XW _ _ _ _ _ _ _ 84 _ []
  refine xi_aload_n (by decide +kernel : decode mX11_readNot.2.1 84 = .ok (.aload_n 0, 1)) rfl rfl (?_ : XW _ _ _ _ _ _ _ 85 _ _)
  refine xi_iload_n (by decide +kernel : decode mX11_readNot.2.1 85 = .ok (.iload_n 1, 1)) rfl rfl (?_ : XW _ _ _ _ _ _ _ 86 _ _)
  obtain ⟨Q1, sp, vc⟩ := vc
  refine xi_callV (b := 0) (bs := 0) (As := [.int x1]) (st := []) (by decide +kernel : decode mX11_readNot.2.1 86 = .ok (.invokevirtual 266, 3)) kX11_266 rfl rfl (by omega) rfl sp (xrm_f (by omega)) (xrm_l (by omega) (Nat.le_of_ble_eq_true rfl)) (Nat.le_of_ble_eq_true rfl) (by omega) (fun v9 h10 hq9 => ?_)
  obtain ⟨e9, vc⟩ := vc v9 h10 hq9
  subst e9
  show XW _ _ _ _ _ _ _ 89 _ []
  refine xi_aload_n (by decide +kernel : decode mX11_readNot.2.1 89 = .ok (.aload_n 0, 1)) rfl rfl (?_ : XW _ _ _ _ _ _ _ 90 _ _)
  refine xi_iload_n (by decide +kernel : decode mX11_readNot.2.1 90 = .ok (.iload_n 3, 1)) rfl rfl (?_ : XW _ _ _ _ _ _ _ 91 _ _)
  obtain ⟨Q1, sp, vc⟩ := vc
  refine xi_callV (b := 0) (bs := 0) (As := [.int x3]) (st := []) (by decide +kernel : decode mX11_readNot.2.1 91 = .ok (.invokevirtual 245, 3)) kX11_245 rfl rfl (by omega) rfl sp (xrm_f (by omega)) (xrm_l (by omega) (Nat.le_of_ble_eq_true rfl)) (Nat.le_of_ble_eq_true rfl) (by omega) (fun v9 h11 hq9 => ?_)
  obtain ⟨e9, vc⟩ := vc v9 h11 hq9
  subst e9
  show XW _ _ _ _ _ _ _ 94 _ []
  refine xw_drop 1 (ls' := [some (.ref 56), none, some (.int x2), some (.int x3)]) rfl ?_
  refine xw_drop 3 (ls' := [some (.ref 56), none, some (.int x2), none]) rfl ?_
  exact vc

set_option maxRecDepth 20000 in
theorem v_X11_readNot_96 {h : XH} {Q : Option Value → XH → Prop} {X : String → XH → Prop} (D : Nat) (hD : 18 ≤ D) (hM : xMod (xP h))  (x2 : Int32) (x3 : Int32)
    (vc : (x2 ≤ x3 → Q none h) ∧ (¬ x2 ≤ x3 → ∃ Q1, XSpec mX11_lay 1 0 0 100 100 [.ref 56, .int (-28)] h Q1 xno ∧ ∀ v h12, Q1 v h12 → v = none ∧ (XW (xrm (D + 4) 0 0) mX11_readNot (xE 100 Q X 0 0) 100 0 0 h12 96 [some (.ref 56), none, some (.int x2), some (.int (x3 + 1))] []))) :
    XW (xrm (D + 4) 0 0) mX11_readNot (xE 100 Q X 0 0) 100 0 0 h 96 [some (.ref 56), none, some (.int x2), some (.int x3)] [] := by
  refine xi_iload_n (by decide +kernel : decode mX11_readNot.2.1 96 = .ok (.iload_n 3, 1)) rfl rfl (?_ : XW _ _ _ _ _ _ _ 97 _ _)
  refine xi_iload_n (by decide +kernel : decode mX11_readNot.2.1 97 = .ok (.iload_n 2, 1)) rfl rfl (?_ : XW _ _ _ _ _ _ _ 98 _ _)
  refine xi_icmp_ge (by decide +kernel : decode mX11_readNot.2.1 98 = .ok (.if_icmp .ge 15, 3)) (by decide) (fun c => (?_ : XW _ _ _ _ _ _ _ 113 _ _)) (fun c => (?_ : XW _ _ _ _ _ _ _ 101 _ _))
  · replace vc := vc.1 c
    exact xi_vret (by decide +kernel : decode mX11_readNot.2.1 113 = .ok (.return_, 1)) rfl vc
  · replace vc := vc.2 c
    refine xi_aload_n (by decide +kernel : decode mX11_readNot.2.1 101 = .ok (.aload_n 0, 1)) rfl rfl (?_ : XW _ _ _ _ _ _ _ 102 _ _)
    refine xi_bipush (v := (-28)) (by decide +kernel : decode mX11_readNot.2.1 102 = .ok (.bipush (-28), 2)) (by decide) (?_ : XW _ _ _ _ _ _ _ 104 _ _)
    obtain ⟨Q1, sp, vc⟩ := vc
    refine xi_callV (b := 0) (bs := 0) (As := [.int (-28)]) (st := []) (by decide +kernel : decode mX11_readNot.2.1 104 = .ok (.invokevirtual 245, 3)) kX11_245 rfl rfl (by omega) rfl sp (xrm_f (by omega)) (xrm_l (by omega) (Nat.le_of_ble_eq_true rfl)) (Nat.le_of_ble_eq_true rfl) (by omega) (fun v9 h12 hq9 => ?_)
    obtain ⟨e9, vc⟩ := vc v9 h12 hq9
    subst e9
    show XW _ _ _ _ _ _ _ 107 _ []
    refine xi_iinc (v := x3 + 1) (ls' := [some (.ref 56), none, some (.int x2), some (.int (x3 + 1))]) (by decide +kernel : decode mX11_readNot.2.1 107 = .ok (.iinc 3 1, 3)) rfl rfl (by decide) rfl (?_ : XW _ _ _ _ _ _ _ 110 _ _)
    refine xi_goto (by decide +kernel : decode mX11_readNot.2.1 110 = .ok (.goto (-14), 3)) (by decide) (?_ : XW _ _ _ _ _ _ _ 96 _ _)
    exact vc

set_option maxRecDepth 20000 in
theorem v_X11_readAnd_0 {h : XH} {Q : Option Value → XH → Prop} {X : String → XH → Prop} (D : Nat) (hD : 18 ≤ D) (hM : xMod (xP h))  (ax : Int32)
    (vc : ∃ Q1, XSpec mX11_readNot (D + 4) 0 0 100 100 [.ref 56, .int ax] h Q1 xno ∧ ∀ v h1, Q1 v h1 → v = none ∧ (XW (xrm (D + 5) 0 0) mX11_readAnd (xE 100 Q X 0 0) 100 0 0 h1 5 [some (.ref 56), some (.int ax)] [])) :
    XW (xrm (D + 5) 0 0) mX11_readAnd (xE 100 Q X 0 0) 100 0 0 h 0 [some (.ref 56), some (.int ax)] [] := by
  refine xi_aload_n (by decide +kernel : decode mX11_readAnd.2.1 0 = .ok (.aload_n 0, 1)) rfl rfl (?_ : XW _ _ _ _ _ _ _ 1 _ _)
  refine xi_iload_n (by decide +kernel : decode mX11_readAnd.2.1 1 = .ok (.iload_n 1, 1)) rfl rfl (?_ : XW _ _ _ _ _ _ _ 2 _ _)
  obtain ⟨Q1, sp, vc⟩ := vc
  refine xi_callV (b := 0) (bs := 0) (As := [.int ax]) (st := []) (by decide +kernel : decode mX11_readAnd.2.1 2 = .ok (.invokevirtual 269, 3)) kX11_269 rfl rfl (by omega) rfl sp (xrm_f (by omega)) (xrm_l (by omega) (Nat.le_of_ble_eq_true rfl)) (Nat.le_of_ble_eq_true rfl) (by omega) (fun v9 h1 hq9 => ?_)
  obtain ⟨e9, vc⟩ := vc v9 h1 hq9
  subst e9
  show XW _ _ _ _ _ _ _ 5 _ []
  exact vc

set_option maxRecDepth 20000 in
theorem v_X11_readAnd_5 {h : XH} {Q : Option Value → XH → Prop} {X : String → XH → Prop} (D : Nat) (hD : 18 ≤ D) (hM : xMod (xP h))  (x1 : Int32)
    (vc : ∃ Q1, XSpec mX11_is 12 0 0 100 100 [.ref 56, .ref (1000 + 44)] h Q1 xno ∧ ∀ v h2, Q1 v h2 → ∃ r2 : Int32, v = some (.int r2) ∧ ((r2 = 0 → Q none h2) ∧ (¬ r2 = 0 → ∃ Q1, XSpec mX11_stepOn 2 0 0 100 100 [.ref 56] h2 Q1 xno ∧ ∀ v h3, Q1 v h3 → v = none ∧ (∃ Q1, XSpec mX11_readNot (D + 4) 0 0 100 100 [.ref 56, .int x1] h3 Q1 xno ∧ ∀ v h4, Q1 v h4 → v = none ∧ (∃ Q1, XSpec mX11_lay 1 0 0 100 100 [.ref 56, .int (-26)] h4 Q1 xno ∧ ∀ v h5, Q1 v h5 → v = none ∧ (XW (xrm (D + 5) 0 0) mX11_readAnd (xE 100 Q X 0 0) 100 0 0 h5 5 [some (.ref 56), some (.int x1)] [])))))) :
    XW (xrm (D + 5) 0 0) mX11_readAnd (xE 100 Q X 0 0) 100 0 0 h 5 [some (.ref 56), some (.int x1)] [] := by
  refine xi_aload_n (by decide +kernel : decode mX11_readAnd.2.1 5 = .ok (.aload_n 0, 1)) rfl rfl (?_ : XW _ _ _ _ _ _ _ 6 _ _)
  refine xi_ldcwS (j := 44) (by decide +kernel : decode mX11_readAnd.2.1 6 = .ok (.ldc_w 272, 3)) rfl (by decide) (?_ : XW _ _ _ _ _ _ _ 9 _ _)
  obtain ⟨Q1, sp, vc⟩ := vc
  refine xi_callV (b := 0) (bs := 0) (As := [.ref (1000 + 44)]) (st := []) (by decide +kernel : decode mX11_readAnd.2.1 9 = .ok (.invokevirtual 225, 3)) kX11_225 rfl rfl (by omega) rfl sp (xrm_f (by omega)) (xrm_l (by omega) (Nat.le_of_ble_eq_true rfl)) (Nat.le_of_ble_eq_true rfl) (by omega) (fun v9 h2 hq9 => ?_)
  obtain ⟨r2, e9, vc⟩ := vc v9 h2 hq9
  subst e9
  show XW _ _ _ _ _ _ _ 12 _ [.int r2]
  refine xi_if_eq (by decide +kernel : decode mX11_readAnd.2.1 12 = .ok (.ifCond .eq 21, 3)) (by decide) (fun c => (?_ : XW _ _ _ _ _ _ _ 33 _ _)) (fun c => (?_ : XW _ _ _ _ _ _ _ 15 _ _))
  · replace vc := vc.1 c
    exact xi_vret (by decide +kernel : decode mX11_readAnd.2.1 33 = .ok (.return_, 1)) rfl vc
  · replace vc := vc.2 c
    refine xi_aload_n (by decide +kernel : decode mX11_readAnd.2.1 15 = .ok (.aload_n 0, 1)) rfl rfl (?_ : XW _ _ _ _ _ _ _ 16 _ _)
    obtain ⟨Q1, sp, vc⟩ := vc
    refine xi_callV (b := 0) (bs := 0) (As := []) (st := []) (by decide +kernel : decode mX11_readAnd.2.1 16 = .ok (.invokevirtual 236, 3)) kX11_236 rfl rfl (by omega) rfl sp (xrm_f (by omega)) (xrm_l (by omega) (Nat.le_of_ble_eq_true rfl)) (Nat.le_of_ble_eq_true rfl) (by omega) (fun v9 h3 hq9 => ?_)
    obtain ⟨e9, vc⟩ := vc v9 h3 hq9
    subst e9
    show XW _ _ _ _ _ _ _ 19 _ []
    refine xi_aload_n (by decide +kernel : decode mX11_readAnd.2.1 19 = .ok (.aload_n 0, 1)) rfl rfl (?_ : XW _ _ _ _ _ _ _ 20 _ _)
    refine xi_iload_n (by decide +kernel : decode mX11_readAnd.2.1 20 = .ok (.iload_n 1, 1)) rfl rfl (?_ : XW _ _ _ _ _ _ _ 21 _ _)
    obtain ⟨Q1, sp, vc⟩ := vc
    refine xi_callV (b := 0) (bs := 0) (As := [.int x1]) (st := []) (by decide +kernel : decode mX11_readAnd.2.1 21 = .ok (.invokevirtual 269, 3)) kX11_269 rfl rfl (by omega) rfl sp (xrm_f (by omega)) (xrm_l (by omega) (Nat.le_of_ble_eq_true rfl)) (Nat.le_of_ble_eq_true rfl) (by omega) (fun v9 h4 hq9 => ?_)
    obtain ⟨e9, vc⟩ := vc v9 h4 hq9
    subst e9
    show XW _ _ _ _ _ _ _ 24 _ []
    refine xi_aload_n (by decide +kernel : decode mX11_readAnd.2.1 24 = .ok (.aload_n 0, 1)) rfl rfl (?_ : XW _ _ _ _ _ _ _ 25 _ _)
    refine xi_bipush (v := (-26)) (by decide +kernel : decode mX11_readAnd.2.1 25 = .ok (.bipush (-26), 2)) (by decide) (?_ : XW _ _ _ _ _ _ _ 27 _ _)
    obtain ⟨Q1, sp, vc⟩ := vc
    refine xi_callV (b := 0) (bs := 0) (As := [.int (-26)]) (st := []) (by decide +kernel : decode mX11_readAnd.2.1 27 = .ok (.invokevirtual 245, 3)) kX11_245 rfl rfl (by omega) rfl sp (xrm_f (by omega)) (xrm_l (by omega) (Nat.le_of_ble_eq_true rfl)) (Nat.le_of_ble_eq_true rfl) (by omega) (fun v9 h5 hq9 => ?_)
    obtain ⟨e9, vc⟩ := vc v9 h5 hq9
    subst e9
    show XW _ _ _ _ _ _ _ 30 _ []
    refine xi_goto (by decide +kernel : decode mX11_readAnd.2.1 30 = .ok (.goto (-25), 3)) (by decide) (?_ : XW _ _ _ _ _ _ _ 5 _ _)
    exact vc

set_option maxRecDepth 20000 in
theorem v_X11_readExpression_0 {h : XH} {Q : Option Value → XH → Prop} {X : String → XH → Prop} (D : Nat) (hD : 18 ≤ D) (hM : xMod (xP h))  (ax : Int32)
    (vc : ((xI h 56 18) = 0 → ((xI h 56 14) = 2 → XW (xrm (D + 6) 0 0) mX11_readExpression (xE 100 Q X 0 0) 100 0 0 h 39 [some (.ref 56), some (.int ax), some (.int 1)] []) ∧ (¬ (xI h 56 14) = 2 → ((xI h 56 14) = 1 → XW (xrm (D + 6) 0 0) mX11_readExpression (xE 100 Q X 0 0) 100 0 0 h 39 [some (.ref 56), some (.int ax), some (.int 1)] []) ∧ (¬ (xI h 56 14) = 1 → ∃ Q1, XSpec mX11_isMarked 1 0 0 100 100 [.ref 56, .int 40] h Q1 xno ∧ ∀ v h1, Q1 v h1 → ∃ r1 : Int32, v = some (.int r1) ∧ ((r1 = 0 → XW (xrm (D + 6) 0 0) mX11_readExpression (xE 100 Q X 0 0) 100 0 0 h1 39 [some (.ref 56), some (.int ax), some (.int 0)] []) ∧ (¬ r1 = 0 → XW (xrm (D + 6) 0 0) mX11_readExpression (xE 100 Q X 0 0) 100 0 0 h1 39 [some (.ref 56), some (.int ax), some (.int 1)] []))))) ∧ (¬ (xI h 56 18) = 0 → Q none h)) :
    XW (xrm (D + 6) 0 0) mX11_readExpression (xE 100 Q X 0 0) 100 0 0 h 0 [some (.ref 56), some (.int ax), none] [] := by
  refine xi_aload_n (by decide +kernel : decode mX11_readExpression.2.1 0 = .ok (.aload_n 0, 1)) rfl rfl (?_ : XW _ _ _ _ _ _ _ 1 _ _)
  refine xi_getI (by decide +kernel : decode mX11_readExpression.2.1 1 = .ok (.getfield 211, 3)) fX11_211 rfl (by omega) rfl (?_ : XW _ _ _ _ _ _ _ 4 _ _)
  refine xi_if_eq (by decide +kernel : decode mX11_readExpression.2.1 4 = .ok (.ifCond .eq 4, 3)) (by decide) (fun c => (?_ : XW _ _ _ _ _ _ _ 8 _ _)) (fun c => (?_ : XW _ _ _ _ _ _ _ 7 _ _))
  · replace vc := vc.1 c
    refine xi_aload_n (by decide +kernel : decode mX11_readExpression.2.1 8 = .ok (.aload_n 0, 1)) rfl rfl (?_ : XW _ _ _ _ _ _ _ 9 _ _)
    refine xi_getI (by decide +kernel : decode mX11_readExpression.2.1 9 = .ok (.getfield 185, 3)) fX11_185 rfl (by omega) rfl (?_ : XW _ _ _ _ _ _ _ 12 _ _)
    refine xi_iconst (v := 2) (by decide +kernel : decode mX11_readExpression.2.1 12 = .ok (.iconst 2, 1)) (by decide) (?_ : XW _ _ _ _ _ _ _ 13 _ _)
    refine xi_icmp_eq (by decide +kernel : decode mX11_readExpression.2.1 13 = .ok (.if_icmp .eq 20, 3)) (by decide) (fun c => (?_ : XW _ _ _ _ _ _ _ 33 _ _)) (fun c => (?_ : XW _ _ _ _ _ _ _ 16 _ _))
    · replace vc := vc.1 c
      refine xi_iconst (v := 1) (by decide +kernel : decode mX11_readExpression.2.1 33 = .ok (.iconst 1, 1)) (by decide) (?_ : XW _ _ _ _ _ _ _ 34 _ _)
      refine xi_goto (by decide +kernel : decode mX11_readExpression.2.1 34 = .ok (.goto 4, 3)) (by decide) (?_ : XW _ _ _ _ _ _ _ 38 _ _)
      refine xi_istore_n (ls' := [some (.ref 56), some (.int ax), some (.int 1)]) (by decide +kernel : decode mX11_readExpression.2.1 38 = .ok (.istore_n 2, 1)) rfl (by decide) rfl (?_ : XW _ _ _ _ _ _ _ 39 _ _)
      exact vc
    · replace vc := vc.2 c
      refine xi_aload_n (by decide +kernel : decode mX11_readExpression.2.1 16 = .ok (.aload_n 0, 1)) rfl rfl (?_ : XW _ _ _ _ _ _ _ 17 _ _)
      refine xi_getI (by decide +kernel : decode mX11_readExpression.2.1 17 = .ok (.getfield 185, 3)) fX11_185 rfl (by omega) rfl (?_ : XW _ _ _ _ _ _ _ 20 _ _)
      refine xi_iconst (v := 1) (by decide +kernel : decode mX11_readExpression.2.1 20 = .ok (.iconst 1, 1)) (by decide) (?_ : XW _ _ _ _ _ _ _ 21 _ _)
      refine xi_icmp_eq (by decide +kernel : decode mX11_readExpression.2.1 21 = .ok (.if_icmp .eq 12, 3)) (by decide) (fun c => (?_ : XW _ _ _ _ _ _ _ 33 _ _)) (fun c => (?_ : XW _ _ _ _ _ _ _ 24 _ _))
      · replace vc := vc.1 c
        refine xi_iconst (v := 1) (by decide +kernel : decode mX11_readExpression.2.1 33 = .ok (.iconst 1, 1)) (by decide) (?_ : XW _ _ _ _ _ _ _ 34 _ _)
        refine xi_goto (by decide +kernel : decode mX11_readExpression.2.1 34 = .ok (.goto 4, 3)) (by decide) (?_ : XW _ _ _ _ _ _ _ 38 _ _)
        refine xi_istore_n (ls' := [some (.ref 56), some (.int ax), some (.int 1)]) (by decide +kernel : decode mX11_readExpression.2.1 38 = .ok (.istore_n 2, 1)) rfl (by decide) rfl (?_ : XW _ _ _ _ _ _ _ 39 _ _)
        exact vc
      · replace vc := vc.2 c
        refine xi_aload_n (by decide +kernel : decode mX11_readExpression.2.1 24 = .ok (.aload_n 0, 1)) rfl rfl (?_ : XW _ _ _ _ _ _ _ 25 _ _)
        refine xi_bipush (v := 40) (by decide +kernel : decode mX11_readExpression.2.1 25 = .ok (.bipush 40, 2)) (by decide) (?_ : XW _ _ _ _ _ _ _ 27 _ _)
        obtain ⟨Q1, sp, vc⟩ := vc
        refine xi_callV (b := 0) (bs := 0) (As := [.int 40]) (st := []) (by decide +kernel : decode mX11_readExpression.2.1 27 = .ok (.invokevirtual 229, 3)) kX11_229 rfl rfl (by omega) rfl sp (xrm_f (by omega)) (xrm_l (by omega) (Nat.le_of_ble_eq_true rfl)) (Nat.le_of_ble_eq_true rfl) (by omega) (fun v9 h1 hq9 => ?_)
        obtain ⟨r1, e9, vc⟩ := vc v9 h1 hq9
        subst e9
        show XW _ _ _ _ _ _ _ 30 _ [.int r1]
        refine xi_if_eq (by decide +kernel : decode mX11_readExpression.2.1 30 = .ok (.ifCond .eq 7, 3)) (by decide) (fun c => (?_ : XW _ _ _ _ _ _ _ 37 _ _)) (fun c => (?_ : XW _ _ _ _ _ _ _ 33 _ _))
        · replace vc := vc.1 c
          refine xi_iconst (v := 0) (by decide +kernel : decode mX11_readExpression.2.1 37 = .ok (.iconst 0, 1)) (by decide) (?_ : XW _ _ _ _ _ _ _ 38 _ _)
          refine xi_istore_n (ls' := [some (.ref 56), some (.int ax), some (.int 0)]) (by decide +kernel : decode mX11_readExpression.2.1 38 = .ok (.istore_n 2, 1)) rfl (by decide) rfl (?_ : XW _ _ _ _ _ _ _ 39 _ _)
          exact vc
        · replace vc := vc.2 c
          refine xi_iconst (v := 1) (by decide +kernel : decode mX11_readExpression.2.1 33 = .ok (.iconst 1, 1)) (by decide) (?_ : XW _ _ _ _ _ _ _ 34 _ _)
          refine xi_goto (by decide +kernel : decode mX11_readExpression.2.1 34 = .ok (.goto 4, 3)) (by decide) (?_ : XW _ _ _ _ _ _ _ 38 _ _)
          refine xi_istore_n (ls' := [some (.ref 56), some (.int ax), some (.int 1)]) (by decide +kernel : decode mX11_readExpression.2.1 38 = .ok (.istore_n 2, 1)) rfl (by decide) rfl (?_ : XW _ _ _ _ _ _ _ 39 _ _)
          exact vc
  · replace vc := vc.2 c
    exact xi_vret (by decide +kernel : decode mX11_readExpression.2.1 7 = .ok (.return_, 1)) rfl vc

set_option maxRecDepth 20000 in
theorem v_X11_readExpression_39 {h : XH} {Q : Option Value → XH → Prop} {X : String → XH → Prop} (D : Nat) (hD : 18 ≤ D) (hM : xMod (xP h))  (x1 : Int32) (x2 : Int32)
    (vc : (¬ x2 = 0 → (¬ x1 = 6 → XW (xrm (D + 6) 0 0) mX11_readExpression (xE 100 Q X 0 0) 100 0 0 h 62 [some (.ref 56), some (.int x1), none] []) ∧ (x1 = 6 → ∃ Q1, XSpec mX11_wrong 1 0 0 100 100 [.ref 56, .int 2] h Q1 xno ∧ ∀ v h2, Q1 v h2 → v = none ∧ (XW (xrm (D + 6) 0 0) mX11_readExpression (xE 100 Q X 0 0) 100 0 0 h2 62 [some (.ref 56), some (.int x1), none] []))) ∧ (x2 = 0 → ∃ Q1, XSpec mX11_wrong 1 0 0 100 100 [.ref 56, .int 1] h Q1 xno ∧ ∀ v h3, Q1 v h3 → v = none ∧ (XW (xrm (D + 6) 0 0) mX11_readExpression (xE 100 Q X 0 0) 100 0 0 h3 62 [some (.ref 56), some (.int x1), none] []))) :
    XW (xrm (D + 6) 0 0) mX11_readExpression (xE 100 Q X 0 0) 100 0 0 h 39 [some (.ref 56), some (.int x1), some (.int x2)] [] := by
  refine xi_iload_n (by decide +kernel : decode mX11_readExpression.2.1 39 = .ok (.iload_n 2, 1)) rfl rfl (?_ : XW _ _ _ _ _ _ _ 40 _ _)
  refine xi_if_ne (by decide +kernel : decode mX11_readExpression.2.1 40 = .ok (.ifCond .ne 11, 3)) (by decide) (fun c => (?_ : XW _ _ _ _ _ _ _ 51 _ _)) (fun c => (?_ : XW _ _ _ _ _ _ _ 43 _ _))
  · replace vc := vc.1 c
    refine xi_iload_n (by decide +kernel : decode mX11_readExpression.2.1 51 = .ok (.iload_n 1, 1)) rfl rfl (?_ : XW _ _ _ _ _ _ _ 52 _ _)
    refine xi_bipush (v := 6) (by decide +kernel : decode mX11_readExpression.2.1 52 = .ok (.bipush 6, 2)) (by decide) (?_ : XW _ _ _ _ _ _ _ 54 _ _)
    refine xi_icmp_ne (by decide +kernel : decode mX11_readExpression.2.1 54 = .ok (.if_icmp .ne 8, 3)) (by decide) (fun c => (?_ : XW _ _ _ _ _ _ _ 62 _ _)) (fun c => (?_ : XW _ _ _ _ _ _ _ 57 _ _))
    · replace vc := vc.1 c
      refine xw_drop 2 (ls' := [some (.ref 56), some (.int x1), none]) rfl ?_
      exact vc
    · replace vc := vc.2 c
      refine xi_aload_n (by decide +kernel : decode mX11_readExpression.2.1 57 = .ok (.aload_n 0, 1)) rfl rfl (?_ : XW _ _ _ _ _ _ _ 58 _ _)
      refine xi_iconst (v := 2) (by decide +kernel : decode mX11_readExpression.2.1 58 = .ok (.iconst 2, 1)) (by decide) (?_ : XW _ _ _ _ _ _ _ 59 _ _)
      obtain ⟨Q1, sp, vc⟩ := vc
      refine xi_callV (b := 0) (bs := 0) (As := [.int 2]) (st := []) (by decide +kernel : decode mX11_readExpression.2.1 59 = .ok (.invokevirtual 232, 3)) kX11_232 rfl rfl (by omega) rfl sp (xrm_f (by omega)) (xrm_l (by omega) (Nat.le_of_ble_eq_true rfl)) (Nat.le_of_ble_eq_true rfl) (by omega) (fun v9 h2 hq9 => ?_)
      obtain ⟨e9, vc⟩ := vc v9 h2 hq9
      subst e9
      show XW _ _ _ _ _ _ _ 62 _ []
      refine xw_drop 2 (ls' := [some (.ref 56), some (.int x1), none]) rfl ?_
      exact vc
  · replace vc := vc.2 c
    refine xi_aload_n (by decide +kernel : decode mX11_readExpression.2.1 43 = .ok (.aload_n 0, 1)) rfl rfl (?_ : XW _ _ _ _ _ _ _ 44 _ _)
    refine xi_iconst (v := 1) (by decide +kernel : decode mX11_readExpression.2.1 44 = .ok (.iconst 1, 1)) (by decide) (?_ : XW _ _ _ _ _ _ _ 45 _ _)
    obtain ⟨Q1, sp, vc⟩ := vc
    refine xi_callV (b := 0) (bs := 0) (As := [.int 1]) (st := []) (by decide +kernel : decode mX11_readExpression.2.1 45 = .ok (.invokevirtual 232, 3)) kX11_232 rfl rfl (by omega) rfl sp (xrm_f (by omega)) (xrm_l (by omega) (Nat.le_of_ble_eq_true rfl)) (Nat.le_of_ble_eq_true rfl) (by omega) (fun v9 h3 hq9 => ?_)
    obtain ⟨e9, vc⟩ := vc v9 h3 hq9
    subst e9
    show XW _ _ _ _ _ _ _ 48 _ []
    refine xi_goto (by decide +kernel : decode mX11_readExpression.2.1 48 = .ok (.goto 14, 3)) (by decide) (?_ : XW _ _ _ _ _ _ _ 62 _ _)
    refine xw_drop 2 (ls' := [some (.ref 56), some (.int x1), none]) rfl ?_
    exact vc

set_option maxRecDepth 20000 in
theorem v_X11_readExpression_62 {h : XH} {Q : Option Value → XH → Prop} {X : String → XH → Prop} (D : Nat) (hD : 18 ≤ D) (hM : xMod (xP h))  (x1 : Int32)
    (vc : ∃ Q1, XSpec mX11_readAnd (D + 5) 0 0 100 100 [.ref 56, .int x1] h Q1 xno ∧ ∀ v h4, Q1 v h4 → v = none ∧ (XW (xrm (D + 6) 0 0) mX11_readExpression (xE 100 Q X 0 0) 100 0 0 h4 67 [some (.ref 56), some (.int x1), none] [])) :
    XW (xrm (D + 6) 0 0) mX11_readExpression (xE 100 Q X 0 0) 100 0 0 h 62 [some (.ref 56), some (.int x1), none] [] := by
  refine xi_aload_n (by decide +kernel : decode mX11_readExpression.2.1 62 = .ok (.aload_n 0, 1)) rfl rfl (?_ : XW _ _ _ _ _ _ _ 63 _ _)
  refine xi_iload_n (by decide +kernel : decode mX11_readExpression.2.1 63 = .ok (.iload_n 1, 1)) rfl rfl (?_ : XW _ _ _ _ _ _ _ 64 _ _)
  obtain ⟨Q1, sp, vc⟩ := vc
  refine xi_callV (b := 0) (bs := 0) (As := [.int x1]) (st := []) (by decide +kernel : decode mX11_readExpression.2.1 64 = .ok (.invokevirtual 274, 3)) kX11_274 rfl rfl (by omega) rfl sp (xrm_f (by omega)) (xrm_l (by omega) (Nat.le_of_ble_eq_true rfl)) (Nat.le_of_ble_eq_true rfl) (by omega) (fun v9 h4 hq9 => ?_)
  obtain ⟨e9, vc⟩ := vc v9 h4 hq9
  subst e9
  show XW _ _ _ _ _ _ _ 67 _ []
  exact vc

set_option maxRecDepth 20000 in
theorem v_X11_readExpression_67 {h : XH} {Q : Option Value → XH → Prop} {X : String → XH → Prop} (D : Nat) (hD : 18 ≤ D) (hM : xMod (xP h))  (x1 : Int32)
    (vc : ∃ Q1, XSpec mX11_is 12 0 0 100 100 [.ref 56, .ref (1000 + 45)] h Q1 xno ∧ ∀ v h5, Q1 v h5 → ∃ r5 : Int32, v = some (.int r5) ∧ ((r5 = 0 → Q none h5) ∧ (¬ r5 = 0 → ∃ Q1, XSpec mX11_stepOn 2 0 0 100 100 [.ref 56] h5 Q1 xno ∧ ∀ v h6, Q1 v h6 → v = none ∧ (∃ Q1, XSpec mX11_readAnd (D + 5) 0 0 100 100 [.ref 56, .int x1] h6 Q1 xno ∧ ∀ v h7, Q1 v h7 → v = none ∧ (∃ Q1, XSpec mX11_lay 1 0 0 100 100 [.ref 56, .int (-27)] h7 Q1 xno ∧ ∀ v h8, Q1 v h8 → v = none ∧ (XW (xrm (D + 6) 0 0) mX11_readExpression (xE 100 Q X 0 0) 100 0 0 h8 67 [some (.ref 56), some (.int x1), none] [])))))) :
    XW (xrm (D + 6) 0 0) mX11_readExpression (xE 100 Q X 0 0) 100 0 0 h 67 [some (.ref 56), some (.int x1), none] [] := by
  refine xi_aload_n (by decide +kernel : decode mX11_readExpression.2.1 67 = .ok (.aload_n 0, 1)) rfl rfl (?_ : XW _ _ _ _ _ _ _ 68 _ _)
  refine xi_ldcwS (j := 45) (by decide +kernel : decode mX11_readExpression.2.1 68 = .ok (.ldc_w 277, 3)) rfl (by decide) (?_ : XW _ _ _ _ _ _ _ 71 _ _)
  obtain ⟨Q1, sp, vc⟩ := vc
  refine xi_callV (b := 0) (bs := 0) (As := [.ref (1000 + 45)]) (st := []) (by decide +kernel : decode mX11_readExpression.2.1 71 = .ok (.invokevirtual 225, 3)) kX11_225 rfl rfl (by omega) rfl sp (xrm_f (by omega)) (xrm_l (by omega) (Nat.le_of_ble_eq_true rfl)) (Nat.le_of_ble_eq_true rfl) (by omega) (fun v9 h5 hq9 => ?_)
  obtain ⟨r5, e9, vc⟩ := vc v9 h5 hq9
  subst e9
  show XW _ _ _ _ _ _ _ 74 _ [.int r5]
  refine xi_if_eq (by decide +kernel : decode mX11_readExpression.2.1 74 = .ok (.ifCond .eq 21, 3)) (by decide) (fun c => (?_ : XW _ _ _ _ _ _ _ 95 _ _)) (fun c => (?_ : XW _ _ _ _ _ _ _ 77 _ _))
  · replace vc := vc.1 c
    exact xi_vret (by decide +kernel : decode mX11_readExpression.2.1 95 = .ok (.return_, 1)) rfl vc
  · replace vc := vc.2 c
    refine xi_aload_n (by decide +kernel : decode mX11_readExpression.2.1 77 = .ok (.aload_n 0, 1)) rfl rfl (?_ : XW _ _ _ _ _ _ _ 78 _ _)
    obtain ⟨Q1, sp, vc⟩ := vc
    refine xi_callV (b := 0) (bs := 0) (As := []) (st := []) (by decide +kernel : decode mX11_readExpression.2.1 78 = .ok (.invokevirtual 236, 3)) kX11_236 rfl rfl (by omega) rfl sp (xrm_f (by omega)) (xrm_l (by omega) (Nat.le_of_ble_eq_true rfl)) (Nat.le_of_ble_eq_true rfl) (by omega) (fun v9 h6 hq9 => ?_)
    obtain ⟨e9, vc⟩ := vc v9 h6 hq9
    subst e9
    show XW _ _ _ _ _ _ _ 81 _ []
    refine xi_aload_n (by decide +kernel : decode mX11_readExpression.2.1 81 = .ok (.aload_n 0, 1)) rfl rfl (?_ : XW _ _ _ _ _ _ _ 82 _ _)
    refine xi_iload_n (by decide +kernel : decode mX11_readExpression.2.1 82 = .ok (.iload_n 1, 1)) rfl rfl (?_ : XW _ _ _ _ _ _ _ 83 _ _)
    obtain ⟨Q1, sp, vc⟩ := vc
    refine xi_callV (b := 0) (bs := 0) (As := [.int x1]) (st := []) (by decide +kernel : decode mX11_readExpression.2.1 83 = .ok (.invokevirtual 274, 3)) kX11_274 rfl rfl (by omega) rfl sp (xrm_f (by omega)) (xrm_l (by omega) (Nat.le_of_ble_eq_true rfl)) (Nat.le_of_ble_eq_true rfl) (by omega) (fun v9 h7 hq9 => ?_)
    obtain ⟨e9, vc⟩ := vc v9 h7 hq9
    subst e9
    show XW _ _ _ _ _ _ _ 86 _ []
    refine xi_aload_n (by decide +kernel : decode mX11_readExpression.2.1 86 = .ok (.aload_n 0, 1)) rfl rfl (?_ : XW _ _ _ _ _ _ _ 87 _ _)
    refine xi_bipush (v := (-27)) (by decide +kernel : decode mX11_readExpression.2.1 87 = .ok (.bipush (-27), 2)) (by decide) (?_ : XW _ _ _ _ _ _ _ 89 _ _)
    obtain ⟨Q1, sp, vc⟩ := vc
    refine xi_callV (b := 0) (bs := 0) (As := [.int (-27)]) (st := []) (by decide +kernel : decode mX11_readExpression.2.1 89 = .ok (.invokevirtual 245, 3)) kX11_245 rfl rfl (by omega) rfl sp (xrm_f (by omega)) (xrm_l (by omega) (Nat.le_of_ble_eq_true rfl)) (Nat.le_of_ble_eq_true rfl) (by omega) (fun v9 h8 hq9 => ?_)
    obtain ⟨e9, vc⟩ := vc v9 h8 hq9
    subst e9
    show XW _ _ _ _ _ _ _ 92 _ []
    refine xi_goto (by decide +kernel : decode mX11_readExpression.2.1 92 = .ok (.goto (-25), 3)) (by decide) (?_ : XW _ _ _ _ _ _ _ 67 _ _)
    exact vc

set_option maxRecDepth 20000 in
theorem v_X11_readExit_0 {h : XH} {Q : Option Value → XH → Prop} {X : String → XH → Prop} (hM : xMod (xP h)) 
    (vc : (¬ (xI h 59 9) = 24 → XW (xrm 3 0 0) mX11_readExit (xE 100 Q X 0 0) 100 0 0 h 17 [some (.ref 56), none, none] []) ∧ ((xI h 59 9) = 24 → ∃ Q1, XSpec mX11_wrong 1 0 0 100 100 [.ref 56, .int 2] h Q1 xno ∧ ∀ v h1, Q1 v h1 → v = none ∧ (XW (xrm 3 0 0) mX11_readExit (xE 100 Q X 0 0) 100 0 0 h1 17 [some (.ref 56), none, none] []))) :
    XW (xrm 3 0 0) mX11_readExit (xE 100 Q X 0 0) 100 0 0 h 0 [some (.ref 56), none, none] [] := by
  refine xi_aload_n (by decide +kernel : decode mX11_readExit.2.1 0 = .ok (.aload_n 0, 1)) rfl rfl (?_ : XW _ _ _ _ _ _ _ 1 _ _)
  refine xi_getR (y := 59) (by decide +kernel : decode mX11_readExit.2.1 1 = .ok (.getfield 32, 3)) fX11_32 rfl (by omega) rfl (mp_told hM) (?_ : XW _ _ _ _ _ _ _ 4 _ _)
  refine xi_bipush (v := 9) (by decide +kernel : decode mX11_readExit.2.1 4 = .ok (.bipush 9, 2)) (by decide) (?_ : XW _ _ _ _ _ _ _ 6 _ _)
  refine xi_iald (by decide +kernel : decode mX11_readExit.2.1 6 = .ok (.iaload, 1)) rfl (by omega) (by unfold vp_in; decide) (?_ : XW _ _ _ _ _ _ _ 7 _ [.int (xI h 59 9)])
  refine xi_bipush (v := 24) (by decide +kernel : decode mX11_readExit.2.1 7 = .ok (.bipush 24, 2)) (by decide) (?_ : XW _ _ _ _ _ _ _ 9 _ _)
  refine xi_icmp_ne (by decide +kernel : decode mX11_readExit.2.1 9 = .ok (.if_icmp .ne 8, 3)) (by decide) (fun c => (?_ : XW _ _ _ _ _ _ _ 17 _ _)) (fun c => (?_ : XW _ _ _ _ _ _ _ 12 _ _))
  · replace vc := vc.1 c
    exact vc
  · replace vc := vc.2 c
    refine xi_aload_n (by decide +kernel : decode mX11_readExit.2.1 12 = .ok (.aload_n 0, 1)) rfl rfl (?_ : XW _ _ _ _ _ _ _ 13 _ _)
    refine xi_iconst (v := 2) (by decide +kernel : decode mX11_readExit.2.1 13 = .ok (.iconst 2, 1)) (by decide) (?_ : XW _ _ _ _ _ _ _ 14 _ _)
    obtain ⟨Q1, sp, vc⟩ := vc
    refine xi_callV (b := 0) (bs := 0) (As := [.int 2]) (st := []) (by decide +kernel : decode mX11_readExit.2.1 14 = .ok (.invokevirtual 232, 3)) kX11_232 rfl rfl (by omega) rfl sp (by decide) (by decide) (Nat.le_of_ble_eq_true rfl) (by omega) (fun v9 h1 hq9 => ?_)
    obtain ⟨e9, vc⟩ := vc v9 h1 hq9
    subst e9
    show XW _ _ _ _ _ _ _ 17 _ []
    exact vc

set_option maxRecDepth 20000 in
theorem v_X11_readExit_17 {h : XH} {Q : Option Value → XH → Prop} {X : String → XH → Prop} (hM : xMod (xP h)) 
    (vc : ((xI h 56 18) = 0 → ∃ Q1, XSpec mX11_stepOn 2 0 0 100 100 [.ref 56] h Q1 xno ∧ ∀ v h2, Q1 v h2 → v = none ∧ ((xP h2 56 3 = some 59) ∧ (∃ Q1, XSpec mX11_numberNow 2 0 0 100 100 [.ref 56, .int 1, .int ((xI h2 59 8) - 1)] h2 Q1 xno ∧ ∀ v h3, Q1 v h3 → ∃ r3 : Int32, v = some (.int r3) ∧ ((¬ (xI h3 56 18) = 0 → XW (xrm 3 0 0) mX11_readExit (xE 100 Q X 0 0) 100 0 0 h3 64 [some (.ref 56), some (.int r3), none] []) ∧ ((xI h3 56 18) = 0 → ∃ Q1, XSpec mX11_isFoot 1 0 0 100 100 [.ref 56, .int r3] h3 Q1 xno ∧ ∀ v h4, Q1 v h4 → ∃ r4 : Int32, v = some (.int r4) ∧ ((r4 = 0 → XW (xrm 3 0 0) mX11_readExit (xE 100 Q X 0 0) 100 0 0 h4 64 [some (.ref 56), some (.int r3), none] []) ∧ (¬ r4 = 0 → ∃ Q1, XSpec mX11_wrong 1 0 0 100 100 [.ref 56, .int 4] h4 Q1 xno ∧ ∀ v h5, Q1 v h5 → v = none ∧ (XW (xrm 3 0 0) mX11_readExit (xE 100 Q X 0 0) 100 0 0 h5 64 [some (.ref 56), some (.int r3), none] [])))))))) ∧ (¬ (xI h 56 18) = 0 → Q none h)) :
    XW (xrm 3 0 0) mX11_readExit (xE 100 Q X 0 0) 100 0 0 h 17 [some (.ref 56), none, none] [] := by
  refine xi_aload_n (by decide +kernel : decode mX11_readExit.2.1 17 = .ok (.aload_n 0, 1)) rfl rfl (?_ : XW _ _ _ _ _ _ _ 18 _ _)
  refine xi_getI (by decide +kernel : decode mX11_readExit.2.1 18 = .ok (.getfield 211, 3)) fX11_211 rfl (by omega) rfl (?_ : XW _ _ _ _ _ _ _ 21 _ _)
  refine xi_if_eq (by decide +kernel : decode mX11_readExit.2.1 21 = .ok (.ifCond .eq 4, 3)) (by decide) (fun c => (?_ : XW _ _ _ _ _ _ _ 25 _ _)) (fun c => (?_ : XW _ _ _ _ _ _ _ 24 _ _))
  · replace vc := vc.1 c
    refine xi_aload_n (by decide +kernel : decode mX11_readExit.2.1 25 = .ok (.aload_n 0, 1)) rfl rfl (?_ : XW _ _ _ _ _ _ _ 26 _ _)
    obtain ⟨Q1, sp, vc⟩ := vc
    refine xi_callV (b := 0) (bs := 0) (As := []) (st := []) (by decide +kernel : decode mX11_readExit.2.1 26 = .ok (.invokevirtual 236, 3)) kX11_236 rfl rfl (by omega) rfl sp (by decide) (by decide) (Nat.le_of_ble_eq_true rfl) (by omega) (fun v9 h2 hq9 => ?_)
    obtain ⟨e9, vc⟩ := vc v9 h2 hq9
    subst e9
    show XW _ _ _ _ _ _ _ 29 _ []
    refine xi_aload_n (by decide +kernel : decode mX11_readExit.2.1 29 = .ok (.aload_n 0, 1)) rfl rfl (?_ : XW _ _ _ _ _ _ _ 30 _ _)
    refine xi_iconst (v := 1) (by decide +kernel : decode mX11_readExit.2.1 30 = .ok (.iconst 1, 1)) (by decide) (?_ : XW _ _ _ _ _ _ _ 31 _ _)
    refine xi_aload_n (by decide +kernel : decode mX11_readExit.2.1 31 = .ok (.aload_n 0, 1)) rfl rfl (?_ : XW _ _ _ _ _ _ _ 32 _ _)
    obtain ⟨s1, vc⟩ := vc
    refine xi_getR (y := 59) (by decide +kernel : decode mX11_readExit.2.1 32 = .ok (.getfield 32, 3)) fX11_32 rfl (by omega) rfl s1 (?_ : XW _ _ _ _ _ _ _ 35 _ _)
    refine xi_bipush (v := 8) (by decide +kernel : decode mX11_readExit.2.1 35 = .ok (.bipush 8, 2)) (by decide) (?_ : XW _ _ _ _ _ _ _ 37 _ _)
    refine xi_iald (by decide +kernel : decode mX11_readExit.2.1 37 = .ok (.iaload, 1)) rfl (by omega) (by unfold vp_in; decide) (?_ : XW _ _ _ _ _ _ _ 38 _ [.int (xI h2 59 8), .int 1, .ref 56])
    refine xi_iconst (v := 1) (by decide +kernel : decode mX11_readExit.2.1 38 = .ok (.iconst 1, 1)) (by decide) (?_ : XW _ _ _ _ _ _ _ 39 _ _)
    refine xi_isub (by decide +kernel : decode mX11_readExit.2.1 39 = .ok (.isub, 1)) (?_ : XW _ _ _ _ _ _ _ 40 _ _)
    obtain ⟨Q1, sp, vc⟩ := vc
    refine xi_callV (b := 0) (bs := 0) (As := [.int 1, .int ((xI h2 59 8) - 1)]) (st := []) (by decide +kernel : decode mX11_readExit.2.1 40 = .ok (.invokevirtual 239, 3)) kX11_239 rfl rfl (by omega) rfl sp (by decide) (by decide) (Nat.le_of_ble_eq_true rfl) (by omega) (fun v9 h3 hq9 => ?_)
    obtain ⟨r3, e9, vc⟩ := vc v9 h3 hq9
    subst e9
    show XW _ _ _ _ _ _ _ 43 _ [.int r3]
    refine xi_istore_n (ls' := [some (.ref 56), some (.int r3), none]) (by decide +kernel : decode mX11_readExit.2.1 43 = .ok (.istore_n 1, 1)) rfl (by decide) rfl (?_ : XW _ _ _ _ _ _ _ 44 _ _)
    refine xi_aload_n (by decide +kernel : decode mX11_readExit.2.1 44 = .ok (.aload_n 0, 1)) rfl rfl (?_ : XW _ _ _ _ _ _ _ 45 _ _)
    refine xi_getI (by decide +kernel : decode mX11_readExit.2.1 45 = .ok (.getfield 211, 3)) fX11_211 rfl (by omega) rfl (?_ : XW _ _ _ _ _ _ _ 48 _ _)
    refine xi_if_ne (by decide +kernel : decode mX11_readExit.2.1 48 = .ok (.ifCond .ne 16, 3)) (by decide) (fun c => (?_ : XW _ _ _ _ _ _ _ 64 _ _)) (fun c => (?_ : XW _ _ _ _ _ _ _ 51 _ _))
    · replace vc := vc.1 c
      exact vc
    · replace vc := vc.2 c
      refine xi_aload_n (by decide +kernel : decode mX11_readExit.2.1 51 = .ok (.aload_n 0, 1)) rfl rfl (?_ : XW _ _ _ _ _ _ _ 52 _ _)
      refine xi_iload_n (by decide +kernel : decode mX11_readExit.2.1 52 = .ok (.iload_n 1, 1)) rfl rfl (?_ : XW _ _ _ _ _ _ _ 53 _ _)
      obtain ⟨Q1, sp, vc⟩ := vc
      refine xi_callV (b := 0) (bs := 0) (As := [.int r3]) (st := []) (by decide +kernel : decode mX11_readExit.2.1 53 = .ok (.invokevirtual 279, 3)) kX11_279 rfl rfl (by omega) rfl sp (by decide) (by decide) (Nat.le_of_ble_eq_true rfl) (by omega) (fun v9 h4 hq9 => ?_)
      obtain ⟨r4, e9, vc⟩ := vc v9 h4 hq9
      subst e9
      show XW _ _ _ _ _ _ _ 56 _ [.int r4]
      refine xi_if_eq (by decide +kernel : decode mX11_readExit.2.1 56 = .ok (.ifCond .eq 8, 3)) (by decide) (fun c => (?_ : XW _ _ _ _ _ _ _ 64 _ _)) (fun c => (?_ : XW _ _ _ _ _ _ _ 59 _ _))
      · replace vc := vc.1 c
        exact vc
      · replace vc := vc.2 c
        refine xi_aload_n (by decide +kernel : decode mX11_readExit.2.1 59 = .ok (.aload_n 0, 1)) rfl rfl (?_ : XW _ _ _ _ _ _ _ 60 _ _)
        refine xi_iconst (v := 4) (by decide +kernel : decode mX11_readExit.2.1 60 = .ok (.iconst 4, 1)) (by decide) (?_ : XW _ _ _ _ _ _ _ 61 _ _)
        obtain ⟨Q1, sp, vc⟩ := vc
        refine xi_callV (b := 0) (bs := 0) (As := [.int 4]) (st := []) (by decide +kernel : decode mX11_readExit.2.1 61 = .ok (.invokevirtual 232, 3)) kX11_232 rfl rfl (by omega) rfl sp (by decide) (by decide) (Nat.le_of_ble_eq_true rfl) (by omega) (fun v9 h5 hq9 => ?_)
        obtain ⟨e9, vc⟩ := vc v9 h5 hq9
        subst e9
        show XW _ _ _ _ _ _ _ 64 _ []
        exact vc
  · replace vc := vc.2 c
    exact xi_vret (by decide +kernel : decode mX11_readExit.2.1 24 = .ok (.return_, 1)) rfl vc

set_option maxRecDepth 20000 in
theorem v_X11_readExit_64 {h : XH} {Q : Option Value → XH → Prop} {X : String → XH → Prop} (hM : xMod (xP h))  (x1 : Int32)
    (vc : (¬ (xI h 56 18) = 0 → XW (xrm 3 0 0) mX11_readExit (xE 100 Q X 0 0) 100 0 0 h 75 [some (.ref 56), some (.int x1), none] []) ∧ ((xI h 56 18) = 0 → ∃ Q1, XSpec mX11_stepOn 2 0 0 100 100 [.ref 56] h Q1 xno ∧ ∀ v h6, Q1 v h6 → v = none ∧ (XW (xrm 3 0 0) mX11_readExit (xE 100 Q X 0 0) 100 0 0 h6 75 [some (.ref 56), some (.int x1), none] []))) :
    XW (xrm 3 0 0) mX11_readExit (xE 100 Q X 0 0) 100 0 0 h 64 [some (.ref 56), some (.int x1), none] [] := by
  refine xi_aload_n (by decide +kernel : decode mX11_readExit.2.1 64 = .ok (.aload_n 0, 1)) rfl rfl (?_ : XW _ _ _ _ _ _ _ 65 _ _)
  refine xi_getI (by decide +kernel : decode mX11_readExit.2.1 65 = .ok (.getfield 211, 3)) fX11_211 rfl (by omega) rfl (?_ : XW _ _ _ _ _ _ _ 68 _ _)
  refine xi_if_ne (by decide +kernel : decode mX11_readExit.2.1 68 = .ok (.ifCond .ne 7, 3)) (by decide) (fun c => (?_ : XW _ _ _ _ _ _ _ 75 _ _)) (fun c => (?_ : XW _ _ _ _ _ _ _ 71 _ _))
  · replace vc := vc.1 c
    exact vc
  · replace vc := vc.2 c
    refine xi_aload_n (by decide +kernel : decode mX11_readExit.2.1 71 = .ok (.aload_n 0, 1)) rfl rfl (?_ : XW _ _ _ _ _ _ _ 72 _ _)
    obtain ⟨Q1, sp, vc⟩ := vc
    refine xi_callV (b := 0) (bs := 0) (As := []) (st := []) (by decide +kernel : decode mX11_readExit.2.1 72 = .ok (.invokevirtual 236, 3)) kX11_236 rfl rfl (by omega) rfl sp (by decide) (by decide) (Nat.le_of_ble_eq_true rfl) (by omega) (fun v9 h6 hq9 => ?_)
    obtain ⟨e9, vc⟩ := vc v9 h6 hq9
    subst e9
    show XW _ _ _ _ _ _ _ 75 _ []
    exact vc

set_option maxRecDepth 20000 in
theorem v_X11_readExit_75 {h : XH} {Q : Option Value → XH → Prop} {X : String → XH → Prop} (hM : xMod (xP h))  (x1 : Int32)
    (vc : ∃ Q1, XSpec mX11_numberNow 2 0 0 100 100 [.ref 56, .int 1, .int (xI h 59 8)] h Q1 xno ∧ ∀ v h7, Q1 v h7 → ∃ r7 : Int32, v = some (.int r7) ∧ ((¬ (xI h7 56 18) = 0 → XW (xrm 3 0 0) mX11_readExit (xE 100 Q X 0 0) 100 0 0 h7 105 [some (.ref 56), some (.int x1), some (.int r7)] []) ∧ ((xI h7 56 18) = 0 → (¬ x1 = r7 → XW (xrm 3 0 0) mX11_readExit (xE 100 Q X 0 0) 100 0 0 h7 105 [some (.ref 56), some (.int x1), some (.int r7)] []) ∧ (x1 = r7 → ∃ Q1, XSpec mX11_wrong 1 0 0 100 100 [.ref 56, .int 2] h7 Q1 xno ∧ ∀ v h8, Q1 v h8 → v = none ∧ (XW (xrm 3 0 0) mX11_readExit (xE 100 Q X 0 0) 100 0 0 h8 105 [some (.ref 56), some (.int x1), some (.int r7)] []))))) :
    XW (xrm 3 0 0) mX11_readExit (xE 100 Q X 0 0) 100 0 0 h 75 [some (.ref 56), some (.int x1), none] [] := by
  refine xi_aload_n (by decide +kernel : decode mX11_readExit.2.1 75 = .ok (.aload_n 0, 1)) rfl rfl (?_ : XW _ _ _ _ _ _ _ 76 _ _)
  refine xi_iconst (v := 1) (by decide +kernel : decode mX11_readExit.2.1 76 = .ok (.iconst 1, 1)) (by decide) (?_ : XW _ _ _ _ _ _ _ 77 _ _)
  refine xi_aload_n (by decide +kernel : decode mX11_readExit.2.1 77 = .ok (.aload_n 0, 1)) rfl rfl (?_ : XW _ _ _ _ _ _ _ 78 _ _)
  refine xi_getR (y := 59) (by decide +kernel : decode mX11_readExit.2.1 78 = .ok (.getfield 32, 3)) fX11_32 rfl (by omega) rfl (mp_told hM) (?_ : XW _ _ _ _ _ _ _ 81 _ _)
  refine xi_bipush (v := 8) (by decide +kernel : decode mX11_readExit.2.1 81 = .ok (.bipush 8, 2)) (by decide) (?_ : XW _ _ _ _ _ _ _ 83 _ _)
  refine xi_iald (by decide +kernel : decode mX11_readExit.2.1 83 = .ok (.iaload, 1)) rfl (by omega) (by unfold vp_in; decide) (?_ : XW _ _ _ _ _ _ _ 84 _ [.int (xI h 59 8), .int 1, .ref 56])
  obtain ⟨Q1, sp, vc⟩ := vc
  refine xi_callV (b := 0) (bs := 0) (As := [.int 1, .int (xI h 59 8)]) (st := []) (by decide +kernel : decode mX11_readExit.2.1 84 = .ok (.invokevirtual 239, 3)) kX11_239 rfl rfl (by omega) rfl sp (by decide) (by decide) (Nat.le_of_ble_eq_true rfl) (by omega) (fun v9 h7 hq9 => ?_)
  obtain ⟨r7, e9, vc⟩ := vc v9 h7 hq9
  subst e9
  show XW _ _ _ _ _ _ _ 87 _ [.int r7]
  refine xi_istore_n (ls' := [some (.ref 56), some (.int x1), some (.int r7)]) (by decide +kernel : decode mX11_readExit.2.1 87 = .ok (.istore_n 2, 1)) rfl (by decide) rfl (?_ : XW _ _ _ _ _ _ _ 88 _ _)
  refine xi_aload_n (by decide +kernel : decode mX11_readExit.2.1 88 = .ok (.aload_n 0, 1)) rfl rfl (?_ : XW _ _ _ _ _ _ _ 89 _ _)
  refine xi_getI (by decide +kernel : decode mX11_readExit.2.1 89 = .ok (.getfield 211, 3)) fX11_211 rfl (by omega) rfl (?_ : XW _ _ _ _ _ _ _ 92 _ _)
  refine xi_if_ne (by decide +kernel : decode mX11_readExit.2.1 92 = .ok (.ifCond .ne 13, 3)) (by decide) (fun c => (?_ : XW _ _ _ _ _ _ _ 105 _ _)) (fun c => (?_ : XW _ _ _ _ _ _ _ 95 _ _))
  · replace vc := vc.1 c
    exact vc
  · replace vc := vc.2 c
    refine xi_iload_n (by decide +kernel : decode mX11_readExit.2.1 95 = .ok (.iload_n 1, 1)) rfl rfl (?_ : XW _ _ _ _ _ _ _ 96 _ _)
    refine xi_iload_n (by decide +kernel : decode mX11_readExit.2.1 96 = .ok (.iload_n 2, 1)) rfl rfl (?_ : XW _ _ _ _ _ _ _ 97 _ _)
    refine xi_icmp_ne (by decide +kernel : decode mX11_readExit.2.1 97 = .ok (.if_icmp .ne 8, 3)) (by decide) (fun c => (?_ : XW _ _ _ _ _ _ _ 105 _ _)) (fun c => (?_ : XW _ _ _ _ _ _ _ 100 _ _))
    · replace vc := vc.1 c
      exact vc
    · replace vc := vc.2 c
      refine xi_aload_n (by decide +kernel : decode mX11_readExit.2.1 100 = .ok (.aload_n 0, 1)) rfl rfl (?_ : XW _ _ _ _ _ _ _ 101 _ _)
      refine xi_iconst (v := 2) (by decide +kernel : decode mX11_readExit.2.1 101 = .ok (.iconst 2, 1)) (by decide) (?_ : XW _ _ _ _ _ _ _ 102 _ _)
      obtain ⟨Q1, sp, vc⟩ := vc
      refine xi_callV (b := 0) (bs := 0) (As := [.int 2]) (st := []) (by decide +kernel : decode mX11_readExit.2.1 102 = .ok (.invokevirtual 232, 3)) kX11_232 rfl rfl (by omega) rfl sp (by decide) (by decide) (Nat.le_of_ble_eq_true rfl) (by omega) (fun v9 h8 hq9 => ?_)
      obtain ⟨e9, vc⟩ := vc v9 h8 hq9
      subst e9
      show XW _ _ _ _ _ _ _ 105 _ []
      exact vc

set_option maxRecDepth 20000 in
theorem v_X11_readExit_105 {h : XH} {Q : Option Value → XH → Prop} {X : String → XH → Prop} (hM : xMod (xP h))  (x1 : Int32) (x2 : Int32)
    (vc : ((xI h 56 18) = 0 → XW (xrm 3 0 0) mX11_readExit (xE 100 Q X 0 0) 100 0 0 h 113 [some (.ref 56), some (.int x1), some (.int x2)] []) ∧ (¬ (xI h 56 18) = 0 → Q none h)) :
    XW (xrm 3 0 0) mX11_readExit (xE 100 Q X 0 0) 100 0 0 h 105 [some (.ref 56), some (.int x1), some (.int x2)] [] := by
  refine xi_aload_n (by decide +kernel : decode mX11_readExit.2.1 105 = .ok (.aload_n 0, 1)) rfl rfl (?_ : XW _ _ _ _ _ _ _ 106 _ _)
  refine xi_getI (by decide +kernel : decode mX11_readExit.2.1 106 = .ok (.getfield 211, 3)) fX11_211 rfl (by omega) rfl (?_ : XW _ _ _ _ _ _ _ 109 _ _)
  refine xi_if_eq (by decide +kernel : decode mX11_readExit.2.1 109 = .ok (.ifCond .eq 4, 3)) (by decide) (fun c => (?_ : XW _ _ _ _ _ _ _ 113 _ _)) (fun c => (?_ : XW _ _ _ _ _ _ _ 112 _ _))
  · replace vc := vc.1 c
    exact vc
  · replace vc := vc.2 c
    exact xi_vret (by decide +kernel : decode mX11_readExit.2.1 112 = .ok (.return_, 1)) rfl vc

set_option maxRecDepth 20000 in
theorem v_X11_readExit_113 {h : XH} {Q : Option Value → XH → Prop} {X : String → XH → Prop} (hM : xMod (xP h))  (x1 : Int32) (x2 : Int32)
    (vc : ∃ Q1, XSpec mX11_stepOn 2 0 0 100 100 [.ref 56] h Q1 xno ∧ ∀ v h9, Q1 v h9 → v = none ∧ ((xP h9 56 5 = some 61) ∧ ((xP h9 56 3 = some 59) ∧ ((vp_in (24 + (xI h9 59 9)) 48) ∧ ((xP h9 56 6 = some 62) ∧ ((xP h9 56 3 = some 59) ∧ ((vp_in (24 + (xI h9 59 9)) 48) ∧ ((xP h9 56 3 = some 59) ∧ (Q none (xSI 59 (va_up (xI h9 59) 9 ((xI h9 59 9) + 1)) (xSI 62 (va_up (xI h9 62) (24 + (xI h9 59 9)).toNatClampNeg x2) (xSI 61 (va_up (xI h9 61) (24 + (xI h9 59 9)).toNatClampNeg x1) h9)))))))))))) :
    XW (xrm 3 0 0) mX11_readExit (xE 100 Q X 0 0) 100 0 0 h 113 [some (.ref 56), some (.int x1), some (.int x2)] [] := by
  refine xi_aload_n (by decide +kernel : decode mX11_readExit.2.1 113 = .ok (.aload_n 0, 1)) rfl rfl (?_ : XW _ _ _ _ _ _ _ 114 _ _)
  obtain ⟨Q1, sp, vc⟩ := vc
  refine xi_callV (b := 0) (bs := 0) (As := []) (st := []) (by decide +kernel : decode mX11_readExit.2.1 114 = .ok (.invokevirtual 236, 3)) kX11_236 rfl rfl (by omega) rfl sp (by decide) (by decide) (Nat.le_of_ble_eq_true rfl) (by omega) (fun v9 h9 hq9 => ?_)
  obtain ⟨e9, vc⟩ := vc v9 h9 hq9
  subst e9
  show XW _ _ _ _ _ _ _ 117 _ []
  refine xi_aload_n (by decide +kernel : decode mX11_readExit.2.1 117 = .ok (.aload_n 0, 1)) rfl rfl (?_ : XW _ _ _ _ _ _ _ 118 _ _)
  obtain ⟨s1, vc⟩ := vc
  refine xi_getR (y := 61) (by decide +kernel : decode mX11_readExit.2.1 118 = .ok (.getfield 39, 3)) fX11_39 rfl (by omega) rfl s1 (?_ : XW _ _ _ _ _ _ _ 121 _ _)
  refine xi_bipush (v := 24) (by decide +kernel : decode mX11_readExit.2.1 121 = .ok (.bipush 24, 2)) (by decide) (?_ : XW _ _ _ _ _ _ _ 123 _ _)
  refine xi_aload_n (by decide +kernel : decode mX11_readExit.2.1 123 = .ok (.aload_n 0, 1)) rfl rfl (?_ : XW _ _ _ _ _ _ _ 124 _ _)
  obtain ⟨s1, vc⟩ := vc
  refine xi_getR (y := 59) (by decide +kernel : decode mX11_readExit.2.1 124 = .ok (.getfield 32, 3)) fX11_32 rfl (by omega) rfl s1 (?_ : XW _ _ _ _ _ _ _ 127 _ _)
  refine xi_bipush (v := 9) (by decide +kernel : decode mX11_readExit.2.1 127 = .ok (.bipush 9, 2)) (by decide) (?_ : XW _ _ _ _ _ _ _ 129 _ _)
  refine xi_iald (by decide +kernel : decode mX11_readExit.2.1 129 = .ok (.iaload, 1)) rfl (by omega) (by unfold vp_in; decide) (?_ : XW _ _ _ _ _ _ _ 130 _ [.int (xI h9 59 9), .int 24, .ref 61])
  refine xi_iadd (by decide +kernel : decode mX11_readExit.2.1 130 = .ok (.iadd, 1)) (?_ : XW _ _ _ _ _ _ _ 131 _ _)
  refine xi_iload_n (by decide +kernel : decode mX11_readExit.2.1 131 = .ok (.iload_n 1, 1)) rfl rfl (?_ : XW _ _ _ _ _ _ _ 132 _ _)
  obtain ⟨s1, vc⟩ := vc
  refine xi_iast (by decide +kernel : decode mX11_readExit.2.1 132 = .ok (.iastore, 1)) rfl (by omega) s1 (?_ : XW _ _ _ _ _ _ (xSI 61 (va_up (xI h9 61) (24 + (xI h9 59 9)).toNatClampNeg x1) h9) 133 _ _)
  refine xi_aload_n (by decide +kernel : decode mX11_readExit.2.1 133 = .ok (.aload_n 0, 1)) rfl rfl (?_ : XW _ _ _ _ _ _ _ 134 _ _)
  obtain ⟨s1, vc⟩ := vc
  refine xi_getR (y := 62) (by decide +kernel : decode mX11_readExit.2.1 134 = .ok (.getfield 42, 3)) fX11_42 rfl (by omega) rfl s1 (?_ : XW _ _ _ _ _ _ _ 137 _ _)
  refine xi_bipush (v := 24) (by decide +kernel : decode mX11_readExit.2.1 137 = .ok (.bipush 24, 2)) (by decide) (?_ : XW _ _ _ _ _ _ _ 139 _ _)
  refine xi_aload_n (by decide +kernel : decode mX11_readExit.2.1 139 = .ok (.aload_n 0, 1)) rfl rfl (?_ : XW _ _ _ _ _ _ _ 140 _ _)
  obtain ⟨s1, vc⟩ := vc
  refine xi_getR (y := 59) (by decide +kernel : decode mX11_readExit.2.1 140 = .ok (.getfield 32, 3)) fX11_32 rfl (by omega) rfl s1 (?_ : XW _ _ _ _ _ _ _ 143 _ _)
  refine xi_bipush (v := 9) (by decide +kernel : decode mX11_readExit.2.1 143 = .ok (.bipush 9, 2)) (by decide) (?_ : XW _ _ _ _ _ _ _ 145 _ _)
  refine xi_iald (by decide +kernel : decode mX11_readExit.2.1 145 = .ok (.iaload, 1)) rfl (by omega) (by unfold vp_in; decide) (?_ : XW _ _ _ _ _ _ _ 146 _ [.int (xI h9 59 9), .int 24, .ref 62])
  refine xi_iadd (by decide +kernel : decode mX11_readExit.2.1 146 = .ok (.iadd, 1)) (?_ : XW _ _ _ _ _ _ _ 147 _ _)
  refine xi_iload_n (by decide +kernel : decode mX11_readExit.2.1 147 = .ok (.iload_n 2, 1)) rfl rfl (?_ : XW _ _ _ _ _ _ _ 148 _ _)
  obtain ⟨s1, vc⟩ := vc
  refine xi_iast (by decide +kernel : decode mX11_readExit.2.1 148 = .ok (.iastore, 1)) rfl (by omega) s1 (?_ : XW _ _ _ _ _ _ (xSI 62 (va_up (xI h9 62) (24 + (xI h9 59 9)).toNatClampNeg x2) (xSI 61 (va_up (xI h9 61) (24 + (xI h9 59 9)).toNatClampNeg x1) h9)) 149 _ _)
  refine xi_aload_n (by decide +kernel : decode mX11_readExit.2.1 149 = .ok (.aload_n 0, 1)) rfl rfl (?_ : XW _ _ _ _ _ _ _ 150 _ _)
  obtain ⟨s1, vc⟩ := vc
  refine xi_getR (y := 59) (by decide +kernel : decode mX11_readExit.2.1 150 = .ok (.getfield 32, 3)) fX11_32 rfl (by omega) rfl s1 (?_ : XW _ _ _ _ _ _ _ 153 _ _)
  refine xi_bipush (v := 9) (by decide +kernel : decode mX11_readExit.2.1 153 = .ok (.bipush 9, 2)) (by decide) (?_ : XW _ _ _ _ _ _ _ 155 _ _)
  refine xi_dup2 (by decide +kernel : decode mX11_readExit.2.1 155 = .ok (.dup2, 1)) rfl rfl (?_ : XW _ _ _ _ _ _ _ 156 _ _)
  refine xi_iald (by decide +kernel : decode mX11_readExit.2.1 156 = .ok (.iaload, 1)) rfl (by omega) (by unfold vp_in; decide) (?_ : XW _ _ _ _ _ _ _ 157 _ [.int (xI h9 59 9), .int 9, .ref 59])
  refine xi_iconst (v := 1) (by decide +kernel : decode mX11_readExit.2.1 157 = .ok (.iconst 1, 1)) (by decide) (?_ : XW _ _ _ _ _ _ _ 158 _ _)
  refine xi_iadd (by decide +kernel : decode mX11_readExit.2.1 158 = .ok (.iadd, 1)) (?_ : XW _ _ _ _ _ _ _ 159 _ _)
  refine xi_iast (by decide +kernel : decode mX11_readExit.2.1 159 = .ok (.iastore, 1)) rfl (by omega) (by unfold vp_in; decide) (?_ : XW _ _ _ _ _ _ (xSI 59 (va_up (xI h9 59) 9 ((xI h9 59 9) + 1)) (xSI 62 (va_up (xI h9 62) (24 + (xI h9 59 9)).toNatClampNeg x2) (xSI 61 (va_up (xI h9 61) (24 + (xI h9 59 9)).toNatClampNeg x1) h9))) 160 _ _)
  exact xi_vret (by decide +kernel : decode mX11_readExit.2.1 160 = .ok (.return_, 1)) rfl vc

set_option maxRecDepth 20000 in
theorem v_X11_readDie_0 {h : XH} {Q : Option Value → XH → Prop} {X : String → XH → Prop} (hM : xMod (xP h)) 
    (vc : XW (xrm 3 0 0) mX11_readDie (xE 100 Q X 0 0) 100 0 0 h 4 [some (.ref 56), some (.int 0), some (.int 0)] []) :
    XW (xrm 3 0 0) mX11_readDie (xE 100 Q X 0 0) 100 0 0 h 0 [some (.ref 56), none, none] [] := by
  refine xi_iconst (v := 0) (by decide +kernel : decode mX11_readDie.2.1 0 = .ok (.iconst 0, 1)) (by decide) (?_ : XW _ _ _ _ _ _ _ 1 _ _)
  refine xi_istore_n (ls' := [some (.ref 56), some (.int 0), none]) (by decide +kernel : decode mX11_readDie.2.1 1 = .ok (.istore_n 1, 1)) rfl (by decide) rfl (?_ : XW _ _ _ _ _ _ _ 2 _ _)
  refine xi_iconst (v := 0) (by decide +kernel : decode mX11_readDie.2.1 2 = .ok (.iconst 0, 1)) (by decide) (?_ : XW _ _ _ _ _ _ _ 3 _ _)
  refine xi_istore_n (ls' := [some (.ref 56), some (.int 0), some (.int 0)]) (by decide +kernel : decode mX11_readDie.2.1 3 = .ok (.istore_n 2, 1)) rfl (by decide) rfl (?_ : XW _ _ _ _ _ _ _ 4 _ _)
  exact vc

set_option maxRecDepth 20000 in
theorem v_X11_readDie_4 {h : XH} {Q : Option Value → XH → Prop} {X : String → XH → Prop} (hM : xMod (xP h))  (x1 : Int32) (x2 : Int32)
    (vc : (6 ≤ x2 → Q none h) ∧ (¬ 6 ≤ x2 → (¬ (xI h 56 18) = 0 → Q none h) ∧ ((xI h 56 18) = 0 → ∃ Q1, XSpec mX11_numberNow 2 0 0 100 100 [.ref 56, .int 0, .int 9] h Q1 xno ∧ ∀ v h1, Q1 v h1 → ∃ r1 : Int32, v = some (.int r1) ∧ ((vp_in (6 + x2) 12) ∧ ((xP h1 56 4 = some 60) ∧ ((vp_in (6 + x2) 12) ∧ ((¬ (xI h1 56 18) = 0 → XW (xrm 3 0 0) mX11_readDie (xE 100 Q X 0 0) 100 0 0 (xSI 60 (va_up (xI h1 60) (6 + x2).toNatClampNeg r1) h1) 66 [some (.ref 56), some (.int (x1 + (va_up (xI h1 60) (6 + x2).toNatClampNeg r1 (6 + x2).toNatClampNeg))), some (.int x2)] []) ∧ ((xI h1 56 18) = 0 → (¬ x2 = 5 → XW (xrm 3 0 0) mX11_readDie (xE 100 Q X 0 0) 100 0 0 (xSI 60 (va_up (xI h1 60) (6 + x2).toNatClampNeg r1) h1) 66 [some (.ref 56), some (.int (x1 + (va_up (xI h1 60) (6 + x2).toNatClampNeg r1 (6 + x2).toNatClampNeg))), some (.int x2)] []) ∧ (x2 = 5 → (¬ (x1 + (va_up (xI h1 60) (6 + x2).toNatClampNeg r1 (6 + x2).toNatClampNeg)) = 0 → XW (xrm 3 0 0) mX11_readDie (xE 100 Q X 0 0) 100 0 0 (xSI 60 (va_up (xI h1 60) (6 + x2).toNatClampNeg r1) h1) 66 [some (.ref 56), some (.int (x1 + (va_up (xI h1 60) (6 + x2).toNatClampNeg r1 (6 + x2).toNatClampNeg))), some (.int x2)] []) ∧ ((x1 + (va_up (xI h1 60) (6 + x2).toNatClampNeg r1 (6 + x2).toNatClampNeg)) = 0 → ∃ Q1, XSpec mX11_wrong 1 0 0 100 100 [.ref 56, .int 2] (xSI 60 (va_up (xI h1 60) (6 + x2).toNatClampNeg r1) h1) Q1 xno ∧ ∀ v h2, Q1 v h2 → v = none ∧ (XW (xrm 3 0 0) mX11_readDie (xE 100 Q X 0 0) 100 0 0 h2 66 [some (.ref 56), some (.int (x1 + (va_up (xI h1 60) (6 + x2).toNatClampNeg r1 (6 + x2).toNatClampNeg))), some (.int x2)] []))))))))))) :
    XW (xrm 3 0 0) mX11_readDie (xE 100 Q X 0 0) 100 0 0 h 4 [some (.ref 56), some (.int x1), some (.int x2)] [] := by
  refine xi_iload_n (by decide +kernel : decode mX11_readDie.2.1 4 = .ok (.iload_n 2, 1)) rfl rfl (?_ : XW _ _ _ _ _ _ _ 5 _ _)
  refine xi_bipush (v := 6) (by decide +kernel : decode mX11_readDie.2.1 5 = .ok (.bipush 6, 2)) (by decide) (?_ : XW _ _ _ _ _ _ _ 7 _ _)
  refine xi_icmp_ge (by decide +kernel : decode mX11_readDie.2.1 7 = .ok (.if_icmp .ge 76, 3)) (by decide) (fun c => (?_ : XW _ _ _ _ _ _ _ 83 _ _)) (fun c => (?_ : XW _ _ _ _ _ _ _ 10 _ _))
  · replace vc := vc.1 c
    exact xi_vret (by decide +kernel : decode mX11_readDie.2.1 83 = .ok (.return_, 1)) rfl vc
  · replace vc := vc.2 c
    refine xi_aload_n (by decide +kernel : decode mX11_readDie.2.1 10 = .ok (.aload_n 0, 1)) rfl rfl (?_ : XW _ _ _ _ _ _ _ 11 _ _)
    refine xi_getI (by decide +kernel : decode mX11_readDie.2.1 11 = .ok (.getfield 211, 3)) fX11_211 rfl (by omega) rfl (?_ : XW _ _ _ _ _ _ _ 14 _ _)
    refine xi_if_ne (by decide +kernel : decode mX11_readDie.2.1 14 = .ok (.ifCond .ne 69, 3)) (by decide) (fun c => (?_ : XW _ _ _ _ _ _ _ 83 _ _)) (fun c => (?_ : XW _ _ _ _ _ _ _ 17 _ _))
    · replace vc := vc.1 c
      exact xi_vret (by decide +kernel : decode mX11_readDie.2.1 83 = .ok (.return_, 1)) rfl vc
    · replace vc := vc.2 c
      refine xi_aload_n (by decide +kernel : decode mX11_readDie.2.1 17 = .ok (.aload_n 0, 1)) rfl rfl (?_ : XW _ _ _ _ _ _ _ 18 _ _)
      refine xi_getR (y := 60) (by decide +kernel : decode mX11_readDie.2.1 18 = .ok (.getfield 36, 3)) fX11_36 rfl (by omega) rfl (mp_die hM) (?_ : XW _ _ _ _ _ _ _ 21 _ _)
      refine xi_bipush (v := 6) (by decide +kernel : decode mX11_readDie.2.1 21 = .ok (.bipush 6, 2)) (by decide) (?_ : XW _ _ _ _ _ _ _ 23 _ _)
      refine xi_iload_n (by decide +kernel : decode mX11_readDie.2.1 23 = .ok (.iload_n 2, 1)) rfl rfl (?_ : XW _ _ _ _ _ _ _ 24 _ _)
      refine xi_iadd (by decide +kernel : decode mX11_readDie.2.1 24 = .ok (.iadd, 1)) (?_ : XW _ _ _ _ _ _ _ 25 _ _)
      refine xi_aload_n (by decide +kernel : decode mX11_readDie.2.1 25 = .ok (.aload_n 0, 1)) rfl rfl (?_ : XW _ _ _ _ _ _ _ 26 _ _)
      refine xi_iconst (v := 0) (by decide +kernel : decode mX11_readDie.2.1 26 = .ok (.iconst 0, 1)) (by decide) (?_ : XW _ _ _ _ _ _ _ 27 _ _)
      refine xi_bipush (v := 9) (by decide +kernel : decode mX11_readDie.2.1 27 = .ok (.bipush 9, 2)) (by decide) (?_ : XW _ _ _ _ _ _ _ 29 _ _)
      obtain ⟨Q1, sp, vc⟩ := vc
      refine xi_callV (b := 0) (bs := 0) (As := [.int 0, .int 9]) (st := [.int (6 + x2), .ref 60]) (by decide +kernel : decode mX11_readDie.2.1 29 = .ok (.invokevirtual 239, 3)) kX11_239 rfl rfl (by omega) rfl sp (by decide) (by decide) (Nat.le_of_ble_eq_true rfl) (by omega) (fun v9 h1 hq9 => ?_)
      obtain ⟨r1, e9, vc⟩ := vc v9 h1 hq9
      subst e9
      show XW _ _ _ _ _ _ _ 32 _ [.int r1, .int (6 + x2), .ref 60]
      obtain ⟨s1, vc⟩ := vc
      refine xi_iast (by decide +kernel : decode mX11_readDie.2.1 32 = .ok (.iastore, 1)) rfl (by omega) s1 (?_ : XW _ _ _ _ _ _ (xSI 60 (va_up (xI h1 60) (6 + x2).toNatClampNeg r1) h1) 33 _ _)
      refine xi_iload_n (by decide +kernel : decode mX11_readDie.2.1 33 = .ok (.iload_n 1, 1)) rfl rfl (?_ : XW _ _ _ _ _ _ _ 34 _ _)
      refine xi_aload_n (by decide +kernel : decode mX11_readDie.2.1 34 = .ok (.aload_n 0, 1)) rfl rfl (?_ : XW _ _ _ _ _ _ _ 35 _ _)
      obtain ⟨s1, vc⟩ := vc
      refine xi_getR (y := 60) (by decide +kernel : decode mX11_readDie.2.1 35 = .ok (.getfield 36, 3)) fX11_36 rfl (by omega) rfl s1 (?_ : XW _ _ _ _ _ _ _ 38 _ _)
      refine xi_bipush (v := 6) (by decide +kernel : decode mX11_readDie.2.1 38 = .ok (.bipush 6, 2)) (by decide) (?_ : XW _ _ _ _ _ _ _ 40 _ _)
      refine xi_iload_n (by decide +kernel : decode mX11_readDie.2.1 40 = .ok (.iload_n 2, 1)) rfl rfl (?_ : XW _ _ _ _ _ _ _ 41 _ _)
      refine xi_iadd (by decide +kernel : decode mX11_readDie.2.1 41 = .ok (.iadd, 1)) (?_ : XW _ _ _ _ _ _ _ 42 _ _)
      obtain ⟨s1, vc⟩ := vc
      refine xi_iald (by decide +kernel : decode mX11_readDie.2.1 42 = .ok (.iaload, 1)) rfl (by omega) s1 (?_ : XW _ _ _ _ _ _ _ 43 _ [.int (va_up (xI h1 60) (6 + x2).toNatClampNeg r1 (6 + x2).toNatClampNeg), .int x1])
      refine xi_iadd (by decide +kernel : decode mX11_readDie.2.1 43 = .ok (.iadd, 1)) (?_ : XW _ _ _ _ _ _ _ 44 _ _)
      refine xi_istore_n (ls' := [some (.ref 56), some (.int (x1 + (va_up (xI h1 60) (6 + x2).toNatClampNeg r1 (6 + x2).toNatClampNeg))), some (.int x2)]) (by decide +kernel : decode mX11_readDie.2.1 44 = .ok (.istore_n 1, 1)) rfl (by decide) rfl (?_ : XW _ _ _ _ _ _ _ 45 _ _)
      refine xi_aload_n (by decide +kernel : decode mX11_readDie.2.1 45 = .ok (.aload_n 0, 1)) rfl rfl (?_ : XW _ _ _ _ _ _ _ 46 _ _)
      refine xi_getI (by decide +kernel : decode mX11_readDie.2.1 46 = .ok (.getfield 211, 3)) fX11_211 rfl (by omega) rfl (?_ : XW _ _ _ _ _ _ _ 49 _ [.int (xI h1 56 18)])
      refine xi_if_ne (by decide +kernel : decode mX11_readDie.2.1 49 = .ok (.ifCond .ne 17, 3)) (by decide) (fun c => (?_ : XW _ _ _ _ _ _ _ 66 _ _)) (fun c => (?_ : XW _ _ _ _ _ _ _ 52 _ _))
      · replace vc := vc.1 c
        exact vc
      · replace vc := vc.2 c
        refine xi_iload_n (by decide +kernel : decode mX11_readDie.2.1 52 = .ok (.iload_n 2, 1)) rfl rfl (?_ : XW _ _ _ _ _ _ _ 53 _ _)
        refine xi_iconst (v := 5) (by decide +kernel : decode mX11_readDie.2.1 53 = .ok (.iconst 5, 1)) (by decide) (?_ : XW _ _ _ _ _ _ _ 54 _ _)
        refine xi_icmp_ne (by decide +kernel : decode mX11_readDie.2.1 54 = .ok (.if_icmp .ne 12, 3)) (by decide) (fun c => (?_ : XW _ _ _ _ _ _ _ 66 _ _)) (fun c => (?_ : XW _ _ _ _ _ _ _ 57 _ _))
        · replace vc := vc.1 c
          exact vc
        · replace vc := vc.2 c
          refine xi_iload_n (by decide +kernel : decode mX11_readDie.2.1 57 = .ok (.iload_n 1, 1)) rfl rfl (?_ : XW _ _ _ _ _ _ _ 58 _ _)
          refine xi_if_ne (by decide +kernel : decode mX11_readDie.2.1 58 = .ok (.ifCond .ne 8, 3)) (by decide) (fun c => (?_ : XW _ _ _ _ _ _ _ 66 _ _)) (fun c => (?_ : XW _ _ _ _ _ _ _ 61 _ _))
          · replace vc := vc.1 c
            exact vc
          · replace vc := vc.2 c
            refine xi_aload_n (by decide +kernel : decode mX11_readDie.2.1 61 = .ok (.aload_n 0, 1)) rfl rfl (?_ : XW _ _ _ _ _ _ _ 62 _ _)
            refine xi_iconst (v := 2) (by decide +kernel : decode mX11_readDie.2.1 62 = .ok (.iconst 2, 1)) (by decide) (?_ : XW _ _ _ _ _ _ _ 63 _ _)
            obtain ⟨Q1, sp, vc⟩ := vc
            refine xi_callV (b := 0) (bs := 0) (As := [.int 2]) (st := []) (by decide +kernel : decode mX11_readDie.2.1 63 = .ok (.invokevirtual 232, 3)) kX11_232 rfl rfl (by omega) rfl sp (by decide) (by decide) (Nat.le_of_ble_eq_true rfl) (by omega) (fun v9 h2 hq9 => ?_)
            obtain ⟨e9, vc⟩ := vc v9 h2 hq9
            subst e9
            show XW _ _ _ _ _ _ _ 66 _ []
            exact vc

set_option maxRecDepth 20000 in
theorem v_X11_readDie_66 {h : XH} {Q : Option Value → XH → Prop} {X : String → XH → Prop} (hM : xMod (xP h))  (x1 : Int32) (x2 : Int32)
    (vc : (¬ (xI h 56 18) = 0 → XW (xrm 3 0 0) mX11_readDie (xE 100 Q X 0 0) 100 0 0 h 77 [some (.ref 56), some (.int x1), some (.int x2)] []) ∧ ((xI h 56 18) = 0 → ∃ Q1, XSpec mX11_stepOn 2 0 0 100 100 [.ref 56] h Q1 xno ∧ ∀ v h3, Q1 v h3 → v = none ∧ (XW (xrm 3 0 0) mX11_readDie (xE 100 Q X 0 0) 100 0 0 h3 77 [some (.ref 56), some (.int x1), some (.int x2)] []))) :
    XW (xrm 3 0 0) mX11_readDie (xE 100 Q X 0 0) 100 0 0 h 66 [some (.ref 56), some (.int x1), some (.int x2)] [] := by
  refine xi_aload_n (by decide +kernel : decode mX11_readDie.2.1 66 = .ok (.aload_n 0, 1)) rfl rfl (?_ : XW _ _ _ _ _ _ _ 67 _ _)
  refine xi_getI (by decide +kernel : decode mX11_readDie.2.1 67 = .ok (.getfield 211, 3)) fX11_211 rfl (by omega) rfl (?_ : XW _ _ _ _ _ _ _ 70 _ _)
  refine xi_if_ne (by decide +kernel : decode mX11_readDie.2.1 70 = .ok (.ifCond .ne 7, 3)) (by decide) (fun c => (?_ : XW _ _ _ _ _ _ _ 77 _ _)) (fun c => (?_ : XW _ _ _ _ _ _ _ 73 _ _))
  · replace vc := vc.1 c
    exact vc
  · replace vc := vc.2 c
    refine xi_aload_n (by decide +kernel : decode mX11_readDie.2.1 73 = .ok (.aload_n 0, 1)) rfl rfl (?_ : XW _ _ _ _ _ _ _ 74 _ _)
    obtain ⟨Q1, sp, vc⟩ := vc
    refine xi_callV (b := 0) (bs := 0) (As := []) (st := []) (by decide +kernel : decode mX11_readDie.2.1 74 = .ok (.invokevirtual 236, 3)) kX11_236 rfl rfl (by omega) rfl sp (by decide) (by decide) (Nat.le_of_ble_eq_true rfl) (by omega) (fun v9 h3 hq9 => ?_)
    obtain ⟨e9, vc⟩ := vc v9 h3 hq9
    subst e9
    show XW _ _ _ _ _ _ _ 77 _ []
    exact vc

set_option maxRecDepth 20000 in
theorem v_X11_readDie_77 {h : XH} {Q : Option Value → XH → Prop} {X : String → XH → Prop} (hM : xMod (xP h))  (x1 : Int32) (x2 : Int32)
    (vc : XW (xrm 3 0 0) mX11_readDie (xE 100 Q X 0 0) 100 0 0 h 4 [some (.ref 56), some (.int x1), some (.int (x2 + 1))] []) :
    XW (xrm 3 0 0) mX11_readDie (xE 100 Q X 0 0) 100 0 0 h 77 [some (.ref 56), some (.int x1), some (.int x2)] [] := by
  refine xi_iinc (v := x2 + 1) (ls' := [some (.ref 56), some (.int x1), some (.int (x2 + 1))]) (by decide +kernel : decode mX11_readDie.2.1 77 = .ok (.iinc 2 1, 3)) rfl rfl (by decide) rfl (?_ : XW _ _ _ _ _ _ _ 80 _ _)
  refine xi_goto (by decide +kernel : decode mX11_readDie.2.1 80 = .ok (.goto (-76), 3)) (by decide) (?_ : XW _ _ _ _ _ _ _ 4 _ _)
  exact vc

set_option maxRecDepth 20000 in
theorem v_X11_keepRule_0 {h : XH} {Q : Option Value → XH → Prop} {X : String → XH → Prop} (hM : xMod (xP h))  (ax : Int32) (bx : Int32)
    (vc : XW (xrm 3 0 0) mX11_keepRule (xE 100 Q X 0 0) 100 0 0 h 12 [some (.ref 56), none, some (.int bx), some (.int 0), some (.int 32), some (.int 0), some (.int ax), none] []) :
    XW (xrm 3 0 0) mX11_keepRule (xE 100 Q X 0 0) 100 0 0 h 0 [some (.ref 56), some (.int ax), some (.int bx), none, none, none, none, none] [] := by
  refine xi_iconst (v := 0) (by decide +kernel : decode mX11_keepRule.2.1 0 = .ok (.iconst 0, 1)) (by decide) (?_ : XW _ _ _ _ _ _ _ 1 _ _)
  refine xi_istore_n (ls' := [some (.ref 56), some (.int ax), some (.int bx), some (.int 0), none, none, none, none]) (by decide +kernel : decode mX11_keepRule.2.1 1 = .ok (.istore_n 3, 1)) rfl (by decide) rfl (?_ : XW _ _ _ _ _ _ _ 2 _ _)
  refine xi_bipush (v := 32) (by decide +kernel : decode mX11_keepRule.2.1 2 = .ok (.bipush 32, 2)) (by decide) (?_ : XW _ _ _ _ _ _ _ 4 _ _)
  refine xi_istore (ls' := [some (.ref 56), some (.int ax), some (.int bx), some (.int 0), some (.int 32), none, none, none]) (by decide +kernel : decode mX11_keepRule.2.1 4 = .ok (.istore 4, 2)) (by decide) rfl (?_ : XW _ _ _ _ _ _ _ 6 _ _)
  refine xi_iconst (v := 0) (by decide +kernel : decode mX11_keepRule.2.1 6 = .ok (.iconst 0, 1)) (by decide) (?_ : XW _ _ _ _ _ _ _ 7 _ _)
  refine xi_istore (ls' := [some (.ref 56), some (.int ax), some (.int bx), some (.int 0), some (.int 32), some (.int 0), none, none]) (by decide +kernel : decode mX11_keepRule.2.1 7 = .ok (.istore 5, 2)) (by decide) rfl (?_ : XW _ _ _ _ _ _ _ 9 _ _)
  refine xi_iload_n (by decide +kernel : decode mX11_keepRule.2.1 9 = .ok (.iload_n 1, 1)) rfl rfl (?_ : XW _ _ _ _ _ _ _ 10 _ _)
  refine xi_istore (ls' := [some (.ref 56), some (.int ax), some (.int bx), some (.int 0), some (.int 32), some (.int 0), some (.int ax), none]) (by decide +kernel : decode mX11_keepRule.2.1 10 = .ok (.istore 6, 2)) (by decide) rfl (?_ : XW _ _ _ _ _ _ _ 12 _ _)
  refine xw_drop 1 (ls' := [some (.ref 56), none, some (.int bx), some (.int 0), some (.int 32), some (.int 0), some (.int ax), none]) rfl ?_
  exact vc

set_option maxRecDepth 20000 in
theorem v_X11_keepRule_12 {h : XH} {Q : Option Value → XH → Prop} {X : String → XH → Prop} (hM : xMod (xP h))  (x2 : Int32) (x3 : Int32) (x4 : Int32) (x5 : Int32) (x6 : Int32)
    (vc : (x2 ≤ x6 → Q none (xSI 59 (va_up (xI h 59) 15 x3) h)) ∧ (¬ x2 ≤ x6 → (vp_in x6 500) ∧ (((xI h 66 x6.toNatClampNeg) = 32 → XW (xrm 3 0 0) mX11_keepRule (xE 100 Q X 0 0) 100 0 0 h 118 [some (.ref 56), none, some (.int x2), some (.int x3), some (.int x4), some (.int 1), some (.int x6), none] []) ∧ (¬ (xI h 66 x6.toNatClampNeg) = 32 → (¬ (xI h 66 x6.toNatClampNeg) = 10 → ∃ Q1, XSpec mX11_isInWord 2 0 0 100 100 [.int (xI h 66 x6.toNatClampNeg)] h Q1 xno ∧ ∀ v h1, Q1 v h1 → ∃ r1 : Int32, v = some (.int r1) ∧ ((r1 = 0 → XW (xrm 3 0 0) mX11_keepRule (xE 100 Q X 0 0) 100 0 0 h1 96 [some (.ref 56), none, some (.int x2), some (.int x3), none, none, some (.int x6), some (.int (xI h 66 x6.toNatClampNeg))] []) ∧ (¬ r1 = 0 → ∃ Q1, XSpec mX11_isInWord 2 0 0 100 100 [.int x4] h1 Q1 xno ∧ ∀ v h2, Q1 v h2 → ∃ r2 : Int32, v = some (.int r2) ∧ ((r2 = 0 → XW (xrm 3 0 0) mX11_keepRule (xE 100 Q X 0 0) 100 0 0 h2 96 [some (.ref 56), none, some (.int x2), some (.int x3), none, none, some (.int x6), some (.int (xI h 66 x6.toNatClampNeg))] []) ∧ (¬ r2 = 0 → (¬ x5 = 0 → XW (xrm 3 0 0) mX11_keepRule (xE 100 Q X 0 0) 100 0 0 h2 81 [some (.ref 56), none, some (.int x2), some (.int x3), none, none, some (.int x6), some (.int (xI h 66 x6.toNatClampNeg))] []) ∧ (x5 = 0 → ∃ Q1, XSpec mX11_isLetter 1 0 0 100 100 [.int (xI h 66 x6.toNatClampNeg)] h2 Q1 xno ∧ ∀ v h3, Q1 v h3 → ∃ r3 : Int32, v = some (.int r3) ∧ (∃ Q1, XSpec mX11_isLetter 1 0 0 100 100 [.int x4] h3 Q1 xno ∧ ∀ v h4, Q1 v h4 → ∃ r4 : Int32, v = some (.int r4) ∧ ((r3 = r4 → XW (xrm 3 0 0) mX11_keepRule (xE 100 Q X 0 0) 100 0 0 h4 96 [some (.ref 56), none, some (.int x2), some (.int x3), none, none, some (.int x6), some (.int (xI h 66 x6.toNatClampNeg))] []) ∧ (¬ r3 = r4 → XW (xrm 3 0 0) mX11_keepRule (xE 100 Q X 0 0) 100 0 0 h4 81 [some (.ref 56), none, some (.int x2), some (.int x3), none, none, some (.int x6), some (.int (xI h 66 x6.toNatClampNeg))] []))))))))) ∧ ((xI h 66 x6.toNatClampNeg) = 10 → XW (xrm 3 0 0) mX11_keepRule (xE 100 Q X 0 0) 100 0 0 h 118 [some (.ref 56), none, some (.int x2), some (.int x3), some (.int x4), some (.int 1), some (.int x6), none] []))))) :
    XW (xrm 3 0 0) mX11_keepRule (xE 100 Q X 0 0) 100 0 0 h 12 [some (.ref 56), none, some (.int x2), some (.int x3), some (.int x4), some (.int x5), some (.int x6), none] [] := by
  refine xi_iload (by decide +kernel : decode mX11_keepRule.2.1 12 = .ok (.iload 6, 2)) rfl (?_ : XW _ _ _ _ _ _ _ 14 _ _)
  refine xi_iload_n (by decide +kernel : decode mX11_keepRule.2.1 14 = .ok (.iload_n 2, 1)) rfl rfl (?_ : XW _ _ _ _ _ _ _ 15 _ _)
  refine xi_icmp_ge (by decide +kernel : decode mX11_keepRule.2.1 15 = .ok (.if_icmp .ge 109, 3)) (by decide) (fun c => (?_ : XW _ _ _ _ _ _ _ 124 _ _)) (fun c => (?_ : XW _ _ _ _ _ _ _ 18 _ _))
  · replace vc := vc.1 c
    refine xi_aload_n (by decide +kernel : decode mX11_keepRule.2.1 124 = .ok (.aload_n 0, 1)) rfl rfl (?_ : XW _ _ _ _ _ _ _ 125 _ _)
    refine xi_getR (y := 59) (by decide +kernel : decode mX11_keepRule.2.1 125 = .ok (.getfield 32, 3)) fX11_32 rfl (by omega) rfl (mp_told hM) (?_ : XW _ _ _ _ _ _ _ 128 _ _)
    refine xi_bipush (v := 15) (by decide +kernel : decode mX11_keepRule.2.1 128 = .ok (.bipush 15, 2)) (by decide) (?_ : XW _ _ _ _ _ _ _ 130 _ _)
    refine xi_iload_n (by decide +kernel : decode mX11_keepRule.2.1 130 = .ok (.iload_n 3, 1)) rfl rfl (?_ : XW _ _ _ _ _ _ _ 131 _ _)
    refine xi_iast (by decide +kernel : decode mX11_keepRule.2.1 131 = .ok (.iastore, 1)) rfl (by omega) (by unfold vp_in; decide) (?_ : XW _ _ _ _ _ _ (xSI 59 (va_up (xI h 59) 15 x3) h) 132 _ _)
    exact xi_vret (by decide +kernel : decode mX11_keepRule.2.1 132 = .ok (.return_, 1)) rfl vc
  · replace vc := vc.2 c
    refine xi_aload_n (by decide +kernel : decode mX11_keepRule.2.1 18 = .ok (.aload_n 0, 1)) rfl rfl (?_ : XW _ _ _ _ _ _ _ 19 _ _)
    refine xi_getR (y := 66) (by decide +kernel : decode mX11_keepRule.2.1 19 = .ok (.getfield 54, 3)) fX11_54 rfl (by omega) rfl (mp_tape hM) (?_ : XW _ _ _ _ _ _ _ 22 _ _)
    refine xi_iload (by decide +kernel : decode mX11_keepRule.2.1 22 = .ok (.iload 6, 2)) rfl (?_ : XW _ _ _ _ _ _ _ 24 _ _)
    obtain ⟨s1, vc⟩ := vc
    refine xi_iald (by decide +kernel : decode mX11_keepRule.2.1 24 = .ok (.iaload, 1)) rfl (by omega) s1 (?_ : XW _ _ _ _ _ _ _ 25 _ _)
    refine xi_istore (ls' := [some (.ref 56), none, some (.int x2), some (.int x3), some (.int x4), some (.int x5), some (.int x6), some (.int (xI h 66 x6.toNatClampNeg))]) (by decide +kernel : decode mX11_keepRule.2.1 25 = .ok (.istore 7, 2)) (by decide) rfl (?_ : XW _ _ _ _ _ _ _ 27 _ _)
    refine xi_iload (by decide +kernel : decode mX11_keepRule.2.1 27 = .ok (.iload 7, 2)) rfl (?_ : XW _ _ _ _ _ _ _ 29 _ _)
    refine xi_bipush (v := 32) (by decide +kernel : decode mX11_keepRule.2.1 29 = .ok (.bipush 32, 2)) (by decide) (?_ : XW _ _ _ _ _ _ _ 31 _ _)
    refine xi_icmp_eq (by decide +kernel : decode mX11_keepRule.2.1 31 = .ok (.if_icmp .eq 10, 3)) (by decide) (fun c => (?_ : XW _ _ _ _ _ _ _ 41 _ _)) (fun c => (?_ : XW _ _ _ _ _ _ _ 34 _ _))
    · replace vc := vc.1 c
      refine xi_iconst (v := 1) (by decide +kernel : decode mX11_keepRule.2.1 41 = .ok (.iconst 1, 1)) (by decide) (?_ : XW _ _ _ _ _ _ _ 42 _ _)
      refine xi_istore (ls' := [some (.ref 56), none, some (.int x2), some (.int x3), some (.int x4), some (.int 1), some (.int x6), some (.int (xI h 66 x6.toNatClampNeg))]) (by decide +kernel : decode mX11_keepRule.2.1 42 = .ok (.istore 5, 2)) (by decide) rfl (?_ : XW _ _ _ _ _ _ _ 44 _ _)
      refine xi_goto (by decide +kernel : decode mX11_keepRule.2.1 44 = .ok (.goto 74, 3)) (by decide) (?_ : XW _ _ _ _ _ _ _ 118 _ _)
      refine xw_drop 7 (ls' := [some (.ref 56), none, some (.int x2), some (.int x3), some (.int x4), some (.int 1), some (.int x6), none]) rfl ?_
      exact vc
    · replace vc := vc.2 c
      refine xi_iload (by decide +kernel : decode mX11_keepRule.2.1 34 = .ok (.iload 7, 2)) rfl (?_ : XW _ _ _ _ _ _ _ 36 _ _)
      refine xi_bipush (v := 10) (by decide +kernel : decode mX11_keepRule.2.1 36 = .ok (.bipush 10, 2)) (by decide) (?_ : XW _ _ _ _ _ _ _ 38 _ _)
      refine xi_icmp_ne (by decide +kernel : decode mX11_keepRule.2.1 38 = .ok (.if_icmp .ne 9, 3)) (by decide) (fun c => (?_ : XW _ _ _ _ _ _ _ 47 _ _)) (fun c => (?_ : XW _ _ _ _ _ _ _ 41 _ _))
      · replace vc := vc.1 c
        refine xi_iload (by decide +kernel : decode mX11_keepRule.2.1 47 = .ok (.iload 7, 2)) rfl (?_ : XW _ _ _ _ _ _ _ 49 _ _)
        obtain ⟨Q1, sp, vc⟩ := vc
        refine xi_callS (b := 0) (bs := 0) (As := [.int (xI h 66 x6.toNatClampNeg)]) (st := []) (by decide +kernel : decode mX11_keepRule.2.1 49 = .ok (.invokestatic 282, 3)) kX11_282 rfl rfl sp (by decide) (by decide) (Nat.le_of_ble_eq_true rfl) (by omega) (fun v9 h1 hq9 => ?_)
        obtain ⟨r1, e9, vc⟩ := vc v9 h1 hq9
        subst e9
        show XW _ _ _ _ _ _ _ 52 _ [.int r1]
        refine xi_if_eq (by decide +kernel : decode mX11_keepRule.2.1 52 = .ok (.ifCond .eq 44, 3)) (by decide) (fun c => (?_ : XW _ _ _ _ _ _ _ 96 _ _)) (fun c => (?_ : XW _ _ _ _ _ _ _ 55 _ _))
        · replace vc := vc.1 c
          refine xw_drop 4 (ls' := [some (.ref 56), none, some (.int x2), some (.int x3), none, some (.int x5), some (.int x6), some (.int (xI h 66 x6.toNatClampNeg))]) rfl ?_
          refine xw_drop 5 (ls' := [some (.ref 56), none, some (.int x2), some (.int x3), none, none, some (.int x6), some (.int (xI h 66 x6.toNatClampNeg))]) rfl ?_
          exact vc
        · replace vc := vc.2 c
          refine xi_iload (by decide +kernel : decode mX11_keepRule.2.1 55 = .ok (.iload 4, 2)) rfl (?_ : XW _ _ _ _ _ _ _ 57 _ _)
          obtain ⟨Q1, sp, vc⟩ := vc
          refine xi_callS (b := 0) (bs := 0) (As := [.int x4]) (st := []) (by decide +kernel : decode mX11_keepRule.2.1 57 = .ok (.invokestatic 282, 3)) kX11_282 rfl rfl sp (by decide) (by decide) (Nat.le_of_ble_eq_true rfl) (by omega) (fun v9 h2 hq9 => ?_)
          obtain ⟨r2, e9, vc⟩ := vc v9 h2 hq9
          subst e9
          show XW _ _ _ _ _ _ _ 60 _ [.int r2]
          refine xi_if_eq (by decide +kernel : decode mX11_keepRule.2.1 60 = .ok (.ifCond .eq 36, 3)) (by decide) (fun c => (?_ : XW _ _ _ _ _ _ _ 96 _ _)) (fun c => (?_ : XW _ _ _ _ _ _ _ 63 _ _))
          · replace vc := vc.1 c
            refine xw_drop 4 (ls' := [some (.ref 56), none, some (.int x2), some (.int x3), none, some (.int x5), some (.int x6), some (.int (xI h 66 x6.toNatClampNeg))]) rfl ?_
            refine xw_drop 5 (ls' := [some (.ref 56), none, some (.int x2), some (.int x3), none, none, some (.int x6), some (.int (xI h 66 x6.toNatClampNeg))]) rfl ?_
            exact vc
          · replace vc := vc.2 c
            refine xi_iload (by decide +kernel : decode mX11_keepRule.2.1 63 = .ok (.iload 5, 2)) rfl (?_ : XW _ _ _ _ _ _ _ 65 _ _)
            refine xi_if_ne (by decide +kernel : decode mX11_keepRule.2.1 65 = .ok (.ifCond .ne 16, 3)) (by decide) (fun c => (?_ : XW _ _ _ _ _ _ _ 81 _ _)) (fun c => (?_ : XW _ _ _ _ _ _ _ 68 _ _))
            · replace vc := vc.1 c
              refine xw_drop 4 (ls' := [some (.ref 56), none, some (.int x2), some (.int x3), none, some (.int x5), some (.int x6), some (.int (xI h 66 x6.toNatClampNeg))]) rfl ?_
              refine xw_drop 5 (ls' := [some (.ref 56), none, some (.int x2), some (.int x3), none, none, some (.int x6), some (.int (xI h 66 x6.toNatClampNeg))]) rfl ?_
              exact vc
            · replace vc := vc.2 c
              refine xi_iload (by decide +kernel : decode mX11_keepRule.2.1 68 = .ok (.iload 7, 2)) rfl (?_ : XW _ _ _ _ _ _ _ 70 _ _)
              obtain ⟨Q1, sp, vc⟩ := vc
              refine xi_callS (b := 0) (bs := 0) (As := [.int (xI h 66 x6.toNatClampNeg)]) (st := []) (by decide +kernel : decode mX11_keepRule.2.1 70 = .ok (.invokestatic 188, 3)) kX11_188 rfl rfl sp (by decide) (by decide) (Nat.le_of_ble_eq_true rfl) (by omega) (fun v9 h3 hq9 => ?_)
              obtain ⟨r3, e9, vc⟩ := vc v9 h3 hq9
              subst e9
              show XW _ _ _ _ _ _ _ 73 _ [.int r3]
              refine xi_iload (by decide +kernel : decode mX11_keepRule.2.1 73 = .ok (.iload 4, 2)) rfl (?_ : XW _ _ _ _ _ _ _ 75 _ _)
              obtain ⟨Q1, sp, vc⟩ := vc
              refine xi_callS (b := 0) (bs := 0) (As := [.int x4]) (st := [.int r3]) (by decide +kernel : decode mX11_keepRule.2.1 75 = .ok (.invokestatic 188, 3)) kX11_188 rfl rfl sp (by decide) (by decide) (Nat.le_of_ble_eq_true rfl) (by omega) (fun v9 h4 hq9 => ?_)
              obtain ⟨r4, e9, vc⟩ := vc v9 h4 hq9
              subst e9
              show XW _ _ _ _ _ _ _ 78 _ [.int r4, .int r3]
              refine xi_icmp_eq (by decide +kernel : decode mX11_keepRule.2.1 78 = .ok (.if_icmp .eq 18, 3)) (by decide) (fun c => (?_ : XW _ _ _ _ _ _ _ 96 _ _)) (fun c => (?_ : XW _ _ _ _ _ _ _ 81 _ _))
              · replace vc := vc.1 c
                refine xw_drop 4 (ls' := [some (.ref 56), none, some (.int x2), some (.int x3), none, some (.int x5), some (.int x6), some (.int (xI h 66 x6.toNatClampNeg))]) rfl ?_
                refine xw_drop 5 (ls' := [some (.ref 56), none, some (.int x2), some (.int x3), none, none, some (.int x6), some (.int (xI h 66 x6.toNatClampNeg))]) rfl ?_
                exact vc
              · replace vc := vc.2 c
                refine xw_drop 4 (ls' := [some (.ref 56), none, some (.int x2), some (.int x3), none, some (.int x5), some (.int x6), some (.int (xI h 66 x6.toNatClampNeg))]) rfl ?_
                refine xw_drop 5 (ls' := [some (.ref 56), none, some (.int x2), some (.int x3), none, none, some (.int x6), some (.int (xI h 66 x6.toNatClampNeg))]) rfl ?_
                exact vc
      · replace vc := vc.2 c
        refine xi_iconst (v := 1) (by decide +kernel : decode mX11_keepRule.2.1 41 = .ok (.iconst 1, 1)) (by decide) (?_ : XW _ _ _ _ _ _ _ 42 _ _)
        refine xi_istore (ls' := [some (.ref 56), none, some (.int x2), some (.int x3), some (.int x4), some (.int 1), some (.int x6), some (.int (xI h 66 x6.toNatClampNeg))]) (by decide +kernel : decode mX11_keepRule.2.1 42 = .ok (.istore 5, 2)) (by decide) rfl (?_ : XW _ _ _ _ _ _ _ 44 _ _)
        refine xi_goto (by decide +kernel : decode mX11_keepRule.2.1 44 = .ok (.goto 74, 3)) (by decide) (?_ : XW _ _ _ _ _ _ _ 118 _ _)
        refine xw_drop 7 (ls' := [some (.ref 56), none, some (.int x2), some (.int x3), some (.int x4), some (.int 1), some (.int x6), none]) rfl ?_
        exact vc

set_option maxRecDepth 20000 in
theorem v_X11_keepRule_118 {h : XH} {Q : Option Value → XH → Prop} {X : String → XH → Prop} (hM : xMod (xP h))  (x2 : Int32) (x3 : Int32) (x4 : Int32) (x5 : Int32) (x6 : Int32)
    (vc : XW (xrm 3 0 0) mX11_keepRule (xE 100 Q X 0 0) 100 0 0 h 12 [some (.ref 56), none, some (.int x2), some (.int x3), some (.int x4), some (.int x5), some (.int (x6 + 1)), none] []) :
    XW (xrm 3 0 0) mX11_keepRule (xE 100 Q X 0 0) 100 0 0 h 118 [some (.ref 56), none, some (.int x2), some (.int x3), some (.int x4), some (.int x5), some (.int x6), none] [] := by
  refine xi_iinc (v := x6 + 1) (ls' := [some (.ref 56), none, some (.int x2), some (.int x3), some (.int x4), some (.int x5), some (.int (x6 + 1)), none]) (by decide +kernel : decode mX11_keepRule.2.1 118 = .ok (.iinc 6 1, 3)) rfl rfl (by decide) rfl (?_ : XW _ _ _ _ _ _ _ 121 _ _)
  refine xi_goto (by decide +kernel : decode mX11_keepRule.2.1 121 = .ok (.goto (-109), 3)) (by decide) (?_ : XW _ _ _ _ _ _ _ 12 _ _)
  exact vc

set_option maxRecDepth 20000 in
theorem v_X11_keepRule_96 {h : XH} {Q : Option Value → XH → Prop} {X : String → XH → Prop} (hM : xMod (xP h))  (x2 : Int32) (x3 : Int32) (x6 : Int32) (x7 : Int32)
    (vc : (vp_in (1000 + x3) 2000) ∧ (XW (xrm 3 0 0) mX11_keepRule (xE 100 Q X 0 0) 100 0 0 (xSI 64 (va_up (xI h 64) (1000 + x3).toNatClampNeg x7) h) 118 [some (.ref 56), none, some (.int x2), some (.int (x3 + 1)), some (.int x7), some (.int 0), some (.int x6), none] [])) :
    XW (xrm 3 0 0) mX11_keepRule (xE 100 Q X 0 0) 100 0 0 h 96 [some (.ref 56), none, some (.int x2), some (.int x3), none, none, some (.int x6), some (.int x7)] [] := by
  refine xi_aload_n (by decide +kernel : decode mX11_keepRule.2.1 96 = .ok (.aload_n 0, 1)) rfl rfl (?_ : XW _ _ _ _ _ _ _ 97 _ _)
  refine xi_getR (y := 64) (by decide +kernel : decode mX11_keepRule.2.1 97 = .ok (.getfield 48, 3)) fX11_48 rfl (by omega) rfl (mp_rule hM) (?_ : XW _ _ _ _ _ _ _ 100 _ _)
  refine xi_sipush (v := 1000) (by decide +kernel : decode mX11_keepRule.2.1 100 = .ok (.sipush 1000, 3)) (by decide) (?_ : XW _ _ _ _ _ _ _ 103 _ _)
  refine xi_iload_n (by decide +kernel : decode mX11_keepRule.2.1 103 = .ok (.iload_n 3, 1)) rfl rfl (?_ : XW _ _ _ _ _ _ _ 104 _ _)
  refine xi_iadd (by decide +kernel : decode mX11_keepRule.2.1 104 = .ok (.iadd, 1)) (?_ : XW _ _ _ _ _ _ _ 105 _ _)
  refine xi_iload (by decide +kernel : decode mX11_keepRule.2.1 105 = .ok (.iload 7, 2)) rfl (?_ : XW _ _ _ _ _ _ _ 107 _ _)
  obtain ⟨s1, vc⟩ := vc
  refine xi_iast (by decide +kernel : decode mX11_keepRule.2.1 107 = .ok (.iastore, 1)) rfl (by omega) s1 (?_ : XW _ _ _ _ _ _ (xSI 64 (va_up (xI h 64) (1000 + x3).toNatClampNeg x7) h) 108 _ _)
  refine xi_iinc (v := x3 + 1) (ls' := [some (.ref 56), none, some (.int x2), some (.int (x3 + 1)), none, none, some (.int x6), some (.int x7)]) (by decide +kernel : decode mX11_keepRule.2.1 108 = .ok (.iinc 3 1, 3)) rfl rfl (by decide) rfl (?_ : XW _ _ _ _ _ _ _ 111 _ _)
  refine xi_iload (by decide +kernel : decode mX11_keepRule.2.1 111 = .ok (.iload 7, 2)) rfl (?_ : XW _ _ _ _ _ _ _ 113 _ _)
  refine xi_istore (ls' := [some (.ref 56), none, some (.int x2), some (.int (x3 + 1)), some (.int x7), none, some (.int x6), some (.int x7)]) (by decide +kernel : decode mX11_keepRule.2.1 113 = .ok (.istore 4, 2)) (by decide) rfl (?_ : XW _ _ _ _ _ _ _ 115 _ _)
  refine xi_iconst (v := 0) (by decide +kernel : decode mX11_keepRule.2.1 115 = .ok (.iconst 0, 1)) (by decide) (?_ : XW _ _ _ _ _ _ _ 116 _ _)
  refine xi_istore (ls' := [some (.ref 56), none, some (.int x2), some (.int (x3 + 1)), some (.int x7), some (.int 0), some (.int x6), some (.int x7)]) (by decide +kernel : decode mX11_keepRule.2.1 116 = .ok (.istore 5, 2)) (by decide) rfl (?_ : XW _ _ _ _ _ _ _ 118 _ _)
  refine xw_drop 7 (ls' := [some (.ref 56), none, some (.int x2), some (.int (x3 + 1)), some (.int x7), some (.int 0), some (.int x6), none]) rfl ?_
  exact vc

set_option maxRecDepth 20000 in
theorem v_X11_keepRule_81 {h : XH} {Q : Option Value → XH → Prop} {X : String → XH → Prop} (hM : xMod (xP h))  (x2 : Int32) (x3 : Int32) (x6 : Int32) (x7 : Int32)
    (vc : (vp_in (1000 + x3) 2000) ∧ (XW (xrm 3 0 0) mX11_keepRule (xE 100 Q X 0 0) 100 0 0 (xSI 64 (va_up (xI h 64) (1000 + x3).toNatClampNeg 32) h) 96 [some (.ref 56), none, some (.int x2), some (.int (x3 + 1)), none, none, some (.int x6), some (.int x7)] [])) :
    XW (xrm 3 0 0) mX11_keepRule (xE 100 Q X 0 0) 100 0 0 h 81 [some (.ref 56), none, some (.int x2), some (.int x3), none, none, some (.int x6), some (.int x7)] [] := by
  refine xi_aload_n (by decide +kernel : decode mX11_keepRule.2.1 81 = .ok (.aload_n 0, 1)) rfl rfl (?_ : XW _ _ _ _ _ _ _ 82 _ _)
  refine xi_getR (y := 64) (by decide +kernel : decode mX11_keepRule.2.1 82 = .ok (.getfield 48, 3)) fX11_48 rfl (by omega) rfl (mp_rule hM) (?_ : XW _ _ _ _ _ _ _ 85 _ _)
  refine xi_sipush (v := 1000) (by decide +kernel : decode mX11_keepRule.2.1 85 = .ok (.sipush 1000, 3)) (by decide) (?_ : XW _ _ _ _ _ _ _ 88 _ _)
  refine xi_iload_n (by decide +kernel : decode mX11_keepRule.2.1 88 = .ok (.iload_n 3, 1)) rfl rfl (?_ : XW _ _ _ _ _ _ _ 89 _ _)
  refine xi_iadd (by decide +kernel : decode mX11_keepRule.2.1 89 = .ok (.iadd, 1)) (?_ : XW _ _ _ _ _ _ _ 90 _ _)
  refine xi_bipush (v := 32) (by decide +kernel : decode mX11_keepRule.2.1 90 = .ok (.bipush 32, 2)) (by decide) (?_ : XW _ _ _ _ _ _ _ 92 _ _)
  obtain ⟨s1, vc⟩ := vc
  refine xi_iast (by decide +kernel : decode mX11_keepRule.2.1 92 = .ok (.iastore, 1)) rfl (by omega) s1 (?_ : XW _ _ _ _ _ _ (xSI 64 (va_up (xI h 64) (1000 + x3).toNatClampNeg 32) h) 93 _ _)
  refine xi_iinc (v := x3 + 1) (ls' := [some (.ref 56), none, some (.int x2), some (.int (x3 + 1)), none, none, some (.int x6), some (.int x7)]) (by decide +kernel : decode mX11_keepRule.2.1 93 = .ok (.iinc 3 1, 3)) rfl rfl (by decide) rfl (?_ : XW _ _ _ _ _ _ _ 96 _ _)
  exact vc

set_option maxRecDepth 20000 in
theorem v_X11_readGoes_0 {h : XH} {Q : Option Value → XH → Prop} {X : String → XH → Prop} (hM : xMod (xP h)) 
    (vc : ∃ Q1, XSpec mX11_readExpression 60 0 0 100 100 [.ref 56, .int 0] h Q1 xno ∧ ∀ v h1, Q1 v h1 → v = none ∧ ((¬ (xI h1 56 18) = 0 → Q none h1) ∧ ((xI h1 56 18) = 0 → ∃ Q1, XSpec mX11_keepRule 3 0 0 100 100 [.ref 56, .int (xI h 56 16), .int (xI h1 56 16)] h1 Q1 xno ∧ ∀ v h2, Q1 v h2 → v = none ∧ (Q none h2)))) :
    XW (xrm 61 0 0) mX11_readGoes (xE 100 Q X 0 0) 100 0 0 h 0 [some (.ref 56), none] [] := by
  refine xi_aload_n (by decide +kernel : decode mX11_readGoes.2.1 0 = .ok (.aload_n 0, 1)) rfl rfl (?_ : XW _ _ _ _ _ _ _ 1 _ _)
  refine xi_getI (by decide +kernel : decode mX11_readGoes.2.1 1 = .ok (.getfield 182, 3)) fX11_182 rfl (by omega) rfl (?_ : XW _ _ _ _ _ _ _ 4 _ _)
  refine xi_istore_n (ls' := [some (.ref 56), some (.int (xI h 56 16))]) (by decide +kernel : decode mX11_readGoes.2.1 4 = .ok (.istore_n 1, 1)) rfl (by decide) rfl (?_ : XW _ _ _ _ _ _ _ 5 _ _)
  refine xi_aload_n (by decide +kernel : decode mX11_readGoes.2.1 5 = .ok (.aload_n 0, 1)) rfl rfl (?_ : XW _ _ _ _ _ _ _ 6 _ _)
  refine xi_iconst (v := 0) (by decide +kernel : decode mX11_readGoes.2.1 6 = .ok (.iconst 0, 1)) (by decide) (?_ : XW _ _ _ _ _ _ _ 7 _ _)
  obtain ⟨Q1, sp, vc⟩ := vc
  refine xi_callV (b := 0) (bs := 0) (As := [.int 0]) (st := []) (by decide +kernel : decode mX11_readGoes.2.1 7 = .ok (.invokevirtual 255, 3)) kX11_255 rfl rfl (by omega) rfl sp (xrm_f (by omega)) (xrm_l (by omega) (Nat.le_of_ble_eq_true rfl)) (Nat.le_of_ble_eq_true rfl) (by omega) (fun v9 h1 hq9 => ?_)
  obtain ⟨e9, vc⟩ := vc v9 h1 hq9
  subst e9
  show XW _ _ _ _ _ _ _ 10 _ []
  refine xi_aload_n (by decide +kernel : decode mX11_readGoes.2.1 10 = .ok (.aload_n 0, 1)) rfl rfl (?_ : XW _ _ _ _ _ _ _ 11 _ _)
  refine xi_getI (by decide +kernel : decode mX11_readGoes.2.1 11 = .ok (.getfield 211, 3)) fX11_211 rfl (by omega) rfl (?_ : XW _ _ _ _ _ _ _ 14 _ _)
  refine xi_if_ne (by decide +kernel : decode mX11_readGoes.2.1 14 = .ok (.ifCond .ne 12, 3)) (by decide) (fun c => (?_ : XW _ _ _ _ _ _ _ 26 _ _)) (fun c => (?_ : XW _ _ _ _ _ _ _ 17 _ _))
  · replace vc := vc.1 c
    exact xi_vret (by decide +kernel : decode mX11_readGoes.2.1 26 = .ok (.return_, 1)) rfl vc
  · replace vc := vc.2 c
    refine xi_aload_n (by decide +kernel : decode mX11_readGoes.2.1 17 = .ok (.aload_n 0, 1)) rfl rfl (?_ : XW _ _ _ _ _ _ _ 18 _ _)
    refine xi_iload_n (by decide +kernel : decode mX11_readGoes.2.1 18 = .ok (.iload_n 1, 1)) rfl rfl (?_ : XW _ _ _ _ _ _ _ 19 _ _)
    refine xi_aload_n (by decide +kernel : decode mX11_readGoes.2.1 19 = .ok (.aload_n 0, 1)) rfl rfl (?_ : XW _ _ _ _ _ _ _ 20 _ _)
    refine xi_getI (by decide +kernel : decode mX11_readGoes.2.1 20 = .ok (.getfield 182, 3)) fX11_182 rfl (by omega) rfl (?_ : XW _ _ _ _ _ _ _ 23 _ _)
    obtain ⟨Q1, sp, vc⟩ := vc
    refine xi_callV (b := 0) (bs := 0) (As := [.int (xI h 56 16), .int (xI h1 56 16)]) (st := []) (by decide +kernel : decode mX11_readGoes.2.1 23 = .ok (.invokevirtual 285, 3)) kX11_285 rfl rfl (by omega) rfl sp (xrm_f (by omega)) (xrm_l (by omega) (Nat.le_of_ble_eq_true rfl)) (Nat.le_of_ble_eq_true rfl) (by omega) (fun v9 h2 hq9 => ?_)
    obtain ⟨e9, vc⟩ := vc v9 h2 hq9
    subst e9
    show XW _ _ _ _ _ _ _ 26 _ []
    exact xi_vret (by decide +kernel : decode mX11_readGoes.2.1 26 = .ok (.return_, 1)) rfl vc

set_option maxRecDepth 20000 in
theorem v_X11_readLine_0 {h : XH} {Q : Option Value → XH → Prop} {X : String → XH → Prop} (hM : xMod (xP h))  (ax : Int32)
    (vc : ∃ Q1, XSpec mX11_is 12 0 0 100 100 [.ref 56, .ref (1000 + 36)] h Q1 xno ∧ ∀ v h1, Q1 v h1 → ∃ r1 : Int32, v = some (.int r1) ∧ ((r1 = 0 → ∃ Q1, XSpec mX11_is 12 0 0 100 100 [.ref 56, .ref (1000 + 37)] h1 Q1 xno ∧ ∀ v h2, Q1 v h2 → ∃ r2 : Int32, v = some (.int r2) ∧ ((r2 = 0 → ∃ Q1, XSpec mX11_is 12 0 0 100 100 [.ref 56, .ref (1000 + 38)] h2 Q1 xno ∧ ∀ v h3, Q1 v h3 → ∃ r3 : Int32, v = some (.int r3) ∧ ((r3 = 0 → ∃ Q1, XSpec mX11_is 12 0 0 100 100 [.ref 56, .ref (1000 + 39)] h3 Q1 xno ∧ ∀ v h4, Q1 v h4 → ∃ r4 : Int32, v = some (.int r4) ∧ ((r4 = 0 → ∃ Q1, XSpec mX11_is 12 0 0 100 100 [.ref 56, .ref (1000 + 40)] h4 Q1 xno ∧ ∀ v h5, Q1 v h5 → ∃ r5 : Int32, v = some (.int r5) ∧ ((r5 = 0 → ∃ Q1, XSpec mX11_is 12 0 0 100 100 [.ref 56, .ref (1000 + 41)] h5 Q1 xno ∧ ∀ v h6, Q1 v h6 → ∃ r6 : Int32, v = some (.int r6) ∧ ((r6 = 0 → XW (xrm 62 0 0) mX11_readLine (xE 100 Q X 0 0) 100 0 0 h6 89 [some (.ref 56), some (.int ax), some (.int 0)] []) ∧ (¬ r6 = 0 → XW (xrm 62 0 0) mX11_readLine (xE 100 Q X 0 0) 100 0 0 h6 89 [some (.ref 56), some (.int ax), some (.int 32)] []))) ∧ (¬ r5 = 0 → XW (xrm 62 0 0) mX11_readLine (xE 100 Q X 0 0) 100 0 0 h5 89 [some (.ref 56), some (.int ax), some (.int 16)] []))) ∧ (¬ r4 = 0 → XW (xrm 62 0 0) mX11_readLine (xE 100 Q X 0 0) 100 0 0 h4 89 [some (.ref 56), some (.int ax), some (.int 8)] []))) ∧ (¬ r3 = 0 → XW (xrm 62 0 0) mX11_readLine (xE 100 Q X 0 0) 100 0 0 h3 89 [some (.ref 56), some (.int ax), some (.int 4)] []))) ∧ (¬ r2 = 0 → XW (xrm 62 0 0) mX11_readLine (xE 100 Q X 0 0) 100 0 0 h2 89 [some (.ref 56), some (.int ax), some (.int 2)] []))) ∧ (¬ r1 = 0 → XW (xrm 62 0 0) mX11_readLine (xE 100 Q X 0 0) 100 0 0 h1 89 [some (.ref 56), some (.int ax), some (.int 1)] []))) :
    XW (xrm 62 0 0) mX11_readLine (xE 100 Q X 0 0) 100 0 0 h 0 [some (.ref 56), some (.int ax), none] [] := by
  refine xi_aload_n (by decide +kernel : decode mX11_readLine.2.1 0 = .ok (.aload_n 0, 1)) rfl rfl (?_ : XW _ _ _ _ _ _ _ 1 _ _)
  refine xi_ldcwS (j := 36) (by decide +kernel : decode mX11_readLine.2.1 1 = .ok (.ldc_w 289, 3)) rfl (by decide) (?_ : XW _ _ _ _ _ _ _ 4 _ _)
  obtain ⟨Q1, sp, vc⟩ := vc
  refine xi_callV (b := 0) (bs := 0) (As := [.ref (1000 + 36)]) (st := []) (by decide +kernel : decode mX11_readLine.2.1 4 = .ok (.invokevirtual 225, 3)) kX11_225 rfl rfl (by omega) rfl sp (xrm_f (by omega)) (xrm_l (by omega) (Nat.le_of_ble_eq_true rfl)) (Nat.le_of_ble_eq_true rfl) (by omega) (fun v9 h1 hq9 => ?_)
  obtain ⟨r1, e9, vc⟩ := vc v9 h1 hq9
  subst e9
  show XW _ _ _ _ _ _ _ 7 _ [.int r1]
  refine xi_if_eq (by decide +kernel : decode mX11_readLine.2.1 7 = .ok (.ifCond .eq 7, 3)) (by decide) (fun c => (?_ : XW _ _ _ _ _ _ _ 14 _ _)) (fun c => (?_ : XW _ _ _ _ _ _ _ 10 _ _))
  · replace vc := vc.1 c
    refine xi_aload_n (by decide +kernel : decode mX11_readLine.2.1 14 = .ok (.aload_n 0, 1)) rfl rfl (?_ : XW _ _ _ _ _ _ _ 15 _ _)
    refine xi_ldcwS (j := 37) (by decide +kernel : decode mX11_readLine.2.1 15 = .ok (.ldc_w 290, 3)) rfl (by decide) (?_ : XW _ _ _ _ _ _ _ 18 _ _)
    obtain ⟨Q1, sp, vc⟩ := vc
    refine xi_callV (b := 0) (bs := 0) (As := [.ref (1000 + 37)]) (st := []) (by decide +kernel : decode mX11_readLine.2.1 18 = .ok (.invokevirtual 225, 3)) kX11_225 rfl rfl (by omega) rfl sp (xrm_f (by omega)) (xrm_l (by omega) (Nat.le_of_ble_eq_true rfl)) (Nat.le_of_ble_eq_true rfl) (by omega) (fun v9 h2 hq9 => ?_)
    obtain ⟨r2, e9, vc⟩ := vc v9 h2 hq9
    subst e9
    show XW _ _ _ _ _ _ _ 21 _ [.int r2]
    refine xi_if_eq (by decide +kernel : decode mX11_readLine.2.1 21 = .ok (.ifCond .eq 7, 3)) (by decide) (fun c => (?_ : XW _ _ _ _ _ _ _ 28 _ _)) (fun c => (?_ : XW _ _ _ _ _ _ _ 24 _ _))
    · replace vc := vc.1 c
      refine xi_aload_n (by decide +kernel : decode mX11_readLine.2.1 28 = .ok (.aload_n 0, 1)) rfl rfl (?_ : XW _ _ _ _ _ _ _ 29 _ _)
      refine xi_ldcwS (j := 38) (by decide +kernel : decode mX11_readLine.2.1 29 = .ok (.ldc_w 292, 3)) rfl (by decide) (?_ : XW _ _ _ _ _ _ _ 32 _ _)
      obtain ⟨Q1, sp, vc⟩ := vc
      refine xi_callV (b := 0) (bs := 0) (As := [.ref (1000 + 38)]) (st := []) (by decide +kernel : decode mX11_readLine.2.1 32 = .ok (.invokevirtual 225, 3)) kX11_225 rfl rfl (by omega) rfl sp (xrm_f (by omega)) (xrm_l (by omega) (Nat.le_of_ble_eq_true rfl)) (Nat.le_of_ble_eq_true rfl) (by omega) (fun v9 h3 hq9 => ?_)
      obtain ⟨r3, e9, vc⟩ := vc v9 h3 hq9
      subst e9
      show XW _ _ _ _ _ _ _ 35 _ [.int r3]
      refine xi_if_eq (by decide +kernel : decode mX11_readLine.2.1 35 = .ok (.ifCond .eq 7, 3)) (by decide) (fun c => (?_ : XW _ _ _ _ _ _ _ 42 _ _)) (fun c => (?_ : XW _ _ _ _ _ _ _ 38 _ _))
      · replace vc := vc.1 c
        refine xi_aload_n (by decide +kernel : decode mX11_readLine.2.1 42 = .ok (.aload_n 0, 1)) rfl rfl (?_ : XW _ _ _ _ _ _ _ 43 _ _)
        refine xi_ldcwS (j := 39) (by decide +kernel : decode mX11_readLine.2.1 43 = .ok (.ldc_w 294, 3)) rfl (by decide) (?_ : XW _ _ _ _ _ _ _ 46 _ _)
        obtain ⟨Q1, sp, vc⟩ := vc
        refine xi_callV (b := 0) (bs := 0) (As := [.ref (1000 + 39)]) (st := []) (by decide +kernel : decode mX11_readLine.2.1 46 = .ok (.invokevirtual 225, 3)) kX11_225 rfl rfl (by omega) rfl sp (xrm_f (by omega)) (xrm_l (by omega) (Nat.le_of_ble_eq_true rfl)) (Nat.le_of_ble_eq_true rfl) (by omega) (fun v9 h4 hq9 => ?_)
        obtain ⟨r4, e9, vc⟩ := vc v9 h4 hq9
        subst e9
        show XW _ _ _ _ _ _ _ 49 _ [.int r4]
        refine xi_if_eq (by decide +kernel : decode mX11_readLine.2.1 49 = .ok (.ifCond .eq 8, 3)) (by decide) (fun c => (?_ : XW _ _ _ _ _ _ _ 57 _ _)) (fun c => (?_ : XW _ _ _ _ _ _ _ 52 _ _))
        · replace vc := vc.1 c
          refine xi_aload_n (by decide +kernel : decode mX11_readLine.2.1 57 = .ok (.aload_n 0, 1)) rfl rfl (?_ : XW _ _ _ _ _ _ _ 58 _ _)
          refine xi_ldcwS (j := 40) (by decide +kernel : decode mX11_readLine.2.1 58 = .ok (.ldc_w 296, 3)) rfl (by decide) (?_ : XW _ _ _ _ _ _ _ 61 _ _)
          obtain ⟨Q1, sp, vc⟩ := vc
          refine xi_callV (b := 0) (bs := 0) (As := [.ref (1000 + 40)]) (st := []) (by decide +kernel : decode mX11_readLine.2.1 61 = .ok (.invokevirtual 225, 3)) kX11_225 rfl rfl (by omega) rfl sp (xrm_f (by omega)) (xrm_l (by omega) (Nat.le_of_ble_eq_true rfl)) (Nat.le_of_ble_eq_true rfl) (by omega) (fun v9 h5 hq9 => ?_)
          obtain ⟨r5, e9, vc⟩ := vc v9 h5 hq9
          subst e9
          show XW _ _ _ _ _ _ _ 64 _ [.int r5]
          refine xi_if_eq (by decide +kernel : decode mX11_readLine.2.1 64 = .ok (.ifCond .eq 8, 3)) (by decide) (fun c => (?_ : XW _ _ _ _ _ _ _ 72 _ _)) (fun c => (?_ : XW _ _ _ _ _ _ _ 67 _ _))
          · replace vc := vc.1 c
            refine xi_aload_n (by decide +kernel : decode mX11_readLine.2.1 72 = .ok (.aload_n 0, 1)) rfl rfl (?_ : XW _ _ _ _ _ _ _ 73 _ _)
            refine xi_ldcwS (j := 41) (by decide +kernel : decode mX11_readLine.2.1 73 = .ok (.ldc_w 298, 3)) rfl (by decide) (?_ : XW _ _ _ _ _ _ _ 76 _ _)
            obtain ⟨Q1, sp, vc⟩ := vc
            refine xi_callV (b := 0) (bs := 0) (As := [.ref (1000 + 41)]) (st := []) (by decide +kernel : decode mX11_readLine.2.1 76 = .ok (.invokevirtual 225, 3)) kX11_225 rfl rfl (by omega) rfl sp (xrm_f (by omega)) (xrm_l (by omega) (Nat.le_of_ble_eq_true rfl)) (Nat.le_of_ble_eq_true rfl) (by omega) (fun v9 h6 hq9 => ?_)
            obtain ⟨r6, e9, vc⟩ := vc v9 h6 hq9
            subst e9
            show XW _ _ _ _ _ _ _ 79 _ [.int r6]
            refine xi_if_eq (by decide +kernel : decode mX11_readLine.2.1 79 = .ok (.ifCond .eq 8, 3)) (by decide) (fun c => (?_ : XW _ _ _ _ _ _ _ 87 _ _)) (fun c => (?_ : XW _ _ _ _ _ _ _ 82 _ _))
            · replace vc := vc.1 c
              refine xi_iconst (v := 0) (by decide +kernel : decode mX11_readLine.2.1 87 = .ok (.iconst 0, 1)) (by decide) (?_ : XW _ _ _ _ _ _ _ 88 _ _)
              refine xi_istore_n (ls' := [some (.ref 56), some (.int ax), some (.int 0)]) (by decide +kernel : decode mX11_readLine.2.1 88 = .ok (.istore_n 2, 1)) rfl (by decide) rfl (?_ : XW _ _ _ _ _ _ _ 89 _ _)
              exact vc
            · replace vc := vc.2 c
              refine xi_bipush (v := 32) (by decide +kernel : decode mX11_readLine.2.1 82 = .ok (.bipush 32, 2)) (by decide) (?_ : XW _ _ _ _ _ _ _ 84 _ _)
              refine xi_goto (by decide +kernel : decode mX11_readLine.2.1 84 = .ok (.goto 4, 3)) (by decide) (?_ : XW _ _ _ _ _ _ _ 88 _ _)
              refine xi_istore_n (ls' := [some (.ref 56), some (.int ax), some (.int 32)]) (by decide +kernel : decode mX11_readLine.2.1 88 = .ok (.istore_n 2, 1)) rfl (by decide) rfl (?_ : XW _ _ _ _ _ _ _ 89 _ _)
              exact vc
          · replace vc := vc.2 c
            refine xi_bipush (v := 16) (by decide +kernel : decode mX11_readLine.2.1 67 = .ok (.bipush 16, 2)) (by decide) (?_ : XW _ _ _ _ _ _ _ 69 _ _)
            refine xi_goto (by decide +kernel : decode mX11_readLine.2.1 69 = .ok (.goto 19, 3)) (by decide) (?_ : XW _ _ _ _ _ _ _ 88 _ _)
            refine xi_istore_n (ls' := [some (.ref 56), some (.int ax), some (.int 16)]) (by decide +kernel : decode mX11_readLine.2.1 88 = .ok (.istore_n 2, 1)) rfl (by decide) rfl (?_ : XW _ _ _ _ _ _ _ 89 _ _)
            exact vc
        · replace vc := vc.2 c
          refine xi_bipush (v := 8) (by decide +kernel : decode mX11_readLine.2.1 52 = .ok (.bipush 8, 2)) (by decide) (?_ : XW _ _ _ _ _ _ _ 54 _ _)
          refine xi_goto (by decide +kernel : decode mX11_readLine.2.1 54 = .ok (.goto 34, 3)) (by decide) (?_ : XW _ _ _ _ _ _ _ 88 _ _)
          refine xi_istore_n (ls' := [some (.ref 56), some (.int ax), some (.int 8)]) (by decide +kernel : decode mX11_readLine.2.1 88 = .ok (.istore_n 2, 1)) rfl (by decide) rfl (?_ : XW _ _ _ _ _ _ _ 89 _ _)
          exact vc
      · replace vc := vc.2 c
        refine xi_iconst (v := 4) (by decide +kernel : decode mX11_readLine.2.1 38 = .ok (.iconst 4, 1)) (by decide) (?_ : XW _ _ _ _ _ _ _ 39 _ _)
        refine xi_goto (by decide +kernel : decode mX11_readLine.2.1 39 = .ok (.goto 49, 3)) (by decide) (?_ : XW _ _ _ _ _ _ _ 88 _ _)
        refine xi_istore_n (ls' := [some (.ref 56), some (.int ax), some (.int 4)]) (by decide +kernel : decode mX11_readLine.2.1 88 = .ok (.istore_n 2, 1)) rfl (by decide) rfl (?_ : XW _ _ _ _ _ _ _ 89 _ _)
        exact vc
    · replace vc := vc.2 c
      refine xi_iconst (v := 2) (by decide +kernel : decode mX11_readLine.2.1 24 = .ok (.iconst 2, 1)) (by decide) (?_ : XW _ _ _ _ _ _ _ 25 _ _)
      refine xi_goto (by decide +kernel : decode mX11_readLine.2.1 25 = .ok (.goto 63, 3)) (by decide) (?_ : XW _ _ _ _ _ _ _ 88 _ _)
      refine xi_istore_n (ls' := [some (.ref 56), some (.int ax), some (.int 2)]) (by decide +kernel : decode mX11_readLine.2.1 88 = .ok (.istore_n 2, 1)) rfl (by decide) rfl (?_ : XW _ _ _ _ _ _ _ 89 _ _)
      exact vc
  · replace vc := vc.2 c
    refine xi_iconst (v := 1) (by decide +kernel : decode mX11_readLine.2.1 10 = .ok (.iconst 1, 1)) (by decide) (?_ : XW _ _ _ _ _ _ _ 11 _ _)
    refine xi_goto (by decide +kernel : decode mX11_readLine.2.1 11 = .ok (.goto 77, 3)) (by decide) (?_ : XW _ _ _ _ _ _ _ 88 _ _)
    refine xi_istore_n (ls' := [some (.ref 56), some (.int ax), some (.int 1)]) (by decide +kernel : decode mX11_readLine.2.1 88 = .ok (.istore_n 2, 1)) rfl (by decide) rfl (?_ : XW _ _ _ _ _ _ _ 89 _ _)
    exact vc

set_option maxRecDepth 20000 in
theorem v_X11_readLine_89 {h : XH} {Q : Option Value → XH → Prop} {X : String → XH → Prop} (hM : xMod (xP h))  (x1 : Int32) (x2 : Int32)
    (vc : ((x1 &&& x2) = 0 → XW (xrm 62 0 0) mX11_readLine (xE 100 Q X 0 0) 100 0 0 h 100 [some (.ref 56), some (.int x1), some (.int x2)] []) ∧ (¬ (x1 &&& x2) = 0 → ∃ Q1, XSpec mX11_wrong 1 0 0 100 100 [.ref 56, .int 5] h Q1 xno ∧ ∀ v h7, Q1 v h7 → v = none ∧ (XW (xrm 62 0 0) mX11_readLine (xE 100 Q X 0 0) 100 0 0 h7 100 [some (.ref 56), some (.int x1), some (.int x2)] []))) :
    XW (xrm 62 0 0) mX11_readLine (xE 100 Q X 0 0) 100 0 0 h 89 [some (.ref 56), some (.int x1), some (.int x2)] [] := by
  refine xi_iload_n (by decide +kernel : decode mX11_readLine.2.1 89 = .ok (.iload_n 1, 1)) rfl rfl (?_ : XW _ _ _ _ _ _ _ 90 _ _)
  refine xi_iload_n (by decide +kernel : decode mX11_readLine.2.1 90 = .ok (.iload_n 2, 1)) rfl rfl (?_ : XW _ _ _ _ _ _ _ 91 _ _)
  refine xi_iand (by decide +kernel : decode mX11_readLine.2.1 91 = .ok (.iand, 1)) (?_ : XW _ _ _ _ _ _ _ 92 _ _)
  refine xi_if_eq (by decide +kernel : decode mX11_readLine.2.1 92 = .ok (.ifCond .eq 8, 3)) (by decide) (fun c => (?_ : XW _ _ _ _ _ _ _ 100 _ _)) (fun c => (?_ : XW _ _ _ _ _ _ _ 95 _ _))
  · replace vc := vc.1 c
    exact vc
  · replace vc := vc.2 c
    refine xi_aload_n (by decide +kernel : decode mX11_readLine.2.1 95 = .ok (.aload_n 0, 1)) rfl rfl (?_ : XW _ _ _ _ _ _ _ 96 _ _)
    refine xi_iconst (v := 5) (by decide +kernel : decode mX11_readLine.2.1 96 = .ok (.iconst 5, 1)) (by decide) (?_ : XW _ _ _ _ _ _ _ 97 _ _)
    obtain ⟨Q1, sp, vc⟩ := vc
    refine xi_callV (b := 0) (bs := 0) (As := [.int 5]) (st := []) (by decide +kernel : decode mX11_readLine.2.1 97 = .ok (.invokevirtual 232, 3)) kX11_232 rfl rfl (by omega) rfl sp (xrm_f (by omega)) (xrm_l (by omega) (Nat.le_of_ble_eq_true rfl)) (Nat.le_of_ble_eq_true rfl) (by omega) (fun v9 h7 hq9 => ?_)
    obtain ⟨e9, vc⟩ := vc v9 h7 hq9
    subst e9
    show XW _ _ _ _ _ _ _ 100 _ []
    exact vc

set_option maxRecDepth 20000 in
theorem v_X11_readLine_100 {h : XH} {Q : Option Value → XH → Prop} {X : String → XH → Prop} (hM : xMod (xP h))  (x1 : Int32) (x2 : Int32)
    (vc : (¬ x2 = 0 → XW (xrm 62 0 0) mX11_readLine (xE 100 Q X 0 0) 100 0 0 h 119 [some (.ref 56), some (.int x1), some (.int x2)] []) ∧ (x2 = 0 → ∃ Q1, XSpec mX11_is 12 0 0 100 100 [.ref 56, .ref (1000 + 42)] h Q1 xno ∧ ∀ v h8, Q1 v h8 → ∃ r8 : Int32, v = some (.int r8) ∧ ((¬ r8 = 0 → XW (xrm 62 0 0) mX11_readLine (xE 100 Q X 0 0) 100 0 0 h8 119 [some (.ref 56), some (.int x1), some (.int x2)] []) ∧ (r8 = 0 → ∃ Q1, XSpec mX11_wrong 1 0 0 100 100 [.ref 56, .int 1] h8 Q1 xno ∧ ∀ v h9, Q1 v h9 → v = none ∧ (XW (xrm 62 0 0) mX11_readLine (xE 100 Q X 0 0) 100 0 0 h9 119 [some (.ref 56), some (.int x1), some (.int x2)] []))))) :
    XW (xrm 62 0 0) mX11_readLine (xE 100 Q X 0 0) 100 0 0 h 100 [some (.ref 56), some (.int x1), some (.int x2)] [] := by
  refine xi_iload_n (by decide +kernel : decode mX11_readLine.2.1 100 = .ok (.iload_n 2, 1)) rfl rfl (?_ : XW _ _ _ _ _ _ _ 101 _ _)
  refine xi_if_ne (by decide +kernel : decode mX11_readLine.2.1 101 = .ok (.ifCond .ne 18, 3)) (by decide) (fun c => (?_ : XW _ _ _ _ _ _ _ 119 _ _)) (fun c => (?_ : XW _ _ _ _ _ _ _ 104 _ _))
  · replace vc := vc.1 c
    exact vc
  · replace vc := vc.2 c
    refine xi_aload_n (by decide +kernel : decode mX11_readLine.2.1 104 = .ok (.aload_n 0, 1)) rfl rfl (?_ : XW _ _ _ _ _ _ _ 105 _ _)
    refine xi_ldcwS (j := 42) (by decide +kernel : decode mX11_readLine.2.1 105 = .ok (.ldc_w 300, 3)) rfl (by decide) (?_ : XW _ _ _ _ _ _ _ 108 _ _)
    obtain ⟨Q1, sp, vc⟩ := vc
    refine xi_callV (b := 0) (bs := 0) (As := [.ref (1000 + 42)]) (st := []) (by decide +kernel : decode mX11_readLine.2.1 108 = .ok (.invokevirtual 225, 3)) kX11_225 rfl rfl (by omega) rfl sp (xrm_f (by omega)) (xrm_l (by omega) (Nat.le_of_ble_eq_true rfl)) (Nat.le_of_ble_eq_true rfl) (by omega) (fun v9 h8 hq9 => ?_)
    obtain ⟨r8, e9, vc⟩ := vc v9 h8 hq9
    subst e9
    show XW _ _ _ _ _ _ _ 111 _ [.int r8]
    refine xi_if_ne (by decide +kernel : decode mX11_readLine.2.1 111 = .ok (.ifCond .ne 8, 3)) (by decide) (fun c => (?_ : XW _ _ _ _ _ _ _ 119 _ _)) (fun c => (?_ : XW _ _ _ _ _ _ _ 114 _ _))
    · replace vc := vc.1 c
      exact vc
    · replace vc := vc.2 c
      refine xi_aload_n (by decide +kernel : decode mX11_readLine.2.1 114 = .ok (.aload_n 0, 1)) rfl rfl (?_ : XW _ _ _ _ _ _ _ 115 _ _)
      refine xi_iconst (v := 1) (by decide +kernel : decode mX11_readLine.2.1 115 = .ok (.iconst 1, 1)) (by decide) (?_ : XW _ _ _ _ _ _ _ 116 _ _)
      obtain ⟨Q1, sp, vc⟩ := vc
      refine xi_callV (b := 0) (bs := 0) (As := [.int 1]) (st := []) (by decide +kernel : decode mX11_readLine.2.1 116 = .ok (.invokevirtual 232, 3)) kX11_232 rfl rfl (by omega) rfl sp (xrm_f (by omega)) (xrm_l (by omega) (Nat.le_of_ble_eq_true rfl)) (Nat.le_of_ble_eq_true rfl) (by omega) (fun v9 h9 hq9 => ?_)
      obtain ⟨e9, vc⟩ := vc v9 h9 hq9
      subst e9
      show XW _ _ _ _ _ _ _ 119 _ []
      exact vc

set_option maxRecDepth 20000 in
theorem v_X11_readLine_119 {h : XH} {Q : Option Value → XH → Prop} {X : String → XH → Prop} (hM : xMod (xP h))  (x1 : Int32) (x2 : Int32)
    (vc : (¬ x2 = 0 → (¬ (xI h 56 18) = 0 → XW (xrm 62 0 0) mX11_readLine (xE 100 Q X 0 0) 100 0 0 h 141 [some (.ref 56), some (.int x1), some (.int x2)] []) ∧ ((xI h 56 18) = 0 → ∃ Q1, XSpec mX11_stepOn 2 0 0 100 100 [.ref 56] h Q1 xno ∧ ∀ v h10, Q1 v h10 → v = none ∧ (XW (xrm 62 0 0) mX11_readLine (xE 100 Q X 0 0) 100 0 0 h10 141 [some (.ref 56), some (.int x1), some (.int x2)] []))) ∧ (x2 = 0 → ∃ Q1, XSpec mX11_readExit 3 0 0 100 100 [.ref 56] h Q1 xno ∧ ∀ v h11, Q1 v h11 → v = none ∧ (XW (xrm 62 0 0) mX11_readLine (xE 100 Q X 0 0) 100 0 0 h11 141 [some (.ref 56), some (.int x1), some (.int x2)] []))) :
    XW (xrm 62 0 0) mX11_readLine (xE 100 Q X 0 0) 100 0 0 h 119 [some (.ref 56), some (.int x1), some (.int x2)] [] := by
  refine xi_iload_n (by decide +kernel : decode mX11_readLine.2.1 119 = .ok (.iload_n 2, 1)) rfl rfl (?_ : XW _ _ _ _ _ _ _ 120 _ _)
  refine xi_if_ne (by decide +kernel : decode mX11_readLine.2.1 120 = .ok (.ifCond .ne 10, 3)) (by decide) (fun c => (?_ : XW _ _ _ _ _ _ _ 130 _ _)) (fun c => (?_ : XW _ _ _ _ _ _ _ 123 _ _))
  · replace vc := vc.1 c
    refine xi_aload_n (by decide +kernel : decode mX11_readLine.2.1 130 = .ok (.aload_n 0, 1)) rfl rfl (?_ : XW _ _ _ _ _ _ _ 131 _ _)
    refine xi_getI (by decide +kernel : decode mX11_readLine.2.1 131 = .ok (.getfield 211, 3)) fX11_211 rfl (by omega) rfl (?_ : XW _ _ _ _ _ _ _ 134 _ _)
    refine xi_if_ne (by decide +kernel : decode mX11_readLine.2.1 134 = .ok (.ifCond .ne 7, 3)) (by decide) (fun c => (?_ : XW _ _ _ _ _ _ _ 141 _ _)) (fun c => (?_ : XW _ _ _ _ _ _ _ 137 _ _))
    · replace vc := vc.1 c
      exact vc
    · replace vc := vc.2 c
      refine xi_aload_n (by decide +kernel : decode mX11_readLine.2.1 137 = .ok (.aload_n 0, 1)) rfl rfl (?_ : XW _ _ _ _ _ _ _ 138 _ _)
      obtain ⟨Q1, sp, vc⟩ := vc
      refine xi_callV (b := 0) (bs := 0) (As := []) (st := []) (by decide +kernel : decode mX11_readLine.2.1 138 = .ok (.invokevirtual 236, 3)) kX11_236 rfl rfl (by omega) rfl sp (xrm_f (by omega)) (xrm_l (by omega) (Nat.le_of_ble_eq_true rfl)) (Nat.le_of_ble_eq_true rfl) (by omega) (fun v9 h10 hq9 => ?_)
      obtain ⟨e9, vc⟩ := vc v9 h10 hq9
      subst e9
      show XW _ _ _ _ _ _ _ 141 _ []
      exact vc
  · replace vc := vc.2 c
    refine xi_aload_n (by decide +kernel : decode mX11_readLine.2.1 123 = .ok (.aload_n 0, 1)) rfl rfl (?_ : XW _ _ _ _ _ _ _ 124 _ _)
    obtain ⟨Q1, sp, vc⟩ := vc
    refine xi_callV (b := 0) (bs := 0) (As := []) (st := []) (by decide +kernel : decode mX11_readLine.2.1 124 = .ok (.invokevirtual 302, 3)) kX11_302 rfl rfl (by omega) rfl sp (xrm_f (by omega)) (xrm_l (by omega) (Nat.le_of_ble_eq_true rfl)) (Nat.le_of_ble_eq_true rfl) (by omega) (fun v9 h11 hq9 => ?_)
    obtain ⟨e9, vc⟩ := vc v9 h11 hq9
    subst e9
    show XW _ _ _ _ _ _ _ 127 _ []
    refine xi_goto (by decide +kernel : decode mX11_readLine.2.1 127 = .ok (.goto 14, 3)) (by decide) (?_ : XW _ _ _ _ _ _ _ 141 _ _)
    exact vc

set_option maxRecDepth 20000 in
theorem v_X11_readLine_141 {h : XH} {Q : Option Value → XH → Prop} {X : String → XH → Prop} (hM : xMod (xP h))  (x1 : Int32) (x2 : Int32)
    (vc : (¬ x2 = 1 → XW (xrm 62 0 0) mX11_readLine (xE 100 Q X 0 0) 100 0 0 h 150 [some (.ref 56), some (.int x1), some (.int x2)] []) ∧ (x2 = 1 → ∃ Q1, XSpec mX11_readDie 3 0 0 100 100 [.ref 56] h Q1 xno ∧ ∀ v h12, Q1 v h12 → v = none ∧ (XW (xrm 62 0 0) mX11_readLine (xE 100 Q X 0 0) 100 0 0 h12 150 [some (.ref 56), some (.int x1), some (.int x2)] []))) :
    XW (xrm 62 0 0) mX11_readLine (xE 100 Q X 0 0) 100 0 0 h 141 [some (.ref 56), some (.int x1), some (.int x2)] [] := by
  refine xi_iload_n (by decide +kernel : decode mX11_readLine.2.1 141 = .ok (.iload_n 2, 1)) rfl rfl (?_ : XW _ _ _ _ _ _ _ 142 _ _)
  refine xi_iconst (v := 1) (by decide +kernel : decode mX11_readLine.2.1 142 = .ok (.iconst 1, 1)) (by decide) (?_ : XW _ _ _ _ _ _ _ 143 _ _)
  refine xi_icmp_ne (by decide +kernel : decode mX11_readLine.2.1 143 = .ok (.if_icmp .ne 7, 3)) (by decide) (fun c => (?_ : XW _ _ _ _ _ _ _ 150 _ _)) (fun c => (?_ : XW _ _ _ _ _ _ _ 146 _ _))
  · replace vc := vc.1 c
    exact vc
  · replace vc := vc.2 c
    refine xi_aload_n (by decide +kernel : decode mX11_readLine.2.1 146 = .ok (.aload_n 0, 1)) rfl rfl (?_ : XW _ _ _ _ _ _ _ 147 _ _)
    obtain ⟨Q1, sp, vc⟩ := vc
    refine xi_callV (b := 0) (bs := 0) (As := []) (st := []) (by decide +kernel : decode mX11_readLine.2.1 147 = .ok (.invokevirtual 305, 3)) kX11_305 rfl rfl (by omega) rfl sp (xrm_f (by omega)) (xrm_l (by omega) (Nat.le_of_ble_eq_true rfl)) (Nat.le_of_ble_eq_true rfl) (by omega) (fun v9 h12 hq9 => ?_)
    obtain ⟨e9, vc⟩ := vc v9 h12 hq9
    subst e9
    show XW _ _ _ _ _ _ _ 150 _ []
    exact vc

set_option maxRecDepth 20000 in
theorem v_X11_readLine_150 {h : XH} {Q : Option Value → XH → Prop} {X : String → XH → Prop} (hM : xMod (xP h))  (x1 : Int32) (x2 : Int32)
    (vc : (¬ x2 = 2 → XW (xrm 62 0 0) mX11_readLine (xE 100 Q X 0 0) 100 0 0 h 197 [some (.ref 56), some (.int x1), some (.int x2)] []) ∧ (x2 = 2 → ∃ Q1, XSpec mX11_which 13 0 0 100 100 [.ref 56, .ref 57] h Q1 xno ∧ ∀ v h13, Q1 v h13 → ∃ r13 : Int32, v = some (.int r13) ∧ ((xP h13 56 3 = some 59) ∧ ((¬ (va_up (xI h13 59) 11 r13 11) = (-1) → XW (xrm 62 0 0) mX11_readLine (xE 100 Q X 0 0) 100 0 0 (xSI 59 (va_up (xI h13 59) 11 r13) h13) 186 [some (.ref 56), some (.int x1), some (.int x2)] []) ∧ ((va_up (xI h13 59) 11 r13 11) = (-1) → ∃ Q1, XSpec mX11_wrong 1 0 0 100 100 [.ref 56, .int 1] (xSI 59 (va_up (xI h13 59) 11 r13) h13) Q1 xno ∧ ∀ v h14, Q1 v h14 → v = none ∧ (XW (xrm 62 0 0) mX11_readLine (xE 100 Q X 0 0) 100 0 0 h14 186 [some (.ref 56), some (.int x1), some (.int x2)] [])))))) :
    XW (xrm 62 0 0) mX11_readLine (xE 100 Q X 0 0) 100 0 0 h 150 [some (.ref 56), some (.int x1), some (.int x2)] [] := by
  refine xi_iload_n (by decide +kernel : decode mX11_readLine.2.1 150 = .ok (.iload_n 2, 1)) rfl rfl (?_ : XW _ _ _ _ _ _ _ 151 _ _)
  refine xi_iconst (v := 2) (by decide +kernel : decode mX11_readLine.2.1 151 = .ok (.iconst 2, 1)) (by decide) (?_ : XW _ _ _ _ _ _ _ 152 _ _)
  refine xi_icmp_ne (by decide +kernel : decode mX11_readLine.2.1 152 = .ok (.if_icmp .ne 45, 3)) (by decide) (fun c => (?_ : XW _ _ _ _ _ _ _ 197 _ _)) (fun c => (?_ : XW _ _ _ _ _ _ _ 155 _ _))
  · replace vc := vc.1 c
    exact vc
  · replace vc := vc.2 c
    refine xi_aload_n (by decide +kernel : decode mX11_readLine.2.1 155 = .ok (.aload_n 0, 1)) rfl rfl (?_ : XW _ _ _ _ _ _ _ 156 _ _)
    refine xi_getR (y := 59) (by decide +kernel : decode mX11_readLine.2.1 156 = .ok (.getfield 32, 3)) fX11_32 rfl (by omega) rfl (mp_told hM) (?_ : XW _ _ _ _ _ _ _ 159 _ _)
    refine xi_bipush (v := 11) (by decide +kernel : decode mX11_readLine.2.1 159 = .ok (.bipush 11, 2)) (by decide) (?_ : XW _ _ _ _ _ _ _ 161 _ _)
    refine xi_aload_n (by decide +kernel : decode mX11_readLine.2.1 161 = .ok (.aload_n 0, 1)) rfl rfl (?_ : XW _ _ _ _ _ _ _ 162 _ _)
    refine xi_aload_n (by decide +kernel : decode mX11_readLine.2.1 162 = .ok (.aload_n 0, 1)) rfl rfl (?_ : XW _ _ _ _ _ _ _ 163 _ _)
    refine xi_getR (y := 57) (by decide +kernel : decode mX11_readLine.2.1 163 = .ok (.getfield 15, 3)) fX11_15 rfl (by omega) rfl (mp_ends hM) (?_ : XW _ _ _ _ _ _ _ 166 _ _)
    obtain ⟨Q1, sp, vc⟩ := vc
    refine xi_callV (b := 0) (bs := 0) (As := [.ref 57]) (st := [.int 11, .ref 59]) (by decide +kernel : decode mX11_readLine.2.1 166 = .ok (.invokevirtual 248, 3)) kX11_248 rfl rfl (by omega) rfl sp (xrm_f (by omega)) (xrm_l (by omega) (Nat.le_of_ble_eq_true rfl)) (Nat.le_of_ble_eq_true rfl) (by omega) (fun v9 h13 hq9 => ?_)
    obtain ⟨r13, e9, vc⟩ := vc v9 h13 hq9
    subst e9
    show XW _ _ _ _ _ _ _ 169 _ [.int r13, .int 11, .ref 59]
    refine xi_iast (by decide +kernel : decode mX11_readLine.2.1 169 = .ok (.iastore, 1)) rfl (by omega) (by unfold vp_in; decide) (?_ : XW _ _ _ _ _ _ (xSI 59 (va_up (xI h13 59) 11 r13) h13) 170 _ _)
    refine xi_aload_n (by decide +kernel : decode mX11_readLine.2.1 170 = .ok (.aload_n 0, 1)) rfl rfl (?_ : XW _ _ _ _ _ _ _ 171 _ _)
    obtain ⟨s1, vc⟩ := vc
    refine xi_getR (y := 59) (by decide +kernel : decode mX11_readLine.2.1 171 = .ok (.getfield 32, 3)) fX11_32 rfl (by omega) rfl s1 (?_ : XW _ _ _ _ _ _ _ 174 _ _)
    refine xi_bipush (v := 11) (by decide +kernel : decode mX11_readLine.2.1 174 = .ok (.bipush 11, 2)) (by decide) (?_ : XW _ _ _ _ _ _ _ 176 _ _)
    refine xi_iald (by decide +kernel : decode mX11_readLine.2.1 176 = .ok (.iaload, 1)) rfl (by omega) (by unfold vp_in; decide) (?_ : XW _ _ _ _ _ _ _ 177 _ [.int (va_up (xI h13 59) 11 r13 11)])
    refine xi_iconst (v := (-1)) (by decide +kernel : decode mX11_readLine.2.1 177 = .ok (.iconst (-1), 1)) (by decide) (?_ : XW _ _ _ _ _ _ _ 178 _ _)
    refine xi_icmp_ne (by decide +kernel : decode mX11_readLine.2.1 178 = .ok (.if_icmp .ne 8, 3)) (by decide) (fun c => (?_ : XW _ _ _ _ _ _ _ 186 _ _)) (fun c => (?_ : XW _ _ _ _ _ _ _ 181 _ _))
    · replace vc := vc.1 c
      exact vc
    · replace vc := vc.2 c
      refine xi_aload_n (by decide +kernel : decode mX11_readLine.2.1 181 = .ok (.aload_n 0, 1)) rfl rfl (?_ : XW _ _ _ _ _ _ _ 182 _ _)
      refine xi_iconst (v := 1) (by decide +kernel : decode mX11_readLine.2.1 182 = .ok (.iconst 1, 1)) (by decide) (?_ : XW _ _ _ _ _ _ _ 183 _ _)
      obtain ⟨Q1, sp, vc⟩ := vc
      refine xi_callV (b := 0) (bs := 0) (As := [.int 1]) (st := []) (by decide +kernel : decode mX11_readLine.2.1 183 = .ok (.invokevirtual 232, 3)) kX11_232 rfl rfl (by omega) rfl sp (xrm_f (by omega)) (xrm_l (by omega) (Nat.le_of_ble_eq_true rfl)) (Nat.le_of_ble_eq_true rfl) (by omega) (fun v9 h14 hq9 => ?_)
      obtain ⟨e9, vc⟩ := vc v9 h14 hq9
      subst e9
      show XW _ _ _ _ _ _ _ 186 _ []
      exact vc

set_option maxRecDepth 20000 in
theorem v_X11_readLine_197 {h : XH} {Q : Option Value → XH → Prop} {X : String → XH → Prop} (hM : xMod (xP h))  (x1 : Int32) (x2 : Int32)
    (vc : (¬ x2 = 4 → XW (xrm 62 0 0) mX11_readLine (xE 100 Q X 0 0) 100 0 0 h 216 [some (.ref 56), some (.int x1), some (.int x2)] []) ∧ (x2 = 4 → ∃ Q1, XSpec mX11_readNumber 3 0 0 100 100 [.ref 56, .int 1, .int 6] h Q1 xno ∧ ∀ v h15, Q1 v h15 → ∃ r15 : Int32, v = some (.int r15) ∧ (XW (xrm 62 0 0) mX11_readLine (xE 100 Q X 0 0) 100 0 0 (xSI 59 (va_up (xI h15 59) 12 r15) h15) 216 [some (.ref 56), some (.int x1), some (.int x2)] []))) :
    XW (xrm 62 0 0) mX11_readLine (xE 100 Q X 0 0) 100 0 0 h 197 [some (.ref 56), some (.int x1), some (.int x2)] [] := by
  refine xi_iload_n (by decide +kernel : decode mX11_readLine.2.1 197 = .ok (.iload_n 2, 1)) rfl rfl (?_ : XW _ _ _ _ _ _ _ 198 _ _)
  refine xi_iconst (v := 4) (by decide +kernel : decode mX11_readLine.2.1 198 = .ok (.iconst 4, 1)) (by decide) (?_ : XW _ _ _ _ _ _ _ 199 _ _)
  refine xi_icmp_ne (by decide +kernel : decode mX11_readLine.2.1 199 = .ok (.if_icmp .ne 17, 3)) (by decide) (fun c => (?_ : XW _ _ _ _ _ _ _ 216 _ _)) (fun c => (?_ : XW _ _ _ _ _ _ _ 202 _ _))
  · replace vc := vc.1 c
    exact vc
  · replace vc := vc.2 c
    refine xi_aload_n (by decide +kernel : decode mX11_readLine.2.1 202 = .ok (.aload_n 0, 1)) rfl rfl (?_ : XW _ _ _ _ _ _ _ 203 _ _)
    refine xi_getR (y := 59) (by decide +kernel : decode mX11_readLine.2.1 203 = .ok (.getfield 32, 3)) fX11_32 rfl (by omega) rfl (mp_told hM) (?_ : XW _ _ _ _ _ _ _ 206 _ _)
    refine xi_bipush (v := 12) (by decide +kernel : decode mX11_readLine.2.1 206 = .ok (.bipush 12, 2)) (by decide) (?_ : XW _ _ _ _ _ _ _ 208 _ _)
    refine xi_aload_n (by decide +kernel : decode mX11_readLine.2.1 208 = .ok (.aload_n 0, 1)) rfl rfl (?_ : XW _ _ _ _ _ _ _ 209 _ _)
    refine xi_iconst (v := 1) (by decide +kernel : decode mX11_readLine.2.1 209 = .ok (.iconst 1, 1)) (by decide) (?_ : XW _ _ _ _ _ _ _ 210 _ _)
    refine xi_bipush (v := 6) (by decide +kernel : decode mX11_readLine.2.1 210 = .ok (.bipush 6, 2)) (by decide) (?_ : XW _ _ _ _ _ _ _ 212 _ _)
    obtain ⟨Q1, sp, vc⟩ := vc
    refine xi_callV (b := 0) (bs := 0) (As := [.int 1, .int 6]) (st := [.int 12, .ref 59]) (by decide +kernel : decode mX11_readLine.2.1 212 = .ok (.invokevirtual 242, 3)) kX11_242 rfl rfl (by omega) rfl sp (xrm_f (by omega)) (xrm_l (by omega) (Nat.le_of_ble_eq_true rfl)) (Nat.le_of_ble_eq_true rfl) (by omega) (fun v9 h15 hq9 => ?_)
    obtain ⟨r15, e9, vc⟩ := vc v9 h15 hq9
    subst e9
    show XW _ _ _ _ _ _ _ 215 _ [.int r15, .int 12, .ref 59]
    refine xi_iast (by decide +kernel : decode mX11_readLine.2.1 215 = .ok (.iastore, 1)) rfl (by omega) (by unfold vp_in; decide) (?_ : XW _ _ _ _ _ _ (xSI 59 (va_up (xI h15 59) 12 r15) h15) 216 _ _)
    exact vc

set_option maxRecDepth 20000 in
theorem v_X11_readLine_186 {h : XH} {Q : Option Value → XH → Prop} {X : String → XH → Prop} (hM : xMod (xP h))  (x1 : Int32) (x2 : Int32)
    (vc : (¬ (xI h 56 18) = 0 → XW (xrm 62 0 0) mX11_readLine (xE 100 Q X 0 0) 100 0 0 h 197 [some (.ref 56), some (.int x1), some (.int x2)] []) ∧ ((xI h 56 18) = 0 → ∃ Q1, XSpec mX11_stepOn 2 0 0 100 100 [.ref 56] h Q1 xno ∧ ∀ v h16, Q1 v h16 → v = none ∧ (XW (xrm 62 0 0) mX11_readLine (xE 100 Q X 0 0) 100 0 0 h16 197 [some (.ref 56), some (.int x1), some (.int x2)] []))) :
    XW (xrm 62 0 0) mX11_readLine (xE 100 Q X 0 0) 100 0 0 h 186 [some (.ref 56), some (.int x1), some (.int x2)] [] := by
  refine xi_aload_n (by decide +kernel : decode mX11_readLine.2.1 186 = .ok (.aload_n 0, 1)) rfl rfl (?_ : XW _ _ _ _ _ _ _ 187 _ _)
  refine xi_getI (by decide +kernel : decode mX11_readLine.2.1 187 = .ok (.getfield 211, 3)) fX11_211 rfl (by omega) rfl (?_ : XW _ _ _ _ _ _ _ 190 _ _)
  refine xi_if_ne (by decide +kernel : decode mX11_readLine.2.1 190 = .ok (.ifCond .ne 7, 3)) (by decide) (fun c => (?_ : XW _ _ _ _ _ _ _ 197 _ _)) (fun c => (?_ : XW _ _ _ _ _ _ _ 193 _ _))
  · replace vc := vc.1 c
    exact vc
  · replace vc := vc.2 c
    refine xi_aload_n (by decide +kernel : decode mX11_readLine.2.1 193 = .ok (.aload_n 0, 1)) rfl rfl (?_ : XW _ _ _ _ _ _ _ 194 _ _)
    obtain ⟨Q1, sp, vc⟩ := vc
    refine xi_callV (b := 0) (bs := 0) (As := []) (st := []) (by decide +kernel : decode mX11_readLine.2.1 194 = .ok (.invokevirtual 236, 3)) kX11_236 rfl rfl (by omega) rfl sp (xrm_f (by omega)) (xrm_l (by omega) (Nat.le_of_ble_eq_true rfl)) (Nat.le_of_ble_eq_true rfl) (by omega) (fun v9 h16 hq9 => ?_)
    obtain ⟨e9, vc⟩ := vc v9 h16 hq9
    subst e9
    show XW _ _ _ _ _ _ _ 197 _ []
    exact vc

set_option maxRecDepth 20000 in
theorem v_X11_readLine_216 {h : XH} {Q : Option Value → XH → Prop} {X : String → XH → Prop} (hM : xMod (xP h))  (x1 : Int32) (x2 : Int32)
    (vc : (¬ x2 = 8 → XW (xrm 62 0 0) mX11_readLine (xE 100 Q X 0 0) 100 0 0 h 230 [some (.ref 56), some (.int x1), some (.int x2)] []) ∧ (x2 = 8 → XW (xrm 62 0 0) mX11_readLine (xE 100 Q X 0 0) 100 0 0 (xSI 59 (va_up (xI h 59) 13 1) h) 230 [some (.ref 56), some (.int x1), some (.int x2)] [])) :
    XW (xrm 62 0 0) mX11_readLine (xE 100 Q X 0 0) 100 0 0 h 216 [some (.ref 56), some (.int x1), some (.int x2)] [] := by
  refine xi_iload_n (by decide +kernel : decode mX11_readLine.2.1 216 = .ok (.iload_n 2, 1)) rfl rfl (?_ : XW _ _ _ _ _ _ _ 217 _ _)
  refine xi_bipush (v := 8) (by decide +kernel : decode mX11_readLine.2.1 217 = .ok (.bipush 8, 2)) (by decide) (?_ : XW _ _ _ _ _ _ _ 219 _ _)
  refine xi_icmp_ne (by decide +kernel : decode mX11_readLine.2.1 219 = .ok (.if_icmp .ne 11, 3)) (by decide) (fun c => (?_ : XW _ _ _ _ _ _ _ 230 _ _)) (fun c => (?_ : XW _ _ _ _ _ _ _ 222 _ _))
  · replace vc := vc.1 c
    exact vc
  · replace vc := vc.2 c
    refine xi_aload_n (by decide +kernel : decode mX11_readLine.2.1 222 = .ok (.aload_n 0, 1)) rfl rfl (?_ : XW _ _ _ _ _ _ _ 223 _ _)
    refine xi_getR (y := 59) (by decide +kernel : decode mX11_readLine.2.1 223 = .ok (.getfield 32, 3)) fX11_32 rfl (by omega) rfl (mp_told hM) (?_ : XW _ _ _ _ _ _ _ 226 _ _)
    refine xi_bipush (v := 13) (by decide +kernel : decode mX11_readLine.2.1 226 = .ok (.bipush 13, 2)) (by decide) (?_ : XW _ _ _ _ _ _ _ 228 _ _)
    refine xi_iconst (v := 1) (by decide +kernel : decode mX11_readLine.2.1 228 = .ok (.iconst 1, 1)) (by decide) (?_ : XW _ _ _ _ _ _ _ 229 _ _)
    refine xi_iast (by decide +kernel : decode mX11_readLine.2.1 229 = .ok (.iastore, 1)) rfl (by omega) (by unfold vp_in; decide) (?_ : XW _ _ _ _ _ _ (xSI 59 (va_up (xI h 59) 13 1) h) 230 _ _)
    exact vc

set_option maxRecDepth 20000 in
theorem v_X11_readLine_230 {h : XH} {Q : Option Value → XH → Prop} {X : String → XH → Prop} (hM : xMod (xP h))  (x1 : Int32) (x2 : Int32)
    (vc : (¬ x2 = 16 → XW (xrm 62 0 0) mX11_readLine (xE 100 Q X 0 0) 100 0 0 h 249 [some (.ref 56), some (.int x1), some (.int x2)] []) ∧ (x2 = 16 → ∃ Q1, XSpec mX11_readNumber 3 0 0 100 100 [.ref 56, .int 1, .int 4] h Q1 xno ∧ ∀ v h17, Q1 v h17 → ∃ r17 : Int32, v = some (.int r17) ∧ (XW (xrm 62 0 0) mX11_readLine (xE 100 Q X 0 0) 100 0 0 (xSI 59 (va_up (xI h17 59) 10 r17) h17) 249 [some (.ref 56), some (.int x1), some (.int x2)] []))) :
    XW (xrm 62 0 0) mX11_readLine (xE 100 Q X 0 0) 100 0 0 h 230 [some (.ref 56), some (.int x1), some (.int x2)] [] := by
  refine xi_iload_n (by decide +kernel : decode mX11_readLine.2.1 230 = .ok (.iload_n 2, 1)) rfl rfl (?_ : XW _ _ _ _ _ _ _ 231 _ _)
  refine xi_bipush (v := 16) (by decide +kernel : decode mX11_readLine.2.1 231 = .ok (.bipush 16, 2)) (by decide) (?_ : XW _ _ _ _ _ _ _ 233 _ _)
  refine xi_icmp_ne (by decide +kernel : decode mX11_readLine.2.1 233 = .ok (.if_icmp .ne 16, 3)) (by decide) (fun c => (?_ : XW _ _ _ _ _ _ _ 249 _ _)) (fun c => (?_ : XW _ _ _ _ _ _ _ 236 _ _))
  · replace vc := vc.1 c
    exact vc
  · replace vc := vc.2 c
    refine xi_aload_n (by decide +kernel : decode mX11_readLine.2.1 236 = .ok (.aload_n 0, 1)) rfl rfl (?_ : XW _ _ _ _ _ _ _ 237 _ _)
    refine xi_getR (y := 59) (by decide +kernel : decode mX11_readLine.2.1 237 = .ok (.getfield 32, 3)) fX11_32 rfl (by omega) rfl (mp_told hM) (?_ : XW _ _ _ _ _ _ _ 240 _ _)
    refine xi_bipush (v := 10) (by decide +kernel : decode mX11_readLine.2.1 240 = .ok (.bipush 10, 2)) (by decide) (?_ : XW _ _ _ _ _ _ _ 242 _ _)
    refine xi_aload_n (by decide +kernel : decode mX11_readLine.2.1 242 = .ok (.aload_n 0, 1)) rfl rfl (?_ : XW _ _ _ _ _ _ _ 243 _ _)
    refine xi_iconst (v := 1) (by decide +kernel : decode mX11_readLine.2.1 243 = .ok (.iconst 1, 1)) (by decide) (?_ : XW _ _ _ _ _ _ _ 244 _ _)
    refine xi_iconst (v := 4) (by decide +kernel : decode mX11_readLine.2.1 244 = .ok (.iconst 4, 1)) (by decide) (?_ : XW _ _ _ _ _ _ _ 245 _ _)
    obtain ⟨Q1, sp, vc⟩ := vc
    refine xi_callV (b := 0) (bs := 0) (As := [.int 1, .int 4]) (st := [.int 10, .ref 59]) (by decide +kernel : decode mX11_readLine.2.1 245 = .ok (.invokevirtual 242, 3)) kX11_242 rfl rfl (by omega) rfl sp (xrm_f (by omega)) (xrm_l (by omega) (Nat.le_of_ble_eq_true rfl)) (Nat.le_of_ble_eq_true rfl) (by omega) (fun v9 h17 hq9 => ?_)
    obtain ⟨r17, e9, vc⟩ := vc v9 h17 hq9
    subst e9
    show XW _ _ _ _ _ _ _ 248 _ [.int r17, .int 10, .ref 59]
    refine xi_iast (by decide +kernel : decode mX11_readLine.2.1 248 = .ok (.iastore, 1)) rfl (by omega) (by unfold vp_in; decide) (?_ : XW _ _ _ _ _ _ (xSI 59 (va_up (xI h17 59) 10 r17) h17) 249 _ _)
    exact vc

set_option maxRecDepth 20000 in
theorem v_X11_readLine_249 {h : XH} {Q : Option Value → XH → Prop} {X : String → XH → Prop} (hM : xMod (xP h))  (x1 : Int32) (x2 : Int32)
    (vc : (¬ x2 = 32 → XW (xrm 62 0 0) mX11_readLine (xE 100 Q X 0 0) 100 0 0 h 259 [some (.ref 56), some (.int x1), some (.int x2)] []) ∧ (x2 = 32 → ∃ Q1, XSpec mX11_readGoes 61 0 0 100 100 [.ref 56] h Q1 xno ∧ ∀ v h18, Q1 v h18 → v = none ∧ (XW (xrm 62 0 0) mX11_readLine (xE 100 Q X 0 0) 100 0 0 h18 259 [some (.ref 56), some (.int x1), some (.int x2)] []))) :
    XW (xrm 62 0 0) mX11_readLine (xE 100 Q X 0 0) 100 0 0 h 249 [some (.ref 56), some (.int x1), some (.int x2)] [] := by
  refine xi_iload_n (by decide +kernel : decode mX11_readLine.2.1 249 = .ok (.iload_n 2, 1)) rfl rfl (?_ : XW _ _ _ _ _ _ _ 250 _ _)
  refine xi_bipush (v := 32) (by decide +kernel : decode mX11_readLine.2.1 250 = .ok (.bipush 32, 2)) (by decide) (?_ : XW _ _ _ _ _ _ _ 252 _ _)
  refine xi_icmp_ne (by decide +kernel : decode mX11_readLine.2.1 252 = .ok (.if_icmp .ne 7, 3)) (by decide) (fun c => (?_ : XW _ _ _ _ _ _ _ 259 _ _)) (fun c => (?_ : XW _ _ _ _ _ _ _ 255 _ _))
  · replace vc := vc.1 c
    exact vc
  · replace vc := vc.2 c
    refine xi_aload_n (by decide +kernel : decode mX11_readLine.2.1 255 = .ok (.aload_n 0, 1)) rfl rfl (?_ : XW _ _ _ _ _ _ _ 256 _ _)
    obtain ⟨Q1, sp, vc⟩ := vc
    refine xi_callV (b := 0) (bs := 0) (As := []) (st := []) (by decide +kernel : decode mX11_readLine.2.1 256 = .ok (.invokevirtual 308, 3)) kX11_308 rfl rfl (by omega) rfl sp (xrm_f (by omega)) (xrm_l (by omega) (Nat.le_of_ble_eq_true rfl)) (Nat.le_of_ble_eq_true rfl) (by omega) (fun v9 h18 hq9 => ?_)
    obtain ⟨e9, vc⟩ := vc v9 h18 hq9
    subst e9
    show XW _ _ _ _ _ _ _ 259 _ []
    exact vc

set_option maxRecDepth 20000 in
theorem v_X11_readLine_259 {h : XH} {Q : Option Value → XH → Prop} {X : String → XH → Prop} (hM : xMod (xP h))  (x1 : Int32) (x2 : Int32)
    (vc : ∃ Q1, XSpec mX11_mark 3 0 0 100 100 [.ref 56, .int 59] h Q1 xno ∧ ∀ v h19, Q1 v h19 → v = none ∧ (Q (some (.int (x1 ||| x2))) h19)) :
    XW (xrm 62 0 0) mX11_readLine (xE 100 Q X 0 0) 100 0 0 h 259 [some (.ref 56), some (.int x1), some (.int x2)] [] := by
  refine xi_aload_n (by decide +kernel : decode mX11_readLine.2.1 259 = .ok (.aload_n 0, 1)) rfl rfl (?_ : XW _ _ _ _ _ _ _ 260 _ _)
  refine xi_bipush (v := 59) (by decide +kernel : decode mX11_readLine.2.1 260 = .ok (.bipush 59, 2)) (by decide) (?_ : XW _ _ _ _ _ _ _ 262 _ _)
  obtain ⟨Q1, sp, vc⟩ := vc
  refine xi_callV (b := 0) (bs := 0) (As := [.int 59]) (st := []) (by decide +kernel : decode mX11_readLine.2.1 262 = .ok (.invokevirtual 252, 3)) kX11_252 rfl rfl (by omega) rfl sp (xrm_f (by omega)) (xrm_l (by omega) (Nat.le_of_ble_eq_true rfl)) (Nat.le_of_ble_eq_true rfl) (by omega) (fun v9 h19 hq9 => ?_)
  obtain ⟨e9, vc⟩ := vc v9 h19 hq9
  subst e9
  show XW _ _ _ _ _ _ _ 265 _ []
  refine xi_iload_n (by decide +kernel : decode mX11_readLine.2.1 265 = .ok (.iload_n 1, 1)) rfl rfl (?_ : XW _ _ _ _ _ _ _ 266 _ _)
  refine xi_iload_n (by decide +kernel : decode mX11_readLine.2.1 266 = .ok (.iload_n 2, 1)) rfl rfl (?_ : XW _ _ _ _ _ _ _ 267 _ _)
  refine xi_ior (by decide +kernel : decode mX11_readLine.2.1 267 = .ok (.ior, 1)) (?_ : XW _ _ _ _ _ _ _ 268 _ _)
  exact xi_iret (by decide +kernel : decode mX11_readLine.2.1 268 = .ok (.ireturn, 1)) rfl rfl vc

set_option maxRecDepth 20000 in
theorem v_X11_board_0 {h : XH} {Q : Option Value → XH → Prop} {X : String → XH → Prop} (hM : xMod (xP h))  (ax : Int32)
    (vc : (ax < 0 → ∃ Q1, XSpec mX11_fail 1 0 0 100 100 [.ref 56, .int 1] (xSI 56 (va_up (xI h 56) 2 0) h) Q1 xno ∧ ∀ v h1, Q1 v h1 → ∃ r1 : Int32, v = some (.int r1) ∧ (Q (some (.int r1)) h1)) ∧ (¬ ax < 0 → (ax ≤ (va_up (xI h 56) 2 0 11) → ∃ Q1, XSpec mX11_begin 1 0 0 100 100 [.ref 56] (xSI 56 (va_up (va_up (va_up (va_up (va_up (va_up (xI h 56) 2 0) 11 0) 13 ax) 12 0) 18 0) 20 (-1)) (xSI 56 (va_up (va_up (va_up (va_up (va_up (xI h 56) 2 0) 11 0) 13 ax) 12 0) 18 0) (xSI 56 (va_up (va_up (va_up (va_up (xI h 56) 2 0) 11 0) 13 ax) 12 0) (xSI 56 (va_up (va_up (va_up (xI h 56) 2 0) 11 0) 13 ax) (xSI 56 (va_up (va_up (xI h 56) 2 0) 11 0) (xSI 56 (va_up (xI h 56) 2 0) h)))))) Q1 xno ∧ ∀ v h2, Q1 v h2 → v = none ∧ (∃ Q1, XSpec mX11_stepOn 2 0 0 100 100 [.ref 56] h2 Q1 xno ∧ ∀ v h3, Q1 v h3 → v = none ∧ (∃ Q1, XSpec mX11_is 12 0 0 100 100 [.ref 56, .ref (1000 + 34)] h3 Q1 xno ∧ ∀ v h4, Q1 v h4 → ∃ r4 : Int32, v = some (.int r4) ∧ ((r4 = 0 → XW (xrm 63 0 0) mX11_board (xE 100 Q X 0 0) 100 0 0 h4 92 [some (.ref 56), none, some (.int 0)] []) ∧ (¬ r4 = 0 → ∃ Q1, XSpec mX11_stepOn 2 0 0 100 100 [.ref 56] h4 Q1 xno ∧ ∀ v h5, Q1 v h5 → v = none ∧ ((xP h5 56 3 = some 59) ∧ (∃ Q1, XSpec mX11_readNumber 3 0 0 100 100 [.ref 56, .int 10, .int 100] h5 Q1 xno ∧ ∀ v h6, Q1 v h6 → ∃ r6 : Int32, v = some (.int r6) ∧ (∃ Q1, XSpec mX11_mark 3 0 0 100 100 [.ref 56, .int 59] (xSI 59 (va_up (xI h6 59) 8 r6) h6) Q1 xno ∧ ∀ v h7, Q1 v h7 → v = none ∧ (XW (xrm 63 0 0) mX11_board (xE 100 Q X 0 0) 100 0 0 h7 92 [some (.ref 56), none, some (.int 0)] []))))))))) ∧ (¬ ax ≤ (va_up (xI h 56) 2 0 11) → ∃ Q1, XSpec mX11_fail 1 0 0 100 100 [.ref 56, .int 1] (xSI 56 (va_up (xI h 56) 2 0) h) Q1 xno ∧ ∀ v h8, Q1 v h8 → ∃ r8 : Int32, v = some (.int r8) ∧ (Q (some (.int r8)) h8)))) :
    XW (xrm 63 0 0) mX11_board (xE 100 Q X 0 0) 100 0 0 h 0 [some (.ref 56), some (.int ax), none] [] := by
  refine xi_aload_n (by decide +kernel : decode mX11_board.2.1 0 = .ok (.aload_n 0, 1)) rfl rfl (?_ : XW _ _ _ _ _ _ _ 1 _ _)
  refine xi_iconst (v := 0) (by decide +kernel : decode mX11_board.2.1 1 = .ok (.iconst 0, 1)) (by decide) (?_ : XW _ _ _ _ _ _ _ 2 _ _)
  refine xi_putI (by decide +kernel : decode mX11_board.2.1 2 = .ok (.putfield 161, 3)) fX11_161 rfl (by omega) rfl rfl rfl (?_ : XW _ _ _ _ _ _ (xSI 56 (va_up (xI h 56) 2 0) h) 5 _ _)
  refine xi_iload_n (by decide +kernel : decode mX11_board.2.1 5 = .ok (.iload_n 1, 1)) rfl rfl (?_ : XW _ _ _ _ _ _ _ 6 _ _)
  refine xi_if_lt (by decide +kernel : decode mX11_board.2.1 6 = .ok (.ifCond .lt 11, 3)) (by decide) (fun c => (?_ : XW _ _ _ _ _ _ _ 17 _ _)) (fun c => (?_ : XW _ _ _ _ _ _ _ 9 _ _))
  · replace vc := vc.1 c
    refine xi_aload_n (by decide +kernel : decode mX11_board.2.1 17 = .ok (.aload_n 0, 1)) rfl rfl (?_ : XW _ _ _ _ _ _ _ 18 _ _)
    refine xi_iconst (v := 1) (by decide +kernel : decode mX11_board.2.1 18 = .ok (.iconst 1, 1)) (by decide) (?_ : XW _ _ _ _ _ _ _ 19 _ _)
    obtain ⟨Q1, sp, vc⟩ := vc
    refine xi_callV (b := 0) (bs := 0) (As := [.int 1]) (st := []) (by decide +kernel : decode mX11_board.2.1 19 = .ok (.invokevirtual 311, 3)) kX11_311 rfl rfl (by omega) rfl sp (xrm_f (by omega)) (xrm_l (by omega) (Nat.le_of_ble_eq_true rfl)) (Nat.le_of_ble_eq_true rfl) (by omega) (fun v9 h1 hq9 => ?_)
    obtain ⟨r1, e9, vc⟩ := vc v9 h1 hq9
    subst e9
    show XW _ _ _ _ _ _ _ 22 _ [.int r1]
    exact xi_iret (by decide +kernel : decode mX11_board.2.1 22 = .ok (.ireturn, 1)) rfl rfl vc
  · replace vc := vc.2 c
    refine xi_iload_n (by decide +kernel : decode mX11_board.2.1 9 = .ok (.iload_n 1, 1)) rfl rfl (?_ : XW _ _ _ _ _ _ _ 10 _ _)
    refine xi_aload_n (by decide +kernel : decode mX11_board.2.1 10 = .ok (.aload_n 0, 1)) rfl rfl (?_ : XW _ _ _ _ _ _ _ 11 _ _)
    refine xi_getI (by decide +kernel : decode mX11_board.2.1 11 = .ok (.getfield 170, 3)) fX11_170 rfl (by omega) rfl (?_ : XW _ _ _ _ _ _ _ 14 _ [.int (va_up (xI h 56) 2 0 11), .int ax])
    refine xi_icmp_le (by decide +kernel : decode mX11_board.2.1 14 = .ok (.if_icmp .le 9, 3)) (by decide) (fun c => (?_ : XW _ _ _ _ _ _ _ 23 _ _)) (fun c => (?_ : XW _ _ _ _ _ _ _ 17 _ _))
    · replace vc := vc.1 c
      refine xi_aload_n (by decide +kernel : decode mX11_board.2.1 23 = .ok (.aload_n 0, 1)) rfl rfl (?_ : XW _ _ _ _ _ _ _ 24 _ _)
      refine xi_iconst (v := 0) (by decide +kernel : decode mX11_board.2.1 24 = .ok (.iconst 0, 1)) (by decide) (?_ : XW _ _ _ _ _ _ _ 25 _ _)
      refine xi_putI (by decide +kernel : decode mX11_board.2.1 25 = .ok (.putfield 170, 3)) fX11_170 rfl (by omega) rfl rfl rfl (?_ : XW _ _ _ _ _ _ (xSI 56 (va_up (va_up (xI h 56) 2 0) 11 0) (xSI 56 (va_up (xI h 56) 2 0) h)) 28 _ _)
      refine xi_aload_n (by decide +kernel : decode mX11_board.2.1 28 = .ok (.aload_n 0, 1)) rfl rfl (?_ : XW _ _ _ _ _ _ _ 29 _ _)
      refine xi_iload_n (by decide +kernel : decode mX11_board.2.1 29 = .ok (.iload_n 1, 1)) rfl rfl (?_ : XW _ _ _ _ _ _ _ 30 _ _)
      refine xi_putI (by decide +kernel : decode mX11_board.2.1 30 = .ok (.putfield 173, 3)) fX11_173 rfl (by omega) rfl rfl rfl (?_ : XW _ _ _ _ _ _ (xSI 56 (va_up (va_up (va_up (xI h 56) 2 0) 11 0) 13 ax) (xSI 56 (va_up (va_up (xI h 56) 2 0) 11 0) (xSI 56 (va_up (xI h 56) 2 0) h))) 33 _ _)
      refine xi_aload_n (by decide +kernel : decode mX11_board.2.1 33 = .ok (.aload_n 0, 1)) rfl rfl (?_ : XW _ _ _ _ _ _ _ 34 _ _)
      refine xi_iconst (v := 0) (by decide +kernel : decode mX11_board.2.1 34 = .ok (.iconst 0, 1)) (by decide) (?_ : XW _ _ _ _ _ _ _ 35 _ _)
      refine xi_putI (by decide +kernel : decode mX11_board.2.1 35 = .ok (.putfield 176, 3)) fX11_176 rfl (by omega) rfl rfl rfl (?_ : XW _ _ _ _ _ _ (xSI 56 (va_up (va_up (va_up (va_up (xI h 56) 2 0) 11 0) 13 ax) 12 0) (xSI 56 (va_up (va_up (va_up (xI h 56) 2 0) 11 0) 13 ax) (xSI 56 (va_up (va_up (xI h 56) 2 0) 11 0) (xSI 56 (va_up (xI h 56) 2 0) h)))) 38 _ _)
      refine xi_aload_n (by decide +kernel : decode mX11_board.2.1 38 = .ok (.aload_n 0, 1)) rfl rfl (?_ : XW _ _ _ _ _ _ _ 39 _ _)
      refine xi_iconst (v := 0) (by decide +kernel : decode mX11_board.2.1 39 = .ok (.iconst 0, 1)) (by decide) (?_ : XW _ _ _ _ _ _ _ 40 _ _)
      refine xi_putI (by decide +kernel : decode mX11_board.2.1 40 = .ok (.putfield 211, 3)) fX11_211 rfl (by omega) rfl rfl rfl (?_ : XW _ _ _ _ _ _ (xSI 56 (va_up (va_up (va_up (va_up (va_up (xI h 56) 2 0) 11 0) 13 ax) 12 0) 18 0) (xSI 56 (va_up (va_up (va_up (va_up (xI h 56) 2 0) 11 0) 13 ax) 12 0) (xSI 56 (va_up (va_up (va_up (xI h 56) 2 0) 11 0) 13 ax) (xSI 56 (va_up (va_up (xI h 56) 2 0) 11 0) (xSI 56 (va_up (xI h 56) 2 0) h))))) 43 _ _)
      refine xi_aload_n (by decide +kernel : decode mX11_board.2.1 43 = .ok (.aload_n 0, 1)) rfl rfl (?_ : XW _ _ _ _ _ _ _ 44 _ _)
      refine xi_iconst (v := (-1)) (by decide +kernel : decode mX11_board.2.1 44 = .ok (.iconst (-1), 1)) (by decide) (?_ : XW _ _ _ _ _ _ _ 45 _ _)
      refine xi_putI (by decide +kernel : decode mX11_board.2.1 45 = .ok (.putfield 57, 3)) fX11_57 rfl (by omega) rfl rfl rfl (?_ : XW _ _ _ _ _ _ (xSI 56 (va_up (va_up (va_up (va_up (va_up (va_up (xI h 56) 2 0) 11 0) 13 ax) 12 0) 18 0) 20 (-1)) (xSI 56 (va_up (va_up (va_up (va_up (va_up (xI h 56) 2 0) 11 0) 13 ax) 12 0) 18 0) (xSI 56 (va_up (va_up (va_up (va_up (xI h 56) 2 0) 11 0) 13 ax) 12 0) (xSI 56 (va_up (va_up (va_up (xI h 56) 2 0) 11 0) 13 ax) (xSI 56 (va_up (va_up (xI h 56) 2 0) 11 0) (xSI 56 (va_up (xI h 56) 2 0) h)))))) 48 _ _)
      refine xi_aload_n (by decide +kernel : decode mX11_board.2.1 48 = .ok (.aload_n 0, 1)) rfl rfl (?_ : XW _ _ _ _ _ _ _ 49 _ _)
      obtain ⟨Q1, sp, vc⟩ := vc
      refine xi_callV (b := 0) (bs := 0) (As := []) (st := []) (by decide +kernel : decode mX11_board.2.1 49 = .ok (.invokevirtual 314, 3)) kX11_314 rfl rfl (by omega) rfl sp (xrm_f (by omega)) (xrm_l (by omega) (Nat.le_of_ble_eq_true rfl)) (Nat.le_of_ble_eq_true rfl) (by omega) (fun v9 h2 hq9 => ?_)
      obtain ⟨e9, vc⟩ := vc v9 h2 hq9
      subst e9
      show XW _ _ _ _ _ _ _ 52 _ []
      refine xi_aload_n (by decide +kernel : decode mX11_board.2.1 52 = .ok (.aload_n 0, 1)) rfl rfl (?_ : XW _ _ _ _ _ _ _ 53 _ _)
      obtain ⟨Q1, sp, vc⟩ := vc
      refine xi_callV (b := 0) (bs := 0) (As := []) (st := []) (by decide +kernel : decode mX11_board.2.1 53 = .ok (.invokevirtual 236, 3)) kX11_236 rfl rfl (by omega) rfl sp (xrm_f (by omega)) (xrm_l (by omega) (Nat.le_of_ble_eq_true rfl)) (Nat.le_of_ble_eq_true rfl) (by omega) (fun v9 h3 hq9 => ?_)
      obtain ⟨e9, vc⟩ := vc v9 h3 hq9
      subst e9
      show XW _ _ _ _ _ _ _ 56 _ []
      refine xi_aload_n (by decide +kernel : decode mX11_board.2.1 56 = .ok (.aload_n 0, 1)) rfl rfl (?_ : XW _ _ _ _ _ _ _ 57 _ _)
      refine xi_ldcS (j := 34) (by decide +kernel : decode mX11_board.2.1 57 = .ok (.ldc 25, 2)) rfl (by decide) (?_ : XW _ _ _ _ _ _ _ 59 _ _)
      obtain ⟨Q1, sp, vc⟩ := vc
      refine xi_callV (b := 0) (bs := 0) (As := [.ref (1000 + 34)]) (st := []) (by decide +kernel : decode mX11_board.2.1 59 = .ok (.invokevirtual 225, 3)) kX11_225 rfl rfl (by omega) rfl sp (xrm_f (by omega)) (xrm_l (by omega) (Nat.le_of_ble_eq_true rfl)) (Nat.le_of_ble_eq_true rfl) (by omega) (fun v9 h4 hq9 => ?_)
      obtain ⟨r4, e9, vc⟩ := vc v9 h4 hq9
      subst e9
      show XW _ _ _ _ _ _ _ 62 _ [.int r4]
      refine xi_if_eq (by decide +kernel : decode mX11_board.2.1 62 = .ok (.ifCond .eq 28, 3)) (by decide) (fun c => (?_ : XW _ _ _ _ _ _ _ 90 _ _)) (fun c => (?_ : XW _ _ _ _ _ _ _ 65 _ _))
      · replace vc := vc.1 c
        refine xi_iconst (v := 0) (by decide +kernel : decode mX11_board.2.1 90 = .ok (.iconst 0, 1)) (by decide) (?_ : XW _ _ _ _ _ _ _ 91 _ _)
        refine xi_istore_n (ls' := [some (.ref 56), some (.int ax), some (.int 0)]) (by decide +kernel : decode mX11_board.2.1 91 = .ok (.istore_n 2, 1)) rfl (by decide) rfl (?_ : XW _ _ _ _ _ _ _ 92 _ _)
        refine xw_drop 1 (ls' := [some (.ref 56), none, some (.int 0)]) rfl ?_
        exact vc
      · replace vc := vc.2 c
        refine xi_aload_n (by decide +kernel : decode mX11_board.2.1 65 = .ok (.aload_n 0, 1)) rfl rfl (?_ : XW _ _ _ _ _ _ _ 66 _ _)
        obtain ⟨Q1, sp, vc⟩ := vc
        refine xi_callV (b := 0) (bs := 0) (As := []) (st := []) (by decide +kernel : decode mX11_board.2.1 66 = .ok (.invokevirtual 236, 3)) kX11_236 rfl rfl (by omega) rfl sp (xrm_f (by omega)) (xrm_l (by omega) (Nat.le_of_ble_eq_true rfl)) (Nat.le_of_ble_eq_true rfl) (by omega) (fun v9 h5 hq9 => ?_)
        obtain ⟨e9, vc⟩ := vc v9 h5 hq9
        subst e9
        show XW _ _ _ _ _ _ _ 69 _ []
        refine xi_aload_n (by decide +kernel : decode mX11_board.2.1 69 = .ok (.aload_n 0, 1)) rfl rfl (?_ : XW _ _ _ _ _ _ _ 70 _ _)
        obtain ⟨s1, vc⟩ := vc
        refine xi_getR (y := 59) (by decide +kernel : decode mX11_board.2.1 70 = .ok (.getfield 32, 3)) fX11_32 rfl (by omega) rfl s1 (?_ : XW _ _ _ _ _ _ _ 73 _ _)
        refine xi_bipush (v := 8) (by decide +kernel : decode mX11_board.2.1 73 = .ok (.bipush 8, 2)) (by decide) (?_ : XW _ _ _ _ _ _ _ 75 _ _)
        refine xi_aload_n (by decide +kernel : decode mX11_board.2.1 75 = .ok (.aload_n 0, 1)) rfl rfl (?_ : XW _ _ _ _ _ _ _ 76 _ _)
        refine xi_bipush (v := 10) (by decide +kernel : decode mX11_board.2.1 76 = .ok (.bipush 10, 2)) (by decide) (?_ : XW _ _ _ _ _ _ _ 78 _ _)
        refine xi_bipush (v := 100) (by decide +kernel : decode mX11_board.2.1 78 = .ok (.bipush 100, 2)) (by decide) (?_ : XW _ _ _ _ _ _ _ 80 _ _)
        obtain ⟨Q1, sp, vc⟩ := vc
        refine xi_callV (b := 0) (bs := 0) (As := [.int 10, .int 100]) (st := [.int 8, .ref 59]) (by decide +kernel : decode mX11_board.2.1 80 = .ok (.invokevirtual 242, 3)) kX11_242 rfl rfl (by omega) rfl sp (xrm_f (by omega)) (xrm_l (by omega) (Nat.le_of_ble_eq_true rfl)) (Nat.le_of_ble_eq_true rfl) (by omega) (fun v9 h6 hq9 => ?_)
        obtain ⟨r6, e9, vc⟩ := vc v9 h6 hq9
        subst e9
        show XW _ _ _ _ _ _ _ 83 _ [.int r6, .int 8, .ref 59]
        refine xi_iast (by decide +kernel : decode mX11_board.2.1 83 = .ok (.iastore, 1)) rfl (by omega) (by unfold vp_in; decide) (?_ : XW _ _ _ _ _ _ (xSI 59 (va_up (xI h6 59) 8 r6) h6) 84 _ _)
        refine xi_aload_n (by decide +kernel : decode mX11_board.2.1 84 = .ok (.aload_n 0, 1)) rfl rfl (?_ : XW _ _ _ _ _ _ _ 85 _ _)
        refine xi_bipush (v := 59) (by decide +kernel : decode mX11_board.2.1 85 = .ok (.bipush 59, 2)) (by decide) (?_ : XW _ _ _ _ _ _ _ 87 _ _)
        obtain ⟨Q1, sp, vc⟩ := vc
        refine xi_callV (b := 0) (bs := 0) (As := [.int 59]) (st := []) (by decide +kernel : decode mX11_board.2.1 87 = .ok (.invokevirtual 252, 3)) kX11_252 rfl rfl (by omega) rfl sp (xrm_f (by omega)) (xrm_l (by omega) (Nat.le_of_ble_eq_true rfl)) (Nat.le_of_ble_eq_true rfl) (by omega) (fun v9 h7 hq9 => ?_)
        obtain ⟨e9, vc⟩ := vc v9 h7 hq9
        subst e9
        show XW _ _ _ _ _ _ _ 90 _ []
        refine xi_iconst (v := 0) (by decide +kernel : decode mX11_board.2.1 90 = .ok (.iconst 0, 1)) (by decide) (?_ : XW _ _ _ _ _ _ _ 91 _ _)
        refine xi_istore_n (ls' := [some (.ref 56), some (.int ax), some (.int 0)]) (by decide +kernel : decode mX11_board.2.1 91 = .ok (.istore_n 2, 1)) rfl (by decide) rfl (?_ : XW _ _ _ _ _ _ _ 92 _ _)
        refine xw_drop 1 (ls' := [some (.ref 56), none, some (.int 0)]) rfl ?_
        exact vc
    · replace vc := vc.2 c
      refine xi_aload_n (by decide +kernel : decode mX11_board.2.1 17 = .ok (.aload_n 0, 1)) rfl rfl (?_ : XW _ _ _ _ _ _ _ 18 _ _)
      refine xi_iconst (v := 1) (by decide +kernel : decode mX11_board.2.1 18 = .ok (.iconst 1, 1)) (by decide) (?_ : XW _ _ _ _ _ _ _ 19 _ _)
      obtain ⟨Q1, sp, vc⟩ := vc
      refine xi_callV (b := 0) (bs := 0) (As := [.int 1]) (st := []) (by decide +kernel : decode mX11_board.2.1 19 = .ok (.invokevirtual 311, 3)) kX11_311 rfl rfl (by omega) rfl sp (xrm_f (by omega)) (xrm_l (by omega) (Nat.le_of_ble_eq_true rfl)) (Nat.le_of_ble_eq_true rfl) (by omega) (fun v9 h8 hq9 => ?_)
      obtain ⟨r8, e9, vc⟩ := vc v9 h8 hq9
      subst e9
      show XW _ _ _ _ _ _ _ 22 _ [.int r8]
      exact xi_iret (by decide +kernel : decode mX11_board.2.1 22 = .ok (.ireturn, 1)) rfl rfl vc

set_option maxRecDepth 20000 in
theorem v_X11_board_92 {h : XH} {Q : Option Value → XH → Prop} {X : String → XH → Prop} (hM : xMod (xP h))  (x2 : Int32)
    (vc : (¬ (xI h 56 18) = 0 → ((xI h 56 18) = 0 → ∃ Q1, XSpec mX11_take 2 0 0 100 100 [.ref 56] h Q1 xno ∧ ∀ v h9, Q1 v h9 → v = none ∧ (Q (some (.int 0)) h9)) ∧ (¬ (xI h 56 18) = 0 → Q (some (.int (va_up (xI h 56) 20 (xI h 56 19) 18))) (xSI 65 (va_up (xI h 65) 0 ((xI h 65 0) + 1)) (xSI 56 (va_up (xI h 56) 20 (xI h 56 19)) h)))) ∧ ((xI h 56 18) = 0 → ((xI h 56 14) = 0 → ((xI h 56 18) = 0 → ∃ Q1, XSpec mX11_take 2 0 0 100 100 [.ref 56] h Q1 xno ∧ ∀ v h10, Q1 v h10 → v = none ∧ (Q (some (.int 0)) h10)) ∧ (¬ (xI h 56 18) = 0 → Q (some (.int (va_up (xI h 56) 20 (xI h 56 19) 18))) (xSI 65 (va_up (xI h 65) 0 ((xI h 65 0) + 1)) (xSI 56 (va_up (xI h 56) 20 (xI h 56 19)) h)))) ∧ (¬ (xI h 56 14) = 0 → ∃ Q1, XSpec mX11_readLine 62 0 0 100 100 [.ref 56, .int x2] h Q1 xno ∧ ∀ v h11, Q1 v h11 → ∃ r11 : Int32, v = some (.int r11) ∧ (XW (xrm 63 0 0) mX11_board (xE 100 Q X 0 0) 100 0 0 h11 92 [some (.ref 56), none, some (.int r11)] [])))) :
    XW (xrm 63 0 0) mX11_board (xE 100 Q X 0 0) 100 0 0 h 92 [some (.ref 56), none, some (.int x2)] [] := by
  refine xi_aload_n (by decide +kernel : decode mX11_board.2.1 92 = .ok (.aload_n 0, 1)) rfl rfl (?_ : XW _ _ _ _ _ _ _ 93 _ _)
  refine xi_getI (by decide +kernel : decode mX11_board.2.1 93 = .ok (.getfield 211, 3)) fX11_211 rfl (by omega) rfl (?_ : XW _ _ _ _ _ _ _ 96 _ _)
  refine xi_if_ne (by decide +kernel : decode mX11_board.2.1 96 = .ok (.ifCond .ne 19, 3)) (by decide) (fun c => (?_ : XW _ _ _ _ _ _ _ 115 _ _)) (fun c => (?_ : XW _ _ _ _ _ _ _ 99 _ _))
  · replace vc := vc.1 c
    refine xi_aload_n (by decide +kernel : decode mX11_board.2.1 115 = .ok (.aload_n 0, 1)) rfl rfl (?_ : XW _ _ _ _ _ _ _ 116 _ _)
    refine xi_getI (by decide +kernel : decode mX11_board.2.1 116 = .ok (.getfield 211, 3)) fX11_211 rfl (by omega) rfl (?_ : XW _ _ _ _ _ _ _ 119 _ _)
    refine xi_if_eq (by decide +kernel : decode mX11_board.2.1 119 = .ok (.ifCond .eq 26, 3)) (by decide) (fun c => (?_ : XW _ _ _ _ _ _ _ 145 _ _)) (fun c => (?_ : XW _ _ _ _ _ _ _ 122 _ _))
    · replace vc := vc.1 c
      refine xi_aload_n (by decide +kernel : decode mX11_board.2.1 145 = .ok (.aload_n 0, 1)) rfl rfl (?_ : XW _ _ _ _ _ _ _ 146 _ _)
      obtain ⟨Q1, sp, vc⟩ := vc
      refine xi_callV (b := 0) (bs := 0) (As := []) (st := []) (by decide +kernel : decode mX11_board.2.1 146 = .ok (.invokevirtual 320, 3)) kX11_320 rfl rfl (by omega) rfl sp (xrm_f (by omega)) (xrm_l (by omega) (Nat.le_of_ble_eq_true rfl)) (Nat.le_of_ble_eq_true rfl) (by omega) (fun v9 h9 hq9 => ?_)
      obtain ⟨e9, vc⟩ := vc v9 h9 hq9
      subst e9
      show XW _ _ _ _ _ _ _ 149 _ []
      refine xi_iconst (v := 0) (by decide +kernel : decode mX11_board.2.1 149 = .ok (.iconst 0, 1)) (by decide) (?_ : XW _ _ _ _ _ _ _ 150 _ _)
      exact xi_iret (by decide +kernel : decode mX11_board.2.1 150 = .ok (.ireturn, 1)) rfl rfl vc
    · replace vc := vc.2 c
      refine xi_aload_n (by decide +kernel : decode mX11_board.2.1 122 = .ok (.aload_n 0, 1)) rfl rfl (?_ : XW _ _ _ _ _ _ _ 123 _ _)
      refine xi_aload_n (by decide +kernel : decode mX11_board.2.1 123 = .ok (.aload_n 0, 1)) rfl rfl (?_ : XW _ _ _ _ _ _ _ 124 _ _)
      refine xi_getI (by decide +kernel : decode mX11_board.2.1 124 = .ok (.getfield 214, 3)) fX11_214 rfl (by omega) rfl (?_ : XW _ _ _ _ _ _ _ 127 _ _)
      refine xi_putI (by decide +kernel : decode mX11_board.2.1 127 = .ok (.putfield 57, 3)) fX11_57 rfl (by omega) rfl rfl rfl (?_ : XW _ _ _ _ _ _ (xSI 56 (va_up (xI h 56) 20 (xI h 56 19)) h) 130 _ _)
      refine xi_aload_n (by decide +kernel : decode mX11_board.2.1 130 = .ok (.aload_n 0, 1)) rfl rfl (?_ : XW _ _ _ _ _ _ _ 131 _ _)
      refine xi_getR (y := 65) (by decide +kernel : decode mX11_board.2.1 131 = .ok (.getfield 51, 3)) fX11_51 rfl (by omega) rfl (mp_status hM) (?_ : XW _ _ _ _ _ _ _ 134 _ _)
      refine xi_iconst (v := 0) (by decide +kernel : decode mX11_board.2.1 134 = .ok (.iconst 0, 1)) (by decide) (?_ : XW _ _ _ _ _ _ _ 135 _ _)
      refine xi_dup2 (by decide +kernel : decode mX11_board.2.1 135 = .ok (.dup2, 1)) rfl rfl (?_ : XW _ _ _ _ _ _ _ 136 _ _)
      refine xi_iald (by decide +kernel : decode mX11_board.2.1 136 = .ok (.iaload, 1)) rfl (by omega) (by unfold vp_in; decide) (?_ : XW _ _ _ _ _ _ _ 137 _ [.int (xI h 65 0), .int 0, .ref 65])
      refine xi_iconst (v := 1) (by decide +kernel : decode mX11_board.2.1 137 = .ok (.iconst 1, 1)) (by decide) (?_ : XW _ _ _ _ _ _ _ 138 _ _)
      refine xi_iadd (by decide +kernel : decode mX11_board.2.1 138 = .ok (.iadd, 1)) (?_ : XW _ _ _ _ _ _ _ 139 _ _)
      refine xi_iast (by decide +kernel : decode mX11_board.2.1 139 = .ok (.iastore, 1)) rfl (by omega) (by unfold vp_in; decide) (?_ : XW _ _ _ _ _ _ (xSI 65 (va_up (xI h 65) 0 ((xI h 65 0) + 1)) (xSI 56 (va_up (xI h 56) 20 (xI h 56 19)) h)) 140 _ _)
      refine xi_aload_n (by decide +kernel : decode mX11_board.2.1 140 = .ok (.aload_n 0, 1)) rfl rfl (?_ : XW _ _ _ _ _ _ _ 141 _ _)
      refine xi_getI (by decide +kernel : decode mX11_board.2.1 141 = .ok (.getfield 211, 3)) fX11_211 rfl (by omega) rfl (?_ : XW _ _ _ _ _ _ _ 144 _ [.int (va_up (xI h 56) 20 (xI h 56 19) 18)])
      exact xi_iret (by decide +kernel : decode mX11_board.2.1 144 = .ok (.ireturn, 1)) rfl rfl vc
  · replace vc := vc.2 c
    refine xi_aload_n (by decide +kernel : decode mX11_board.2.1 99 = .ok (.aload_n 0, 1)) rfl rfl (?_ : XW _ _ _ _ _ _ _ 100 _ _)
    refine xi_getI (by decide +kernel : decode mX11_board.2.1 100 = .ok (.getfield 185, 3)) fX11_185 rfl (by omega) rfl (?_ : XW _ _ _ _ _ _ _ 103 _ _)
    refine xi_if_eq (by decide +kernel : decode mX11_board.2.1 103 = .ok (.ifCond .eq 12, 3)) (by decide) (fun c => (?_ : XW _ _ _ _ _ _ _ 115 _ _)) (fun c => (?_ : XW _ _ _ _ _ _ _ 106 _ _))
    · replace vc := vc.1 c
      refine xi_aload_n (by decide +kernel : decode mX11_board.2.1 115 = .ok (.aload_n 0, 1)) rfl rfl (?_ : XW _ _ _ _ _ _ _ 116 _ _)
      refine xi_getI (by decide +kernel : decode mX11_board.2.1 116 = .ok (.getfield 211, 3)) fX11_211 rfl (by omega) rfl (?_ : XW _ _ _ _ _ _ _ 119 _ _)
      refine xi_if_eq (by decide +kernel : decode mX11_board.2.1 119 = .ok (.ifCond .eq 26, 3)) (by decide) (fun c => (?_ : XW _ _ _ _ _ _ _ 145 _ _)) (fun c => (?_ : XW _ _ _ _ _ _ _ 122 _ _))
      · replace vc := vc.1 c
        refine xi_aload_n (by decide +kernel : decode mX11_board.2.1 145 = .ok (.aload_n 0, 1)) rfl rfl (?_ : XW _ _ _ _ _ _ _ 146 _ _)
        obtain ⟨Q1, sp, vc⟩ := vc
        refine xi_callV (b := 0) (bs := 0) (As := []) (st := []) (by decide +kernel : decode mX11_board.2.1 146 = .ok (.invokevirtual 320, 3)) kX11_320 rfl rfl (by omega) rfl sp (xrm_f (by omega)) (xrm_l (by omega) (Nat.le_of_ble_eq_true rfl)) (Nat.le_of_ble_eq_true rfl) (by omega) (fun v9 h10 hq9 => ?_)
        obtain ⟨e9, vc⟩ := vc v9 h10 hq9
        subst e9
        show XW _ _ _ _ _ _ _ 149 _ []
        refine xi_iconst (v := 0) (by decide +kernel : decode mX11_board.2.1 149 = .ok (.iconst 0, 1)) (by decide) (?_ : XW _ _ _ _ _ _ _ 150 _ _)
        exact xi_iret (by decide +kernel : decode mX11_board.2.1 150 = .ok (.ireturn, 1)) rfl rfl vc
      · replace vc := vc.2 c
        refine xi_aload_n (by decide +kernel : decode mX11_board.2.1 122 = .ok (.aload_n 0, 1)) rfl rfl (?_ : XW _ _ _ _ _ _ _ 123 _ _)
        refine xi_aload_n (by decide +kernel : decode mX11_board.2.1 123 = .ok (.aload_n 0, 1)) rfl rfl (?_ : XW _ _ _ _ _ _ _ 124 _ _)
        refine xi_getI (by decide +kernel : decode mX11_board.2.1 124 = .ok (.getfield 214, 3)) fX11_214 rfl (by omega) rfl (?_ : XW _ _ _ _ _ _ _ 127 _ _)
        refine xi_putI (by decide +kernel : decode mX11_board.2.1 127 = .ok (.putfield 57, 3)) fX11_57 rfl (by omega) rfl rfl rfl (?_ : XW _ _ _ _ _ _ (xSI 56 (va_up (xI h 56) 20 (xI h 56 19)) h) 130 _ _)
        refine xi_aload_n (by decide +kernel : decode mX11_board.2.1 130 = .ok (.aload_n 0, 1)) rfl rfl (?_ : XW _ _ _ _ _ _ _ 131 _ _)
        refine xi_getR (y := 65) (by decide +kernel : decode mX11_board.2.1 131 = .ok (.getfield 51, 3)) fX11_51 rfl (by omega) rfl (mp_status hM) (?_ : XW _ _ _ _ _ _ _ 134 _ _)
        refine xi_iconst (v := 0) (by decide +kernel : decode mX11_board.2.1 134 = .ok (.iconst 0, 1)) (by decide) (?_ : XW _ _ _ _ _ _ _ 135 _ _)
        refine xi_dup2 (by decide +kernel : decode mX11_board.2.1 135 = .ok (.dup2, 1)) rfl rfl (?_ : XW _ _ _ _ _ _ _ 136 _ _)
        refine xi_iald (by decide +kernel : decode mX11_board.2.1 136 = .ok (.iaload, 1)) rfl (by omega) (by unfold vp_in; decide) (?_ : XW _ _ _ _ _ _ _ 137 _ [.int (xI h 65 0), .int 0, .ref 65])
        refine xi_iconst (v := 1) (by decide +kernel : decode mX11_board.2.1 137 = .ok (.iconst 1, 1)) (by decide) (?_ : XW _ _ _ _ _ _ _ 138 _ _)
        refine xi_iadd (by decide +kernel : decode mX11_board.2.1 138 = .ok (.iadd, 1)) (?_ : XW _ _ _ _ _ _ _ 139 _ _)
        refine xi_iast (by decide +kernel : decode mX11_board.2.1 139 = .ok (.iastore, 1)) rfl (by omega) (by unfold vp_in; decide) (?_ : XW _ _ _ _ _ _ (xSI 65 (va_up (xI h 65) 0 ((xI h 65 0) + 1)) (xSI 56 (va_up (xI h 56) 20 (xI h 56 19)) h)) 140 _ _)
        refine xi_aload_n (by decide +kernel : decode mX11_board.2.1 140 = .ok (.aload_n 0, 1)) rfl rfl (?_ : XW _ _ _ _ _ _ _ 141 _ _)
        refine xi_getI (by decide +kernel : decode mX11_board.2.1 141 = .ok (.getfield 211, 3)) fX11_211 rfl (by omega) rfl (?_ : XW _ _ _ _ _ _ _ 144 _ [.int (va_up (xI h 56) 20 (xI h 56 19) 18)])
        exact xi_iret (by decide +kernel : decode mX11_board.2.1 144 = .ok (.ireturn, 1)) rfl rfl vc
    · replace vc := vc.2 c
      refine xi_aload_n (by decide +kernel : decode mX11_board.2.1 106 = .ok (.aload_n 0, 1)) rfl rfl (?_ : XW _ _ _ _ _ _ _ 107 _ _)
      refine xi_iload_n (by decide +kernel : decode mX11_board.2.1 107 = .ok (.iload_n 2, 1)) rfl rfl (?_ : XW _ _ _ _ _ _ _ 108 _ _)
      obtain ⟨Q1, sp, vc⟩ := vc
      refine xi_callV (b := 0) (bs := 0) (As := [.int x2]) (st := []) (by decide +kernel : decode mX11_board.2.1 108 = .ok (.invokevirtual 317, 3)) kX11_317 rfl rfl (by omega) rfl sp (xrm_f (by omega)) (xrm_l (by omega) (Nat.le_of_ble_eq_true rfl)) (Nat.le_of_ble_eq_true rfl) (by omega) (fun v9 h11 hq9 => ?_)
      obtain ⟨r11, e9, vc⟩ := vc v9 h11 hq9
      subst e9
      show XW _ _ _ _ _ _ _ 111 _ [.int r11]
      refine xi_istore_n (ls' := [some (.ref 56), none, some (.int r11)]) (by decide +kernel : decode mX11_board.2.1 111 = .ok (.istore_n 2, 1)) rfl (by decide) rfl (?_ : XW _ _ _ _ _ _ _ 112 _ _)
      refine xi_goto (by decide +kernel : decode mX11_board.2.1 112 = .ok (.goto (-20), 3)) (by decide) (?_ : XW _ _ _ _ _ _ _ 92 _ _)
      exact vc

