/-! NOTES: the walks of both -/
set_option maxRecDepth 20000 in
theorem v_X2_isAsked_0 {h : XH} {Q : Option Value → XH → Prop} {X : String → XH → Prop} (r : Nat) (hbp : BP r h)  (i : Int32)
    (vc : ∃ Q1, XSpec mX7_noteOf 1 0 0 100 100 [.ref 29, .int i] h Q1 xno ∧ ∀ v h1, Q1 v h1 → ∃ r1 : Int32, v = some (.int r1) ∧ ((r1 = (-1) → Q (some (.int 0)) h1) ∧ (¬ r1 = (-1) → (i = 0 → Q (some (.int 1)) h1) ∧ (¬ i = 0 → ∃ Q1, XSpec mX7_noteOf 1 0 0 100 100 [.ref 29, .int (i - 1)] h1 Q1 xno ∧ ∀ v h2, Q1 v h2 → ∃ r2 : Int32, v = some (.int r2) ∧ ((r2 = (-1) → Q (some (.int 0)) h2) ∧ (¬ r2 = (-1) → Q (some (.int 1)) h2)))))) :
    XW (xrm 2 0 0) mX2_isAsked (xE 100 Q X 0 0) 100 0 0 h 0 [some (.ref 29), some (.int i)] [] := by
  obtain ⟨hb, hr, hnr, ha21, ha25, hu29, hu34, hw, hnt, hwr⟩ := hbp
  refine xi_aload_n (by decide +kernel : decode mX2_isAsked.2.1 0 = .ok (.aload_n 0, 1)) rfl rfl (?_ : XW _ _ _ _ _ _ _ 1 _ _)
  refine xi_iload_n (by decide +kernel : decode mX2_isAsked.2.1 1 = .ok (.iload_n 1, 1)) rfl rfl (?_ : XW _ _ _ _ _ _ _ 2 _ _)
  obtain ⟨Q1, sp, vc⟩ := vc
  refine xi_callV (b := 0) (bs := 0) (As := [.int i]) (st := []) (by decide +kernel : decode mX2_isAsked.2.1 2 = .ok (.invokevirtual 21, 3)) kX2_21 rfl rfl (by omega) rfl sp (by decide) (by decide) (Nat.le_of_ble_eq_true rfl) (by omega) (fun v9 h1 hq9 => ?_)
  obtain ⟨r1, e9, vc⟩ := vc v9 h1 hq9
  subst e9
  show XW _ _ _ _ _ _ _ 5 _ [.int r1]
  refine xi_iconst (v := (-1)) (by decide +kernel : decode mX2_isAsked.2.1 5 = .ok (.iconst (-1), 1)) (by decide) (?_ : XW _ _ _ _ _ _ _ 6 _ _)
  refine xi_icmp_eq (by decide +kernel : decode mX2_isAsked.2.1 6 = .ok (.if_icmp .eq 22, 3)) (by decide) (fun c => (?_ : XW _ _ _ _ _ _ _ 28 _ _)) (fun c => (?_ : XW _ _ _ _ _ _ _ 9 _ _))
  · replace vc := vc.1 c
    refine xi_iconst (v := 0) (by decide +kernel : decode mX2_isAsked.2.1 28 = .ok (.iconst 0, 1)) (by decide) (?_ : XW _ _ _ _ _ _ _ 29 _ _)
    exact xi_iret (by decide +kernel : decode mX2_isAsked.2.1 29 = .ok (.ireturn, 1)) rfl rfl vc
  · replace vc := vc.2 c
    refine xi_iload_n (by decide +kernel : decode mX2_isAsked.2.1 9 = .ok (.iload_n 1, 1)) rfl rfl (?_ : XW _ _ _ _ _ _ _ 10 _ _)
    refine xi_if_eq (by decide +kernel : decode mX2_isAsked.2.1 10 = .ok (.ifCond .eq 14, 3)) (by decide) (fun c => (?_ : XW _ _ _ _ _ _ _ 24 _ _)) (fun c => (?_ : XW _ _ _ _ _ _ _ 13 _ _))
    · replace vc := vc.1 c
      refine xi_iconst (v := 1) (by decide +kernel : decode mX2_isAsked.2.1 24 = .ok (.iconst 1, 1)) (by decide) (?_ : XW _ _ _ _ _ _ _ 25 _ _)
      refine xi_goto (by decide +kernel : decode mX2_isAsked.2.1 25 = .ok (.goto 4, 3)) (by decide) (?_ : XW _ _ _ _ _ _ _ 29 _ _)
      exact xi_iret (by decide +kernel : decode mX2_isAsked.2.1 29 = .ok (.ireturn, 1)) rfl rfl vc
    · replace vc := vc.2 c
      refine xi_aload_n (by decide +kernel : decode mX2_isAsked.2.1 13 = .ok (.aload_n 0, 1)) rfl rfl (?_ : XW _ _ _ _ _ _ _ 14 _ _)
      refine xi_iload_n (by decide +kernel : decode mX2_isAsked.2.1 14 = .ok (.iload_n 1, 1)) rfl rfl (?_ : XW _ _ _ _ _ _ _ 15 _ _)
      refine xi_iconst (v := 1) (by decide +kernel : decode mX2_isAsked.2.1 15 = .ok (.iconst 1, 1)) (by decide) (?_ : XW _ _ _ _ _ _ _ 16 _ _)
      refine xi_isub (by decide +kernel : decode mX2_isAsked.2.1 16 = .ok (.isub, 1)) (?_ : XW _ _ _ _ _ _ _ 17 _ _)
      obtain ⟨Q1, sp, vc⟩ := vc
      refine xi_callV (b := 0) (bs := 0) (As := [.int (i - 1)]) (st := []) (by decide +kernel : decode mX2_isAsked.2.1 17 = .ok (.invokevirtual 21, 3)) kX2_21 rfl rfl (by omega) rfl sp (by decide) (by decide) (Nat.le_of_ble_eq_true rfl) (by omega) (fun v9 h2 hq9 => ?_)
      obtain ⟨r2, e9, vc⟩ := vc v9 h2 hq9
      subst e9
      show XW _ _ _ _ _ _ _ 20 _ [.int r2]
      refine xi_iconst (v := (-1)) (by decide +kernel : decode mX2_isAsked.2.1 20 = .ok (.iconst (-1), 1)) (by decide) (?_ : XW _ _ _ _ _ _ _ 21 _ _)
      refine xi_icmp_eq (by decide +kernel : decode mX2_isAsked.2.1 21 = .ok (.if_icmp .eq 7, 3)) (by decide) (fun c => (?_ : XW _ _ _ _ _ _ _ 28 _ _)) (fun c => (?_ : XW _ _ _ _ _ _ _ 24 _ _))
      · replace vc := vc.1 c
        refine xi_iconst (v := 0) (by decide +kernel : decode mX2_isAsked.2.1 28 = .ok (.iconst 0, 1)) (by decide) (?_ : XW _ _ _ _ _ _ _ 29 _ _)
        exact xi_iret (by decide +kernel : decode mX2_isAsked.2.1 29 = .ok (.ireturn, 1)) rfl rfl vc
      · replace vc := vc.2 c
        refine xi_iconst (v := 1) (by decide +kernel : decode mX2_isAsked.2.1 24 = .ok (.iconst 1, 1)) (by decide) (?_ : XW _ _ _ _ _ _ _ 25 _ _)
        refine xi_goto (by decide +kernel : decode mX2_isAsked.2.1 25 = .ok (.goto 4, 3)) (by decide) (?_ : XW _ _ _ _ _ _ _ 29 _ _)
        exact xi_iret (by decide +kernel : decode mX2_isAsked.2.1 29 = .ok (.ireturn, 1)) rfl rfl vc

set_option maxRecDepth 20000 in
theorem v_X2_canCome_0 {h : XH} {Q : Option Value → XH → Prop} {X : String → XH → Prop} (r : Nat) (hbp : BP r h)  (i : Int32) (l : Int32)
    (vc : (¬ i = 0 → ∃ Q1, XSpec mX7_noteOf 1 0 0 100 100 [.ref 29, .int (i - 1)] h Q1 xno ∧ ∀ v h1, Q1 v h1 → ∃ r1 : Int32, v = some (.int r1) ∧ (XW (xrm 2 0 0) mX2_canCome (xE 100 Q X 0 0) 100 0 0 h1 20 [some (.ref 29), some (.ref r), some (.ref 21), some (.int i), some (.int l), some (.int r1), some (.int 1)] [])) ∧ (i = 0 → XW (xrm 2 0 0) mX2_canCome (xE 100 Q X 0 0) 100 0 0 h 20 [some (.ref 29), some (.ref r), some (.ref 21), some (.int i), some (.int l), some (.int 0), some (.int 1)] [])) :
    XW (xrm 2 0 0) mX2_canCome (xE 100 Q X 0 0) 100 0 0 h 0 [some (.ref 29), some (.ref r), some (.ref 21), some (.int i), some (.int l), none, none] [] := by
  obtain ⟨hb, hr, hnr, ha21, ha25, hu29, hu34, hw, hnt, hwr⟩ := hbp
  refine xi_iload_n (by decide +kernel : decode mX2_canCome.2.1 0 = .ok (.iload_n 3, 1)) rfl rfl (?_ : XW _ _ _ _ _ _ _ 1 _ _)
  refine xi_if_ne (by decide +kernel : decode mX2_canCome.2.1 1 = .ok (.ifCond .ne 7, 3)) (by decide) (fun c => (?_ : XW _ _ _ _ _ _ _ 8 _ _)) (fun c => (?_ : XW _ _ _ _ _ _ _ 4 _ _))
  · replace vc := vc.1 c
    refine xi_aload_n (by decide +kernel : decode mX2_canCome.2.1 8 = .ok (.aload_n 0, 1)) rfl rfl (?_ : XW _ _ _ _ _ _ _ 9 _ _)
    refine xi_iload_n (by decide +kernel : decode mX2_canCome.2.1 9 = .ok (.iload_n 3, 1)) rfl rfl (?_ : XW _ _ _ _ _ _ _ 10 _ _)
    refine xi_iconst (v := 1) (by decide +kernel : decode mX2_canCome.2.1 10 = .ok (.iconst 1, 1)) (by decide) (?_ : XW _ _ _ _ _ _ _ 11 _ _)
    refine xi_isub (by decide +kernel : decode mX2_canCome.2.1 11 = .ok (.isub, 1)) (?_ : XW _ _ _ _ _ _ _ 12 _ _)
    obtain ⟨Q1, sp, vc⟩ := vc
    refine xi_callV (b := 0) (bs := 0) (As := [.int (i - 1)]) (st := []) (by decide +kernel : decode mX2_canCome.2.1 12 = .ok (.invokevirtual 21, 3)) kX2_21 rfl rfl (by omega) rfl sp (by decide) (by decide) (Nat.le_of_ble_eq_true rfl) (by omega) (fun v9 h1 hq9 => ?_)
    obtain ⟨r1, e9, vc⟩ := vc v9 h1 hq9
    subst e9
    show XW _ _ _ _ _ _ _ 15 _ [.int r1]
    refine xi_istore (ls' := [some (.ref 29), some (.ref r), some (.ref 21), some (.int i), some (.int l), some (.int r1), none]) (by decide +kernel : decode mX2_canCome.2.1 15 = .ok (.istore 5, 2)) (by decide) rfl (?_ : XW _ _ _ _ _ _ _ 17 _ _)
    refine xi_iconst (v := 1) (by decide +kernel : decode mX2_canCome.2.1 17 = .ok (.iconst 1, 1)) (by decide) (?_ : XW _ _ _ _ _ _ _ 18 _ _)
    refine xi_istore (ls' := [some (.ref 29), some (.ref r), some (.ref 21), some (.int i), some (.int l), some (.int r1), some (.int 1)]) (by decide +kernel : decode mX2_canCome.2.1 18 = .ok (.istore 6, 2)) (by decide) rfl (?_ : XW _ _ _ _ _ _ _ 20 _ _)
    exact vc
  · replace vc := vc.2 c
    refine xi_iconst (v := 0) (by decide +kernel : decode mX2_canCome.2.1 4 = .ok (.iconst 0, 1)) (by decide) (?_ : XW _ _ _ _ _ _ _ 5 _ _)
    refine xi_goto (by decide +kernel : decode mX2_canCome.2.1 5 = .ok (.goto 10, 3)) (by decide) (?_ : XW _ _ _ _ _ _ _ 15 _ _)
    refine xi_istore (ls' := [some (.ref 29), some (.ref r), some (.ref 21), some (.int i), some (.int l), some (.int 0), none]) (by decide +kernel : decode mX2_canCome.2.1 15 = .ok (.istore 5, 2)) (by decide) rfl (?_ : XW _ _ _ _ _ _ _ 17 _ _)
    refine xi_iconst (v := 1) (by decide +kernel : decode mX2_canCome.2.1 17 = .ok (.iconst 1, 1)) (by decide) (?_ : XW _ _ _ _ _ _ _ 18 _ _)
    refine xi_istore (ls' := [some (.ref 29), some (.ref r), some (.ref 21), some (.int i), some (.int l), some (.int 0), some (.int 1)]) (by decide +kernel : decode mX2_canCome.2.1 18 = .ok (.istore 6, 2)) (by decide) rfl (?_ : XW _ _ _ _ _ _ _ 20 _ _)
    exact vc

set_option maxRecDepth 20000 in
theorem v_X2_canCome_20 {h : XH} {Q : Option Value → XH → Prop} {X : String → XH → Prop} (r : Nat) (hbp : BP r h)  (x3 : Int32) (x4 : Int32) (x5 : Int32) (x6 : Int32)
    (vc : (6 < x6 → Q (some (.int 0)) h) ∧ (¬ 6 < x6 → ∃ Q1, XSpec mX5_oddsOf 1 0 0 100 100 [.ref r, .int x6] h Q1 xno ∧ ∀ v h2, Q1 v h2 → ∃ r2 : Int32, v = some (.int r2) ∧ ((r2 ≤ 0 → XW (xrm 2 0 0) mX2_canCome (xE 100 Q X 0 0) 100 0 0 h2 20 [some (.ref 29), some (.ref r), some (.ref 21), some (.int x3), some (.int x4), some (.int x5), some (.int (x6 + 1))] []) ∧ (¬ r2 ≤ 0 → ∃ Q1, XSpec mX3_to 1 0 0 100 100 [.ref 21, .int x5, .int (x6 - x4)] h2 Q1 xno ∧ ∀ v h3, Q1 v h3 → ∃ r3 : Int32, v = some (.int r3) ∧ (∃ Q1, XSpec mX7_noteOf 1 0 0 100 100 [.ref 29, .int x3] h3 Q1 xno ∧ ∀ v h4, Q1 v h4 → ∃ r4 : Int32, v = some (.int r4) ∧ ((¬ r3 = r4 → XW (xrm 2 0 0) mX2_canCome (xE 100 Q X 0 0) 100 0 0 h4 20 [some (.ref 29), some (.ref r), some (.ref 21), some (.int x3), some (.int x4), some (.int x5), some (.int (x6 + 1))] []) ∧ (r3 = r4 → Q (some (.int 1)) h4))))))) :
    XW (xrm 2 0 0) mX2_canCome (xE 100 Q X 0 0) 100 0 0 h 20 [some (.ref 29), some (.ref r), some (.ref 21), some (.int x3), some (.int x4), some (.int x5), some (.int x6)] [] := by
  obtain ⟨hb, hr, hnr, ha21, ha25, hu29, hu34, hw, hnt, hwr⟩ := hbp
  refine xi_iload (by decide +kernel : decode mX2_canCome.2.1 20 = .ok (.iload 6, 2)) rfl (?_ : XW _ _ _ _ _ _ _ 22 _ _)
  refine xi_bipush (v := 6) (by decide +kernel : decode mX2_canCome.2.1 22 = .ok (.bipush 6, 2)) (by decide) (?_ : XW _ _ _ _ _ _ _ 24 _ _)
  refine xi_icmp_gt (by decide +kernel : decode mX2_canCome.2.1 24 = .ok (.if_icmp .gt 39, 3)) (by decide) (fun c => (?_ : XW _ _ _ _ _ _ _ 63 _ _)) (fun c => (?_ : XW _ _ _ _ _ _ _ 27 _ _))
  · replace vc := vc.1 c
    refine xi_iconst (v := 0) (by decide +kernel : decode mX2_canCome.2.1 63 = .ok (.iconst 0, 1)) (by decide) (?_ : XW _ _ _ _ _ _ _ 64 _ _)
    exact xi_iret (by decide +kernel : decode mX2_canCome.2.1 64 = .ok (.ireturn, 1)) rfl rfl vc
  · replace vc := vc.2 c
    refine xi_aload_n (by decide +kernel : decode mX2_canCome.2.1 27 = .ok (.aload_n 1, 1)) rfl rfl (?_ : XW _ _ _ _ _ _ _ 28 _ _)
    refine xi_iload (by decide +kernel : decode mX2_canCome.2.1 28 = .ok (.iload 6, 2)) rfl (?_ : XW _ _ _ _ _ _ _ 30 _ _)
    obtain ⟨Q1, sp, vc⟩ := vc
    refine xi_callV (b := 0) (bs := 0) (As := [.int x6]) (st := []) (by decide +kernel : decode mX2_canCome.2.1 30 = .ok (.invokevirtual 27, 3)) kX2_27 rfl (xRul_s0 hr) (by omega) rfl sp (by decide) (by decide) (Nat.le_of_ble_eq_true rfl) (by omega) (fun v9 h2 hq9 => ?_)
    obtain ⟨r2, e9, vc⟩ := vc v9 h2 hq9
    subst e9
    show XW _ _ _ _ _ _ _ 33 _ [.int r2]
    refine xi_if_le (by decide +kernel : decode mX2_canCome.2.1 33 = .ok (.ifCond .le 24, 3)) (by decide) (fun c => (?_ : XW _ _ _ _ _ _ _ 57 _ _)) (fun c => (?_ : XW _ _ _ _ _ _ _ 36 _ _))
    · replace vc := vc.1 c
      refine xi_iinc (v := x6 + 1) (ls' := [some (.ref 29), some (.ref r), some (.ref 21), some (.int x3), some (.int x4), some (.int x5), some (.int (x6 + 1))]) (by decide +kernel : decode mX2_canCome.2.1 57 = .ok (.iinc 6 1, 3)) rfl rfl (by decide) rfl (?_ : XW _ _ _ _ _ _ _ 60 _ _)
      refine xi_goto (by decide +kernel : decode mX2_canCome.2.1 60 = .ok (.goto (-40), 3)) (by decide) (?_ : XW _ _ _ _ _ _ _ 20 _ _)
      exact vc
    · replace vc := vc.2 c
      refine xi_aload_n (by decide +kernel : decode mX2_canCome.2.1 36 = .ok (.aload_n 2, 1)) rfl rfl (?_ : XW _ _ _ _ _ _ _ 37 _ _)
      refine xi_iload (by decide +kernel : decode mX2_canCome.2.1 37 = .ok (.iload 5, 2)) rfl (?_ : XW _ _ _ _ _ _ _ 39 _ _)
      refine xi_iload (by decide +kernel : decode mX2_canCome.2.1 39 = .ok (.iload 6, 2)) rfl (?_ : XW _ _ _ _ _ _ _ 41 _ _)
      refine xi_iload (by decide +kernel : decode mX2_canCome.2.1 41 = .ok (.iload 4, 2)) rfl (?_ : XW _ _ _ _ _ _ _ 43 _ _)
      refine xi_isub (by decide +kernel : decode mX2_canCome.2.1 43 = .ok (.isub, 1)) (?_ : XW _ _ _ _ _ _ _ 44 _ _)
      obtain ⟨Q1, sp, vc⟩ := vc
      refine xi_callV (b := 0) (bs := 0) (As := [.int x5, .int (x6 - x4)]) (st := []) (by decide +kernel : decode mX2_canCome.2.1 44 = .ok (.invokevirtual 32, 3)) kX2_32 rfl rfl (by omega) rfl sp (by decide) (by decide) (Nat.le_of_ble_eq_true rfl) (by omega) (fun v9 h3 hq9 => ?_)
      obtain ⟨r3, e9, vc⟩ := vc v9 h3 hq9
      subst e9
      show XW _ _ _ _ _ _ _ 47 _ [.int r3]
      refine xi_aload_n (by decide +kernel : decode mX2_canCome.2.1 47 = .ok (.aload_n 0, 1)) rfl rfl (?_ : XW _ _ _ _ _ _ _ 48 _ _)
      refine xi_iload_n (by decide +kernel : decode mX2_canCome.2.1 48 = .ok (.iload_n 3, 1)) rfl rfl (?_ : XW _ _ _ _ _ _ _ 49 _ _)
      obtain ⟨Q1, sp, vc⟩ := vc
      refine xi_callV (b := 0) (bs := 0) (As := [.int x3]) (st := [.int r3]) (by decide +kernel : decode mX2_canCome.2.1 49 = .ok (.invokevirtual 21, 3)) kX2_21 rfl rfl (by omega) rfl sp (by decide) (by decide) (Nat.le_of_ble_eq_true rfl) (by omega) (fun v9 h4 hq9 => ?_)
      obtain ⟨r4, e9, vc⟩ := vc v9 h4 hq9
      subst e9
      show XW _ _ _ _ _ _ _ 52 _ [.int r4, .int r3]
      refine xi_icmp_ne (by decide +kernel : decode mX2_canCome.2.1 52 = .ok (.if_icmp .ne 5, 3)) (by decide) (fun c => (?_ : XW _ _ _ _ _ _ _ 57 _ _)) (fun c => (?_ : XW _ _ _ _ _ _ _ 55 _ _))
      · replace vc := vc.1 c
        refine xi_iinc (v := x6 + 1) (ls' := [some (.ref 29), some (.ref r), some (.ref 21), some (.int x3), some (.int x4), some (.int x5), some (.int (x6 + 1))]) (by decide +kernel : decode mX2_canCome.2.1 57 = .ok (.iinc 6 1, 3)) rfl rfl (by decide) rfl (?_ : XW _ _ _ _ _ _ _ 60 _ _)
        refine xi_goto (by decide +kernel : decode mX2_canCome.2.1 60 = .ok (.goto (-40), 3)) (by decide) (?_ : XW _ _ _ _ _ _ _ 20 _ _)
        exact vc
      · replace vc := vc.2 c
        refine xi_iconst (v := 1) (by decide +kernel : decode mX2_canCome.2.1 55 = .ok (.iconst 1, 1)) (by decide) (?_ : XW _ _ _ _ _ _ _ 56 _ _)
        exact xi_iret (by decide +kernel : decode mX2_canCome.2.1 56 = .ok (.ireturn, 1)) rfl rfl vc

set_option maxRecDepth 20000 in
theorem v_X2_firstThatCannotBe_0 {h : XH} {Q : Option Value → XH → Prop} {X : String → XH → Prop} (r : Nat) (hbp : BP r h) 
    (vc : XW (xrm 3 0 0) mX2_firstThatCannotBe (xE 100 Q X 0 0) 100 0 0 h 3 [none, some (.ref 29), some (.ref r), some (.ref 21), some (.int 0)] []) :
    XW (xrm 3 0 0) mX2_firstThatCannotBe (xE 100 Q X 0 0) 100 0 0 h 0 [some (.ref 52), some (.ref 29), some (.ref r), some (.ref 21), none] [] := by
  obtain ⟨hb, hr, hnr, ha21, ha25, hu29, hu34, hw, hnt, hwr⟩ := hbp
  refine xi_iconst (v := 0) (by decide +kernel : decode mX2_firstThatCannotBe.2.1 0 = .ok (.iconst 0, 1)) (by decide) (?_ : XW _ _ _ _ _ _ _ 1 _ _)
  refine xi_istore (ls' := [some (.ref 52), some (.ref 29), some (.ref r), some (.ref 21), some (.int 0)]) (by decide +kernel : decode mX2_firstThatCannotBe.2.1 1 = .ok (.istore 4, 2)) (by decide) rfl (?_ : XW _ _ _ _ _ _ _ 3 _ _)
  refine xw_drop 0 (ls' := [none, some (.ref 29), some (.ref r), some (.ref 21), some (.int 0)]) rfl ?_
  exact vc

set_option maxRecDepth 20000 in
theorem v_X2_firstThatCannotBe_3 {h : XH} {Q : Option Value → XH → Prop} {X : String → XH → Prop} (r : Nat) (hbp : BP r h)  (x4 : Int32)
    (vc : ((xI h 29 2) ≤ x4 → Q (some (.int (-1))) h) ∧ (¬ (xI h 29 2) ≤ x4 → ∃ Q1, XSpec mX2_isAsked 2 0 0 100 100 [.ref 29, .int x4] h Q1 xno ∧ ∀ v h1, Q1 v h1 → ∃ r1 : Int32, v = some (.int r1) ∧ ((r1 = 0 → XW (xrm 3 0 0) mX2_firstThatCannotBe (xE 100 Q X 0 0) 100 0 0 h1 3 [none, some (.ref 29), some (.ref r), some (.ref 21), some (.int (x4 + 1))] []) ∧ (¬ r1 = 0 → ∃ Q1, XSpec mX2_canCome 2 0 0 100 100 [.ref 29, .ref r, .ref 21, .int x4, .int 0] h1 Q1 xno ∧ ∀ v h2, Q1 v h2 → ∃ r2 : Int32, v = some (.int r2) ∧ ((¬ r2 = 0 → XW (xrm 3 0 0) mX2_firstThatCannotBe (xE 100 Q X 0 0) 100 0 0 h2 3 [none, some (.ref 29), some (.ref r), some (.ref 21), some (.int (x4 + 1))] []) ∧ (r2 = 0 → Q (some (.int x4)) h2)))))) :
    XW (xrm 3 0 0) mX2_firstThatCannotBe (xE 100 Q X 0 0) 100 0 0 h 3 [none, some (.ref 29), some (.ref r), some (.ref 21), some (.int x4)] [] := by
  obtain ⟨hb, hr, hnr, ha21, ha25, hu29, hu34, hw, hnt, hwr⟩ := hbp
  refine xi_iload (by decide +kernel : decode mX2_firstThatCannotBe.2.1 3 = .ok (.iload 4, 2)) rfl (?_ : XW _ _ _ _ _ _ _ 5 _ _)
  refine xi_aload_n (by decide +kernel : decode mX2_firstThatCannotBe.2.1 5 = .ok (.aload_n 1, 1)) rfl rfl (?_ : XW _ _ _ _ _ _ _ 6 _ _)
  refine xi_getI (by decide +kernel : decode mX2_firstThatCannotBe.2.1 6 = .ok (.getfield 38, 3)) fX2_38 rfl (by omega) rfl (?_ : XW _ _ _ _ _ _ _ 9 _ _)
  refine xi_icmp_ge (by decide +kernel : decode mX2_firstThatCannotBe.2.1 9 = .ok (.if_icmp .ge 33, 3)) (by decide) (fun c => (?_ : XW _ _ _ _ _ _ _ 42 _ _)) (fun c => (?_ : XW _ _ _ _ _ _ _ 12 _ _))
  · replace vc := vc.1 c
    refine xi_iconst (v := (-1)) (by decide +kernel : decode mX2_firstThatCannotBe.2.1 42 = .ok (.iconst (-1), 1)) (by decide) (?_ : XW _ _ _ _ _ _ _ 43 _ _)
    exact xi_iret (by decide +kernel : decode mX2_firstThatCannotBe.2.1 43 = .ok (.ireturn, 1)) rfl rfl vc
  · replace vc := vc.2 c
    refine xi_aload_n (by decide +kernel : decode mX2_firstThatCannotBe.2.1 12 = .ok (.aload_n 1, 1)) rfl rfl (?_ : XW _ _ _ _ _ _ _ 13 _ _)
    refine xi_iload (by decide +kernel : decode mX2_firstThatCannotBe.2.1 13 = .ok (.iload 4, 2)) rfl (?_ : XW _ _ _ _ _ _ _ 15 _ _)
    obtain ⟨Q1, sp, vc⟩ := vc
    refine xi_callS (b := 0) (bs := 0) (As := [.ref 29, .int x4]) (st := []) (by decide +kernel : decode mX2_firstThatCannotBe.2.1 15 = .ok (.invokestatic 42, 3)) kX2_42 rfl rfl sp (by decide) (by decide) (Nat.le_of_ble_eq_true rfl) (by omega) (fun v9 h1 hq9 => ?_)
    obtain ⟨r1, e9, vc⟩ := vc v9 h1 hq9
    subst e9
    show XW _ _ _ _ _ _ _ 18 _ [.int r1]
    refine xi_if_eq (by decide +kernel : decode mX2_firstThatCannotBe.2.1 18 = .ok (.ifCond .eq 18, 3)) (by decide) (fun c => (?_ : XW _ _ _ _ _ _ _ 36 _ _)) (fun c => (?_ : XW _ _ _ _ _ _ _ 21 _ _))
    · replace vc := vc.1 c
      refine xi_iinc (v := x4 + 1) (ls' := [none, some (.ref 29), some (.ref r), some (.ref 21), some (.int (x4 + 1))]) (by decide +kernel : decode mX2_firstThatCannotBe.2.1 36 = .ok (.iinc 4 1, 3)) rfl rfl (by decide) rfl (?_ : XW _ _ _ _ _ _ _ 39 _ _)
      refine xi_goto (by decide +kernel : decode mX2_firstThatCannotBe.2.1 39 = .ok (.goto (-36), 3)) (by decide) (?_ : XW _ _ _ _ _ _ _ 3 _ _)
      exact vc
    · replace vc := vc.2 c
      refine xi_aload_n (by decide +kernel : decode mX2_firstThatCannotBe.2.1 21 = .ok (.aload_n 1, 1)) rfl rfl (?_ : XW _ _ _ _ _ _ _ 22 _ _)
      refine xi_aload_n (by decide +kernel : decode mX2_firstThatCannotBe.2.1 22 = .ok (.aload_n 2, 1)) rfl rfl (?_ : XW _ _ _ _ _ _ _ 23 _ _)
      refine xi_aload_n (by decide +kernel : decode mX2_firstThatCannotBe.2.1 23 = .ok (.aload_n 3, 1)) rfl rfl (?_ : XW _ _ _ _ _ _ _ 24 _ _)
      refine xi_iload (by decide +kernel : decode mX2_firstThatCannotBe.2.1 24 = .ok (.iload 4, 2)) rfl (?_ : XW _ _ _ _ _ _ _ 26 _ _)
      refine xi_iconst (v := 0) (by decide +kernel : decode mX2_firstThatCannotBe.2.1 26 = .ok (.iconst 0, 1)) (by decide) (?_ : XW _ _ _ _ _ _ _ 27 _ _)
      obtain ⟨Q1, sp, vc⟩ := vc
      refine xi_callS (b := 0) (bs := 0) (As := [.ref 29, .ref r, .ref 21, .int x4, .int 0]) (st := []) (by decide +kernel : decode mX2_firstThatCannotBe.2.1 27 = .ok (.invokestatic 46, 3)) kX2_46 rfl rfl sp (by decide) (by decide) (Nat.le_of_ble_eq_true rfl) (by omega) (fun v9 h2 hq9 => ?_)
      obtain ⟨r2, e9, vc⟩ := vc v9 h2 hq9
      subst e9
      show XW _ _ _ _ _ _ _ 30 _ [.int r2]
      refine xi_if_ne (by decide +kernel : decode mX2_firstThatCannotBe.2.1 30 = .ok (.ifCond .ne 6, 3)) (by decide) (fun c => (?_ : XW _ _ _ _ _ _ _ 36 _ _)) (fun c => (?_ : XW _ _ _ _ _ _ _ 33 _ _))
      · replace vc := vc.1 c
        refine xi_iinc (v := x4 + 1) (ls' := [none, some (.ref 29), some (.ref r), some (.ref 21), some (.int (x4 + 1))]) (by decide +kernel : decode mX2_firstThatCannotBe.2.1 36 = .ok (.iinc 4 1, 3)) rfl rfl (by decide) rfl (?_ : XW _ _ _ _ _ _ _ 39 _ _)
        refine xi_goto (by decide +kernel : decode mX2_firstThatCannotBe.2.1 39 = .ok (.goto (-36), 3)) (by decide) (?_ : XW _ _ _ _ _ _ _ 3 _ _)
        exact vc
      · replace vc := vc.2 c
        refine xi_iload (by decide +kernel : decode mX2_firstThatCannotBe.2.1 33 = .ok (.iload 4, 2)) rfl (?_ : XW _ _ _ _ _ _ _ 35 _ _)
        exact xi_iret (by decide +kernel : decode mX2_firstThatCannotBe.2.1 35 = .ok (.ireturn, 1)) rfl rfl vc

set_option maxRecDepth 20000 in
theorem v_X2_countOneLess_0 {h : XH} {Q : Option Value → XH → Prop} {X : String → XH → Prop} (r : Nat) (hbp : BP r h) 
    (vc : XW (xrm 3 0 0) mX2_countOneLess (xE 100 Q X 0 0) 100 0 0 h 6 [none, some (.ref 29), some (.ref r), some (.ref 21), some (.int 0), some (.int 0)] []) :
    XW (xrm 3 0 0) mX2_countOneLess (xE 100 Q X 0 0) 100 0 0 h 0 [some (.ref 52), some (.ref 29), some (.ref r), some (.ref 21), none, none] [] := by
  obtain ⟨hb, hr, hnr, ha21, ha25, hu29, hu34, hw, hnt, hwr⟩ := hbp
  refine xi_iconst (v := 0) (by decide +kernel : decode mX2_countOneLess.2.1 0 = .ok (.iconst 0, 1)) (by decide) (?_ : XW _ _ _ _ _ _ _ 1 _ _)
  refine xi_istore (ls' := [some (.ref 52), some (.ref 29), some (.ref r), some (.ref 21), some (.int 0), none]) (by decide +kernel : decode mX2_countOneLess.2.1 1 = .ok (.istore 4, 2)) (by decide) rfl (?_ : XW _ _ _ _ _ _ _ 3 _ _)
  refine xi_iconst (v := 0) (by decide +kernel : decode mX2_countOneLess.2.1 3 = .ok (.iconst 0, 1)) (by decide) (?_ : XW _ _ _ _ _ _ _ 4 _ _)
  refine xi_istore (ls' := [some (.ref 52), some (.ref 29), some (.ref r), some (.ref 21), some (.int 0), some (.int 0)]) (by decide +kernel : decode mX2_countOneLess.2.1 4 = .ok (.istore 5, 2)) (by decide) rfl (?_ : XW _ _ _ _ _ _ _ 6 _ _)
  refine xw_drop 0 (ls' := [none, some (.ref 29), some (.ref r), some (.ref 21), some (.int 0), some (.int 0)]) rfl ?_
  exact vc

set_option maxRecDepth 20000 in
theorem v_X2_countOneLess_6 {h : XH} {Q : Option Value → XH → Prop} {X : String → XH → Prop} (r : Nat) (hbp : BP r h)  (x4 : Int32) (x5 : Int32)
    (vc : ((xI h 29 2) ≤ x5 → Q (some (.int x4)) h) ∧ (¬ (xI h 29 2) ≤ x5 → ∃ Q1, XSpec mX2_isAsked 2 0 0 100 100 [.ref 29, .int x5] h Q1 xno ∧ ∀ v h1, Q1 v h1 → ∃ r1 : Int32, v = some (.int r1) ∧ ((r1 = 0 → XW (xrm 3 0 0) mX2_countOneLess (xE 100 Q X 0 0) 100 0 0 h1 6 [none, some (.ref 29), some (.ref r), some (.ref 21), some (.int x4), some (.int (x5 + 1))] []) ∧ (¬ r1 = 0 → ∃ Q1, XSpec mX2_canCome 2 0 0 100 100 [.ref 29, .ref r, .ref 21, .int x5, .int 0] h1 Q1 xno ∧ ∀ v h2, Q1 v h2 → ∃ r2 : Int32, v = some (.int r2) ∧ ((¬ r2 = 0 → XW (xrm 3 0 0) mX2_countOneLess (xE 100 Q X 0 0) 100 0 0 h2 6 [none, some (.ref 29), some (.ref r), some (.ref 21), some (.int x4), some (.int (x5 + 1))] []) ∧ (r2 = 0 → ∃ Q1, XSpec mX2_canCome 2 0 0 100 100 [.ref 29, .ref r, .ref 21, .int x5, .int 1] h2 Q1 xno ∧ ∀ v h3, Q1 v h3 → ∃ r3 : Int32, v = some (.int r3) ∧ ((r3 = 0 → XW (xrm 3 0 0) mX2_countOneLess (xE 100 Q X 0 0) 100 0 0 h3 6 [none, some (.ref 29), some (.ref r), some (.ref 21), some (.int x4), some (.int (x5 + 1))] []) ∧ (¬ r3 = 0 → XW (xrm 3 0 0) mX2_countOneLess (xE 100 Q X 0 0) 100 0 0 h3 6 [none, some (.ref 29), some (.ref r), some (.ref 21), some (.int (x4 + 1)), some (.int (x5 + 1))] [])))))))) :
    XW (xrm 3 0 0) mX2_countOneLess (xE 100 Q X 0 0) 100 0 0 h 6 [none, some (.ref 29), some (.ref r), some (.ref 21), some (.int x4), some (.int x5)] [] := by
  obtain ⟨hb, hr, hnr, ha21, ha25, hu29, hu34, hw, hnt, hwr⟩ := hbp
  refine xi_iload (by decide +kernel : decode mX2_countOneLess.2.1 6 = .ok (.iload 5, 2)) rfl (?_ : XW _ _ _ _ _ _ _ 8 _ _)
  refine xi_aload_n (by decide +kernel : decode mX2_countOneLess.2.1 8 = .ok (.aload_n 1, 1)) rfl rfl (?_ : XW _ _ _ _ _ _ _ 9 _ _)
  refine xi_getI (by decide +kernel : decode mX2_countOneLess.2.1 9 = .ok (.getfield 38, 3)) fX2_38 rfl (by omega) rfl (?_ : XW _ _ _ _ _ _ _ 12 _ _)
  refine xi_icmp_ge (by decide +kernel : decode mX2_countOneLess.2.1 12 = .ok (.if_icmp .ge 45, 3)) (by decide) (fun c => (?_ : XW _ _ _ _ _ _ _ 57 _ _)) (fun c => (?_ : XW _ _ _ _ _ _ _ 15 _ _))
  · replace vc := vc.1 c
    refine xi_iload (by decide +kernel : decode mX2_countOneLess.2.1 57 = .ok (.iload 4, 2)) rfl (?_ : XW _ _ _ _ _ _ _ 59 _ _)
    exact xi_iret (by decide +kernel : decode mX2_countOneLess.2.1 59 = .ok (.ireturn, 1)) rfl rfl vc
  · replace vc := vc.2 c
    refine xi_aload_n (by decide +kernel : decode mX2_countOneLess.2.1 15 = .ok (.aload_n 1, 1)) rfl rfl (?_ : XW _ _ _ _ _ _ _ 16 _ _)
    refine xi_iload (by decide +kernel : decode mX2_countOneLess.2.1 16 = .ok (.iload 5, 2)) rfl (?_ : XW _ _ _ _ _ _ _ 18 _ _)
    obtain ⟨Q1, sp, vc⟩ := vc
    refine xi_callS (b := 0) (bs := 0) (As := [.ref 29, .int x5]) (st := []) (by decide +kernel : decode mX2_countOneLess.2.1 18 = .ok (.invokestatic 42, 3)) kX2_42 rfl rfl sp (by decide) (by decide) (Nat.le_of_ble_eq_true rfl) (by omega) (fun v9 h1 hq9 => ?_)
    obtain ⟨r1, e9, vc⟩ := vc v9 h1 hq9
    subst e9
    show XW _ _ _ _ _ _ _ 21 _ [.int r1]
    refine xi_if_eq (by decide +kernel : decode mX2_countOneLess.2.1 21 = .ok (.ifCond .eq 30, 3)) (by decide) (fun c => (?_ : XW _ _ _ _ _ _ _ 51 _ _)) (fun c => (?_ : XW _ _ _ _ _ _ _ 24 _ _))
    · replace vc := vc.1 c
      refine xi_iinc (v := x5 + 1) (ls' := [none, some (.ref 29), some (.ref r), some (.ref 21), some (.int x4), some (.int (x5 + 1))]) (by decide +kernel : decode mX2_countOneLess.2.1 51 = .ok (.iinc 5 1, 3)) rfl rfl (by decide) rfl (?_ : XW _ _ _ _ _ _ _ 54 _ _)
      refine xi_goto (by decide +kernel : decode mX2_countOneLess.2.1 54 = .ok (.goto (-48), 3)) (by decide) (?_ : XW _ _ _ _ _ _ _ 6 _ _)
      exact vc
    · replace vc := vc.2 c
      refine xi_aload_n (by decide +kernel : decode mX2_countOneLess.2.1 24 = .ok (.aload_n 1, 1)) rfl rfl (?_ : XW _ _ _ _ _ _ _ 25 _ _)
      refine xi_aload_n (by decide +kernel : decode mX2_countOneLess.2.1 25 = .ok (.aload_n 2, 1)) rfl rfl (?_ : XW _ _ _ _ _ _ _ 26 _ _)
      refine xi_aload_n (by decide +kernel : decode mX2_countOneLess.2.1 26 = .ok (.aload_n 3, 1)) rfl rfl (?_ : XW _ _ _ _ _ _ _ 27 _ _)
      refine xi_iload (by decide +kernel : decode mX2_countOneLess.2.1 27 = .ok (.iload 5, 2)) rfl (?_ : XW _ _ _ _ _ _ _ 29 _ _)
      refine xi_iconst (v := 0) (by decide +kernel : decode mX2_countOneLess.2.1 29 = .ok (.iconst 0, 1)) (by decide) (?_ : XW _ _ _ _ _ _ _ 30 _ _)
      obtain ⟨Q1, sp, vc⟩ := vc
      refine xi_callS (b := 0) (bs := 0) (As := [.ref 29, .ref r, .ref 21, .int x5, .int 0]) (st := []) (by decide +kernel : decode mX2_countOneLess.2.1 30 = .ok (.invokestatic 46, 3)) kX2_46 rfl rfl sp (by decide) (by decide) (Nat.le_of_ble_eq_true rfl) (by omega) (fun v9 h2 hq9 => ?_)
      obtain ⟨r2, e9, vc⟩ := vc v9 h2 hq9
      subst e9
      show XW _ _ _ _ _ _ _ 33 _ [.int r2]
      refine xi_if_ne (by decide +kernel : decode mX2_countOneLess.2.1 33 = .ok (.ifCond .ne 18, 3)) (by decide) (fun c => (?_ : XW _ _ _ _ _ _ _ 51 _ _)) (fun c => (?_ : XW _ _ _ _ _ _ _ 36 _ _))
      · replace vc := vc.1 c
        refine xi_iinc (v := x5 + 1) (ls' := [none, some (.ref 29), some (.ref r), some (.ref 21), some (.int x4), some (.int (x5 + 1))]) (by decide +kernel : decode mX2_countOneLess.2.1 51 = .ok (.iinc 5 1, 3)) rfl rfl (by decide) rfl (?_ : XW _ _ _ _ _ _ _ 54 _ _)
        refine xi_goto (by decide +kernel : decode mX2_countOneLess.2.1 54 = .ok (.goto (-48), 3)) (by decide) (?_ : XW _ _ _ _ _ _ _ 6 _ _)
        exact vc
      · replace vc := vc.2 c
        refine xi_aload_n (by decide +kernel : decode mX2_countOneLess.2.1 36 = .ok (.aload_n 1, 1)) rfl rfl (?_ : XW _ _ _ _ _ _ _ 37 _ _)
        refine xi_aload_n (by decide +kernel : decode mX2_countOneLess.2.1 37 = .ok (.aload_n 2, 1)) rfl rfl (?_ : XW _ _ _ _ _ _ _ 38 _ _)
        refine xi_aload_n (by decide +kernel : decode mX2_countOneLess.2.1 38 = .ok (.aload_n 3, 1)) rfl rfl (?_ : XW _ _ _ _ _ _ _ 39 _ _)
        refine xi_iload (by decide +kernel : decode mX2_countOneLess.2.1 39 = .ok (.iload 5, 2)) rfl (?_ : XW _ _ _ _ _ _ _ 41 _ _)
        refine xi_iconst (v := 1) (by decide +kernel : decode mX2_countOneLess.2.1 41 = .ok (.iconst 1, 1)) (by decide) (?_ : XW _ _ _ _ _ _ _ 42 _ _)
        obtain ⟨Q1, sp, vc⟩ := vc
        refine xi_callS (b := 0) (bs := 0) (As := [.ref 29, .ref r, .ref 21, .int x5, .int 1]) (st := []) (by decide +kernel : decode mX2_countOneLess.2.1 42 = .ok (.invokestatic 46, 3)) kX2_46 rfl rfl sp (by decide) (by decide) (Nat.le_of_ble_eq_true rfl) (by omega) (fun v9 h3 hq9 => ?_)
        obtain ⟨r3, e9, vc⟩ := vc v9 h3 hq9
        subst e9
        show XW _ _ _ _ _ _ _ 45 _ [.int r3]
        refine xi_if_eq (by decide +kernel : decode mX2_countOneLess.2.1 45 = .ok (.ifCond .eq 6, 3)) (by decide) (fun c => (?_ : XW _ _ _ _ _ _ _ 51 _ _)) (fun c => (?_ : XW _ _ _ _ _ _ _ 48 _ _))
        · replace vc := vc.1 c
          refine xi_iinc (v := x5 + 1) (ls' := [none, some (.ref 29), some (.ref r), some (.ref 21), some (.int x4), some (.int (x5 + 1))]) (by decide +kernel : decode mX2_countOneLess.2.1 51 = .ok (.iinc 5 1, 3)) rfl rfl (by decide) rfl (?_ : XW _ _ _ _ _ _ _ 54 _ _)
          refine xi_goto (by decide +kernel : decode mX2_countOneLess.2.1 54 = .ok (.goto (-48), 3)) (by decide) (?_ : XW _ _ _ _ _ _ _ 6 _ _)
          exact vc
        · replace vc := vc.2 c
          refine xi_iinc (v := x4 + 1) (ls' := [none, some (.ref 29), some (.ref r), some (.ref 21), some (.int (x4 + 1)), some (.int x5)]) (by decide +kernel : decode mX2_countOneLess.2.1 48 = .ok (.iinc 4 1, 3)) rfl rfl (by decide) rfl (?_ : XW _ _ _ _ _ _ _ 51 _ _)
          refine xi_iinc (v := x5 + 1) (ls' := [none, some (.ref 29), some (.ref r), some (.ref 21), some (.int (x4 + 1)), some (.int (x5 + 1))]) (by decide +kernel : decode mX2_countOneLess.2.1 51 = .ok (.iinc 5 1, 3)) rfl rfl (by decide) rfl (?_ : XW _ _ _ _ _ _ _ 54 _ _)
          refine xi_goto (by decide +kernel : decode mX2_countOneLess.2.1 54 = .ok (.goto (-48), 3)) (by decide) (?_ : XW _ _ _ _ _ _ _ 6 _ _)
          exact vc

set_option maxRecDepth 20000 in
theorem v_X2_isOpen_0 {h : XH} {Q : Option Value → XH → Prop} {X : String → XH → Prop} (r na nb : Nat) (hno : xNot na nb (xP h)) (hbp : BP r h)  (i : Int32) (q : Int32)
    (vc : (q < 0 → Q (some (.int 0)) h) ∧ (¬ q < 0 → (((i * 2) + (q / 64)) < 0 → Q (some (.int 0)) h) ∧ (¬ ((i * 2) + (q / 64)) < 0 → (82 ≤ ((i * 2) + (q / 64)) → Q (some (.int 0)) h) ∧ (¬ 82 ≤ ((i * 2) + (q / 64)) → (vp_in ((i * 2) + (q / 64)) 82) ∧ (((lg_cmp ((xL h 100 ((i * 2) + (q / 64)).toNatClampNeg) &&& (1 <<< ((q - q / 64 * 64 : Int32).toInt64 &&& 63))) 0) = 0 → Q (some (.int 0)) h) ∧ (¬ (lg_cmp ((xL h 100 ((i * 2) + (q / 64)).toNatClampNeg) &&& (1 <<< ((q - q / 64 * 64 : Int32).toInt64 &&& 63))) 0) = 0 → Q (some (.int 1)) h)))))) :
    XW (xrm 1 0 0) mX2_isOpen (xE 100 Q X 0 0) 100 0 0 h 0 [some (.ref 52), some (.int i), some (.int q), none] [] := by
  obtain ⟨hb, hr, hnr, ha21, ha25, hu29, hu34, hw, hnt, hwr⟩ := hbp
  refine xi_iload_n (by decide +kernel : decode mX2_isOpen.2.1 0 = .ok (.iload_n 1, 1)) rfl rfl (?_ : XW _ _ _ _ _ _ _ 1 _ _)
  refine xi_iconst (v := 2) (by decide +kernel : decode mX2_isOpen.2.1 1 = .ok (.iconst 2, 1)) (by decide) (?_ : XW _ _ _ _ _ _ _ 2 _ _)
  refine xi_imul (by decide +kernel : decode mX2_isOpen.2.1 2 = .ok (.imul, 1)) (?_ : XW _ _ _ _ _ _ _ 3 _ _)
  refine xi_iload_n (by decide +kernel : decode mX2_isOpen.2.1 3 = .ok (.iload_n 2, 1)) rfl rfl (?_ : XW _ _ _ _ _ _ _ 4 _ _)
  refine xi_bipush (v := 64) (by decide +kernel : decode mX2_isOpen.2.1 4 = .ok (.bipush 64, 2)) (by decide) (?_ : XW _ _ _ _ _ _ _ 6 _ _)
  refine xi_idiv (by decide +kernel : decode mX2_isOpen.2.1 6 = .ok (.idiv, 1)) (by decide) (?_ : XW _ _ _ _ _ _ _ 7 _ _)
  refine xi_iadd (by decide +kernel : decode mX2_isOpen.2.1 7 = .ok (.iadd, 1)) (?_ : XW _ _ _ _ _ _ _ 8 _ _)
  refine xi_istore_n (ls' := [some (.ref 52), some (.int i), some (.int q), some (.int ((i * 2) + (q / 64)))]) (by decide +kernel : decode mX2_isOpen.2.1 8 = .ok (.istore_n 3, 1)) rfl (by decide) rfl (?_ : XW _ _ _ _ _ _ _ 9 _ _)
  refine xi_iload_n (by decide +kernel : decode mX2_isOpen.2.1 9 = .ok (.iload_n 2, 1)) rfl rfl (?_ : XW _ _ _ _ _ _ _ 10 _ _)
  refine xi_if_lt (by decide +kernel : decode mX2_isOpen.2.1 10 = .ok (.ifCond .lt 38, 3)) (by decide) (fun c => (?_ : XW _ _ _ _ _ _ _ 48 _ _)) (fun c => (?_ : XW _ _ _ _ _ _ _ 13 _ _))
  · replace vc := vc.1 c
    refine xi_iconst (v := 0) (by decide +kernel : decode mX2_isOpen.2.1 48 = .ok (.iconst 0, 1)) (by decide) (?_ : XW _ _ _ _ _ _ _ 49 _ _)
    exact xi_iret (by decide +kernel : decode mX2_isOpen.2.1 49 = .ok (.ireturn, 1)) rfl rfl vc
  · replace vc := vc.2 c
    refine xi_iload_n (by decide +kernel : decode mX2_isOpen.2.1 13 = .ok (.iload_n 3, 1)) rfl rfl (?_ : XW _ _ _ _ _ _ _ 14 _ _)
    refine xi_if_lt (by decide +kernel : decode mX2_isOpen.2.1 14 = .ok (.ifCond .lt 34, 3)) (by decide) (fun c => (?_ : XW _ _ _ _ _ _ _ 48 _ _)) (fun c => (?_ : XW _ _ _ _ _ _ _ 17 _ _))
    · replace vc := vc.1 c
      refine xi_iconst (v := 0) (by decide +kernel : decode mX2_isOpen.2.1 48 = .ok (.iconst 0, 1)) (by decide) (?_ : XW _ _ _ _ _ _ _ 49 _ _)
      exact xi_iret (by decide +kernel : decode mX2_isOpen.2.1 49 = .ok (.ireturn, 1)) rfl rfl vc
    · replace vc := vc.2 c
      refine xi_iload_n (by decide +kernel : decode mX2_isOpen.2.1 17 = .ok (.iload_n 3, 1)) rfl rfl (?_ : XW _ _ _ _ _ _ _ 18 _ _)
      refine xi_aload_n (by decide +kernel : decode mX2_isOpen.2.1 18 = .ok (.aload_n 0, 1)) rfl rfl (?_ : XW _ _ _ _ _ _ _ 19 _ _)
      refine xi_getR (y := 100) (by decide +kernel : decode mX2_isOpen.2.1 19 = .ok (.getfield 18, 3)) fX2_18 rfl (by omega) rfl hno.2.2.2 (?_ : XW _ _ _ _ _ _ _ 22 _ _)
      refine xi_alen (v := 82) (by decide +kernel : decode mX2_isOpen.2.1 22 = .ok (.arraylength, 1)) rfl (by omega) (Or.inr (Or.inl rfl)) rfl (?_ : XW _ _ _ _ _ _ _ 23 _ _)
      refine xi_icmp_ge (by decide +kernel : decode mX2_isOpen.2.1 23 = .ok (.if_icmp .ge 25, 3)) (by decide) (fun c => (?_ : XW _ _ _ _ _ _ _ 48 _ _)) (fun c => (?_ : XW _ _ _ _ _ _ _ 26 _ _))
      · replace vc := vc.1 c
        refine xi_iconst (v := 0) (by decide +kernel : decode mX2_isOpen.2.1 48 = .ok (.iconst 0, 1)) (by decide) (?_ : XW _ _ _ _ _ _ _ 49 _ _)
        exact xi_iret (by decide +kernel : decode mX2_isOpen.2.1 49 = .ok (.ireturn, 1)) rfl rfl vc
      · replace vc := vc.2 c
        refine xi_aload_n (by decide +kernel : decode mX2_isOpen.2.1 26 = .ok (.aload_n 0, 1)) rfl rfl (?_ : XW _ _ _ _ _ _ _ 27 _ _)
        refine xi_getR (y := 100) (by decide +kernel : decode mX2_isOpen.2.1 27 = .ok (.getfield 18, 3)) fX2_18 rfl (by omega) rfl hno.2.2.2 (?_ : XW _ _ _ _ _ _ _ 30 _ _)
        refine xi_iload_n (by decide +kernel : decode mX2_isOpen.2.1 30 = .ok (.iload_n 3, 1)) rfl rfl (?_ : XW _ _ _ _ _ _ _ 31 _ _)
        obtain ⟨s1, vc⟩ := vc
        refine xi_lald (by decide +kernel : decode mX2_isOpen.2.1 31 = .ok (.laload, 1)) rfl (by omega) s1 (?_ : XW _ _ _ _ _ _ _ 32 _ _)
        refine xi_lconst (v := 1) (by decide +kernel : decode mX2_isOpen.2.1 32 = .ok (.lconst 1, 1)) (by decide) (?_ : XW _ _ _ _ _ _ _ 33 _ _)
        refine xi_iload_n (by decide +kernel : decode mX2_isOpen.2.1 33 = .ok (.iload_n 2, 1)) rfl rfl (?_ : XW _ _ _ _ _ _ _ 34 _ _)
        refine xi_bipush (v := 64) (by decide +kernel : decode mX2_isOpen.2.1 34 = .ok (.bipush 64, 2)) (by decide) (?_ : XW _ _ _ _ _ _ _ 36 _ _)
        refine xi_irem (by decide +kernel : decode mX2_isOpen.2.1 36 = .ok (.irem, 1)) (by decide) (?_ : XW _ _ _ _ _ _ _ 37 _ _)
        refine xi_lshl (by decide +kernel : decode mX2_isOpen.2.1 37 = .ok (.lshl, 1)) (?_ : XW _ _ _ _ _ _ _ 38 _ _)
        refine xi_land (by decide +kernel : decode mX2_isOpen.2.1 38 = .ok (.land, 1)) (?_ : XW _ _ _ _ _ _ _ 39 _ _)
        refine xi_lconst (v := 0) (by decide +kernel : decode mX2_isOpen.2.1 39 = .ok (.lconst 0, 1)) (by decide) (?_ : XW _ _ _ _ _ _ _ 40 _ _)
        refine xi_lcmp (by decide +kernel : decode mX2_isOpen.2.1 40 = .ok (.lcmp, 1)) (?_ : XW _ _ _ _ _ _ _ 41 _ _)
        refine xi_if_eq (by decide +kernel : decode mX2_isOpen.2.1 41 = .ok (.ifCond .eq 7, 3)) (by decide) (fun c => (?_ : XW _ _ _ _ _ _ _ 48 _ _)) (fun c => (?_ : XW _ _ _ _ _ _ _ 44 _ _))
        · replace vc := vc.1 c
          refine xi_iconst (v := 0) (by decide +kernel : decode mX2_isOpen.2.1 48 = .ok (.iconst 0, 1)) (by decide) (?_ : XW _ _ _ _ _ _ _ 49 _ _)
          exact xi_iret (by decide +kernel : decode mX2_isOpen.2.1 49 = .ok (.ireturn, 1)) rfl rfl vc
        · replace vc := vc.2 c
          refine xi_iconst (v := 1) (by decide +kernel : decode mX2_isOpen.2.1 44 = .ok (.iconst 1, 1)) (by decide) (?_ : XW _ _ _ _ _ _ _ 45 _ _)
          refine xi_goto (by decide +kernel : decode mX2_isOpen.2.1 45 = .ok (.goto 4, 3)) (by decide) (?_ : XW _ _ _ _ _ _ _ 49 _ _)
          exact xi_iret (by decide +kernel : decode mX2_isOpen.2.1 49 = .ok (.ireturn, 1)) rfl rfl vc

set_option maxRecDepth 20000 in
theorem v_X2_setOpen_0 {h : XH} {Q : Option Value → XH → Prop} {X : String → XH → Prop} (r na nb : Nat) (hno : xNot na nb (xP h)) (hbp : BP r h)  (i : Int32) (q : Int32)
    (vc : (q < 0 → Q none h) ∧ (¬ q < 0 → (((i * 2) + (q / 64)) < 0 → Q none h) ∧ (¬ ((i * 2) + (q / 64)) < 0 → (82 ≤ ((i * 2) + (q / 64)) → Q none h) ∧ (¬ 82 ≤ ((i * 2) + (q / 64)) → (vp_in ((i * 2) + (q / 64)) 82) ∧ ((vp_in ((i * 2) + (q / 64)) 82) ∧ (Q none (xSL 100 (va_up (xL h 100) ((i * 2) + (q / 64)).toNatClampNeg ((xL h 100 ((i * 2) + (q / 64)).toNatClampNeg) ||| (1 <<< ((q - q / 64 * 64 : Int32).toInt64 &&& 63)))) h))))))) :
    XW (xrm 1 0 0) mX2_setOpen (xE 100 Q X 0 0) 100 0 0 h 0 [some (.ref 52), some (.int i), some (.int q), none] [] := by
  obtain ⟨hb, hr, hnr, ha21, ha25, hu29, hu34, hw, hnt, hwr⟩ := hbp
  refine xi_iload_n (by decide +kernel : decode mX2_setOpen.2.1 0 = .ok (.iload_n 1, 1)) rfl rfl (?_ : XW _ _ _ _ _ _ _ 1 _ _)
  refine xi_iconst (v := 2) (by decide +kernel : decode mX2_setOpen.2.1 1 = .ok (.iconst 2, 1)) (by decide) (?_ : XW _ _ _ _ _ _ _ 2 _ _)
  refine xi_imul (by decide +kernel : decode mX2_setOpen.2.1 2 = .ok (.imul, 1)) (?_ : XW _ _ _ _ _ _ _ 3 _ _)
  refine xi_iload_n (by decide +kernel : decode mX2_setOpen.2.1 3 = .ok (.iload_n 2, 1)) rfl rfl (?_ : XW _ _ _ _ _ _ _ 4 _ _)
  refine xi_bipush (v := 64) (by decide +kernel : decode mX2_setOpen.2.1 4 = .ok (.bipush 64, 2)) (by decide) (?_ : XW _ _ _ _ _ _ _ 6 _ _)
  refine xi_idiv (by decide +kernel : decode mX2_setOpen.2.1 6 = .ok (.idiv, 1)) (by decide) (?_ : XW _ _ _ _ _ _ _ 7 _ _)
  refine xi_iadd (by decide +kernel : decode mX2_setOpen.2.1 7 = .ok (.iadd, 1)) (?_ : XW _ _ _ _ _ _ _ 8 _ _)
  refine xi_istore_n (ls' := [some (.ref 52), some (.int i), some (.int q), some (.int ((i * 2) + (q / 64)))]) (by decide +kernel : decode mX2_setOpen.2.1 8 = .ok (.istore_n 3, 1)) rfl (by decide) rfl (?_ : XW _ _ _ _ _ _ _ 9 _ _)
  refine xi_iload_n (by decide +kernel : decode mX2_setOpen.2.1 9 = .ok (.iload_n 2, 1)) rfl rfl (?_ : XW _ _ _ _ _ _ _ 10 _ _)
  refine xi_if_lt (by decide +kernel : decode mX2_setOpen.2.1 10 = .ok (.ifCond .lt 31, 3)) (by decide) (fun c => (?_ : XW _ _ _ _ _ _ _ 41 _ _)) (fun c => (?_ : XW _ _ _ _ _ _ _ 13 _ _))
  · replace vc := vc.1 c
    exact xi_vret (by decide +kernel : decode mX2_setOpen.2.1 41 = .ok (.return_, 1)) rfl vc
  · replace vc := vc.2 c
    refine xi_iload_n (by decide +kernel : decode mX2_setOpen.2.1 13 = .ok (.iload_n 3, 1)) rfl rfl (?_ : XW _ _ _ _ _ _ _ 14 _ _)
    refine xi_if_lt (by decide +kernel : decode mX2_setOpen.2.1 14 = .ok (.ifCond .lt 27, 3)) (by decide) (fun c => (?_ : XW _ _ _ _ _ _ _ 41 _ _)) (fun c => (?_ : XW _ _ _ _ _ _ _ 17 _ _))
    · replace vc := vc.1 c
      exact xi_vret (by decide +kernel : decode mX2_setOpen.2.1 41 = .ok (.return_, 1)) rfl vc
    · replace vc := vc.2 c
      refine xi_iload_n (by decide +kernel : decode mX2_setOpen.2.1 17 = .ok (.iload_n 3, 1)) rfl rfl (?_ : XW _ _ _ _ _ _ _ 18 _ _)
      refine xi_aload_n (by decide +kernel : decode mX2_setOpen.2.1 18 = .ok (.aload_n 0, 1)) rfl rfl (?_ : XW _ _ _ _ _ _ _ 19 _ _)
      refine xi_getR (y := 100) (by decide +kernel : decode mX2_setOpen.2.1 19 = .ok (.getfield 18, 3)) fX2_18 rfl (by omega) rfl hno.2.2.2 (?_ : XW _ _ _ _ _ _ _ 22 _ _)
      refine xi_alen (v := 82) (by decide +kernel : decode mX2_setOpen.2.1 22 = .ok (.arraylength, 1)) rfl (by omega) (Or.inr (Or.inl rfl)) rfl (?_ : XW _ _ _ _ _ _ _ 23 _ _)
      refine xi_icmp_ge (by decide +kernel : decode mX2_setOpen.2.1 23 = .ok (.if_icmp .ge 18, 3)) (by decide) (fun c => (?_ : XW _ _ _ _ _ _ _ 41 _ _)) (fun c => (?_ : XW _ _ _ _ _ _ _ 26 _ _))
      · replace vc := vc.1 c
        exact xi_vret (by decide +kernel : decode mX2_setOpen.2.1 41 = .ok (.return_, 1)) rfl vc
      · replace vc := vc.2 c
        refine xi_aload_n (by decide +kernel : decode mX2_setOpen.2.1 26 = .ok (.aload_n 0, 1)) rfl rfl (?_ : XW _ _ _ _ _ _ _ 27 _ _)
        refine xi_getR (y := 100) (by decide +kernel : decode mX2_setOpen.2.1 27 = .ok (.getfield 18, 3)) fX2_18 rfl (by omega) rfl hno.2.2.2 (?_ : XW _ _ _ _ _ _ _ 30 _ _)
        refine xi_iload_n (by decide +kernel : decode mX2_setOpen.2.1 30 = .ok (.iload_n 3, 1)) rfl rfl (?_ : XW _ _ _ _ _ _ _ 31 _ _)
        refine xi_dup2 (by decide +kernel : decode mX2_setOpen.2.1 31 = .ok (.dup2, 1)) rfl rfl (?_ : XW _ _ _ _ _ _ _ 32 _ _)
        obtain ⟨s1, vc⟩ := vc
        refine xi_lald (by decide +kernel : decode mX2_setOpen.2.1 32 = .ok (.laload, 1)) rfl (by omega) s1 (?_ : XW _ _ _ _ _ _ _ 33 _ _)
        refine xi_lconst (v := 1) (by decide +kernel : decode mX2_setOpen.2.1 33 = .ok (.lconst 1, 1)) (by decide) (?_ : XW _ _ _ _ _ _ _ 34 _ _)
        refine xi_iload_n (by decide +kernel : decode mX2_setOpen.2.1 34 = .ok (.iload_n 2, 1)) rfl rfl (?_ : XW _ _ _ _ _ _ _ 35 _ _)
        refine xi_bipush (v := 64) (by decide +kernel : decode mX2_setOpen.2.1 35 = .ok (.bipush 64, 2)) (by decide) (?_ : XW _ _ _ _ _ _ _ 37 _ _)
        refine xi_irem (by decide +kernel : decode mX2_setOpen.2.1 37 = .ok (.irem, 1)) (by decide) (?_ : XW _ _ _ _ _ _ _ 38 _ _)
        refine xi_lshl (by decide +kernel : decode mX2_setOpen.2.1 38 = .ok (.lshl, 1)) (?_ : XW _ _ _ _ _ _ _ 39 _ _)
        refine xi_lor (by decide +kernel : decode mX2_setOpen.2.1 39 = .ok (.lor, 1)) (?_ : XW _ _ _ _ _ _ _ 40 _ _)
        obtain ⟨s1, vc⟩ := vc
        refine xi_last (by decide +kernel : decode mX2_setOpen.2.1 40 = .ok (.lastore, 1)) rfl (by omega) s1 (?_ : XW _ _ _ _ _ _ (xSL 100 (va_up (xL h 100) ((i * 2) + (q / 64)).toNatClampNeg ((xL h 100 ((i * 2) + (q / 64)).toNatClampNeg) ||| (1 <<< ((q - q / 64 * 64 : Int32).toInt64 &&& 63)))) h) 41 _ _)
        exact xi_vret (by decide +kernel : decode mX2_setOpen.2.1 41 = .ok (.return_, 1)) rfl vc

set_option maxRecDepth 20000 in
theorem v_X2_ways_0 {h : XH} {Q : Option Value → XH → Prop} {X : String → XH → Prop} (r na nb : Nat) (hno : xNot na nb (xP h)) (hbp : BP r h)  (q : Int32)
    (vc : (q < 0 → Q (some (.long 0)) h) ∧ (¬ q < 0 → (101 ≤ q → Q (some (.long 0)) h) ∧ (¬ 101 ≤ q → (vp_in q 101) ∧ (Q (some (.long (xL h na q.toNatClampNeg))) h)))) :
    XW (xrm 1 0 0) mX2_ways (xE 100 Q X 0 0) 100 0 0 h 0 [some (.ref 52), some (.int q)] [] := by
  obtain ⟨hb, hr, hnr, ha21, ha25, hu29, hu34, hw, hnt, hwr⟩ := hbp
  rcases hno.1 with ⟨rfl, rfl⟩ | ⟨rfl, rfl⟩
  · refine xi_iload_n (by decide +kernel : decode mX2_ways.2.1 0 = .ok (.iload_n 1, 1)) rfl rfl (?_ : XW _ _ _ _ _ _ _ 1 _ _)
    refine xi_if_lt (by decide +kernel : decode mX2_ways.2.1 1 = .ok (.ifCond .lt 21, 3)) (by decide) (fun c => (?_ : XW _ _ _ _ _ _ _ 22 _ _)) (fun c => (?_ : XW _ _ _ _ _ _ _ 4 _ _))
    · replace vc := vc.1 c
      refine xi_lconst (v := 0) (by decide +kernel : decode mX2_ways.2.1 22 = .ok (.lconst 0, 1)) (by decide) (?_ : XW _ _ _ _ _ _ _ 23 _ _)
      exact xi_lret (by decide +kernel : decode mX2_ways.2.1 23 = .ok (.lreturn, 1)) rfl vc
    · replace vc := vc.2 c
      refine xi_iload_n (by decide +kernel : decode mX2_ways.2.1 4 = .ok (.iload_n 1, 1)) rfl rfl (?_ : XW _ _ _ _ _ _ _ 5 _ _)
      refine xi_aload_n (by decide +kernel : decode mX2_ways.2.1 5 = .ok (.aload_n 0, 1)) rfl rfl (?_ : XW _ _ _ _ _ _ _ 6 _ _)
      refine xi_getR (y := 53) (by decide +kernel : decode mX2_ways.2.1 6 = .ok (.getfield 9, 3)) fX2_9 rfl (by omega) rfl hno.2.1 (?_ : XW _ _ _ _ _ _ _ 9 _ _)
      refine xi_alen (v := 101) (by decide +kernel : decode mX2_ways.2.1 9 = .ok (.arraylength, 1)) rfl (by omega) (Or.inr (Or.inl rfl)) rfl (?_ : XW _ _ _ _ _ _ _ 10 _ _)
      refine xi_icmp_ge (by decide +kernel : decode mX2_ways.2.1 10 = .ok (.if_icmp .ge 12, 3)) (by decide) (fun c => (?_ : XW _ _ _ _ _ _ _ 22 _ _)) (fun c => (?_ : XW _ _ _ _ _ _ _ 13 _ _))
      · replace vc := vc.1 c
        refine xi_lconst (v := 0) (by decide +kernel : decode mX2_ways.2.1 22 = .ok (.lconst 0, 1)) (by decide) (?_ : XW _ _ _ _ _ _ _ 23 _ _)
        exact xi_lret (by decide +kernel : decode mX2_ways.2.1 23 = .ok (.lreturn, 1)) rfl vc
      · replace vc := vc.2 c
        refine xi_aload_n (by decide +kernel : decode mX2_ways.2.1 13 = .ok (.aload_n 0, 1)) rfl rfl (?_ : XW _ _ _ _ _ _ _ 14 _ _)
        refine xi_getR (y := 53) (by decide +kernel : decode mX2_ways.2.1 14 = .ok (.getfield 9, 3)) fX2_9 rfl (by omega) rfl hno.2.1 (?_ : XW _ _ _ _ _ _ _ 17 _ _)
        refine xi_iload_n (by decide +kernel : decode mX2_ways.2.1 17 = .ok (.iload_n 1, 1)) rfl rfl (?_ : XW _ _ _ _ _ _ _ 18 _ _)
        obtain ⟨s1, vc⟩ := vc
        refine xi_lald (by decide +kernel : decode mX2_ways.2.1 18 = .ok (.laload, 1)) rfl (by omega) s1 (?_ : XW _ _ _ _ _ _ _ 19 _ _)
        refine xi_goto (by decide +kernel : decode mX2_ways.2.1 19 = .ok (.goto 4, 3)) (by decide) (?_ : XW _ _ _ _ _ _ _ 23 _ _)
        exact xi_lret (by decide +kernel : decode mX2_ways.2.1 23 = .ok (.lreturn, 1)) rfl vc
  · refine xi_iload_n (by decide +kernel : decode mX2_ways.2.1 0 = .ok (.iload_n 1, 1)) rfl rfl (?_ : XW _ _ _ _ _ _ _ 1 _ _)
    refine xi_if_lt (by decide +kernel : decode mX2_ways.2.1 1 = .ok (.ifCond .lt 21, 3)) (by decide) (fun c => (?_ : XW _ _ _ _ _ _ _ 22 _ _)) (fun c => (?_ : XW _ _ _ _ _ _ _ 4 _ _))
    · replace vc := vc.1 c
      refine xi_lconst (v := 0) (by decide +kernel : decode mX2_ways.2.1 22 = .ok (.lconst 0, 1)) (by decide) (?_ : XW _ _ _ _ _ _ _ 23 _ _)
      exact xi_lret (by decide +kernel : decode mX2_ways.2.1 23 = .ok (.lreturn, 1)) rfl vc
    · replace vc := vc.2 c
      refine xi_iload_n (by decide +kernel : decode mX2_ways.2.1 4 = .ok (.iload_n 1, 1)) rfl rfl (?_ : XW _ _ _ _ _ _ _ 5 _ _)
      refine xi_aload_n (by decide +kernel : decode mX2_ways.2.1 5 = .ok (.aload_n 0, 1)) rfl rfl (?_ : XW _ _ _ _ _ _ _ 6 _ _)
      refine xi_getR (y := 54) (by decide +kernel : decode mX2_ways.2.1 6 = .ok (.getfield 9, 3)) fX2_9 rfl (by omega) rfl hno.2.1 (?_ : XW _ _ _ _ _ _ _ 9 _ _)
      refine xi_alen (v := 101) (by decide +kernel : decode mX2_ways.2.1 9 = .ok (.arraylength, 1)) rfl (by omega) (Or.inr (Or.inl rfl)) rfl (?_ : XW _ _ _ _ _ _ _ 10 _ _)
      refine xi_icmp_ge (by decide +kernel : decode mX2_ways.2.1 10 = .ok (.if_icmp .ge 12, 3)) (by decide) (fun c => (?_ : XW _ _ _ _ _ _ _ 22 _ _)) (fun c => (?_ : XW _ _ _ _ _ _ _ 13 _ _))
      · replace vc := vc.1 c
        refine xi_lconst (v := 0) (by decide +kernel : decode mX2_ways.2.1 22 = .ok (.lconst 0, 1)) (by decide) (?_ : XW _ _ _ _ _ _ _ 23 _ _)
        exact xi_lret (by decide +kernel : decode mX2_ways.2.1 23 = .ok (.lreturn, 1)) rfl vc
      · replace vc := vc.2 c
        refine xi_aload_n (by decide +kernel : decode mX2_ways.2.1 13 = .ok (.aload_n 0, 1)) rfl rfl (?_ : XW _ _ _ _ _ _ _ 14 _ _)
        refine xi_getR (y := 54) (by decide +kernel : decode mX2_ways.2.1 14 = .ok (.getfield 9, 3)) fX2_9 rfl (by omega) rfl hno.2.1 (?_ : XW _ _ _ _ _ _ _ 17 _ _)
        refine xi_iload_n (by decide +kernel : decode mX2_ways.2.1 17 = .ok (.iload_n 1, 1)) rfl rfl (?_ : XW _ _ _ _ _ _ _ 18 _ _)
        obtain ⟨s1, vc⟩ := vc
        refine xi_lald (by decide +kernel : decode mX2_ways.2.1 18 = .ok (.laload, 1)) rfl (by omega) s1 (?_ : XW _ _ _ _ _ _ _ 19 _ _)
        refine xi_goto (by decide +kernel : decode mX2_ways.2.1 19 = .ok (.goto 4, 3)) (by decide) (?_ : XW _ _ _ _ _ _ _ 23 _ _)
        exact xi_lret (by decide +kernel : decode mX2_ways.2.1 23 = .ok (.lreturn, 1)) rfl vc

set_option maxRecDepth 20000 in
theorem v_X2_putEarlier_0 {h : XH} {Q : Option Value → XH → Prop} {X : String → XH → Prop} (r na nb : Nat) (hno : xNot na nb (xP h)) (hbp : BP r h)  (i : Int32) (q : Int32) (v : Int64)
    (vc : (q < 0 → ((lg_cmp v 0) ≤ 0 → Q none h) ∧ (¬ (lg_cmp v 0) ≤ 0 → ∃ Q1, XSpec mX2_setOpen 1 0 0 100 100 [.ref 52, .int i, .int q] h Q1 xno ∧ ∀ v h1, Q1 v h1 → v = none ∧ (Q none h1))) ∧ (¬ q < 0 → (101 ≤ q → ((lg_cmp v 0) ≤ 0 → Q none h) ∧ (¬ (lg_cmp v 0) ≤ 0 → ∃ Q1, XSpec mX2_setOpen 1 0 0 100 100 [.ref 52, .int i, .int q] h Q1 xno ∧ ∀ v h2, Q1 v h2 → v = none ∧ (Q none h2))) ∧ (¬ 101 ≤ q → (vp_in q 101) ∧ (((lg_cmp v 0) ≤ 0 → Q none (xSL nb (va_up (xL h nb) q.toNatClampNeg v) h)) ∧ (¬ (lg_cmp v 0) ≤ 0 → ∃ Q1, XSpec mX2_setOpen 1 0 0 100 100 [.ref 52, .int i, .int q] (xSL nb (va_up (xL h nb) q.toNatClampNeg v) h) Q1 xno ∧ ∀ v h3, Q1 v h3 → v = none ∧ (Q none h3)))))) :
    XW (xrm 2 0 0) mX2_putEarlier (xE 100 Q X 0 0) 100 0 0 h 0 [some (.ref 52), some (.int i), some (.int q), some (.long v), none] [] := by
  obtain ⟨hb, hr, hnr, ha21, ha25, hu29, hu34, hw, hnt, hwr⟩ := hbp
  rcases hno.1 with ⟨rfl, rfl⟩ | ⟨rfl, rfl⟩
  · refine xi_iload_n (by decide +kernel : decode mX2_putEarlier.2.1 0 = .ok (.iload_n 2, 1)) rfl rfl (?_ : XW _ _ _ _ _ _ _ 1 _ _)
    refine xi_if_lt (by decide +kernel : decode mX2_putEarlier.2.1 1 = .ok (.ifCond .lt 19, 3)) (by decide) (fun c => (?_ : XW _ _ _ _ _ _ _ 20 _ _)) (fun c => (?_ : XW _ _ _ _ _ _ _ 4 _ _))
    · replace vc := vc.1 c
      refine xi_lload_n (by decide +kernel : decode mX2_putEarlier.2.1 20 = .ok (.lload_n 3, 1)) rfl rfl (?_ : XW _ _ _ _ _ _ _ 21 _ _)
      refine xi_lconst (v := 0) (by decide +kernel : decode mX2_putEarlier.2.1 21 = .ok (.lconst 0, 1)) (by decide) (?_ : XW _ _ _ _ _ _ _ 22 _ _)
      refine xi_lcmp (by decide +kernel : decode mX2_putEarlier.2.1 22 = .ok (.lcmp, 1)) (?_ : XW _ _ _ _ _ _ _ 23 _ _)
      refine xi_if_le (by decide +kernel : decode mX2_putEarlier.2.1 23 = .ok (.ifCond .le 9, 3)) (by decide) (fun c => (?_ : XW _ _ _ _ _ _ _ 32 _ _)) (fun c => (?_ : XW _ _ _ _ _ _ _ 26 _ _))
      · replace vc := vc.1 c
        exact xi_vret (by decide +kernel : decode mX2_putEarlier.2.1 32 = .ok (.return_, 1)) rfl vc
      · replace vc := vc.2 c
        refine xi_aload_n (by decide +kernel : decode mX2_putEarlier.2.1 26 = .ok (.aload_n 0, 1)) rfl rfl (?_ : XW _ _ _ _ _ _ _ 27 _ _)
        refine xi_iload_n (by decide +kernel : decode mX2_putEarlier.2.1 27 = .ok (.iload_n 1, 1)) rfl rfl (?_ : XW _ _ _ _ _ _ _ 28 _ _)
        refine xi_iload_n (by decide +kernel : decode mX2_putEarlier.2.1 28 = .ok (.iload_n 2, 1)) rfl rfl (?_ : XW _ _ _ _ _ _ _ 29 _ _)
        obtain ⟨Q1, sp, vc⟩ := vc
        refine xi_callV (b := 0) (bs := 0) (As := [.int i, .int q]) (st := []) (by decide +kernel : decode mX2_putEarlier.2.1 29 = .ok (.invokevirtual 74, 3)) kX2_74 rfl rfl (by omega) rfl sp (by decide) (by decide) (Nat.le_of_ble_eq_true rfl) (by omega) (fun v9 h1 hq9 => ?_)
        obtain ⟨e9, vc⟩ := vc v9 h1 hq9
        subst e9
        show XW _ _ _ _ _ _ _ 32 _ []
        exact xi_vret (by decide +kernel : decode mX2_putEarlier.2.1 32 = .ok (.return_, 1)) rfl vc
    · replace vc := vc.2 c
      refine xi_iload_n (by decide +kernel : decode mX2_putEarlier.2.1 4 = .ok (.iload_n 2, 1)) rfl rfl (?_ : XW _ _ _ _ _ _ _ 5 _ _)
      refine xi_aload_n (by decide +kernel : decode mX2_putEarlier.2.1 5 = .ok (.aload_n 0, 1)) rfl rfl (?_ : XW _ _ _ _ _ _ _ 6 _ _)
      refine xi_getR (y := 54) (by decide +kernel : decode mX2_putEarlier.2.1 6 = .ok (.getfield 15, 3)) fX2_15 rfl (by omega) rfl hno.2.2.1 (?_ : XW _ _ _ _ _ _ _ 9 _ _)
      refine xi_alen (v := 101) (by decide +kernel : decode mX2_putEarlier.2.1 9 = .ok (.arraylength, 1)) rfl (by omega) (Or.inr (Or.inl rfl)) rfl (?_ : XW _ _ _ _ _ _ _ 10 _ _)
      refine xi_icmp_ge (by decide +kernel : decode mX2_putEarlier.2.1 10 = .ok (.if_icmp .ge 10, 3)) (by decide) (fun c => (?_ : XW _ _ _ _ _ _ _ 20 _ _)) (fun c => (?_ : XW _ _ _ _ _ _ _ 13 _ _))
      · replace vc := vc.1 c
        refine xi_lload_n (by decide +kernel : decode mX2_putEarlier.2.1 20 = .ok (.lload_n 3, 1)) rfl rfl (?_ : XW _ _ _ _ _ _ _ 21 _ _)
        refine xi_lconst (v := 0) (by decide +kernel : decode mX2_putEarlier.2.1 21 = .ok (.lconst 0, 1)) (by decide) (?_ : XW _ _ _ _ _ _ _ 22 _ _)
        refine xi_lcmp (by decide +kernel : decode mX2_putEarlier.2.1 22 = .ok (.lcmp, 1)) (?_ : XW _ _ _ _ _ _ _ 23 _ _)
        refine xi_if_le (by decide +kernel : decode mX2_putEarlier.2.1 23 = .ok (.ifCond .le 9, 3)) (by decide) (fun c => (?_ : XW _ _ _ _ _ _ _ 32 _ _)) (fun c => (?_ : XW _ _ _ _ _ _ _ 26 _ _))
        · replace vc := vc.1 c
          exact xi_vret (by decide +kernel : decode mX2_putEarlier.2.1 32 = .ok (.return_, 1)) rfl vc
        · replace vc := vc.2 c
          refine xi_aload_n (by decide +kernel : decode mX2_putEarlier.2.1 26 = .ok (.aload_n 0, 1)) rfl rfl (?_ : XW _ _ _ _ _ _ _ 27 _ _)
          refine xi_iload_n (by decide +kernel : decode mX2_putEarlier.2.1 27 = .ok (.iload_n 1, 1)) rfl rfl (?_ : XW _ _ _ _ _ _ _ 28 _ _)
          refine xi_iload_n (by decide +kernel : decode mX2_putEarlier.2.1 28 = .ok (.iload_n 2, 1)) rfl rfl (?_ : XW _ _ _ _ _ _ _ 29 _ _)
          obtain ⟨Q1, sp, vc⟩ := vc
          refine xi_callV (b := 0) (bs := 0) (As := [.int i, .int q]) (st := []) (by decide +kernel : decode mX2_putEarlier.2.1 29 = .ok (.invokevirtual 74, 3)) kX2_74 rfl rfl (by omega) rfl sp (by decide) (by decide) (Nat.le_of_ble_eq_true rfl) (by omega) (fun v9 h2 hq9 => ?_)
          obtain ⟨e9, vc⟩ := vc v9 h2 hq9
          subst e9
          show XW _ _ _ _ _ _ _ 32 _ []
          exact xi_vret (by decide +kernel : decode mX2_putEarlier.2.1 32 = .ok (.return_, 1)) rfl vc
      · replace vc := vc.2 c
        refine xi_aload_n (by decide +kernel : decode mX2_putEarlier.2.1 13 = .ok (.aload_n 0, 1)) rfl rfl (?_ : XW _ _ _ _ _ _ _ 14 _ _)
        refine xi_getR (y := 54) (by decide +kernel : decode mX2_putEarlier.2.1 14 = .ok (.getfield 15, 3)) fX2_15 rfl (by omega) rfl hno.2.2.1 (?_ : XW _ _ _ _ _ _ _ 17 _ _)
        refine xi_iload_n (by decide +kernel : decode mX2_putEarlier.2.1 17 = .ok (.iload_n 2, 1)) rfl rfl (?_ : XW _ _ _ _ _ _ _ 18 _ _)
        refine xi_lload_n (by decide +kernel : decode mX2_putEarlier.2.1 18 = .ok (.lload_n 3, 1)) rfl rfl (?_ : XW _ _ _ _ _ _ _ 19 _ _)
        obtain ⟨s1, vc⟩ := vc
        refine xi_last (by decide +kernel : decode mX2_putEarlier.2.1 19 = .ok (.lastore, 1)) rfl (by omega) s1 (?_ : XW _ _ _ _ _ _ (xSL 54 (va_up (xL h 54) q.toNatClampNeg v) h) 20 _ _)
        refine xi_lload_n (by decide +kernel : decode mX2_putEarlier.2.1 20 = .ok (.lload_n 3, 1)) rfl rfl (?_ : XW _ _ _ _ _ _ _ 21 _ _)
        refine xi_lconst (v := 0) (by decide +kernel : decode mX2_putEarlier.2.1 21 = .ok (.lconst 0, 1)) (by decide) (?_ : XW _ _ _ _ _ _ _ 22 _ _)
        refine xi_lcmp (by decide +kernel : decode mX2_putEarlier.2.1 22 = .ok (.lcmp, 1)) (?_ : XW _ _ _ _ _ _ _ 23 _ _)
        refine xi_if_le (by decide +kernel : decode mX2_putEarlier.2.1 23 = .ok (.ifCond .le 9, 3)) (by decide) (fun c => (?_ : XW _ _ _ _ _ _ _ 32 _ _)) (fun c => (?_ : XW _ _ _ _ _ _ _ 26 _ _))
        · replace vc := vc.1 c
          exact xi_vret (by decide +kernel : decode mX2_putEarlier.2.1 32 = .ok (.return_, 1)) rfl vc
        · replace vc := vc.2 c
          refine xi_aload_n (by decide +kernel : decode mX2_putEarlier.2.1 26 = .ok (.aload_n 0, 1)) rfl rfl (?_ : XW _ _ _ _ _ _ _ 27 _ _)
          refine xi_iload_n (by decide +kernel : decode mX2_putEarlier.2.1 27 = .ok (.iload_n 1, 1)) rfl rfl (?_ : XW _ _ _ _ _ _ _ 28 _ _)
          refine xi_iload_n (by decide +kernel : decode mX2_putEarlier.2.1 28 = .ok (.iload_n 2, 1)) rfl rfl (?_ : XW _ _ _ _ _ _ _ 29 _ _)
          obtain ⟨Q1, sp, vc⟩ := vc
          refine xi_callV (b := 0) (bs := 0) (As := [.int i, .int q]) (st := []) (by decide +kernel : decode mX2_putEarlier.2.1 29 = .ok (.invokevirtual 74, 3)) kX2_74 rfl rfl (by omega) rfl sp (by decide) (by decide) (Nat.le_of_ble_eq_true rfl) (by omega) (fun v9 h3 hq9 => ?_)
          obtain ⟨e9, vc⟩ := vc v9 h3 hq9
          subst e9
          show XW _ _ _ _ _ _ _ 32 _ []
          exact xi_vret (by decide +kernel : decode mX2_putEarlier.2.1 32 = .ok (.return_, 1)) rfl vc
  · refine xi_iload_n (by decide +kernel : decode mX2_putEarlier.2.1 0 = .ok (.iload_n 2, 1)) rfl rfl (?_ : XW _ _ _ _ _ _ _ 1 _ _)
    refine xi_if_lt (by decide +kernel : decode mX2_putEarlier.2.1 1 = .ok (.ifCond .lt 19, 3)) (by decide) (fun c => (?_ : XW _ _ _ _ _ _ _ 20 _ _)) (fun c => (?_ : XW _ _ _ _ _ _ _ 4 _ _))
    · replace vc := vc.1 c
      refine xi_lload_n (by decide +kernel : decode mX2_putEarlier.2.1 20 = .ok (.lload_n 3, 1)) rfl rfl (?_ : XW _ _ _ _ _ _ _ 21 _ _)
      refine xi_lconst (v := 0) (by decide +kernel : decode mX2_putEarlier.2.1 21 = .ok (.lconst 0, 1)) (by decide) (?_ : XW _ _ _ _ _ _ _ 22 _ _)
      refine xi_lcmp (by decide +kernel : decode mX2_putEarlier.2.1 22 = .ok (.lcmp, 1)) (?_ : XW _ _ _ _ _ _ _ 23 _ _)
      refine xi_if_le (by decide +kernel : decode mX2_putEarlier.2.1 23 = .ok (.ifCond .le 9, 3)) (by decide) (fun c => (?_ : XW _ _ _ _ _ _ _ 32 _ _)) (fun c => (?_ : XW _ _ _ _ _ _ _ 26 _ _))
      · replace vc := vc.1 c
        exact xi_vret (by decide +kernel : decode mX2_putEarlier.2.1 32 = .ok (.return_, 1)) rfl vc
      · replace vc := vc.2 c
        refine xi_aload_n (by decide +kernel : decode mX2_putEarlier.2.1 26 = .ok (.aload_n 0, 1)) rfl rfl (?_ : XW _ _ _ _ _ _ _ 27 _ _)
        refine xi_iload_n (by decide +kernel : decode mX2_putEarlier.2.1 27 = .ok (.iload_n 1, 1)) rfl rfl (?_ : XW _ _ _ _ _ _ _ 28 _ _)
        refine xi_iload_n (by decide +kernel : decode mX2_putEarlier.2.1 28 = .ok (.iload_n 2, 1)) rfl rfl (?_ : XW _ _ _ _ _ _ _ 29 _ _)
        obtain ⟨Q1, sp, vc⟩ := vc
        refine xi_callV (b := 0) (bs := 0) (As := [.int i, .int q]) (st := []) (by decide +kernel : decode mX2_putEarlier.2.1 29 = .ok (.invokevirtual 74, 3)) kX2_74 rfl rfl (by omega) rfl sp (by decide) (by decide) (Nat.le_of_ble_eq_true rfl) (by omega) (fun v9 h1 hq9 => ?_)
        obtain ⟨e9, vc⟩ := vc v9 h1 hq9
        subst e9
        show XW _ _ _ _ _ _ _ 32 _ []
        exact xi_vret (by decide +kernel : decode mX2_putEarlier.2.1 32 = .ok (.return_, 1)) rfl vc
    · replace vc := vc.2 c
      refine xi_iload_n (by decide +kernel : decode mX2_putEarlier.2.1 4 = .ok (.iload_n 2, 1)) rfl rfl (?_ : XW _ _ _ _ _ _ _ 5 _ _)
      refine xi_aload_n (by decide +kernel : decode mX2_putEarlier.2.1 5 = .ok (.aload_n 0, 1)) rfl rfl (?_ : XW _ _ _ _ _ _ _ 6 _ _)
      refine xi_getR (y := 53) (by decide +kernel : decode mX2_putEarlier.2.1 6 = .ok (.getfield 15, 3)) fX2_15 rfl (by omega) rfl hno.2.2.1 (?_ : XW _ _ _ _ _ _ _ 9 _ _)
      refine xi_alen (v := 101) (by decide +kernel : decode mX2_putEarlier.2.1 9 = .ok (.arraylength, 1)) rfl (by omega) (Or.inr (Or.inl rfl)) rfl (?_ : XW _ _ _ _ _ _ _ 10 _ _)
      refine xi_icmp_ge (by decide +kernel : decode mX2_putEarlier.2.1 10 = .ok (.if_icmp .ge 10, 3)) (by decide) (fun c => (?_ : XW _ _ _ _ _ _ _ 20 _ _)) (fun c => (?_ : XW _ _ _ _ _ _ _ 13 _ _))
      · replace vc := vc.1 c
        refine xi_lload_n (by decide +kernel : decode mX2_putEarlier.2.1 20 = .ok (.lload_n 3, 1)) rfl rfl (?_ : XW _ _ _ _ _ _ _ 21 _ _)
        refine xi_lconst (v := 0) (by decide +kernel : decode mX2_putEarlier.2.1 21 = .ok (.lconst 0, 1)) (by decide) (?_ : XW _ _ _ _ _ _ _ 22 _ _)
        refine xi_lcmp (by decide +kernel : decode mX2_putEarlier.2.1 22 = .ok (.lcmp, 1)) (?_ : XW _ _ _ _ _ _ _ 23 _ _)
        refine xi_if_le (by decide +kernel : decode mX2_putEarlier.2.1 23 = .ok (.ifCond .le 9, 3)) (by decide) (fun c => (?_ : XW _ _ _ _ _ _ _ 32 _ _)) (fun c => (?_ : XW _ _ _ _ _ _ _ 26 _ _))
        · replace vc := vc.1 c
          exact xi_vret (by decide +kernel : decode mX2_putEarlier.2.1 32 = .ok (.return_, 1)) rfl vc
        · replace vc := vc.2 c
          refine xi_aload_n (by decide +kernel : decode mX2_putEarlier.2.1 26 = .ok (.aload_n 0, 1)) rfl rfl (?_ : XW _ _ _ _ _ _ _ 27 _ _)
          refine xi_iload_n (by decide +kernel : decode mX2_putEarlier.2.1 27 = .ok (.iload_n 1, 1)) rfl rfl (?_ : XW _ _ _ _ _ _ _ 28 _ _)
          refine xi_iload_n (by decide +kernel : decode mX2_putEarlier.2.1 28 = .ok (.iload_n 2, 1)) rfl rfl (?_ : XW _ _ _ _ _ _ _ 29 _ _)
          obtain ⟨Q1, sp, vc⟩ := vc
          refine xi_callV (b := 0) (bs := 0) (As := [.int i, .int q]) (st := []) (by decide +kernel : decode mX2_putEarlier.2.1 29 = .ok (.invokevirtual 74, 3)) kX2_74 rfl rfl (by omega) rfl sp (by decide) (by decide) (Nat.le_of_ble_eq_true rfl) (by omega) (fun v9 h2 hq9 => ?_)
          obtain ⟨e9, vc⟩ := vc v9 h2 hq9
          subst e9
          show XW _ _ _ _ _ _ _ 32 _ []
          exact xi_vret (by decide +kernel : decode mX2_putEarlier.2.1 32 = .ok (.return_, 1)) rfl vc
      · replace vc := vc.2 c
        refine xi_aload_n (by decide +kernel : decode mX2_putEarlier.2.1 13 = .ok (.aload_n 0, 1)) rfl rfl (?_ : XW _ _ _ _ _ _ _ 14 _ _)
        refine xi_getR (y := 53) (by decide +kernel : decode mX2_putEarlier.2.1 14 = .ok (.getfield 15, 3)) fX2_15 rfl (by omega) rfl hno.2.2.1 (?_ : XW _ _ _ _ _ _ _ 17 _ _)
        refine xi_iload_n (by decide +kernel : decode mX2_putEarlier.2.1 17 = .ok (.iload_n 2, 1)) rfl rfl (?_ : XW _ _ _ _ _ _ _ 18 _ _)
        refine xi_lload_n (by decide +kernel : decode mX2_putEarlier.2.1 18 = .ok (.lload_n 3, 1)) rfl rfl (?_ : XW _ _ _ _ _ _ _ 19 _ _)
        obtain ⟨s1, vc⟩ := vc
        refine xi_last (by decide +kernel : decode mX2_putEarlier.2.1 19 = .ok (.lastore, 1)) rfl (by omega) s1 (?_ : XW _ _ _ _ _ _ (xSL 53 (va_up (xL h 53) q.toNatClampNeg v) h) 20 _ _)
        refine xi_lload_n (by decide +kernel : decode mX2_putEarlier.2.1 20 = .ok (.lload_n 3, 1)) rfl rfl (?_ : XW _ _ _ _ _ _ _ 21 _ _)
        refine xi_lconst (v := 0) (by decide +kernel : decode mX2_putEarlier.2.1 21 = .ok (.lconst 0, 1)) (by decide) (?_ : XW _ _ _ _ _ _ _ 22 _ _)
        refine xi_lcmp (by decide +kernel : decode mX2_putEarlier.2.1 22 = .ok (.lcmp, 1)) (?_ : XW _ _ _ _ _ _ _ 23 _ _)
        refine xi_if_le (by decide +kernel : decode mX2_putEarlier.2.1 23 = .ok (.ifCond .le 9, 3)) (by decide) (fun c => (?_ : XW _ _ _ _ _ _ _ 32 _ _)) (fun c => (?_ : XW _ _ _ _ _ _ _ 26 _ _))
        · replace vc := vc.1 c
          exact xi_vret (by decide +kernel : decode mX2_putEarlier.2.1 32 = .ok (.return_, 1)) rfl vc
        · replace vc := vc.2 c
          refine xi_aload_n (by decide +kernel : decode mX2_putEarlier.2.1 26 = .ok (.aload_n 0, 1)) rfl rfl (?_ : XW _ _ _ _ _ _ _ 27 _ _)
          refine xi_iload_n (by decide +kernel : decode mX2_putEarlier.2.1 27 = .ok (.iload_n 1, 1)) rfl rfl (?_ : XW _ _ _ _ _ _ _ 28 _ _)
          refine xi_iload_n (by decide +kernel : decode mX2_putEarlier.2.1 28 = .ok (.iload_n 2, 1)) rfl rfl (?_ : XW _ _ _ _ _ _ _ 29 _ _)
          obtain ⟨Q1, sp, vc⟩ := vc
          refine xi_callV (b := 0) (bs := 0) (As := [.int i, .int q]) (st := []) (by decide +kernel : decode mX2_putEarlier.2.1 29 = .ok (.invokevirtual 74, 3)) kX2_74 rfl rfl (by omega) rfl sp (by decide) (by decide) (Nat.le_of_ble_eq_true rfl) (by omega) (fun v9 h3 hq9 => ?_)
          obtain ⟨e9, vc⟩ := vc v9 h3 hq9
          subst e9
          show XW _ _ _ _ _ _ _ 32 _ []
          exact xi_vret (by decide +kernel : decode mX2_putEarlier.2.1 32 = .ok (.return_, 1)) rfl vc

set_option maxRecDepth 20000 in
theorem v_X2_swap_0 {h : XH} {Q : Option Value → XH → Prop} {X : String → XH → Prop} (r na nb : Nat) (hno : xNot na nb (xP h)) (hbp : BP r h) 
    (vc : Q none (xSP 52 (va_up (va_up (xP h 52) 0 (some nb)) 1 (some na)) (xSP 52 (va_up (xP h 52) 0 (some nb)) h))) :
    XW (xrm 1 0 0) mX2_swap (xE 100 Q X 0 0) 100 0 0 h 0 [some (.ref 52), none] [] := by
  obtain ⟨hb, hr, hnr, ha21, ha25, hu29, hu34, hw, hnt, hwr⟩ := hbp
  rcases hno.1 with ⟨rfl, rfl⟩ | ⟨rfl, rfl⟩
  · refine xi_aload_n (by decide +kernel : decode mX2_swap.2.1 0 = .ok (.aload_n 0, 1)) rfl rfl (?_ : XW _ _ _ _ _ _ _ 1 _ _)
    refine xi_getR (y := 53) (by decide +kernel : decode mX2_swap.2.1 1 = .ok (.getfield 9, 3)) fX2_9 rfl (by omega) rfl hno.2.1 (?_ : XW _ _ _ _ _ _ _ 4 _ _)
    refine xi_astore_n (ls' := [some (.ref 52), some (.ref 53)]) (by decide +kernel : decode mX2_swap.2.1 4 = .ok (.astore_n 1, 1)) rfl (by decide) rfl (?_ : XW _ _ _ _ _ _ _ 5 _ _)
    refine xi_aload_n (by decide +kernel : decode mX2_swap.2.1 5 = .ok (.aload_n 0, 1)) rfl rfl (?_ : XW _ _ _ _ _ _ _ 6 _ _)
    refine xi_aload_n (by decide +kernel : decode mX2_swap.2.1 6 = .ok (.aload_n 0, 1)) rfl rfl (?_ : XW _ _ _ _ _ _ _ 7 _ _)
    refine xi_getR (y := 54) (by decide +kernel : decode mX2_swap.2.1 7 = .ok (.getfield 15, 3)) fX2_15 rfl (by omega) rfl hno.2.2.1 (?_ : XW _ _ _ _ _ _ _ 10 _ _)
    refine xi_putR (by decide +kernel : decode mX2_swap.2.1 10 = .ok (.putfield 9, 3)) fX2_9 rfl (by omega) rfl (?_ : XW _ _ _ _ _ _ (xSP 52 (va_up (xP h 52) 0 (some 54)) h) 13 _ _)
    refine xi_aload_n (by decide +kernel : decode mX2_swap.2.1 13 = .ok (.aload_n 0, 1)) rfl rfl (?_ : XW _ _ _ _ _ _ _ 14 _ _)
    refine xi_aload_n (by decide +kernel : decode mX2_swap.2.1 14 = .ok (.aload_n 1, 1)) rfl rfl (?_ : XW _ _ _ _ _ _ _ 15 _ _)
    refine xi_putR (by decide +kernel : decode mX2_swap.2.1 15 = .ok (.putfield 15, 3)) fX2_15 rfl (by omega) rfl (?_ : XW _ _ _ _ _ _ (xSP 52 (va_up (va_up (xP h 52) 0 (some 54)) 1 (some 53)) (xSP 52 (va_up (xP h 52) 0 (some 54)) h)) 18 _ _)
    exact xi_vret (by decide +kernel : decode mX2_swap.2.1 18 = .ok (.return_, 1)) rfl vc
  · refine xi_aload_n (by decide +kernel : decode mX2_swap.2.1 0 = .ok (.aload_n 0, 1)) rfl rfl (?_ : XW _ _ _ _ _ _ _ 1 _ _)
    refine xi_getR (y := 54) (by decide +kernel : decode mX2_swap.2.1 1 = .ok (.getfield 9, 3)) fX2_9 rfl (by omega) rfl hno.2.1 (?_ : XW _ _ _ _ _ _ _ 4 _ _)
    refine xi_astore_n (ls' := [some (.ref 52), some (.ref 54)]) (by decide +kernel : decode mX2_swap.2.1 4 = .ok (.astore_n 1, 1)) rfl (by decide) rfl (?_ : XW _ _ _ _ _ _ _ 5 _ _)
    refine xi_aload_n (by decide +kernel : decode mX2_swap.2.1 5 = .ok (.aload_n 0, 1)) rfl rfl (?_ : XW _ _ _ _ _ _ _ 6 _ _)
    refine xi_aload_n (by decide +kernel : decode mX2_swap.2.1 6 = .ok (.aload_n 0, 1)) rfl rfl (?_ : XW _ _ _ _ _ _ _ 7 _ _)
    refine xi_getR (y := 53) (by decide +kernel : decode mX2_swap.2.1 7 = .ok (.getfield 15, 3)) fX2_15 rfl (by omega) rfl hno.2.2.1 (?_ : XW _ _ _ _ _ _ _ 10 _ _)
    refine xi_putR (by decide +kernel : decode mX2_swap.2.1 10 = .ok (.putfield 9, 3)) fX2_9 rfl (by omega) rfl (?_ : XW _ _ _ _ _ _ (xSP 52 (va_up (xP h 52) 0 (some 53)) h) 13 _ _)
    refine xi_aload_n (by decide +kernel : decode mX2_swap.2.1 13 = .ok (.aload_n 0, 1)) rfl rfl (?_ : XW _ _ _ _ _ _ _ 14 _ _)
    refine xi_aload_n (by decide +kernel : decode mX2_swap.2.1 14 = .ok (.aload_n 1, 1)) rfl rfl (?_ : XW _ _ _ _ _ _ _ 15 _ _)
    refine xi_putR (by decide +kernel : decode mX2_swap.2.1 15 = .ok (.putfield 15, 3)) fX2_15 rfl (by omega) rfl (?_ : XW _ _ _ _ _ _ (xSP 52 (va_up (va_up (xP h 52) 0 (some 53)) 1 (some 54)) (xSP 52 (va_up (xP h 52) 0 (some 53)) h)) 18 _ _)
    exact xi_vret (by decide +kernel : decode mX2_swap.2.1 18 = .ok (.return_, 1)) rfl vc

set_option maxRecDepth 20000 in
theorem v_X2_isAsNoted_0 {h : XH} {Q : Option Value → XH → Prop} {X : String → XH → Prop} (r : Nat) (hbp : BP r h)  (i : Int32) (t : Int32)
    (vc : ∃ Q1, XSpec mX7_noteOf 1 0 0 100 100 [.ref 29, .int i] h Q1 xno ∧ ∀ v h1, Q1 v h1 → ∃ r1 : Int32, v = some (.int r1) ∧ ((r1 = (-1) → Q (some (.int 1)) h1) ∧ (¬ r1 = (-1) → (¬ r1 = t → Q (some (.int 0)) h1) ∧ (r1 = t → Q (some (.int 1)) h1)))) :
    XW (xrm 2 0 0) mX2_isAsNoted (xE 100 Q X 0 0) 100 0 0 h 0 [some (.ref 29), some (.int i), some (.int t), none] [] := by
  obtain ⟨hb, hr, hnr, ha21, ha25, hu29, hu34, hw, hnt, hwr⟩ := hbp
  refine xi_aload_n (by decide +kernel : decode mX2_isAsNoted.2.1 0 = .ok (.aload_n 0, 1)) rfl rfl (?_ : XW _ _ _ _ _ _ _ 1 _ _)
  refine xi_iload_n (by decide +kernel : decode mX2_isAsNoted.2.1 1 = .ok (.iload_n 1, 1)) rfl rfl (?_ : XW _ _ _ _ _ _ _ 2 _ _)
  obtain ⟨Q1, sp, vc⟩ := vc
  refine xi_callV (b := 0) (bs := 0) (As := [.int i]) (st := []) (by decide +kernel : decode mX2_isAsNoted.2.1 2 = .ok (.invokevirtual 21, 3)) kX2_21 rfl rfl (by omega) rfl sp (by decide) (by decide) (Nat.le_of_ble_eq_true rfl) (by omega) (fun v9 h1 hq9 => ?_)
  obtain ⟨r1, e9, vc⟩ := vc v9 h1 hq9
  subst e9
  show XW _ _ _ _ _ _ _ 5 _ [.int r1]
  refine xi_istore_n (ls' := [some (.ref 29), some (.int i), some (.int t), some (.int r1)]) (by decide +kernel : decode mX2_isAsNoted.2.1 5 = .ok (.istore_n 3, 1)) rfl (by decide) rfl (?_ : XW _ _ _ _ _ _ _ 6 _ _)
  refine xi_iload_n (by decide +kernel : decode mX2_isAsNoted.2.1 6 = .ok (.iload_n 3, 1)) rfl rfl (?_ : XW _ _ _ _ _ _ _ 7 _ _)
  refine xi_iconst (v := (-1)) (by decide +kernel : decode mX2_isAsNoted.2.1 7 = .ok (.iconst (-1), 1)) (by decide) (?_ : XW _ _ _ _ _ _ _ 8 _ _)
  refine xi_icmp_eq (by decide +kernel : decode mX2_isAsNoted.2.1 8 = .ok (.if_icmp .eq 8, 3)) (by decide) (fun c => (?_ : XW _ _ _ _ _ _ _ 16 _ _)) (fun c => (?_ : XW _ _ _ _ _ _ _ 11 _ _))
  · replace vc := vc.1 c
    refine xi_iconst (v := 1) (by decide +kernel : decode mX2_isAsNoted.2.1 16 = .ok (.iconst 1, 1)) (by decide) (?_ : XW _ _ _ _ _ _ _ 17 _ _)
    refine xi_goto (by decide +kernel : decode mX2_isAsNoted.2.1 17 = .ok (.goto 4, 3)) (by decide) (?_ : XW _ _ _ _ _ _ _ 21 _ _)
    exact xi_iret (by decide +kernel : decode mX2_isAsNoted.2.1 21 = .ok (.ireturn, 1)) rfl rfl vc
  · replace vc := vc.2 c
    refine xi_iload_n (by decide +kernel : decode mX2_isAsNoted.2.1 11 = .ok (.iload_n 3, 1)) rfl rfl (?_ : XW _ _ _ _ _ _ _ 12 _ _)
    refine xi_iload_n (by decide +kernel : decode mX2_isAsNoted.2.1 12 = .ok (.iload_n 2, 1)) rfl rfl (?_ : XW _ _ _ _ _ _ _ 13 _ _)
    refine xi_icmp_ne (by decide +kernel : decode mX2_isAsNoted.2.1 13 = .ok (.if_icmp .ne 7, 3)) (by decide) (fun c => (?_ : XW _ _ _ _ _ _ _ 20 _ _)) (fun c => (?_ : XW _ _ _ _ _ _ _ 16 _ _))
    · replace vc := vc.1 c
      refine xi_iconst (v := 0) (by decide +kernel : decode mX2_isAsNoted.2.1 20 = .ok (.iconst 0, 1)) (by decide) (?_ : XW _ _ _ _ _ _ _ 21 _ _)
      exact xi_iret (by decide +kernel : decode mX2_isAsNoted.2.1 21 = .ok (.ireturn, 1)) rfl rfl vc
    · replace vc := vc.2 c
      refine xi_iconst (v := 1) (by decide +kernel : decode mX2_isAsNoted.2.1 16 = .ok (.iconst 1, 1)) (by decide) (?_ : XW _ _ _ _ _ _ _ 17 _ _)
      refine xi_goto (by decide +kernel : decode mX2_isAsNoted.2.1 17 = .ok (.goto 4, 3)) (by decide) (?_ : XW _ _ _ _ _ _ _ 21 _ _)
      exact xi_iret (by decide +kernel : decode mX2_isAsNoted.2.1 21 = .ok (.ireturn, 1)) rfl rfl vc

set_option maxRecDepth 20000 in
theorem v_X2_sumOfFaces_0 {h : XH} {Q : Option Value → XH → Prop} {X : String → XH → Prop} (r : Nat) (hbp : BP r h)  (i : Int32) (q : Int32)
    (vc : XW (xrm 3 0 0) mX2_sumOfFaces (xE 100 Q X 0 0) 100 0 0 h 6 [some (.ref 52), some (.ref 29), some (.ref r), some (.ref 21), some (.int i), some (.int q), some (.long 0), none, some (.int 1), none] []) :
    XW (xrm 3 0 0) mX2_sumOfFaces (xE 100 Q X 0 0) 100 0 0 h 0 [some (.ref 52), some (.ref 29), some (.ref r), some (.ref 21), some (.int i), some (.int q), none, none, none, none] [] := by
  obtain ⟨hb, hr, hnr, ha21, ha25, hu29, hu34, hw, hnt, hwr⟩ := hbp
  refine xi_lconst (v := 0) (by decide +kernel : decode mX2_sumOfFaces.2.1 0 = .ok (.lconst 0, 1)) (by decide) (?_ : XW _ _ _ _ _ _ _ 1 _ _)
  refine xi_lstore (ls' := [some (.ref 52), some (.ref 29), some (.ref r), some (.ref 21), some (.int i), some (.int q), some (.long 0), none, none, none]) (by decide +kernel : decode mX2_sumOfFaces.2.1 1 = .ok (.lstore 6, 2)) (by decide) rfl (?_ : XW _ _ _ _ _ _ _ 3 _ _)
  refine xi_iconst (v := 1) (by decide +kernel : decode mX2_sumOfFaces.2.1 3 = .ok (.iconst 1, 1)) (by decide) (?_ : XW _ _ _ _ _ _ _ 4 _ _)
  refine xi_istore (ls' := [some (.ref 52), some (.ref 29), some (.ref r), some (.ref 21), some (.int i), some (.int q), some (.long 0), none, some (.int 1), none]) (by decide +kernel : decode mX2_sumOfFaces.2.1 4 = .ok (.istore 8, 2)) (by decide) rfl (?_ : XW _ _ _ _ _ _ _ 6 _ _)
  exact vc

set_option maxRecDepth 20000 in
theorem v_X2_sumOfFaces_6 {h : XH} {Q : Option Value → XH → Prop} {X : String → XH → Prop} (r : Nat) (hbp : BP r h)  (x4 : Int32) (x5 : Int32) (x6 : Int64) (x8 : Int32)
    (vc : (6 < x8 → Q (some (.long (if 1000000000000000000 < x6 then 1000000000000000000 else x6))) h) ∧ (¬ 6 < x8 → ∃ Q1, XSpec mX3_to 1 0 0 100 100 [.ref 21, .int x5, .int x8] h Q1 xno ∧ ∀ v h1, Q1 v h1 → ∃ r1 : Int32, v = some (.int r1) ∧ (∃ Q1, XSpec mX5_oddsOf 1 0 0 100 100 [.ref r, .int x8] h1 Q1 xno ∧ ∀ v h2, Q1 v h2 → ∃ r2 : Int32, v = some (.int r2) ∧ ((r2 ≤ 0 → XW (xrm 3 0 0) mX2_sumOfFaces (xE 100 Q X 0 0) 100 0 0 h2 6 [some (.ref 52), some (.ref 29), some (.ref r), some (.ref 21), some (.int x4), some (.int x5), some (.long x6), none, some (.int (x8 + 1)), none] []) ∧ (¬ r2 ≤ 0 → ∃ Q1, XSpec mX2_isAsNoted 2 0 0 100 100 [.ref 29, .int x4, .int r1] h2 Q1 xno ∧ ∀ v h3, Q1 v h3 → ∃ r3 : Int32, v = some (.int r3) ∧ ((r3 = 0 → XW (xrm 3 0 0) mX2_sumOfFaces (xE 100 Q X 0 0) 100 0 0 h3 6 [some (.ref 52), some (.ref 29), some (.ref r), some (.ref 21), some (.int x4), some (.int x5), some (.long x6), none, some (.int (x8 + 1)), none] []) ∧ (¬ r3 = 0 → ∃ Q1, XSpec mX2_ways 1 0 0 100 100 [.ref 52, .int r1] h3 Q1 xno ∧ ∀ v h4, Q1 v h4 → ∃ r4 : Int64, v = some (.long r4) ∧ (XW (xrm 3 0 0) mX2_sumOfFaces (xE 100 Q X 0 0) 100 0 0 h4 6 [some (.ref 52), some (.ref 29), some (.ref r), some (.ref 21), some (.int x4), some (.int x5), some (.long (x6 + r4)), none, some (.int (x8 + 1)), none] [])))))))) :
    XW (xrm 3 0 0) mX2_sumOfFaces (xE 100 Q X 0 0) 100 0 0 h 6 [some (.ref 52), some (.ref 29), some (.ref r), some (.ref 21), some (.int x4), some (.int x5), some (.long x6), none, some (.int x8), none] [] := by
  obtain ⟨hb, hr, hnr, ha21, ha25, hu29, hu34, hw, hnt, hwr⟩ := hbp
  refine xi_iload (by decide +kernel : decode mX2_sumOfFaces.2.1 6 = .ok (.iload 8, 2)) rfl (?_ : XW _ _ _ _ _ _ _ 8 _ _)
  refine xi_bipush (v := 6) (by decide +kernel : decode mX2_sumOfFaces.2.1 8 = .ok (.bipush 6, 2)) (by decide) (?_ : XW _ _ _ _ _ _ _ 10 _ _)
  refine xi_icmp_gt (by decide +kernel : decode mX2_sumOfFaces.2.1 10 = .ok (.if_icmp .gt 50, 3)) (by decide) (fun c => (?_ : XW _ _ _ _ _ _ _ 60 _ _)) (fun c => (?_ : XW _ _ _ _ _ _ _ 13 _ _))
  · replace vc := vc.1 c
    refine xi_lload (by decide +kernel : decode mX2_sumOfFaces.2.1 60 = .ok (.lload 6, 2)) rfl (?_ : XW _ _ _ _ _ _ _ 62 _ _)
    refine xi_ldc2 (v := 1000000000000000000) (by decide +kernel : decode mX2_sumOfFaces.2.1 62 = .ok (.ldc2_w 82, 3)) cK_X2_82 (?_ : XW _ _ _ _ _ _ _ 65 _ _)
    refine xi_mminl (by decide +kernel : decode mX2_sumOfFaces.2.1 65 = .ok (.invokestatic 84, 3)) kX2_84.2.1 (by decide) (Nat.le_of_ble_eq_true rfl) (?_ : XW _ _ _ _ _ _ _ 68 _ _)
    exact xi_lret (by decide +kernel : decode mX2_sumOfFaces.2.1 68 = .ok (.lreturn, 1)) rfl vc
  · replace vc := vc.2 c
    refine xi_aload_n (by decide +kernel : decode mX2_sumOfFaces.2.1 13 = .ok (.aload_n 3, 1)) rfl rfl (?_ : XW _ _ _ _ _ _ _ 14 _ _)
    refine xi_iload (by decide +kernel : decode mX2_sumOfFaces.2.1 14 = .ok (.iload 5, 2)) rfl (?_ : XW _ _ _ _ _ _ _ 16 _ _)
    refine xi_iload (by decide +kernel : decode mX2_sumOfFaces.2.1 16 = .ok (.iload 8, 2)) rfl (?_ : XW _ _ _ _ _ _ _ 18 _ _)
    obtain ⟨Q1, sp, vc⟩ := vc
    refine xi_callV (b := 0) (bs := 0) (As := [.int x5, .int x8]) (st := []) (by decide +kernel : decode mX2_sumOfFaces.2.1 18 = .ok (.invokevirtual 32, 3)) kX2_32 rfl rfl (by omega) rfl sp (by decide) (by decide) (Nat.le_of_ble_eq_true rfl) (by omega) (fun v9 h1 hq9 => ?_)
    obtain ⟨r1, e9, vc⟩ := vc v9 h1 hq9
    subst e9
    show XW _ _ _ _ _ _ _ 21 _ [.int r1]
    refine xi_istore (ls' := [some (.ref 52), some (.ref 29), some (.ref r), some (.ref 21), some (.int x4), some (.int x5), some (.long x6), none, some (.int x8), some (.int r1)]) (by decide +kernel : decode mX2_sumOfFaces.2.1 21 = .ok (.istore 9, 2)) (by decide) rfl (?_ : XW _ _ _ _ _ _ _ 23 _ _)
    refine xi_aload_n (by decide +kernel : decode mX2_sumOfFaces.2.1 23 = .ok (.aload_n 2, 1)) rfl rfl (?_ : XW _ _ _ _ _ _ _ 24 _ _)
    refine xi_iload (by decide +kernel : decode mX2_sumOfFaces.2.1 24 = .ok (.iload 8, 2)) rfl (?_ : XW _ _ _ _ _ _ _ 26 _ _)
    obtain ⟨Q1, sp, vc⟩ := vc
    refine xi_callV (b := 0) (bs := 0) (As := [.int x8]) (st := []) (by decide +kernel : decode mX2_sumOfFaces.2.1 26 = .ok (.invokevirtual 27, 3)) kX2_27 rfl (xRul_s0 hr) (by omega) rfl sp (by decide) (by decide) (Nat.le_of_ble_eq_true rfl) (by omega) (fun v9 h2 hq9 => ?_)
    obtain ⟨r2, e9, vc⟩ := vc v9 h2 hq9
    subst e9
    show XW _ _ _ _ _ _ _ 29 _ [.int r2]
    refine xi_if_le (by decide +kernel : decode mX2_sumOfFaces.2.1 29 = .ok (.ifCond .le 25, 3)) (by decide) (fun c => (?_ : XW _ _ _ _ _ _ _ 54 _ _)) (fun c => (?_ : XW _ _ _ _ _ _ _ 32 _ _))
    · replace vc := vc.1 c
      refine xi_iinc (v := x8 + 1) (ls' := [some (.ref 52), some (.ref 29), some (.ref r), some (.ref 21), some (.int x4), some (.int x5), some (.long x6), none, some (.int (x8 + 1)), some (.int r1)]) (by decide +kernel : decode mX2_sumOfFaces.2.1 54 = .ok (.iinc 8 1, 3)) rfl rfl (by decide) rfl (?_ : XW _ _ _ _ _ _ _ 57 _ _)
      refine xi_goto (by decide +kernel : decode mX2_sumOfFaces.2.1 57 = .ok (.goto (-51), 3)) (by decide) (?_ : XW _ _ _ _ _ _ _ 6 _ _)
      refine xw_drop 9 (ls' := [some (.ref 52), some (.ref 29), some (.ref r), some (.ref 21), some (.int x4), some (.int x5), some (.long x6), none, some (.int (x8 + 1)), none]) rfl ?_
      exact vc
    · replace vc := vc.2 c
      refine xi_aload_n (by decide +kernel : decode mX2_sumOfFaces.2.1 32 = .ok (.aload_n 1, 1)) rfl rfl (?_ : XW _ _ _ _ _ _ _ 33 _ _)
      refine xi_iload (by decide +kernel : decode mX2_sumOfFaces.2.1 33 = .ok (.iload 4, 2)) rfl (?_ : XW _ _ _ _ _ _ _ 35 _ _)
      refine xi_iload (by decide +kernel : decode mX2_sumOfFaces.2.1 35 = .ok (.iload 9, 2)) rfl (?_ : XW _ _ _ _ _ _ _ 37 _ _)
      obtain ⟨Q1, sp, vc⟩ := vc
      refine xi_callS (b := 0) (bs := 0) (As := [.ref 29, .int x4, .int r1]) (st := []) (by decide +kernel : decode mX2_sumOfFaces.2.1 37 = .ok (.invokestatic 78, 3)) kX2_78 rfl rfl sp (by decide) (by decide) (Nat.le_of_ble_eq_true rfl) (by omega) (fun v9 h3 hq9 => ?_)
      obtain ⟨r3, e9, vc⟩ := vc v9 h3 hq9
      subst e9
      show XW _ _ _ _ _ _ _ 40 _ [.int r3]
      refine xi_if_eq (by decide +kernel : decode mX2_sumOfFaces.2.1 40 = .ok (.ifCond .eq 14, 3)) (by decide) (fun c => (?_ : XW _ _ _ _ _ _ _ 54 _ _)) (fun c => (?_ : XW _ _ _ _ _ _ _ 43 _ _))
      · replace vc := vc.1 c
        refine xi_iinc (v := x8 + 1) (ls' := [some (.ref 52), some (.ref 29), some (.ref r), some (.ref 21), some (.int x4), some (.int x5), some (.long x6), none, some (.int (x8 + 1)), some (.int r1)]) (by decide +kernel : decode mX2_sumOfFaces.2.1 54 = .ok (.iinc 8 1, 3)) rfl rfl (by decide) rfl (?_ : XW _ _ _ _ _ _ _ 57 _ _)
        refine xi_goto (by decide +kernel : decode mX2_sumOfFaces.2.1 57 = .ok (.goto (-51), 3)) (by decide) (?_ : XW _ _ _ _ _ _ _ 6 _ _)
        refine xw_drop 9 (ls' := [some (.ref 52), some (.ref 29), some (.ref r), some (.ref 21), some (.int x4), some (.int x5), some (.long x6), none, some (.int (x8 + 1)), none]) rfl ?_
        exact vc
      · replace vc := vc.2 c
        refine xi_lload (by decide +kernel : decode mX2_sumOfFaces.2.1 43 = .ok (.lload 6, 2)) rfl (?_ : XW _ _ _ _ _ _ _ 45 _ _)
        refine xi_aload_n (by decide +kernel : decode mX2_sumOfFaces.2.1 45 = .ok (.aload_n 0, 1)) rfl rfl (?_ : XW _ _ _ _ _ _ _ 46 _ _)
        refine xi_iload (by decide +kernel : decode mX2_sumOfFaces.2.1 46 = .ok (.iload 9, 2)) rfl (?_ : XW _ _ _ _ _ _ _ 48 _ _)
        obtain ⟨Q1, sp, vc⟩ := vc
        refine xi_callV (b := 0) (bs := 0) (As := [.int r1]) (st := [.long x6]) (by decide +kernel : decode mX2_sumOfFaces.2.1 48 = .ok (.invokevirtual 70, 3)) kX2_70 rfl rfl (by omega) rfl sp (by decide) (by decide) (Nat.le_of_ble_eq_true rfl) (by omega) (fun v9 h4 hq9 => ?_)
        obtain ⟨r4, e9, vc⟩ := vc v9 h4 hq9
        subst e9
        show XW _ _ _ _ _ _ _ 51 _ [.long r4, .long x6]
        refine xi_ladd (by decide +kernel : decode mX2_sumOfFaces.2.1 51 = .ok (.ladd, 1)) (?_ : XW _ _ _ _ _ _ _ 52 _ _)
        refine xi_lstore (ls' := [some (.ref 52), some (.ref 29), some (.ref r), some (.ref 21), some (.int x4), some (.int x5), some (.long (x6 + r4)), none, some (.int x8), some (.int r1)]) (by decide +kernel : decode mX2_sumOfFaces.2.1 52 = .ok (.lstore 6, 2)) (by decide) rfl (?_ : XW _ _ _ _ _ _ _ 54 _ _)
        refine xi_iinc (v := x8 + 1) (ls' := [some (.ref 52), some (.ref 29), some (.ref r), some (.ref 21), some (.int x4), some (.int x5), some (.long (x6 + r4)), none, some (.int (x8 + 1)), some (.int r1)]) (by decide +kernel : decode mX2_sumOfFaces.2.1 54 = .ok (.iinc 8 1, 3)) rfl rfl (by decide) rfl (?_ : XW _ _ _ _ _ _ _ 57 _ _)
        refine xi_goto (by decide +kernel : decode mX2_sumOfFaces.2.1 57 = .ok (.goto (-51), 3)) (by decide) (?_ : XW _ _ _ _ _ _ _ 6 _ _)
        refine xw_drop 9 (ls' := [some (.ref 52), some (.ref 29), some (.ref r), some (.ref 21), some (.int x4), some (.int x5), some (.long (x6 + r4)), none, some (.int (x8 + 1)), none]) rfl ?_
        exact vc

set_option maxRecDepth 20000 in
theorem v_X2_countFits_0 {h : XH} {Q : Option Value → XH → Prop} {X : String → XH → Prop} (r na nb : Nat) (hno : xNot na nb (xP h)) (hbp : BP r h) 
    (vc : XW (xrm 4 0 0) mX2_countFits (xE 100 Q X 0 0) 100 0 0 (xSL 100 (fl 82 0 (xL h 100)) h) 11 [some (.ref 52), some (.ref 29), some (.ref r), some (.ref 21), some (.int 0), none] []) :
    XW (xrm 4 0 0) mX2_countFits (xE 100 Q X 0 0) 100 0 0 h 0 [some (.ref 52), some (.ref 29), some (.ref r), some (.ref 21), none, none] [] := by
  obtain ⟨hb, hr, hnr, ha21, ha25, hu29, hu34, hw, hnt, hwr⟩ := hbp
  refine xi_aload_n (by decide +kernel : decode mX2_countFits.2.1 0 = .ok (.aload_n 0, 1)) rfl rfl (?_ : XW _ _ _ _ _ _ _ 1 _ _)
  refine xi_getR (y := 100) (by decide +kernel : decode mX2_countFits.2.1 1 = .ok (.getfield 18, 3)) fX2_18 rfl (by omega) rfl hno.2.2.2 (?_ : XW _ _ _ _ _ _ _ 4 _ _)
  refine xi_lconst (v := 0) (by decide +kernel : decode mX2_countFits.2.1 4 = .ok (.lconst 0, 1)) (by decide) (?_ : XW _ _ _ _ _ _ _ 5 _ _)
  refine xi_callS (b := 0) (bs := 0) (As := [.ref 100, .long 0]) (st := []) (by decide +kernel : decode mX2_countFits.2.1 5 = .ok (.invokestatic 50, 3)) kX2_50 rfl rfl (s_fillJ 100 h 100 82 rfl (by omega) (by decide) 0) (by decide) (by decide) (Nat.le_of_ble_eq_true rfl) (by omega) (fun v9 h9 hq9 => ?_)
  rw [hq9.1, hq9.2]
  show XW _ _ _ _ _ _ _ 8 _ []
  refine xi_iconst (v := 0) (by decide +kernel : decode mX2_countFits.2.1 8 = .ok (.iconst 0, 1)) (by decide) (?_ : XW _ _ _ _ _ _ _ 9 _ _)
  refine xi_istore (ls' := [some (.ref 52), some (.ref 29), some (.ref r), some (.ref 21), some (.int 0), none]) (by decide +kernel : decode mX2_countFits.2.1 9 = .ok (.istore 4, 2)) (by decide) rfl (?_ : XW _ _ _ _ _ _ _ 11 _ _)
  exact vc

set_option maxRecDepth 20000 in
theorem v_X2_countFits_11 {h : XH} {Q : Option Value → XH → Prop} {X : String → XH → Prop} (r na nb : Nat) (hno : xNot na nb (xP h)) (hbp : BP r h)  (x4 : Int32)
    (vc : ((xI h r 0) < x4 → ∃ Q1, XSpec mX2_swap 1 0 0 100 100 [.ref 52] h Q1 xno ∧ ∀ v h1, Q1 v h1 → v = none ∧ (XW (xrm 4 0 0) mX2_countFits (xE 100 Q X 0 0) 100 0 0 h1 49 [some (.ref 52), some (.ref 29), some (.ref r), some (.ref 21), some (.int ((xI h1 29 2) - 1)), none] [])) ∧ (¬ (xI h r 0) < x4 → ∃ Q1, XSpec mX2_putEarlier 2 0 0 100 100 [.ref 52, .int (xI h 29 2), .int x4, .long 1] h Q1 xno ∧ ∀ v h2, Q1 v h2 → v = none ∧ (XW (xrm 4 0 0) mX2_countFits (xE 100 Q X 0 0) 100 0 0 h2 11 [some (.ref 52), some (.ref 29), some (.ref r), some (.ref 21), some (.int (x4 + 1)), none] []))) :
    XW (xrm 4 0 0) mX2_countFits (xE 100 Q X 0 0) 100 0 0 h 11 [some (.ref 52), some (.ref 29), some (.ref r), some (.ref 21), some (.int x4), none] [] := by
  obtain ⟨hb, hr, hnr, ha21, ha25, hu29, hu34, hw, hnt, hwr⟩ := hbp
  refine xi_iload (by decide +kernel : decode mX2_countFits.2.1 11 = .ok (.iload 4, 2)) rfl (?_ : XW _ _ _ _ _ _ _ 13 _ _)
  refine xi_aload_n (by decide +kernel : decode mX2_countFits.2.1 13 = .ok (.aload_n 2, 1)) rfl rfl (?_ : XW _ _ _ _ _ _ _ 14 _ _)
  refine xi_getI (by decide +kernel : decode mX2_countFits.2.1 14 = .ok (.getfield 56, 3)) fX2_56 (xRul_s0 hr) (by omega) rfl (?_ : XW _ _ _ _ _ _ _ 17 _ _)
  refine xi_icmp_gt (by decide +kernel : decode mX2_countFits.2.1 17 = .ok (.if_icmp .gt 20, 3)) (by decide) (fun c => (?_ : XW _ _ _ _ _ _ _ 37 _ _)) (fun c => (?_ : XW _ _ _ _ _ _ _ 20 _ _))
  · replace vc := vc.1 c
    refine xi_aload_n (by decide +kernel : decode mX2_countFits.2.1 37 = .ok (.aload_n 0, 1)) rfl rfl (?_ : XW _ _ _ _ _ _ _ 38 _ _)
    obtain ⟨Q1, sp, vc⟩ := vc
    refine xi_callV (b := 0) (bs := 0) (As := []) (st := []) (by decide +kernel : decode mX2_countFits.2.1 38 = .ok (.invokevirtual 63, 3)) kX2_63 rfl rfl (by omega) rfl sp (by decide) (by decide) (Nat.le_of_ble_eq_true rfl) (by omega) (fun v9 h1 hq9 => ?_)
    obtain ⟨e9, vc⟩ := vc v9 h1 hq9
    subst e9
    show XW _ _ _ _ _ _ _ 41 _ []
    refine xi_aload_n (by decide +kernel : decode mX2_countFits.2.1 41 = .ok (.aload_n 1, 1)) rfl rfl (?_ : XW _ _ _ _ _ _ _ 42 _ _)
    refine xi_getI (by decide +kernel : decode mX2_countFits.2.1 42 = .ok (.getfield 38, 3)) fX2_38 rfl (by omega) rfl (?_ : XW _ _ _ _ _ _ _ 45 _ _)
    refine xi_iconst (v := 1) (by decide +kernel : decode mX2_countFits.2.1 45 = .ok (.iconst 1, 1)) (by decide) (?_ : XW _ _ _ _ _ _ _ 46 _ _)
    refine xi_isub (by decide +kernel : decode mX2_countFits.2.1 46 = .ok (.isub, 1)) (?_ : XW _ _ _ _ _ _ _ 47 _ _)
    refine xi_istore (ls' := [some (.ref 52), some (.ref 29), some (.ref r), some (.ref 21), some (.int ((xI h1 29 2) - 1)), none]) (by decide +kernel : decode mX2_countFits.2.1 47 = .ok (.istore 4, 2)) (by decide) rfl (?_ : XW _ _ _ _ _ _ _ 49 _ _)
    exact vc
  · replace vc := vc.2 c
    refine xi_aload_n (by decide +kernel : decode mX2_countFits.2.1 20 = .ok (.aload_n 0, 1)) rfl rfl (?_ : XW _ _ _ _ _ _ _ 21 _ _)
    refine xi_aload_n (by decide +kernel : decode mX2_countFits.2.1 21 = .ok (.aload_n 1, 1)) rfl rfl (?_ : XW _ _ _ _ _ _ _ 22 _ _)
    refine xi_getI (by decide +kernel : decode mX2_countFits.2.1 22 = .ok (.getfield 38, 3)) fX2_38 rfl (by omega) rfl (?_ : XW _ _ _ _ _ _ _ 25 _ _)
    refine xi_iload (by decide +kernel : decode mX2_countFits.2.1 25 = .ok (.iload 4, 2)) rfl (?_ : XW _ _ _ _ _ _ _ 27 _ _)
    refine xi_lconst (v := 1) (by decide +kernel : decode mX2_countFits.2.1 27 = .ok (.lconst 1, 1)) (by decide) (?_ : XW _ _ _ _ _ _ _ 28 _ _)
    obtain ⟨Q1, sp, vc⟩ := vc
    refine xi_callV (b := 0) (bs := 0) (As := [.int (xI h 29 2), .int x4, .long 1]) (st := []) (by decide +kernel : decode mX2_countFits.2.1 28 = .ok (.invokevirtual 59, 3)) kX2_59 rfl rfl (by omega) rfl sp (by decide) (by decide) (Nat.le_of_ble_eq_true rfl) (by omega) (fun v9 h2 hq9 => ?_)
    obtain ⟨e9, vc⟩ := vc v9 h2 hq9
    subst e9
    show XW _ _ _ _ _ _ _ 31 _ []
    refine xi_iinc (v := x4 + 1) (ls' := [some (.ref 52), some (.ref 29), some (.ref r), some (.ref 21), some (.int (x4 + 1)), none]) (by decide +kernel : decode mX2_countFits.2.1 31 = .ok (.iinc 4 1, 3)) rfl rfl (by decide) rfl (?_ : XW _ _ _ _ _ _ _ 34 _ _)
    refine xi_goto (by decide +kernel : decode mX2_countFits.2.1 34 = .ok (.goto (-23), 3)) (by decide) (?_ : XW _ _ _ _ _ _ _ 11 _ _)
    exact vc

set_option maxRecDepth 20000 in
theorem v_X2_countFits_49 {h : XH} {Q : Option Value → XH → Prop} {X : String → XH → Prop} (r na nb : Nat) (hno : xNot na nb (xP h)) (hbp : BP r h)  (x4 : Int32)
    (vc : (x4 < 0 → ∃ Q1, XSpec mX2_ways 1 0 0 100 100 [.ref 52, .int 0] h Q1 xno ∧ ∀ v h3, Q1 v h3 → ∃ r3 : Int64, v = some (.long r3) ∧ (Q (some (.long r3)) h3)) ∧ (¬ x4 < 0 → XW (xrm 4 0 0) mX2_countFits (xE 100 Q X 0 0) 100 0 0 h 57 [some (.ref 52), some (.ref 29), some (.ref r), some (.ref 21), some (.int x4), some (.int 0)] [])) :
    XW (xrm 4 0 0) mX2_countFits (xE 100 Q X 0 0) 100 0 0 h 49 [some (.ref 52), some (.ref 29), some (.ref r), some (.ref 21), some (.int x4), none] [] := by
  obtain ⟨hb, hr, hnr, ha21, ha25, hu29, hu34, hw, hnt, hwr⟩ := hbp
  refine xi_iload (by decide +kernel : decode mX2_countFits.2.1 49 = .ok (.iload 4, 2)) rfl (?_ : XW _ _ _ _ _ _ _ 51 _ _)
  refine xi_if_lt (by decide +kernel : decode mX2_countFits.2.1 51 = .ok (.ifCond .lt 50, 3)) (by decide) (fun c => (?_ : XW _ _ _ _ _ _ _ 101 _ _)) (fun c => (?_ : XW _ _ _ _ _ _ _ 54 _ _))
  · replace vc := vc.1 c
    refine xi_aload_n (by decide +kernel : decode mX2_countFits.2.1 101 = .ok (.aload_n 0, 1)) rfl rfl (?_ : XW _ _ _ _ _ _ _ 102 _ _)
    refine xi_iconst (v := 0) (by decide +kernel : decode mX2_countFits.2.1 102 = .ok (.iconst 0, 1)) (by decide) (?_ : XW _ _ _ _ _ _ _ 103 _ _)
    obtain ⟨Q1, sp, vc⟩ := vc
    refine xi_callV (b := 0) (bs := 0) (As := [.int 0]) (st := []) (by decide +kernel : decode mX2_countFits.2.1 103 = .ok (.invokevirtual 70, 3)) kX2_70 rfl rfl (by omega) rfl sp (by decide) (by decide) (Nat.le_of_ble_eq_true rfl) (by omega) (fun v9 h3 hq9 => ?_)
    obtain ⟨r3, e9, vc⟩ := vc v9 h3 hq9
    subst e9
    show XW _ _ _ _ _ _ _ 106 _ [.long r3]
    exact xi_lret (by decide +kernel : decode mX2_countFits.2.1 106 = .ok (.lreturn, 1)) rfl vc
  · replace vc := vc.2 c
    refine xi_iconst (v := 0) (by decide +kernel : decode mX2_countFits.2.1 54 = .ok (.iconst 0, 1)) (by decide) (?_ : XW _ _ _ _ _ _ _ 55 _ _)
    refine xi_istore (ls' := [some (.ref 52), some (.ref 29), some (.ref r), some (.ref 21), some (.int x4), some (.int 0)]) (by decide +kernel : decode mX2_countFits.2.1 55 = .ok (.istore 5, 2)) (by decide) rfl (?_ : XW _ _ _ _ _ _ _ 57 _ _)
    exact vc

set_option maxRecDepth 20000 in
theorem v_X2_countFits_57 {h : XH} {Q : Option Value → XH → Prop} {X : String → XH → Prop} (r na nb : Nat) (hno : xNot na nb (xP h)) (hbp : BP r h)  (x4 : Int32) (x5 : Int32)
    (vc : ((xI h r 0) < x5 → ∃ Q1, XSpec mX2_swap 1 0 0 100 100 [.ref 52] h Q1 xno ∧ ∀ v h4, Q1 v h4 → v = none ∧ (XW (xrm 4 0 0) mX2_countFits (xE 100 Q X 0 0) 100 0 0 h4 49 [some (.ref 52), some (.ref 29), some (.ref r), some (.ref 21), some (.int (x4 + (-1))), none] [])) ∧ (¬ (xI h r 0) < x5 → ∃ Q1, XSpec mX2_sumOfFaces 3 0 0 100 100 [.ref 52, .ref 29, .ref r, .ref 21, .int x4, .int x5] h Q1 xno ∧ ∀ v h5, Q1 v h5 → ∃ r5 : Int64, v = some (.long r5) ∧ (∃ Q1, XSpec mX2_putEarlier 2 0 0 100 100 [.ref 52, .int x4, .int x5, .long r5] h5 Q1 xno ∧ ∀ v h6, Q1 v h6 → v = none ∧ (XW (xrm 4 0 0) mX2_countFits (xE 100 Q X 0 0) 100 0 0 h6 57 [some (.ref 52), some (.ref 29), some (.ref r), some (.ref 21), some (.int x4), some (.int (x5 + 1))] [])))) :
    XW (xrm 4 0 0) mX2_countFits (xE 100 Q X 0 0) 100 0 0 h 57 [some (.ref 52), some (.ref 29), some (.ref r), some (.ref 21), some (.int x4), some (.int x5)] [] := by
  obtain ⟨hb, hr, hnr, ha21, ha25, hu29, hu34, hw, hnt, hwr⟩ := hbp
  refine xi_iload (by decide +kernel : decode mX2_countFits.2.1 57 = .ok (.iload 5, 2)) rfl (?_ : XW _ _ _ _ _ _ _ 59 _ _)
  refine xi_aload_n (by decide +kernel : decode mX2_countFits.2.1 59 = .ok (.aload_n 2, 1)) rfl rfl (?_ : XW _ _ _ _ _ _ _ 60 _ _)
  refine xi_getI (by decide +kernel : decode mX2_countFits.2.1 60 = .ok (.getfield 56, 3)) fX2_56 (xRul_s0 hr) (by omega) rfl (?_ : XW _ _ _ _ _ _ _ 63 _ _)
  refine xi_icmp_gt (by decide +kernel : decode mX2_countFits.2.1 63 = .ok (.if_icmp .gt 28, 3)) (by decide) (fun c => (?_ : XW _ _ _ _ _ _ _ 91 _ _)) (fun c => (?_ : XW _ _ _ _ _ _ _ 66 _ _))
  · replace vc := vc.1 c
    refine xi_aload_n (by decide +kernel : decode mX2_countFits.2.1 91 = .ok (.aload_n 0, 1)) rfl rfl (?_ : XW _ _ _ _ _ _ _ 92 _ _)
    obtain ⟨Q1, sp, vc⟩ := vc
    refine xi_callV (b := 0) (bs := 0) (As := []) (st := []) (by decide +kernel : decode mX2_countFits.2.1 92 = .ok (.invokevirtual 63, 3)) kX2_63 rfl rfl (by omega) rfl sp (by decide) (by decide) (Nat.le_of_ble_eq_true rfl) (by omega) (fun v9 h4 hq9 => ?_)
    obtain ⟨e9, vc⟩ := vc v9 h4 hq9
    subst e9
    show XW _ _ _ _ _ _ _ 95 _ []
    refine xi_iinc (v := x4 + (-1)) (ls' := [some (.ref 52), some (.ref 29), some (.ref r), some (.ref 21), some (.int (x4 + (-1))), some (.int x5)]) (by decide +kernel : decode mX2_countFits.2.1 95 = .ok (.iinc 4 (-1), 3)) rfl rfl (by decide) rfl (?_ : XW _ _ _ _ _ _ _ 98 _ _)
    refine xi_goto (by decide +kernel : decode mX2_countFits.2.1 98 = .ok (.goto (-49), 3)) (by decide) (?_ : XW _ _ _ _ _ _ _ 49 _ _)
    refine xw_drop 5 (ls' := [some (.ref 52), some (.ref 29), some (.ref r), some (.ref 21), some (.int (x4 + (-1))), none]) rfl ?_
    exact vc
  · replace vc := vc.2 c
    refine xi_aload_n (by decide +kernel : decode mX2_countFits.2.1 66 = .ok (.aload_n 0, 1)) rfl rfl (?_ : XW _ _ _ _ _ _ _ 67 _ _)
    refine xi_iload (by decide +kernel : decode mX2_countFits.2.1 67 = .ok (.iload 4, 2)) rfl (?_ : XW _ _ _ _ _ _ _ 69 _ _)
    refine xi_iload (by decide +kernel : decode mX2_countFits.2.1 69 = .ok (.iload 5, 2)) rfl (?_ : XW _ _ _ _ _ _ _ 71 _ _)
    refine xi_aload_n (by decide +kernel : decode mX2_countFits.2.1 71 = .ok (.aload_n 0, 1)) rfl rfl (?_ : XW _ _ _ _ _ _ _ 72 _ _)
    refine xi_aload_n (by decide +kernel : decode mX2_countFits.2.1 72 = .ok (.aload_n 1, 1)) rfl rfl (?_ : XW _ _ _ _ _ _ _ 73 _ _)
    refine xi_aload_n (by decide +kernel : decode mX2_countFits.2.1 73 = .ok (.aload_n 2, 1)) rfl rfl (?_ : XW _ _ _ _ _ _ _ 74 _ _)
    refine xi_aload_n (by decide +kernel : decode mX2_countFits.2.1 74 = .ok (.aload_n 3, 1)) rfl rfl (?_ : XW _ _ _ _ _ _ _ 75 _ _)
    refine xi_iload (by decide +kernel : decode mX2_countFits.2.1 75 = .ok (.iload 4, 2)) rfl (?_ : XW _ _ _ _ _ _ _ 77 _ _)
    refine xi_iload (by decide +kernel : decode mX2_countFits.2.1 77 = .ok (.iload 5, 2)) rfl (?_ : XW _ _ _ _ _ _ _ 79 _ _)
    obtain ⟨Q1, sp, vc⟩ := vc
    refine xi_callV (b := 0) (bs := 0) (As := [.ref 29, .ref r, .ref 21, .int x4, .int x5]) (st := [.int x5, .int x4, .ref 52]) (by decide +kernel : decode mX2_countFits.2.1 79 = .ok (.invokevirtual 66, 3)) kX2_66 rfl rfl (by omega) rfl sp (by decide) (by decide) (Nat.le_of_ble_eq_true rfl) (by omega) (fun v9 h5 hq9 => ?_)
    obtain ⟨r5, e9, vc⟩ := vc v9 h5 hq9
    subst e9
    show XW _ _ _ _ _ _ _ 82 _ [.long r5, .int x5, .int x4, .ref 52]
    obtain ⟨Q1, sp, vc⟩ := vc
    refine xi_callV (b := 0) (bs := 0) (As := [.int x4, .int x5, .long r5]) (st := []) (by decide +kernel : decode mX2_countFits.2.1 82 = .ok (.invokevirtual 59, 3)) kX2_59 rfl rfl (by omega) rfl sp (by decide) (by decide) (Nat.le_of_ble_eq_true rfl) (by omega) (fun v9 h6 hq9 => ?_)
    obtain ⟨e9, vc⟩ := vc v9 h6 hq9
    subst e9
    show XW _ _ _ _ _ _ _ 85 _ []
    refine xi_iinc (v := x5 + 1) (ls' := [some (.ref 52), some (.ref 29), some (.ref r), some (.ref 21), some (.int x4), some (.int (x5 + 1))]) (by decide +kernel : decode mX2_countFits.2.1 85 = .ok (.iinc 5 1, 3)) rfl rfl (by decide) rfl (?_ : XW _ _ _ _ _ _ _ 88 _ _)
    refine xi_goto (by decide +kernel : decode mX2_countFits.2.1 88 = .ok (.goto (-31), 3)) (by decide) (?_ : XW _ _ _ _ _ _ _ 57 _ _)
    exact vc

set_option maxRecDepth 20000 in
theorem v_X2_putFirstFit_0 {h : XH} {Q : Option Value → XH → Prop} {X : String → XH → Prop} (r : Nat) (hbp : BP r h) 
    (vc : XW (xrm 3 0 0) mX2_putFirstFit (xE 100 Q X 0 0) 100 0 0 h 6 [some (.ref 52), some (.ref 29), some (.ref r), some (.ref 21), some (.ref 40), some (.int 0), some (.int 0), none, none] []) :
    XW (xrm 3 0 0) mX2_putFirstFit (xE 100 Q X 0 0) 100 0 0 h 0 [some (.ref 52), some (.ref 29), some (.ref r), some (.ref 21), some (.ref 40), none, none, none, none] [] := by
  obtain ⟨hb, hr, hnr, ha21, ha25, hu29, hu34, hw, hnt, hwr⟩ := hbp
  refine xi_iconst (v := 0) (by decide +kernel : decode mX2_putFirstFit.2.1 0 = .ok (.iconst 0, 1)) (by decide) (?_ : XW _ _ _ _ _ _ _ 1 _ _)
  refine xi_istore (ls' := [some (.ref 52), some (.ref 29), some (.ref r), some (.ref 21), some (.ref 40), some (.int 0), none, none, none]) (by decide +kernel : decode mX2_putFirstFit.2.1 1 = .ok (.istore 5, 2)) (by decide) rfl (?_ : XW _ _ _ _ _ _ _ 3 _ _)
  refine xi_iconst (v := 0) (by decide +kernel : decode mX2_putFirstFit.2.1 3 = .ok (.iconst 0, 1)) (by decide) (?_ : XW _ _ _ _ _ _ _ 4 _ _)
  refine xi_istore (ls' := [some (.ref 52), some (.ref 29), some (.ref r), some (.ref 21), some (.ref 40), some (.int 0), some (.int 0), none, none]) (by decide +kernel : decode mX2_putFirstFit.2.1 4 = .ok (.istore 6, 2)) (by decide) rfl (?_ : XW _ _ _ _ _ _ _ 6 _ _)
  exact vc

set_option maxRecDepth 20000 in
theorem v_X2_putFirstFit_6 {h : XH} {Q : Option Value → XH → Prop} {X : String → XH → Prop} (r : Nat) (hbp : BP r h)  (x5 : Int32) (x6 : Int32)
    (vc : ((xI h 29 2) ≤ x6 → Q (some (.int (xI h 29 2))) h) ∧ (¬ (xI h 29 2) ≤ x6 → (101 ≤ x6 → Q (some (.int (xI h 29 2))) h) ∧ (¬ 101 ≤ x6 → XW (xrm 3 0 0) mX2_putFirstFit (xE 100 Q X 0 0) 100 0 0 h 26 [some (.ref 52), some (.ref 29), some (.ref r), some (.ref 21), some (.ref 40), some (.int x5), some (.int x6), some (.int 1), none] []))) :
    XW (xrm 3 0 0) mX2_putFirstFit (xE 100 Q X 0 0) 100 0 0 h 6 [some (.ref 52), some (.ref 29), some (.ref r), some (.ref 21), some (.ref 40), some (.int x5), some (.int x6), none, none] [] := by
  obtain ⟨hb, hr, hnr, ha21, ha25, hu29, hu34, hw, hnt, hwr⟩ := hbp
  refine xi_iload (by decide +kernel : decode mX2_putFirstFit.2.1 6 = .ok (.iload 6, 2)) rfl (?_ : XW _ _ _ _ _ _ _ 8 _ _)
  refine xi_aload_n (by decide +kernel : decode mX2_putFirstFit.2.1 8 = .ok (.aload_n 1, 1)) rfl rfl (?_ : XW _ _ _ _ _ _ _ 9 _ _)
  refine xi_getI (by decide +kernel : decode mX2_putFirstFit.2.1 9 = .ok (.getfield 38, 3)) fX2_38 rfl (by omega) rfl (?_ : XW _ _ _ _ _ _ _ 12 _ _)
  refine xi_icmp_ge (by decide +kernel : decode mX2_putFirstFit.2.1 12 = .ok (.if_icmp .ge 90, 3)) (by decide) (fun c => (?_ : XW _ _ _ _ _ _ _ 102 _ _)) (fun c => (?_ : XW _ _ _ _ _ _ _ 15 _ _))
  · replace vc := vc.1 c
    refine xi_aload_n (by decide +kernel : decode mX2_putFirstFit.2.1 102 = .ok (.aload_n 1, 1)) rfl rfl (?_ : XW _ _ _ _ _ _ _ 103 _ _)
    refine xi_getI (by decide +kernel : decode mX2_putFirstFit.2.1 103 = .ok (.getfield 38, 3)) fX2_38 rfl (by omega) rfl (?_ : XW _ _ _ _ _ _ _ 106 _ _)
    exact xi_iret (by decide +kernel : decode mX2_putFirstFit.2.1 106 = .ok (.ireturn, 1)) rfl rfl vc
  · replace vc := vc.2 c
    refine xi_iload (by decide +kernel : decode mX2_putFirstFit.2.1 15 = .ok (.iload 6, 2)) rfl (?_ : XW _ _ _ _ _ _ _ 17 _ _)
    refine xi_aload (by decide +kernel : decode mX2_putFirstFit.2.1 17 = .ok (.aload 4, 2)) rfl (?_ : XW _ _ _ _ _ _ _ 19 _ _)
    refine xi_alen (v := 101) (by decide +kernel : decode mX2_putFirstFit.2.1 19 = .ok (.arraylength, 1)) rfl (by omega) (Or.inl rfl) rfl (?_ : XW _ _ _ _ _ _ _ 20 _ _)
    refine xi_icmp_ge (by decide +kernel : decode mX2_putFirstFit.2.1 20 = .ok (.if_icmp .ge 82, 3)) (by decide) (fun c => (?_ : XW _ _ _ _ _ _ _ 102 _ _)) (fun c => (?_ : XW _ _ _ _ _ _ _ 23 _ _))
    · replace vc := vc.1 c
      refine xi_aload_n (by decide +kernel : decode mX2_putFirstFit.2.1 102 = .ok (.aload_n 1, 1)) rfl rfl (?_ : XW _ _ _ _ _ _ _ 103 _ _)
      refine xi_getI (by decide +kernel : decode mX2_putFirstFit.2.1 103 = .ok (.getfield 38, 3)) fX2_38 rfl (by omega) rfl (?_ : XW _ _ _ _ _ _ _ 106 _ _)
      exact xi_iret (by decide +kernel : decode mX2_putFirstFit.2.1 106 = .ok (.ireturn, 1)) rfl rfl vc
    · replace vc := vc.2 c
      refine xi_iconst (v := 1) (by decide +kernel : decode mX2_putFirstFit.2.1 23 = .ok (.iconst 1, 1)) (by decide) (?_ : XW _ _ _ _ _ _ _ 24 _ _)
      refine xi_istore (ls' := [some (.ref 52), some (.ref 29), some (.ref r), some (.ref 21), some (.ref 40), some (.int x5), some (.int x6), some (.int 1), none]) (by decide +kernel : decode mX2_putFirstFit.2.1 24 = .ok (.istore 7, 2)) (by decide) rfl (?_ : XW _ _ _ _ _ _ _ 26 _ _)
      exact vc

set_option maxRecDepth 20000 in
theorem v_X2_putFirstFit_26 {h : XH} {Q : Option Value → XH → Prop} {X : String → XH → Prop} (r : Nat) (hbp : BP r h)  (x5 : Int32) (x6 : Int32) (x7 : Int32)
    (vc : (6 < x7 → XW (xrm 3 0 0) mX2_putFirstFit (xE 100 Q X 0 0) 100 0 0 h 6 [some (.ref 52), some (.ref 29), some (.ref r), some (.ref 21), some (.ref 40), some (.int x5), some (.int (x6 + 1)), none, none] []) ∧ (¬ 6 < x7 → ∃ Q1, XSpec mX3_to 1 0 0 100 100 [.ref 21, .int x5, .int x7] h Q1 xno ∧ ∀ v h1, Q1 v h1 → ∃ r1 : Int32, v = some (.int r1) ∧ (∃ Q1, XSpec mX5_oddsOf 1 0 0 100 100 [.ref r, .int x7] h1 Q1 xno ∧ ∀ v h2, Q1 v h2 → ∃ r2 : Int32, v = some (.int r2) ∧ ((r2 ≤ 0 → XW (xrm 3 0 0) mX2_putFirstFit (xE 100 Q X 0 0) 100 0 0 h2 26 [some (.ref 52), some (.ref 29), some (.ref r), some (.ref 21), some (.ref 40), some (.int x5), some (.int x6), some (.int (x7 + 1)), none] []) ∧ (¬ r2 ≤ 0 → ∃ Q1, XSpec mX2_isAsNoted 2 0 0 100 100 [.ref 29, .int x6, .int r1] h2 Q1 xno ∧ ∀ v h3, Q1 v h3 → ∃ r3 : Int32, v = some (.int r3) ∧ ((r3 = 0 → XW (xrm 3 0 0) mX2_putFirstFit (xE 100 Q X 0 0) 100 0 0 h3 26 [some (.ref 52), some (.ref 29), some (.ref r), some (.ref 21), some (.ref 40), some (.int x5), some (.int x6), some (.int (x7 + 1)), none] []) ∧ (¬ r3 = 0 → ∃ Q1, XSpec mX2_isOpen 1 0 0 100 100 [.ref 52, .int (x6 + 1), .int r1] h3 Q1 xno ∧ ∀ v h4, Q1 v h4 → ∃ r4 : Int32, v = some (.int r4) ∧ ((r4 = 0 → XW (xrm 3 0 0) mX2_putFirstFit (xE 100 Q X 0 0) 100 0 0 h4 26 [some (.ref 52), some (.ref 29), some (.ref r), some (.ref 21), some (.ref 40), some (.int x5), some (.int x6), some (.int (x7 + 1)), none] []) ∧ (¬ r4 = 0 → (vp_in x6 101) ∧ (XW (xrm 3 0 0) mX2_putFirstFit (xE 100 Q X 0 0) 100 0 0 (xSI 40 (va_up (xI h4 40) x6.toNatClampNeg x7) h4) 6 [some (.ref 52), some (.ref 29), some (.ref r), some (.ref 21), some (.ref 40), some (.int r1), some (.int (x6 + 1)), none, none] [])))))))))) :
    XW (xrm 3 0 0) mX2_putFirstFit (xE 100 Q X 0 0) 100 0 0 h 26 [some (.ref 52), some (.ref 29), some (.ref r), some (.ref 21), some (.ref 40), some (.int x5), some (.int x6), some (.int x7), none] [] := by
  obtain ⟨hb, hr, hnr, ha21, ha25, hu29, hu34, hw, hnt, hwr⟩ := hbp
  refine xi_iload (by decide +kernel : decode mX2_putFirstFit.2.1 26 = .ok (.iload 7, 2)) rfl (?_ : XW _ _ _ _ _ _ _ 28 _ _)
  refine xi_bipush (v := 6) (by decide +kernel : decode mX2_putFirstFit.2.1 28 = .ok (.bipush 6, 2)) (by decide) (?_ : XW _ _ _ _ _ _ _ 30 _ _)
  refine xi_icmp_gt (by decide +kernel : decode mX2_putFirstFit.2.1 30 = .ok (.if_icmp .gt 66, 3)) (by decide) (fun c => (?_ : XW _ _ _ _ _ _ _ 96 _ _)) (fun c => (?_ : XW _ _ _ _ _ _ _ 33 _ _))
  · replace vc := vc.1 c
    refine xi_iinc (v := x6 + 1) (ls' := [some (.ref 52), some (.ref 29), some (.ref r), some (.ref 21), some (.ref 40), some (.int x5), some (.int (x6 + 1)), some (.int x7), none]) (by decide +kernel : decode mX2_putFirstFit.2.1 96 = .ok (.iinc 6 1, 3)) rfl rfl (by decide) rfl (?_ : XW _ _ _ _ _ _ _ 99 _ _)
    refine xi_goto (by decide +kernel : decode mX2_putFirstFit.2.1 99 = .ok (.goto (-93), 3)) (by decide) (?_ : XW _ _ _ _ _ _ _ 6 _ _)
    refine xw_drop 7 (ls' := [some (.ref 52), some (.ref 29), some (.ref r), some (.ref 21), some (.ref 40), some (.int x5), some (.int (x6 + 1)), none, none]) rfl ?_
    exact vc
  · replace vc := vc.2 c
    refine xi_aload_n (by decide +kernel : decode mX2_putFirstFit.2.1 33 = .ok (.aload_n 3, 1)) rfl rfl (?_ : XW _ _ _ _ _ _ _ 34 _ _)
    refine xi_iload (by decide +kernel : decode mX2_putFirstFit.2.1 34 = .ok (.iload 5, 2)) rfl (?_ : XW _ _ _ _ _ _ _ 36 _ _)
    refine xi_iload (by decide +kernel : decode mX2_putFirstFit.2.1 36 = .ok (.iload 7, 2)) rfl (?_ : XW _ _ _ _ _ _ _ 38 _ _)
    obtain ⟨Q1, sp, vc⟩ := vc
    refine xi_callV (b := 0) (bs := 0) (As := [.int x5, .int x7]) (st := []) (by decide +kernel : decode mX2_putFirstFit.2.1 38 = .ok (.invokevirtual 32, 3)) kX2_32 rfl rfl (by omega) rfl sp (by decide) (by decide) (Nat.le_of_ble_eq_true rfl) (by omega) (fun v9 h1 hq9 => ?_)
    obtain ⟨r1, e9, vc⟩ := vc v9 h1 hq9
    subst e9
    show XW _ _ _ _ _ _ _ 41 _ [.int r1]
    refine xi_istore (ls' := [some (.ref 52), some (.ref 29), some (.ref r), some (.ref 21), some (.ref 40), some (.int x5), some (.int x6), some (.int x7), some (.int r1)]) (by decide +kernel : decode mX2_putFirstFit.2.1 41 = .ok (.istore 8, 2)) (by decide) rfl (?_ : XW _ _ _ _ _ _ _ 43 _ _)
    refine xi_aload_n (by decide +kernel : decode mX2_putFirstFit.2.1 43 = .ok (.aload_n 2, 1)) rfl rfl (?_ : XW _ _ _ _ _ _ _ 44 _ _)
    refine xi_iload (by decide +kernel : decode mX2_putFirstFit.2.1 44 = .ok (.iload 7, 2)) rfl (?_ : XW _ _ _ _ _ _ _ 46 _ _)
    obtain ⟨Q1, sp, vc⟩ := vc
    refine xi_callV (b := 0) (bs := 0) (As := [.int x7]) (st := []) (by decide +kernel : decode mX2_putFirstFit.2.1 46 = .ok (.invokevirtual 27, 3)) kX2_27 rfl (xRul_s0 hr) (by omega) rfl sp (by decide) (by decide) (Nat.le_of_ble_eq_true rfl) (by omega) (fun v9 h2 hq9 => ?_)
    obtain ⟨r2, e9, vc⟩ := vc v9 h2 hq9
    subst e9
    show XW _ _ _ _ _ _ _ 49 _ [.int r2]
    refine xi_if_le (by decide +kernel : decode mX2_putFirstFit.2.1 49 = .ok (.ifCond .le 41, 3)) (by decide) (fun c => (?_ : XW _ _ _ _ _ _ _ 90 _ _)) (fun c => (?_ : XW _ _ _ _ _ _ _ 52 _ _))
    · replace vc := vc.1 c
      refine xi_iinc (v := x7 + 1) (ls' := [some (.ref 52), some (.ref 29), some (.ref r), some (.ref 21), some (.ref 40), some (.int x5), some (.int x6), some (.int (x7 + 1)), some (.int r1)]) (by decide +kernel : decode mX2_putFirstFit.2.1 90 = .ok (.iinc 7 1, 3)) rfl rfl (by decide) rfl (?_ : XW _ _ _ _ _ _ _ 93 _ _)
      refine xi_goto (by decide +kernel : decode mX2_putFirstFit.2.1 93 = .ok (.goto (-67), 3)) (by decide) (?_ : XW _ _ _ _ _ _ _ 26 _ _)
      refine xw_drop 8 (ls' := [some (.ref 52), some (.ref 29), some (.ref r), some (.ref 21), some (.ref 40), some (.int x5), some (.int x6), some (.int (x7 + 1)), none]) rfl ?_
      exact vc
    · replace vc := vc.2 c
      refine xi_aload_n (by decide +kernel : decode mX2_putFirstFit.2.1 52 = .ok (.aload_n 1, 1)) rfl rfl (?_ : XW _ _ _ _ _ _ _ 53 _ _)
      refine xi_iload (by decide +kernel : decode mX2_putFirstFit.2.1 53 = .ok (.iload 6, 2)) rfl (?_ : XW _ _ _ _ _ _ _ 55 _ _)
      refine xi_iload (by decide +kernel : decode mX2_putFirstFit.2.1 55 = .ok (.iload 8, 2)) rfl (?_ : XW _ _ _ _ _ _ _ 57 _ _)
      obtain ⟨Q1, sp, vc⟩ := vc
      refine xi_callS (b := 0) (bs := 0) (As := [.ref 29, .int x6, .int r1]) (st := []) (by decide +kernel : decode mX2_putFirstFit.2.1 57 = .ok (.invokestatic 78, 3)) kX2_78 rfl rfl sp (by decide) (by decide) (Nat.le_of_ble_eq_true rfl) (by omega) (fun v9 h3 hq9 => ?_)
      obtain ⟨r3, e9, vc⟩ := vc v9 h3 hq9
      subst e9
      show XW _ _ _ _ _ _ _ 60 _ [.int r3]
      refine xi_if_eq (by decide +kernel : decode mX2_putFirstFit.2.1 60 = .ok (.ifCond .eq 30, 3)) (by decide) (fun c => (?_ : XW _ _ _ _ _ _ _ 90 _ _)) (fun c => (?_ : XW _ _ _ _ _ _ _ 63 _ _))
      · replace vc := vc.1 c
        refine xi_iinc (v := x7 + 1) (ls' := [some (.ref 52), some (.ref 29), some (.ref r), some (.ref 21), some (.ref 40), some (.int x5), some (.int x6), some (.int (x7 + 1)), some (.int r1)]) (by decide +kernel : decode mX2_putFirstFit.2.1 90 = .ok (.iinc 7 1, 3)) rfl rfl (by decide) rfl (?_ : XW _ _ _ _ _ _ _ 93 _ _)
        refine xi_goto (by decide +kernel : decode mX2_putFirstFit.2.1 93 = .ok (.goto (-67), 3)) (by decide) (?_ : XW _ _ _ _ _ _ _ 26 _ _)
        refine xw_drop 8 (ls' := [some (.ref 52), some (.ref 29), some (.ref r), some (.ref 21), some (.ref 40), some (.int x5), some (.int x6), some (.int (x7 + 1)), none]) rfl ?_
        exact vc
      · replace vc := vc.2 c
        refine xi_aload_n (by decide +kernel : decode mX2_putFirstFit.2.1 63 = .ok (.aload_n 0, 1)) rfl rfl (?_ : XW _ _ _ _ _ _ _ 64 _ _)
        refine xi_iload (by decide +kernel : decode mX2_putFirstFit.2.1 64 = .ok (.iload 6, 2)) rfl (?_ : XW _ _ _ _ _ _ _ 66 _ _)
        refine xi_iconst (v := 1) (by decide +kernel : decode mX2_putFirstFit.2.1 66 = .ok (.iconst 1, 1)) (by decide) (?_ : XW _ _ _ _ _ _ _ 67 _ _)
        refine xi_iadd (by decide +kernel : decode mX2_putFirstFit.2.1 67 = .ok (.iadd, 1)) (?_ : XW _ _ _ _ _ _ _ 68 _ _)
        refine xi_iload (by decide +kernel : decode mX2_putFirstFit.2.1 68 = .ok (.iload 8, 2)) rfl (?_ : XW _ _ _ _ _ _ _ 70 _ _)
        obtain ⟨Q1, sp, vc⟩ := vc
        refine xi_callV (b := 0) (bs := 0) (As := [.int (x6 + 1), .int r1]) (st := []) (by decide +kernel : decode mX2_putFirstFit.2.1 70 = .ok (.invokevirtual 90, 3)) kX2_90 rfl rfl (by omega) rfl sp (by decide) (by decide) (Nat.le_of_ble_eq_true rfl) (by omega) (fun v9 h4 hq9 => ?_)
        obtain ⟨r4, e9, vc⟩ := vc v9 h4 hq9
        subst e9
        show XW _ _ _ _ _ _ _ 73 _ [.int r4]
        refine xi_if_eq (by decide +kernel : decode mX2_putFirstFit.2.1 73 = .ok (.ifCond .eq 17, 3)) (by decide) (fun c => (?_ : XW _ _ _ _ _ _ _ 90 _ _)) (fun c => (?_ : XW _ _ _ _ _ _ _ 76 _ _))
        · replace vc := vc.1 c
          refine xi_iinc (v := x7 + 1) (ls' := [some (.ref 52), some (.ref 29), some (.ref r), some (.ref 21), some (.ref 40), some (.int x5), some (.int x6), some (.int (x7 + 1)), some (.int r1)]) (by decide +kernel : decode mX2_putFirstFit.2.1 90 = .ok (.iinc 7 1, 3)) rfl rfl (by decide) rfl (?_ : XW _ _ _ _ _ _ _ 93 _ _)
          refine xi_goto (by decide +kernel : decode mX2_putFirstFit.2.1 93 = .ok (.goto (-67), 3)) (by decide) (?_ : XW _ _ _ _ _ _ _ 26 _ _)
          refine xw_drop 8 (ls' := [some (.ref 52), some (.ref 29), some (.ref r), some (.ref 21), some (.ref 40), some (.int x5), some (.int x6), some (.int (x7 + 1)), none]) rfl ?_
          exact vc
        · replace vc := vc.2 c
          refine xi_aload (by decide +kernel : decode mX2_putFirstFit.2.1 76 = .ok (.aload 4, 2)) rfl (?_ : XW _ _ _ _ _ _ _ 78 _ _)
          refine xi_iload (by decide +kernel : decode mX2_putFirstFit.2.1 78 = .ok (.iload 6, 2)) rfl (?_ : XW _ _ _ _ _ _ _ 80 _ _)
          refine xi_iload (by decide +kernel : decode mX2_putFirstFit.2.1 80 = .ok (.iload 7, 2)) rfl (?_ : XW _ _ _ _ _ _ _ 82 _ _)
          obtain ⟨s1, vc⟩ := vc
          refine xi_iast (by decide +kernel : decode mX2_putFirstFit.2.1 82 = .ok (.iastore, 1)) rfl (by omega) s1 (?_ : XW _ _ _ _ _ _ (xSI 40 (va_up (xI h4 40) x6.toNatClampNeg x7) h4) 83 _ _)
          refine xi_iload (by decide +kernel : decode mX2_putFirstFit.2.1 83 = .ok (.iload 8, 2)) rfl (?_ : XW _ _ _ _ _ _ _ 85 _ _)
          refine xi_istore (ls' := [some (.ref 52), some (.ref 29), some (.ref r), some (.ref 21), some (.ref 40), some (.int r1), some (.int x6), some (.int x7), some (.int r1)]) (by decide +kernel : decode mX2_putFirstFit.2.1 85 = .ok (.istore 5, 2)) (by decide) rfl (?_ : XW _ _ _ _ _ _ _ 87 _ _)
          refine xi_goto (by decide +kernel : decode mX2_putFirstFit.2.1 87 = .ok (.goto 9, 3)) (by decide) (?_ : XW _ _ _ _ _ _ _ 96 _ _)
          refine xi_iinc (v := x6 + 1) (ls' := [some (.ref 52), some (.ref 29), some (.ref r), some (.ref 21), some (.ref 40), some (.int r1), some (.int (x6 + 1)), some (.int x7), some (.int r1)]) (by decide +kernel : decode mX2_putFirstFit.2.1 96 = .ok (.iinc 6 1, 3)) rfl rfl (by decide) rfl (?_ : XW _ _ _ _ _ _ _ 99 _ _)
          refine xi_goto (by decide +kernel : decode mX2_putFirstFit.2.1 99 = .ok (.goto (-93), 3)) (by decide) (?_ : XW _ _ _ _ _ _ _ 6 _ _)
          refine xw_drop 7 (ls' := [some (.ref 52), some (.ref 29), some (.ref r), some (.ref 21), some (.ref 40), some (.int r1), some (.int (x6 + 1)), none, some (.int r1)]) rfl ?_
          refine xw_drop 8 (ls' := [some (.ref 52), some (.ref 29), some (.ref r), some (.ref 21), some (.ref 40), some (.int r1), some (.int (x6 + 1)), none, none]) rfl ?_
          exact vc

set_option maxRecDepth 20000 in
theorem v_X10_cannot_0 {h : XH} {Q : Option Value → XH → Prop} {X : String → XH → Prop} (r : Nat) (hbp : BP r h) 
    (vc : ∃ Q1, XSpec mX2_firstThatCannotBe 3 0 0 100 100 [.ref 52, .ref 29, .ref r, .ref 21] h Q1 xno ∧ ∀ v h1, Q1 v h1 → ∃ r1 : Int32, v = some (.int r1) ∧ (Q (some (.int r1)) h1)) :
    XW (xrm 4 0 0) mX10_cannot (xE 100 Q X 0 0) 100 0 0 h 0 [some (.ref 0)] [] := by
  obtain ⟨hb, hr, hnr, ha21, ha25, hu29, hu34, hw, hnt, hwr⟩ := hbp
  refine xi_aload_n (by decide +kernel : decode mX10_cannot.2.1 0 = .ok (.aload_n 0, 1)) rfl rfl (?_ : XW _ _ _ _ _ _ _ 1 _ _)
  refine xi_getR (y := 52) (by decide +kernel : decode mX10_cannot.2.1 1 = .ok (.getfield 87, 3)) fX10_87 rfl (by omega) rfl hb.2.2.2.2.2.2.2.2.2.2.2.1 (?_ : XW _ _ _ _ _ _ _ 4 _ _)
  refine xi_aload_n (by decide +kernel : decode mX10_cannot.2.1 4 = .ok (.aload_n 0, 1)) rfl rfl (?_ : XW _ _ _ _ _ _ _ 5 _ _)
  refine xi_getR (y := 29) (by decide +kernel : decode mX10_cannot.2.1 5 = .ok (.getfield 49, 3)) fX10_49 rfl (by omega) rfl hb.2.2.2.2.2.1 (?_ : XW _ _ _ _ _ _ _ 8 _ _)
  refine xi_aload_n (by decide +kernel : decode mX10_cannot.2.1 8 = .ok (.aload_n 0, 1)) rfl rfl (?_ : XW _ _ _ _ _ _ _ 9 _ _)
  refine xi_getR (y := r) (by decide +kernel : decode mX10_cannot.2.1 9 = .ok (.getfield 23, 3)) fX10_23 rfl (by omega) rfl hb.2.1 (?_ : XW _ _ _ _ _ _ _ 12 _ _)
  refine xi_aload_n (by decide +kernel : decode mX10_cannot.2.1 12 = .ok (.aload_n 0, 1)) rfl rfl (?_ : XW _ _ _ _ _ _ _ 13 _ _)
  refine xi_getR (y := 21) (by decide +kernel : decode mX10_cannot.2.1 13 = .ok (.getfield 39, 3)) fX10_39 rfl (by omega) rfl hb.2.2.2.1 (?_ : XW _ _ _ _ _ _ _ 16 _ _)
  obtain ⟨Q1, sp, vc⟩ := vc
  refine xi_callV (b := 0) (bs := 0) (As := [.ref 29, .ref r, .ref 21]) (st := []) (by decide +kernel : decode mX10_cannot.2.1 16 = .ok (.invokevirtual 322, 3)) kX10_322 rfl rfl (by omega) rfl sp (by decide) (by decide) (Nat.le_of_ble_eq_true rfl) (by omega) (fun v9 h1 hq9 => ?_)
  obtain ⟨r1, e9, vc⟩ := vc v9 h1 hq9
  subst e9
  show XW _ _ _ _ _ _ _ 19 _ [.int r1]
  exact xi_iret (by decide +kernel : decode mX10_cannot.2.1 19 = .ok (.ireturn, 1)) rfl rfl vc

set_option maxRecDepth 20000 in
theorem v_X10_less_0 {h : XH} {Q : Option Value → XH → Prop} {X : String → XH → Prop} (r : Nat) (hbp : BP r h) 
    (vc : ∃ Q1, XSpec mX2_countOneLess 3 0 0 100 100 [.ref 52, .ref 29, .ref r, .ref 21] h Q1 xno ∧ ∀ v h1, Q1 v h1 → ∃ r1 : Int32, v = some (.int r1) ∧ (Q (some (.int r1)) h1)) :
    XW (xrm 4 0 0) mX10_less (xE 100 Q X 0 0) 100 0 0 h 0 [some (.ref 0)] [] := by
  obtain ⟨hb, hr, hnr, ha21, ha25, hu29, hu34, hw, hnt, hwr⟩ := hbp
  refine xi_aload_n (by decide +kernel : decode mX10_less.2.1 0 = .ok (.aload_n 0, 1)) rfl rfl (?_ : XW _ _ _ _ _ _ _ 1 _ _)
  refine xi_getR (y := 52) (by decide +kernel : decode mX10_less.2.1 1 = .ok (.getfield 87, 3)) fX10_87 rfl (by omega) rfl hb.2.2.2.2.2.2.2.2.2.2.2.1 (?_ : XW _ _ _ _ _ _ _ 4 _ _)
  refine xi_aload_n (by decide +kernel : decode mX10_less.2.1 4 = .ok (.aload_n 0, 1)) rfl rfl (?_ : XW _ _ _ _ _ _ _ 5 _ _)
  refine xi_getR (y := 29) (by decide +kernel : decode mX10_less.2.1 5 = .ok (.getfield 49, 3)) fX10_49 rfl (by omega) rfl hb.2.2.2.2.2.1 (?_ : XW _ _ _ _ _ _ _ 8 _ _)
  refine xi_aload_n (by decide +kernel : decode mX10_less.2.1 8 = .ok (.aload_n 0, 1)) rfl rfl (?_ : XW _ _ _ _ _ _ _ 9 _ _)
  refine xi_getR (y := r) (by decide +kernel : decode mX10_less.2.1 9 = .ok (.getfield 23, 3)) fX10_23 rfl (by omega) rfl hb.2.1 (?_ : XW _ _ _ _ _ _ _ 12 _ _)
  refine xi_aload_n (by decide +kernel : decode mX10_less.2.1 12 = .ok (.aload_n 0, 1)) rfl rfl (?_ : XW _ _ _ _ _ _ _ 13 _ _)
  refine xi_getR (y := 21) (by decide +kernel : decode mX10_less.2.1 13 = .ok (.getfield 39, 3)) fX10_39 rfl (by omega) rfl hb.2.2.2.1 (?_ : XW _ _ _ _ _ _ _ 16 _ _)
  obtain ⟨Q1, sp, vc⟩ := vc
  refine xi_callV (b := 0) (bs := 0) (As := [.ref 29, .ref r, .ref 21]) (st := []) (by decide +kernel : decode mX10_less.2.1 16 = .ok (.invokevirtual 334, 3)) kX10_334 rfl rfl (by omega) rfl sp (by decide) (by decide) (Nat.le_of_ble_eq_true rfl) (by omega) (fun v9 h1 hq9 => ?_)
  obtain ⟨r1, e9, vc⟩ := vc v9 h1 hq9
  subst e9
  show XW _ _ _ _ _ _ _ 19 _ [.int r1]
  exact xi_iret (by decide +kernel : decode mX10_less.2.1 19 = .ok (.ireturn, 1)) rfl rfl vc

set_option maxRecDepth 20000 in
theorem v_X10_fits_0 {h : XH} {Q : Option Value → XH → Prop} {X : String → XH → Prop} (r : Nat) (hbp : BP r h) 
    (vc : ∃ Q1, XSpec mX2_countFits 4 0 0 100 100 [.ref 52, .ref 29, .ref r, .ref 21] h Q1 xno ∧ ∀ v h1, Q1 v h1 → ∃ r1 : Int64, v = some (.long r1) ∧ (((lg_cmp r1 0) ≤ 0 → Q (some (.long r1)) h1) ∧ (¬ (lg_cmp r1 0) ≤ 0 → (xP h1 0 10 = some 39) ∧ ((xP h1 0 14 = some 52) ∧ ((xP h1 0 7 = some 29) ∧ ((xP h1 0 3 = some r) ∧ ((xP h1 0 5 = some 21) ∧ ((xP h1 0 10 = some 39) ∧ ((xP h1 39 1 = some 40) ∧ (∃ Q1, XSpec mX2_putFirstFit 3 0 0 100 100 [.ref 52, .ref 29, .ref r, .ref 21, .ref 40] h1 Q1 xno ∧ ∀ v h2, Q1 v h2 → ∃ r2 : Int32, v = some (.int r2) ∧ (Q (some (.long r1)) (xSI 39 (va_up (xI h2 39) 0 r2) h2)))))))))))) :
    XW (xrm 5 0 0) mX10_fits (xE 100 Q X 0 0) 100 0 0 h 0 [some (.ref 0), none, none] [] := by
  obtain ⟨hb, hr, hnr, ha21, ha25, hu29, hu34, hw, hnt, hwr⟩ := hbp
  refine xi_aload_n (by decide +kernel : decode mX10_fits.2.1 0 = .ok (.aload_n 0, 1)) rfl rfl (?_ : XW _ _ _ _ _ _ _ 1 _ _)
  refine xi_getR (y := 52) (by decide +kernel : decode mX10_fits.2.1 1 = .ok (.getfield 87, 3)) fX10_87 rfl (by omega) rfl hb.2.2.2.2.2.2.2.2.2.2.2.1 (?_ : XW _ _ _ _ _ _ _ 4 _ _)
  refine xi_aload_n (by decide +kernel : decode mX10_fits.2.1 4 = .ok (.aload_n 0, 1)) rfl rfl (?_ : XW _ _ _ _ _ _ _ 5 _ _)
  refine xi_getR (y := 29) (by decide +kernel : decode mX10_fits.2.1 5 = .ok (.getfield 49, 3)) fX10_49 rfl (by omega) rfl hb.2.2.2.2.2.1 (?_ : XW _ _ _ _ _ _ _ 8 _ _)
  refine xi_aload_n (by decide +kernel : decode mX10_fits.2.1 8 = .ok (.aload_n 0, 1)) rfl rfl (?_ : XW _ _ _ _ _ _ _ 9 _ _)
  refine xi_getR (y := r) (by decide +kernel : decode mX10_fits.2.1 9 = .ok (.getfield 23, 3)) fX10_23 rfl (by omega) rfl hb.2.1 (?_ : XW _ _ _ _ _ _ _ 12 _ _)
  refine xi_aload_n (by decide +kernel : decode mX10_fits.2.1 12 = .ok (.aload_n 0, 1)) rfl rfl (?_ : XW _ _ _ _ _ _ _ 13 _ _)
  refine xi_getR (y := 21) (by decide +kernel : decode mX10_fits.2.1 13 = .ok (.getfield 39, 3)) fX10_39 rfl (by omega) rfl hb.2.2.2.1 (?_ : XW _ _ _ _ _ _ _ 16 _ _)
  obtain ⟨Q1, sp, vc⟩ := vc
  refine xi_callV (b := 0) (bs := 0) (As := [.ref 29, .ref r, .ref 21]) (st := []) (by decide +kernel : decode mX10_fits.2.1 16 = .ok (.invokevirtual 326, 3)) kX10_326 rfl rfl (by omega) rfl sp (by decide) (by decide) (Nat.le_of_ble_eq_true rfl) (by omega) (fun v9 h1 hq9 => ?_)
  obtain ⟨r1, e9, vc⟩ := vc v9 h1 hq9
  subst e9
  show XW _ _ _ _ _ _ _ 19 _ [.long r1]
  refine xi_lstore_n (ls' := [some (.ref 0), some (.long r1), none]) (by decide +kernel : decode mX10_fits.2.1 19 = .ok (.lstore_n 1, 1)) rfl (by decide) rfl (?_ : XW _ _ _ _ _ _ _ 20 _ _)
  refine xi_lload_n (by decide +kernel : decode mX10_fits.2.1 20 = .ok (.lload_n 1, 1)) rfl rfl (?_ : XW _ _ _ _ _ _ _ 21 _ _)
  refine xi_lconst (v := 0) (by decide +kernel : decode mX10_fits.2.1 21 = .ok (.lconst 0, 1)) (by decide) (?_ : XW _ _ _ _ _ _ _ 22 _ _)
  refine xi_lcmp (by decide +kernel : decode mX10_fits.2.1 22 = .ok (.lcmp, 1)) (?_ : XW _ _ _ _ _ _ _ 23 _ _)
  refine xi_if_le (by decide +kernel : decode mX10_fits.2.1 23 = .ok (.ifCond .le 36, 3)) (by decide) (fun c => (?_ : XW _ _ _ _ _ _ _ 59 _ _)) (fun c => (?_ : XW _ _ _ _ _ _ _ 26 _ _))
  · replace vc := vc.1 c
    refine xi_lload_n (by decide +kernel : decode mX10_fits.2.1 59 = .ok (.lload_n 1, 1)) rfl rfl (?_ : XW _ _ _ _ _ _ _ 60 _ _)
    exact xi_lret (by decide +kernel : decode mX10_fits.2.1 60 = .ok (.lreturn, 1)) rfl vc
  · replace vc := vc.2 c
    refine xi_aload_n (by decide +kernel : decode mX10_fits.2.1 26 = .ok (.aload_n 0, 1)) rfl rfl (?_ : XW _ _ _ _ _ _ _ 27 _ _)
    obtain ⟨s1, vc⟩ := vc
    refine xi_getR (y := 39) (by decide +kernel : decode mX10_fits.2.1 27 = .ok (.getfield 63, 3)) fX10_63 rfl (by omega) rfl s1 (?_ : XW _ _ _ _ _ _ _ 30 _ _)
    refine xi_aload_n (by decide +kernel : decode mX10_fits.2.1 30 = .ok (.aload_n 0, 1)) rfl rfl (?_ : XW _ _ _ _ _ _ _ 31 _ _)
    obtain ⟨s1, vc⟩ := vc
    refine xi_getR (y := 52) (by decide +kernel : decode mX10_fits.2.1 31 = .ok (.getfield 87, 3)) fX10_87 rfl (by omega) rfl s1 (?_ : XW _ _ _ _ _ _ _ 34 _ _)
    refine xi_aload_n (by decide +kernel : decode mX10_fits.2.1 34 = .ok (.aload_n 0, 1)) rfl rfl (?_ : XW _ _ _ _ _ _ _ 35 _ _)
    obtain ⟨s1, vc⟩ := vc
    refine xi_getR (y := 29) (by decide +kernel : decode mX10_fits.2.1 35 = .ok (.getfield 49, 3)) fX10_49 rfl (by omega) rfl s1 (?_ : XW _ _ _ _ _ _ _ 38 _ _)
    refine xi_aload_n (by decide +kernel : decode mX10_fits.2.1 38 = .ok (.aload_n 0, 1)) rfl rfl (?_ : XW _ _ _ _ _ _ _ 39 _ _)
    obtain ⟨s1, vc⟩ := vc
    refine xi_getR (y := r) (by decide +kernel : decode mX10_fits.2.1 39 = .ok (.getfield 23, 3)) fX10_23 rfl (by omega) rfl s1 (?_ : XW _ _ _ _ _ _ _ 42 _ _)
    refine xi_aload_n (by decide +kernel : decode mX10_fits.2.1 42 = .ok (.aload_n 0, 1)) rfl rfl (?_ : XW _ _ _ _ _ _ _ 43 _ _)
    obtain ⟨s1, vc⟩ := vc
    refine xi_getR (y := 21) (by decide +kernel : decode mX10_fits.2.1 43 = .ok (.getfield 39, 3)) fX10_39 rfl (by omega) rfl s1 (?_ : XW _ _ _ _ _ _ _ 46 _ _)
    refine xi_aload_n (by decide +kernel : decode mX10_fits.2.1 46 = .ok (.aload_n 0, 1)) rfl rfl (?_ : XW _ _ _ _ _ _ _ 47 _ _)
    obtain ⟨s1, vc⟩ := vc
    refine xi_getR (y := 39) (by decide +kernel : decode mX10_fits.2.1 47 = .ok (.getfield 63, 3)) fX10_63 rfl (by omega) rfl s1 (?_ : XW _ _ _ _ _ _ _ 50 _ _)
    obtain ⟨s1, vc⟩ := vc
    refine xi_getR (y := 40) (by decide +kernel : decode mX10_fits.2.1 50 = .ok (.getfield 232, 3)) fX10_232 rfl (by omega) rfl s1 (?_ : XW _ _ _ _ _ _ _ 53 _ _)
    obtain ⟨Q1, sp, vc⟩ := vc
    refine xi_callV (b := 0) (bs := 0) (As := [.ref 29, .ref r, .ref 21, .ref 40]) (st := [.ref 39]) (by decide +kernel : decode mX10_fits.2.1 53 = .ok (.invokevirtual 330, 3)) kX10_330 rfl rfl (by omega) rfl sp (by decide) (by decide) (Nat.le_of_ble_eq_true rfl) (by omega) (fun v9 h2 hq9 => ?_)
    obtain ⟨r2, e9, vc⟩ := vc v9 h2 hq9
    subst e9
    show XW _ _ _ _ _ _ _ 56 _ [.int r2, .ref 39]
    refine xi_putI (by decide +kernel : decode mX10_fits.2.1 56 = .ok (.putfield 142, 3)) fX10_142 rfl (by omega) rfl rfl rfl (?_ : XW _ _ _ _ _ _ (xSI 39 (va_up (xI h2 39) 0 r2) h2) 59 _ _)
    refine xi_lload_n (by decide +kernel : decode mX10_fits.2.1 59 = .ok (.lload_n 1, 1)) rfl rfl (?_ : XW _ _ _ _ _ _ _ 60 _ _)
    exact xi_lret (by decide +kernel : decode mX10_fits.2.1 60 = .ok (.lreturn, 1)) rfl vc

set_option maxRecDepth 20000 in
theorem v_X11_canCome_0 {h : XH} {Q : Option Value → XH → Prop} {X : String → XH → Prop} (hM : xMod (xP h))  (i : Int32) (l : Int32)
    (vc : (¬ i = 0 → (vp_in (i - 1) 40) ∧ (((xI h 87 (i - 1).toNatClampNeg) = (-1) → Q (some (.int 1)) h) ∧ (¬ (xI h 87 (i - 1).toNatClampNeg) = (-1) → (vp_in i 40) ∧ ((¬ (xI h 87 i.toNatClampNeg) = (-1) → XW (xrm 1 0 0) mX11_canCome (xE 100 Q X 0 0) 100 0 0 h 37 [some (.ref 56), some (.int i), some (.int l), some (.int (xI h 87 (i - 1).toNatClampNeg)), some (.int 1)] []) ∧ ((xI h 87 i.toNatClampNeg) = (-1) → Q (some (.int 1)) h))))) ∧ (i = 0 → (vp_in i 40) ∧ ((¬ (xI h 87 i.toNatClampNeg) = (-1) → XW (xrm 1 0 0) mX11_canCome (xE 100 Q X 0 0) 100 0 0 h 37 [some (.ref 56), some (.int i), some (.int l), some (.int 0), some (.int 1)] []) ∧ ((xI h 87 i.toNatClampNeg) = (-1) → Q (some (.int 1)) h)))) :
    XW (xrm 1 0 0) mX11_canCome (xE 100 Q X 0 0) 100 0 0 h 0 [some (.ref 56), some (.int i), some (.int l), none, none] [] := by
  refine xi_iload_n (by decide +kernel : decode mX11_canCome.2.1 0 = .ok (.iload_n 1, 1)) rfl rfl (?_ : XW _ _ _ _ _ _ _ 1 _ _)
  refine xi_if_ne (by decide +kernel : decode mX11_canCome.2.1 1 = .ok (.ifCond .ne 7, 3)) (by decide) (fun c => (?_ : XW _ _ _ _ _ _ _ 8 _ _)) (fun c => (?_ : XW _ _ _ _ _ _ _ 4 _ _))
  · replace vc := vc.1 c
    refine xi_aload_n (by decide +kernel : decode mX11_canCome.2.1 8 = .ok (.aload_n 0, 1)) rfl rfl (?_ : XW _ _ _ _ _ _ _ 9 _ _)
    refine xi_getR (y := 87) (by decide +kernel : decode mX11_canCome.2.1 9 = .ok (.getfield 125, 3)) fX11_125 rfl (by omega) rfl (mp_noted hM) (?_ : XW _ _ _ _ _ _ _ 12 _ _)
    refine xi_iload_n (by decide +kernel : decode mX11_canCome.2.1 12 = .ok (.iload_n 1, 1)) rfl rfl (?_ : XW _ _ _ _ _ _ _ 13 _ _)
    refine xi_iconst (v := 1) (by decide +kernel : decode mX11_canCome.2.1 13 = .ok (.iconst 1, 1)) (by decide) (?_ : XW _ _ _ _ _ _ _ 14 _ _)
    refine xi_isub (by decide +kernel : decode mX11_canCome.2.1 14 = .ok (.isub, 1)) (?_ : XW _ _ _ _ _ _ _ 15 _ _)
    obtain ⟨s1, vc⟩ := vc
    refine xi_iald (by decide +kernel : decode mX11_canCome.2.1 15 = .ok (.iaload, 1)) rfl (by omega) s1 (?_ : XW _ _ _ _ _ _ _ 16 _ _)
    refine xi_istore_n (ls' := [some (.ref 56), some (.int i), some (.int l), some (.int (xI h 87 (i - 1).toNatClampNeg)), none]) (by decide +kernel : decode mX11_canCome.2.1 16 = .ok (.istore_n 3, 1)) rfl (by decide) rfl (?_ : XW _ _ _ _ _ _ _ 17 _ _)
    refine xi_iload_n (by decide +kernel : decode mX11_canCome.2.1 17 = .ok (.iload_n 3, 1)) rfl rfl (?_ : XW _ _ _ _ _ _ _ 18 _ _)
    refine xi_iconst (v := (-1)) (by decide +kernel : decode mX11_canCome.2.1 18 = .ok (.iconst (-1), 1)) (by decide) (?_ : XW _ _ _ _ _ _ _ 19 _ _)
    refine xi_icmp_eq (by decide +kernel : decode mX11_canCome.2.1 19 = .ok (.if_icmp .eq 13, 3)) (by decide) (fun c => (?_ : XW _ _ _ _ _ _ _ 32 _ _)) (fun c => (?_ : XW _ _ _ _ _ _ _ 22 _ _))
    · replace vc := vc.1 c
      refine xi_iconst (v := 1) (by decide +kernel : decode mX11_canCome.2.1 32 = .ok (.iconst 1, 1)) (by decide) (?_ : XW _ _ _ _ _ _ _ 33 _ _)
      exact xi_iret (by decide +kernel : decode mX11_canCome.2.1 33 = .ok (.ireturn, 1)) rfl rfl vc
    · replace vc := vc.2 c
      refine xi_aload_n (by decide +kernel : decode mX11_canCome.2.1 22 = .ok (.aload_n 0, 1)) rfl rfl (?_ : XW _ _ _ _ _ _ _ 23 _ _)
      refine xi_getR (y := 87) (by decide +kernel : decode mX11_canCome.2.1 23 = .ok (.getfield 125, 3)) fX11_125 rfl (by omega) rfl (mp_noted hM) (?_ : XW _ _ _ _ _ _ _ 26 _ _)
      refine xi_iload_n (by decide +kernel : decode mX11_canCome.2.1 26 = .ok (.iload_n 1, 1)) rfl rfl (?_ : XW _ _ _ _ _ _ _ 27 _ _)
      obtain ⟨s1, vc⟩ := vc
      refine xi_iald (by decide +kernel : decode mX11_canCome.2.1 27 = .ok (.iaload, 1)) rfl (by omega) s1 (?_ : XW _ _ _ _ _ _ _ 28 _ _)
      refine xi_iconst (v := (-1)) (by decide +kernel : decode mX11_canCome.2.1 28 = .ok (.iconst (-1), 1)) (by decide) (?_ : XW _ _ _ _ _ _ _ 29 _ _)
      refine xi_icmp_ne (by decide +kernel : decode mX11_canCome.2.1 29 = .ok (.if_icmp .ne 5, 3)) (by decide) (fun c => (?_ : XW _ _ _ _ _ _ _ 34 _ _)) (fun c => (?_ : XW _ _ _ _ _ _ _ 32 _ _))
      · replace vc := vc.1 c
        refine xi_iconst (v := 1) (by decide +kernel : decode mX11_canCome.2.1 34 = .ok (.iconst 1, 1)) (by decide) (?_ : XW _ _ _ _ _ _ _ 35 _ _)
        refine xi_istore (ls' := [some (.ref 56), some (.int i), some (.int l), some (.int (xI h 87 (i - 1).toNatClampNeg)), some (.int 1)]) (by decide +kernel : decode mX11_canCome.2.1 35 = .ok (.istore 4, 2)) (by decide) rfl (?_ : XW _ _ _ _ _ _ _ 37 _ _)
        exact vc
      · replace vc := vc.2 c
        refine xi_iconst (v := 1) (by decide +kernel : decode mX11_canCome.2.1 32 = .ok (.iconst 1, 1)) (by decide) (?_ : XW _ _ _ _ _ _ _ 33 _ _)
        exact xi_iret (by decide +kernel : decode mX11_canCome.2.1 33 = .ok (.ireturn, 1)) rfl rfl vc
  · replace vc := vc.2 c
    refine xi_iconst (v := 0) (by decide +kernel : decode mX11_canCome.2.1 4 = .ok (.iconst 0, 1)) (by decide) (?_ : XW _ _ _ _ _ _ _ 5 _ _)
    refine xi_goto (by decide +kernel : decode mX11_canCome.2.1 5 = .ok (.goto 11, 3)) (by decide) (?_ : XW _ _ _ _ _ _ _ 16 _ _)
    refine xi_istore_n (ls' := [some (.ref 56), some (.int i), some (.int l), some (.int 0), none]) (by decide +kernel : decode mX11_canCome.2.1 16 = .ok (.istore_n 3, 1)) rfl (by decide) rfl (?_ : XW _ _ _ _ _ _ _ 17 _ _)
    refine xi_iload_n (by decide +kernel : decode mX11_canCome.2.1 17 = .ok (.iload_n 3, 1)) rfl rfl (?_ : XW _ _ _ _ _ _ _ 18 _ _)
    refine xi_iconst (v := (-1)) (by decide +kernel : decode mX11_canCome.2.1 18 = .ok (.iconst (-1), 1)) (by decide) (?_ : XW _ _ _ _ _ _ _ 19 _ _)
    refine xi_icmp_eq (by decide +kernel : decode mX11_canCome.2.1 19 = .ok (.if_icmp .eq 13, 3)) (by decide)  (fun c => (absurd c (by decide) : XW _ _ _ _ _ _ _ 32 _ _)) (fun _ => (?_ : XW _ _ _ _ _ _ _ 22 _ _))
    refine xi_aload_n (by decide +kernel : decode mX11_canCome.2.1 22 = .ok (.aload_n 0, 1)) rfl rfl (?_ : XW _ _ _ _ _ _ _ 23 _ _)
    refine xi_getR (y := 87) (by decide +kernel : decode mX11_canCome.2.1 23 = .ok (.getfield 125, 3)) fX11_125 rfl (by omega) rfl (mp_noted hM) (?_ : XW _ _ _ _ _ _ _ 26 _ _)
    refine xi_iload_n (by decide +kernel : decode mX11_canCome.2.1 26 = .ok (.iload_n 1, 1)) rfl rfl (?_ : XW _ _ _ _ _ _ _ 27 _ _)
    obtain ⟨s1, vc⟩ := vc
    refine xi_iald (by decide +kernel : decode mX11_canCome.2.1 27 = .ok (.iaload, 1)) rfl (by omega) s1 (?_ : XW _ _ _ _ _ _ _ 28 _ _)
    refine xi_iconst (v := (-1)) (by decide +kernel : decode mX11_canCome.2.1 28 = .ok (.iconst (-1), 1)) (by decide) (?_ : XW _ _ _ _ _ _ _ 29 _ _)
    refine xi_icmp_ne (by decide +kernel : decode mX11_canCome.2.1 29 = .ok (.if_icmp .ne 5, 3)) (by decide) (fun c => (?_ : XW _ _ _ _ _ _ _ 34 _ _)) (fun c => (?_ : XW _ _ _ _ _ _ _ 32 _ _))
    · replace vc := vc.1 c
      refine xi_iconst (v := 1) (by decide +kernel : decode mX11_canCome.2.1 34 = .ok (.iconst 1, 1)) (by decide) (?_ : XW _ _ _ _ _ _ _ 35 _ _)
      refine xi_istore (ls' := [some (.ref 56), some (.int i), some (.int l), some (.int 0), some (.int 1)]) (by decide +kernel : decode mX11_canCome.2.1 35 = .ok (.istore 4, 2)) (by decide) rfl (?_ : XW _ _ _ _ _ _ _ 37 _ _)
      exact vc
    · replace vc := vc.2 c
      refine xi_iconst (v := 1) (by decide +kernel : decode mX11_canCome.2.1 32 = .ok (.iconst 1, 1)) (by decide) (?_ : XW _ _ _ _ _ _ _ 33 _ _)
      exact xi_iret (by decide +kernel : decode mX11_canCome.2.1 33 = .ok (.ireturn, 1)) rfl rfl vc

set_option maxRecDepth 20000 in
theorem v_X11_canCome_37 {h : XH} {Q : Option Value → XH → Prop} {X : String → XH → Prop} (hM : xMod (xP h))  (x1 : Int32) (x2 : Int32) (x3 : Int32) (x4 : Int32)
    (vc : (6 < x4 → Q (some (.int 0)) h) ∧ (¬ 6 < x4 → (vp_in (x4 - 1) 12) ∧ (((xI h 60 (x4 - 1).toNatClampNeg) ≤ 0 → XW (xrm 1 0 0) mX11_canCome (xE 100 Q X 0 0) 100 0 0 h 37 [some (.ref 56), some (.int x1), some (.int x2), some (.int x3), some (.int (x4 + 1))] []) ∧ (¬ (xI h 60 (x4 - 1).toNatClampNeg) ≤ 0 → (vp_in ((101 * (x4 - x2)) + x3) 707) ∧ ((vp_in x1 40) ∧ ((¬ (xI h 67 ((101 * (x4 - x2)) + x3).toNatClampNeg) = (xI h 87 x1.toNatClampNeg) → XW (xrm 1 0 0) mX11_canCome (xE 100 Q X 0 0) 100 0 0 h 37 [some (.ref 56), some (.int x1), some (.int x2), some (.int x3), some (.int (x4 + 1))] []) ∧ ((xI h 67 ((101 * (x4 - x2)) + x3).toNatClampNeg) = (xI h 87 x1.toNatClampNeg) → Q (some (.int 1)) h))))))) :
    XW (xrm 1 0 0) mX11_canCome (xE 100 Q X 0 0) 100 0 0 h 37 [some (.ref 56), some (.int x1), some (.int x2), some (.int x3), some (.int x4)] [] := by
  refine xi_iload (by decide +kernel : decode mX11_canCome.2.1 37 = .ok (.iload 4, 2)) rfl (?_ : XW _ _ _ _ _ _ _ 39 _ _)
  refine xi_bipush (v := 6) (by decide +kernel : decode mX11_canCome.2.1 39 = .ok (.bipush 6, 2)) (by decide) (?_ : XW _ _ _ _ _ _ _ 41 _ _)
  refine xi_icmp_gt (by decide +kernel : decode mX11_canCome.2.1 41 = .ok (.if_icmp .gt 46, 3)) (by decide) (fun c => (?_ : XW _ _ _ _ _ _ _ 87 _ _)) (fun c => (?_ : XW _ _ _ _ _ _ _ 44 _ _))
  · replace vc := vc.1 c
    refine xi_iconst (v := 0) (by decide +kernel : decode mX11_canCome.2.1 87 = .ok (.iconst 0, 1)) (by decide) (?_ : XW _ _ _ _ _ _ _ 88 _ _)
    exact xi_iret (by decide +kernel : decode mX11_canCome.2.1 88 = .ok (.ireturn, 1)) rfl rfl vc
  · replace vc := vc.2 c
    refine xi_aload_n (by decide +kernel : decode mX11_canCome.2.1 44 = .ok (.aload_n 0, 1)) rfl rfl (?_ : XW _ _ _ _ _ _ _ 45 _ _)
    refine xi_getR (y := 60) (by decide +kernel : decode mX11_canCome.2.1 45 = .ok (.getfield 36, 3)) fX11_36 rfl (by omega) rfl (mp_die hM) (?_ : XW _ _ _ _ _ _ _ 48 _ _)
    refine xi_iload (by decide +kernel : decode mX11_canCome.2.1 48 = .ok (.iload 4, 2)) rfl (?_ : XW _ _ _ _ _ _ _ 50 _ _)
    refine xi_iconst (v := 1) (by decide +kernel : decode mX11_canCome.2.1 50 = .ok (.iconst 1, 1)) (by decide) (?_ : XW _ _ _ _ _ _ _ 51 _ _)
    refine xi_isub (by decide +kernel : decode mX11_canCome.2.1 51 = .ok (.isub, 1)) (?_ : XW _ _ _ _ _ _ _ 52 _ _)
    obtain ⟨s1, vc⟩ := vc
    refine xi_iald (by decide +kernel : decode mX11_canCome.2.1 52 = .ok (.iaload, 1)) rfl (by omega) s1 (?_ : XW _ _ _ _ _ _ _ 53 _ _)
    refine xi_if_le (by decide +kernel : decode mX11_canCome.2.1 53 = .ok (.ifCond .le 28, 3)) (by decide) (fun c => (?_ : XW _ _ _ _ _ _ _ 81 _ _)) (fun c => (?_ : XW _ _ _ _ _ _ _ 56 _ _))
    · replace vc := vc.1 c
      refine xi_iinc (v := x4 + 1) (ls' := [some (.ref 56), some (.int x1), some (.int x2), some (.int x3), some (.int (x4 + 1))]) (by decide +kernel : decode mX11_canCome.2.1 81 = .ok (.iinc 4 1, 3)) rfl rfl (by decide) rfl (?_ : XW _ _ _ _ _ _ _ 84 _ _)
      refine xi_goto (by decide +kernel : decode mX11_canCome.2.1 84 = .ok (.goto (-47), 3)) (by decide) (?_ : XW _ _ _ _ _ _ _ 37 _ _)
      exact vc
    · replace vc := vc.2 c
      refine xi_aload_n (by decide +kernel : decode mX11_canCome.2.1 56 = .ok (.aload_n 0, 1)) rfl rfl (?_ : XW _ _ _ _ _ _ _ 57 _ _)
      refine xi_getR (y := 67) (by decide +kernel : decode mX11_canCome.2.1 57 = .ok (.getfield 61, 3)) fX11_61 rfl (by omega) rfl (mp_to hM) (?_ : XW _ _ _ _ _ _ _ 60 _ _)
      refine xi_bipush (v := 101) (by decide +kernel : decode mX11_canCome.2.1 60 = .ok (.bipush 101, 2)) (by decide) (?_ : XW _ _ _ _ _ _ _ 62 _ _)
      refine xi_iload (by decide +kernel : decode mX11_canCome.2.1 62 = .ok (.iload 4, 2)) rfl (?_ : XW _ _ _ _ _ _ _ 64 _ _)
      refine xi_iload_n (by decide +kernel : decode mX11_canCome.2.1 64 = .ok (.iload_n 2, 1)) rfl rfl (?_ : XW _ _ _ _ _ _ _ 65 _ _)
      refine xi_isub (by decide +kernel : decode mX11_canCome.2.1 65 = .ok (.isub, 1)) (?_ : XW _ _ _ _ _ _ _ 66 _ _)
      refine xi_imul (by decide +kernel : decode mX11_canCome.2.1 66 = .ok (.imul, 1)) (?_ : XW _ _ _ _ _ _ _ 67 _ _)
      refine xi_iload_n (by decide +kernel : decode mX11_canCome.2.1 67 = .ok (.iload_n 3, 1)) rfl rfl (?_ : XW _ _ _ _ _ _ _ 68 _ _)
      refine xi_iadd (by decide +kernel : decode mX11_canCome.2.1 68 = .ok (.iadd, 1)) (?_ : XW _ _ _ _ _ _ _ 69 _ _)
      obtain ⟨s1, vc⟩ := vc
      refine xi_iald (by decide +kernel : decode mX11_canCome.2.1 69 = .ok (.iaload, 1)) rfl (by omega) s1 (?_ : XW _ _ _ _ _ _ _ 70 _ _)
      refine xi_aload_n (by decide +kernel : decode mX11_canCome.2.1 70 = .ok (.aload_n 0, 1)) rfl rfl (?_ : XW _ _ _ _ _ _ _ 71 _ _)
      refine xi_getR (y := 87) (by decide +kernel : decode mX11_canCome.2.1 71 = .ok (.getfield 125, 3)) fX11_125 rfl (by omega) rfl (mp_noted hM) (?_ : XW _ _ _ _ _ _ _ 74 _ _)
      refine xi_iload_n (by decide +kernel : decode mX11_canCome.2.1 74 = .ok (.iload_n 1, 1)) rfl rfl (?_ : XW _ _ _ _ _ _ _ 75 _ _)
      obtain ⟨s1, vc⟩ := vc
      refine xi_iald (by decide +kernel : decode mX11_canCome.2.1 75 = .ok (.iaload, 1)) rfl (by omega) s1 (?_ : XW _ _ _ _ _ _ _ 76 _ _)
      refine xi_icmp_ne (by decide +kernel : decode mX11_canCome.2.1 76 = .ok (.if_icmp .ne 5, 3)) (by decide) (fun c => (?_ : XW _ _ _ _ _ _ _ 81 _ _)) (fun c => (?_ : XW _ _ _ _ _ _ _ 79 _ _))
      · replace vc := vc.1 c
        refine xi_iinc (v := x4 + 1) (ls' := [some (.ref 56), some (.int x1), some (.int x2), some (.int x3), some (.int (x4 + 1))]) (by decide +kernel : decode mX11_canCome.2.1 81 = .ok (.iinc 4 1, 3)) rfl rfl (by decide) rfl (?_ : XW _ _ _ _ _ _ _ 84 _ _)
        refine xi_goto (by decide +kernel : decode mX11_canCome.2.1 84 = .ok (.goto (-47), 3)) (by decide) (?_ : XW _ _ _ _ _ _ _ 37 _ _)
        exact vc
      · replace vc := vc.2 c
        refine xi_iconst (v := 1) (by decide +kernel : decode mX11_canCome.2.1 79 = .ok (.iconst 1, 1)) (by decide) (?_ : XW _ _ _ _ _ _ _ 80 _ _)
        exact xi_iret (by decide +kernel : decode mX11_canCome.2.1 80 = .ok (.ireturn, 1)) rfl rfl vc

set_option maxRecDepth 20000 in
theorem v_X11_cannot_0 {h : XH} {Q : Option Value → XH → Prop} {X : String → XH → Prop} (hM : xMod (xP h)) 
    (vc : ∃ Q1, XSpec mX11_tellBoard 5 0 0 100 100 [.ref 56] (xSI 56 (va_up (xI h 56) 2 0) h) Q1 xno ∧ ∀ v h1, Q1 v h1 → v = none ∧ (XW (xrm 6 0 0) mX11_cannot (xE 100 Q X 0 0) 100 0 0 h1 11 [some (.ref 56), some (.int 0)] [])) :
    XW (xrm 6 0 0) mX11_cannot (xE 100 Q X 0 0) 100 0 0 h 0 [some (.ref 56), none] [] := by
  refine xi_aload_n (by decide +kernel : decode mX11_cannot.2.1 0 = .ok (.aload_n 0, 1)) rfl rfl (?_ : XW _ _ _ _ _ _ _ 1 _ _)
  refine xi_iconst (v := 0) (by decide +kernel : decode mX11_cannot.2.1 1 = .ok (.iconst 0, 1)) (by decide) (?_ : XW _ _ _ _ _ _ _ 2 _ _)
  refine xi_putI (by decide +kernel : decode mX11_cannot.2.1 2 = .ok (.putfield 161, 3)) fX11_161 rfl (by omega) rfl rfl rfl (?_ : XW _ _ _ _ _ _ (xSI 56 (va_up (xI h 56) 2 0) h) 5 _ _)
  refine xi_aload_n (by decide +kernel : decode mX11_cannot.2.1 5 = .ok (.aload_n 0, 1)) rfl rfl (?_ : XW _ _ _ _ _ _ _ 6 _ _)
  obtain ⟨Q1, sp, vc⟩ := vc
  refine xi_callV (b := 0) (bs := 0) (As := []) (st := []) (by decide +kernel : decode mX11_cannot.2.1 6 = .ok (.invokevirtual 373, 3)) kX11_373 rfl rfl (by omega) rfl sp (by decide) (by decide) (Nat.le_of_ble_eq_true rfl) (by omega) (fun v9 h1 hq9 => ?_)
  obtain ⟨e9, vc⟩ := vc v9 h1 hq9
  subst e9
  show XW _ _ _ _ _ _ _ 9 _ []
  refine xi_iconst (v := 0) (by decide +kernel : decode mX11_cannot.2.1 9 = .ok (.iconst 0, 1)) (by decide) (?_ : XW _ _ _ _ _ _ _ 10 _ _)
  refine xi_istore_n (ls' := [some (.ref 56), some (.int 0)]) (by decide +kernel : decode mX11_cannot.2.1 10 = .ok (.istore_n 1, 1)) rfl (by decide) rfl (?_ : XW _ _ _ _ _ _ _ 11 _ _)
  exact vc

set_option maxRecDepth 20000 in
theorem v_X11_cannot_11 {h : XH} {Q : Option Value → XH → Prop} {X : String → XH → Prop} (hM : xMod (xP h))  (x1 : Int32)
    (vc : ((xI h 56 46) ≤ x1 → Q (some (.int (-1))) h) ∧ (¬ (xI h 56 46) ≤ x1 → ∃ Q1, XSpec mX11_canCome 1 0 0 100 100 [.ref 56, .int x1, .int 0] h Q1 xno ∧ ∀ v h2, Q1 v h2 → ∃ r2 : Int32, v = some (.int r2) ∧ ((¬ r2 = 0 → XW (xrm 6 0 0) mX11_cannot (xE 100 Q X 0 0) 100 0 0 h2 11 [some (.ref 56), some (.int (x1 + 1))] []) ∧ (r2 = 0 → Q (some (.int x1)) h2)))) :
    XW (xrm 6 0 0) mX11_cannot (xE 100 Q X 0 0) 100 0 0 h 11 [some (.ref 56), some (.int x1)] [] := by
  refine xi_iload_n (by decide +kernel : decode mX11_cannot.2.1 11 = .ok (.iload_n 1, 1)) rfl rfl (?_ : XW _ _ _ _ _ _ _ 12 _ _)
  refine xi_aload_n (by decide +kernel : decode mX11_cannot.2.1 12 = .ok (.aload_n 0, 1)) rfl rfl (?_ : XW _ _ _ _ _ _ _ 13 _ _)
  refine xi_getI (by decide +kernel : decode mX11_cannot.2.1 13 = .ok (.getfield 333, 3)) fX11_333 rfl (by omega) rfl (?_ : XW _ _ _ _ _ _ _ 16 _ _)
  refine xi_icmp_ge (by decide +kernel : decode mX11_cannot.2.1 16 = .ok (.if_icmp .ge 20, 3)) (by decide) (fun c => (?_ : XW _ _ _ _ _ _ _ 36 _ _)) (fun c => (?_ : XW _ _ _ _ _ _ _ 19 _ _))
  · replace vc := vc.1 c
    refine xi_iconst (v := (-1)) (by decide +kernel : decode mX11_cannot.2.1 36 = .ok (.iconst (-1), 1)) (by decide) (?_ : XW _ _ _ _ _ _ _ 37 _ _)
    exact xi_iret (by decide +kernel : decode mX11_cannot.2.1 37 = .ok (.ireturn, 1)) rfl rfl vc
  · replace vc := vc.2 c
    refine xi_aload_n (by decide +kernel : decode mX11_cannot.2.1 19 = .ok (.aload_n 0, 1)) rfl rfl (?_ : XW _ _ _ _ _ _ _ 20 _ _)
    refine xi_iload_n (by decide +kernel : decode mX11_cannot.2.1 20 = .ok (.iload_n 1, 1)) rfl rfl (?_ : XW _ _ _ _ _ _ _ 21 _ _)
    refine xi_iconst (v := 0) (by decide +kernel : decode mX11_cannot.2.1 21 = .ok (.iconst 0, 1)) (by decide) (?_ : XW _ _ _ _ _ _ _ 22 _ _)
    obtain ⟨Q1, sp, vc⟩ := vc
    refine xi_callV (b := 0) (bs := 0) (As := [.int x1, .int 0]) (st := []) (by decide +kernel : decode mX11_cannot.2.1 22 = .ok (.invokevirtual 466, 3)) kX11_466 rfl rfl (by omega) rfl sp (by decide) (by decide) (Nat.le_of_ble_eq_true rfl) (by omega) (fun v9 h2 hq9 => ?_)
    obtain ⟨r2, e9, vc⟩ := vc v9 h2 hq9
    subst e9
    show XW _ _ _ _ _ _ _ 25 _ [.int r2]
    refine xi_if_ne (by decide +kernel : decode mX11_cannot.2.1 25 = .ok (.ifCond .ne 5, 3)) (by decide) (fun c => (?_ : XW _ _ _ _ _ _ _ 30 _ _)) (fun c => (?_ : XW _ _ _ _ _ _ _ 28 _ _))
    · replace vc := vc.1 c
      refine xi_iinc (v := x1 + 1) (ls' := [some (.ref 56), some (.int (x1 + 1))]) (by decide +kernel : decode mX11_cannot.2.1 30 = .ok (.iinc 1 1, 3)) rfl rfl (by decide) rfl (?_ : XW _ _ _ _ _ _ _ 33 _ _)
      refine xi_goto (by decide +kernel : decode mX11_cannot.2.1 33 = .ok (.goto (-22), 3)) (by decide) (?_ : XW _ _ _ _ _ _ _ 11 _ _)
      exact vc
    · replace vc := vc.2 c
      refine xi_iload_n (by decide +kernel : decode mX11_cannot.2.1 28 = .ok (.iload_n 1, 1)) rfl rfl (?_ : XW _ _ _ _ _ _ _ 29 _ _)
      exact xi_iret (by decide +kernel : decode mX11_cannot.2.1 29 = .ok (.ireturn, 1)) rfl rfl vc

set_option maxRecDepth 20000 in
theorem v_X11_less_0 {h : XH} {Q : Option Value → XH → Prop} {X : String → XH → Prop} (hM : xMod (xP h)) 
    (vc : ∃ Q1, XSpec mX11_tellBoard 5 0 0 100 100 [.ref 56] (xSI 56 (va_up (xI h 56) 2 0) h) Q1 xno ∧ ∀ v h1, Q1 v h1 → v = none ∧ (XW (xrm 6 0 0) mX11_less (xE 100 Q X 0 0) 100 0 0 h1 13 [some (.ref 56), some (.int 0), some (.int 0)] [])) :
    XW (xrm 6 0 0) mX11_less (xE 100 Q X 0 0) 100 0 0 h 0 [some (.ref 56), none, none] [] := by
  refine xi_aload_n (by decide +kernel : decode mX11_less.2.1 0 = .ok (.aload_n 0, 1)) rfl rfl (?_ : XW _ _ _ _ _ _ _ 1 _ _)
  refine xi_iconst (v := 0) (by decide +kernel : decode mX11_less.2.1 1 = .ok (.iconst 0, 1)) (by decide) (?_ : XW _ _ _ _ _ _ _ 2 _ _)
  refine xi_putI (by decide +kernel : decode mX11_less.2.1 2 = .ok (.putfield 161, 3)) fX11_161 rfl (by omega) rfl rfl rfl (?_ : XW _ _ _ _ _ _ (xSI 56 (va_up (xI h 56) 2 0) h) 5 _ _)
  refine xi_aload_n (by decide +kernel : decode mX11_less.2.1 5 = .ok (.aload_n 0, 1)) rfl rfl (?_ : XW _ _ _ _ _ _ _ 6 _ _)
  obtain ⟨Q1, sp, vc⟩ := vc
  refine xi_callV (b := 0) (bs := 0) (As := []) (st := []) (by decide +kernel : decode mX11_less.2.1 6 = .ok (.invokevirtual 373, 3)) kX11_373 rfl rfl (by omega) rfl sp (by decide) (by decide) (Nat.le_of_ble_eq_true rfl) (by omega) (fun v9 h1 hq9 => ?_)
  obtain ⟨e9, vc⟩ := vc v9 h1 hq9
  subst e9
  show XW _ _ _ _ _ _ _ 9 _ []
  refine xi_iconst (v := 0) (by decide +kernel : decode mX11_less.2.1 9 = .ok (.iconst 0, 1)) (by decide) (?_ : XW _ _ _ _ _ _ _ 10 _ _)
  refine xi_istore_n (ls' := [some (.ref 56), some (.int 0), none]) (by decide +kernel : decode mX11_less.2.1 10 = .ok (.istore_n 1, 1)) rfl (by decide) rfl (?_ : XW _ _ _ _ _ _ _ 11 _ _)
  refine xi_iconst (v := 0) (by decide +kernel : decode mX11_less.2.1 11 = .ok (.iconst 0, 1)) (by decide) (?_ : XW _ _ _ _ _ _ _ 12 _ _)
  refine xi_istore_n (ls' := [some (.ref 56), some (.int 0), some (.int 0)]) (by decide +kernel : decode mX11_less.2.1 12 = .ok (.istore_n 2, 1)) rfl (by decide) rfl (?_ : XW _ _ _ _ _ _ _ 13 _ _)
  exact vc

set_option maxRecDepth 20000 in
theorem v_X11_less_13 {h : XH} {Q : Option Value → XH → Prop} {X : String → XH → Prop} (hM : xMod (xP h))  (x1 : Int32) (x2 : Int32)
    (vc : ((xI h 56 46) ≤ x2 → Q (some (.int x1)) h) ∧ (¬ (xI h 56 46) ≤ x2 → ∃ Q1, XSpec mX11_canCome 1 0 0 100 100 [.ref 56, .int x2, .int 0] h Q1 xno ∧ ∀ v h2, Q1 v h2 → ∃ r2 : Int32, v = some (.int r2) ∧ ((¬ r2 = 0 → XW (xrm 6 0 0) mX11_less (xE 100 Q X 0 0) 100 0 0 h2 13 [some (.ref 56), some (.int (x1 + 0)), some (.int (x2 + 1))] []) ∧ (r2 = 0 → ∃ Q1, XSpec mX11_canCome 1 0 0 100 100 [.ref 56, .int x2, .int 1] h2 Q1 xno ∧ ∀ v h3, Q1 v h3 → ∃ r3 : Int32, v = some (.int r3) ∧ ((r3 = 0 → XW (xrm 6 0 0) mX11_less (xE 100 Q X 0 0) 100 0 0 h3 13 [some (.ref 56), some (.int (x1 + 0)), some (.int (x2 + 1))] []) ∧ (¬ r3 = 0 → XW (xrm 6 0 0) mX11_less (xE 100 Q X 0 0) 100 0 0 h3 13 [some (.ref 56), some (.int (x1 + 1)), some (.int (x2 + 1))] [])))))) :
    XW (xrm 6 0 0) mX11_less (xE 100 Q X 0 0) 100 0 0 h 13 [some (.ref 56), some (.int x1), some (.int x2)] [] := by
  refine xi_iload_n (by decide +kernel : decode mX11_less.2.1 13 = .ok (.iload_n 2, 1)) rfl rfl (?_ : XW _ _ _ _ _ _ _ 14 _ _)
  refine xi_aload_n (by decide +kernel : decode mX11_less.2.1 14 = .ok (.aload_n 0, 1)) rfl rfl (?_ : XW _ _ _ _ _ _ _ 15 _ _)
  refine xi_getI (by decide +kernel : decode mX11_less.2.1 15 = .ok (.getfield 333, 3)) fX11_333 rfl (by omega) rfl (?_ : XW _ _ _ _ _ _ _ 18 _ _)
  refine xi_icmp_ge (by decide +kernel : decode mX11_less.2.1 18 = .ok (.if_icmp .ge 35, 3)) (by decide) (fun c => (?_ : XW _ _ _ _ _ _ _ 53 _ _)) (fun c => (?_ : XW _ _ _ _ _ _ _ 21 _ _))
  · replace vc := vc.1 c
    refine xi_iload_n (by decide +kernel : decode mX11_less.2.1 53 = .ok (.iload_n 1, 1)) rfl rfl (?_ : XW _ _ _ _ _ _ _ 54 _ _)
    exact xi_iret (by decide +kernel : decode mX11_less.2.1 54 = .ok (.ireturn, 1)) rfl rfl vc
  · replace vc := vc.2 c
    refine xi_iload_n (by decide +kernel : decode mX11_less.2.1 21 = .ok (.iload_n 1, 1)) rfl rfl (?_ : XW _ _ _ _ _ _ _ 22 _ _)
    refine xi_aload_n (by decide +kernel : decode mX11_less.2.1 22 = .ok (.aload_n 0, 1)) rfl rfl (?_ : XW _ _ _ _ _ _ _ 23 _ _)
    refine xi_iload_n (by decide +kernel : decode mX11_less.2.1 23 = .ok (.iload_n 2, 1)) rfl rfl (?_ : XW _ _ _ _ _ _ _ 24 _ _)
    refine xi_iconst (v := 0) (by decide +kernel : decode mX11_less.2.1 24 = .ok (.iconst 0, 1)) (by decide) (?_ : XW _ _ _ _ _ _ _ 25 _ _)
    obtain ⟨Q1, sp, vc⟩ := vc
    refine xi_callV (b := 0) (bs := 0) (As := [.int x2, .int 0]) (st := [.int x1]) (by decide +kernel : decode mX11_less.2.1 25 = .ok (.invokevirtual 466, 3)) kX11_466 rfl rfl (by omega) rfl sp (by decide) (by decide) (Nat.le_of_ble_eq_true rfl) (by omega) (fun v9 h2 hq9 => ?_)
    obtain ⟨r2, e9, vc⟩ := vc v9 h2 hq9
    subst e9
    show XW _ _ _ _ _ _ _ 28 _ [.int r2, .int x1]
    refine xi_if_ne (by decide +kernel : decode mX11_less.2.1 28 = .ok (.ifCond .ne 16, 3)) (by decide) (fun c => (?_ : XW _ _ _ _ _ _ _ 44 _ _)) (fun c => (?_ : XW _ _ _ _ _ _ _ 31 _ _))
    · replace vc := vc.1 c
      refine xi_iconst (v := 0) (by decide +kernel : decode mX11_less.2.1 44 = .ok (.iconst 0, 1)) (by decide) (?_ : XW _ _ _ _ _ _ _ 45 _ _)
      refine xi_iadd (by decide +kernel : decode mX11_less.2.1 45 = .ok (.iadd, 1)) (?_ : XW _ _ _ _ _ _ _ 46 _ _)
      refine xi_istore_n (ls' := [some (.ref 56), some (.int (x1 + 0)), some (.int x2)]) (by decide +kernel : decode mX11_less.2.1 46 = .ok (.istore_n 1, 1)) rfl (by decide) rfl (?_ : XW _ _ _ _ _ _ _ 47 _ _)
      refine xi_iinc (v := x2 + 1) (ls' := [some (.ref 56), some (.int (x1 + 0)), some (.int (x2 + 1))]) (by decide +kernel : decode mX11_less.2.1 47 = .ok (.iinc 2 1, 3)) rfl rfl (by decide) rfl (?_ : XW _ _ _ _ _ _ _ 50 _ _)
      refine xi_goto (by decide +kernel : decode mX11_less.2.1 50 = .ok (.goto (-37), 3)) (by decide) (?_ : XW _ _ _ _ _ _ _ 13 _ _)
      exact vc
    · replace vc := vc.2 c
      refine xi_aload_n (by decide +kernel : decode mX11_less.2.1 31 = .ok (.aload_n 0, 1)) rfl rfl (?_ : XW _ _ _ _ _ _ _ 32 _ _)
      refine xi_iload_n (by decide +kernel : decode mX11_less.2.1 32 = .ok (.iload_n 2, 1)) rfl rfl (?_ : XW _ _ _ _ _ _ _ 33 _ _)
      refine xi_iconst (v := 1) (by decide +kernel : decode mX11_less.2.1 33 = .ok (.iconst 1, 1)) (by decide) (?_ : XW _ _ _ _ _ _ _ 34 _ _)
      obtain ⟨Q1, sp, vc⟩ := vc
      refine xi_callV (b := 0) (bs := 0) (As := [.int x2, .int 1]) (st := [.int x1]) (by decide +kernel : decode mX11_less.2.1 34 = .ok (.invokevirtual 466, 3)) kX11_466 rfl rfl (by omega) rfl sp (by decide) (by decide) (Nat.le_of_ble_eq_true rfl) (by omega) (fun v9 h3 hq9 => ?_)
      obtain ⟨r3, e9, vc⟩ := vc v9 h3 hq9
      subst e9
      show XW _ _ _ _ _ _ _ 37 _ [.int r3, .int x1]
      refine xi_if_eq (by decide +kernel : decode mX11_less.2.1 37 = .ok (.ifCond .eq 7, 3)) (by decide) (fun c => (?_ : XW _ _ _ _ _ _ _ 44 _ _)) (fun c => (?_ : XW _ _ _ _ _ _ _ 40 _ _))
      · replace vc := vc.1 c
        refine xi_iconst (v := 0) (by decide +kernel : decode mX11_less.2.1 44 = .ok (.iconst 0, 1)) (by decide) (?_ : XW _ _ _ _ _ _ _ 45 _ _)
        refine xi_iadd (by decide +kernel : decode mX11_less.2.1 45 = .ok (.iadd, 1)) (?_ : XW _ _ _ _ _ _ _ 46 _ _)
        refine xi_istore_n (ls' := [some (.ref 56), some (.int (x1 + 0)), some (.int x2)]) (by decide +kernel : decode mX11_less.2.1 46 = .ok (.istore_n 1, 1)) rfl (by decide) rfl (?_ : XW _ _ _ _ _ _ _ 47 _ _)
        refine xi_iinc (v := x2 + 1) (ls' := [some (.ref 56), some (.int (x1 + 0)), some (.int (x2 + 1))]) (by decide +kernel : decode mX11_less.2.1 47 = .ok (.iinc 2 1, 3)) rfl rfl (by decide) rfl (?_ : XW _ _ _ _ _ _ _ 50 _ _)
        refine xi_goto (by decide +kernel : decode mX11_less.2.1 50 = .ok (.goto (-37), 3)) (by decide) (?_ : XW _ _ _ _ _ _ _ 13 _ _)
        exact vc
      · replace vc := vc.2 c
        refine xi_iconst (v := 1) (by decide +kernel : decode mX11_less.2.1 40 = .ok (.iconst 1, 1)) (by decide) (?_ : XW _ _ _ _ _ _ _ 41 _ _)
        refine xi_goto (by decide +kernel : decode mX11_less.2.1 41 = .ok (.goto 4, 3)) (by decide) (?_ : XW _ _ _ _ _ _ _ 45 _ _)
        refine xi_iadd (by decide +kernel : decode mX11_less.2.1 45 = .ok (.iadd, 1)) (?_ : XW _ _ _ _ _ _ _ 46 _ _)
        refine xi_istore_n (ls' := [some (.ref 56), some (.int (x1 + 1)), some (.int x2)]) (by decide +kernel : decode mX11_less.2.1 46 = .ok (.istore_n 1, 1)) rfl (by decide) rfl (?_ : XW _ _ _ _ _ _ _ 47 _ _)
        refine xi_iinc (v := x2 + 1) (ls' := [some (.ref 56), some (.int (x1 + 1)), some (.int (x2 + 1))]) (by decide +kernel : decode mX11_less.2.1 47 = .ok (.iinc 2 1, 3)) rfl rfl (by decide) rfl (?_ : XW _ _ _ _ _ _ _ 50 _ _)
        refine xi_goto (by decide +kernel : decode mX11_less.2.1 50 = .ok (.goto (-37), 3)) (by decide) (?_ : XW _ _ _ _ _ _ _ 13 _ _)
        exact vc

set_option maxRecDepth 20000 in
theorem v_X11_tellWays_0 {h : XH} {Q : Option Value → XH → Prop} {X : String → XH → Prop} (hM : xMod (xP h)) 
    (vc : XW (xrm 2 0 0) mX11_tellWays (xE 100 Q X 0 0) 100 0 0 h 2 [some (.ref 56), some (.int 0), none, none, none, none, none] []) :
    XW (xrm 2 0 0) mX11_tellWays (xE 100 Q X 0 0) 100 0 0 h 0 [some (.ref 56), none, none, none, none, none, none] [] := by
  refine xi_iconst (v := 0) (by decide +kernel : decode mX11_tellWays.2.1 0 = .ok (.iconst 0, 1)) (by decide) (?_ : XW _ _ _ _ _ _ _ 1 _ _)
  refine xi_istore_n (ls' := [some (.ref 56), some (.int 0), none, none, none, none, none]) (by decide +kernel : decode mX11_tellWays.2.1 1 = .ok (.istore_n 1, 1)) rfl (by decide) rfl (?_ : XW _ _ _ _ _ _ _ 2 _ _)
  exact vc

set_option maxRecDepth 20000 in
theorem v_X11_tellWays_2 {h : XH} {Q : Option Value → XH → Prop} {X : String → XH → Prop} (hM : xMod (xP h))  (x1 : Int32)
    (vc : ((xI h 59 0) < x1 → XW (xrm 2 0 0) mX11_tellWays (xE 100 Q X 0 0) 100 0 0 h 40 [some (.ref 56), some (.int ((xI h 56 46) - 1)), none, none, none, none, none] []) ∧ (¬ (xI h 59 0) < x1 → (vp_in ((101 * (xI h 56 46)) + x1) 4141) ∧ (XW (xrm 2 0 0) mX11_tellWays (xE 100 Q X 0 0) 100 0 0 (xSL 88 (va_up (xL h 88) ((101 * (xI h 56 46)) + x1).toNatClampNeg 1) h) 2 [some (.ref 56), some (.int (x1 + 1)), none, none, none, none, none] []))) :
    XW (xrm 2 0 0) mX11_tellWays (xE 100 Q X 0 0) 100 0 0 h 2 [some (.ref 56), some (.int x1), none, none, none, none, none] [] := by
  refine xi_iload_n (by decide +kernel : decode mX11_tellWays.2.1 2 = .ok (.iload_n 1, 1)) rfl rfl (?_ : XW _ _ _ _ _ _ _ 3 _ _)
  refine xi_aload_n (by decide +kernel : decode mX11_tellWays.2.1 3 = .ok (.aload_n 0, 1)) rfl rfl (?_ : XW _ _ _ _ _ _ _ 4 _ _)
  refine xi_getR (y := 59) (by decide +kernel : decode mX11_tellWays.2.1 4 = .ok (.getfield 32, 3)) fX11_32 rfl (by omega) rfl (mp_told hM) (?_ : XW _ _ _ _ _ _ _ 7 _ _)
  refine xi_iconst (v := 0) (by decide +kernel : decode mX11_tellWays.2.1 7 = .ok (.iconst 0, 1)) (by decide) (?_ : XW _ _ _ _ _ _ _ 8 _ _)
  refine xi_iald (by decide +kernel : decode mX11_tellWays.2.1 8 = .ok (.iaload, 1)) rfl (by omega) (by unfold vp_in; decide) (?_ : XW _ _ _ _ _ _ _ 9 _ [.int (xI h 59 0), .int x1])
  refine xi_icmp_gt (by decide +kernel : decode mX11_tellWays.2.1 9 = .ok (.if_icmp .gt 24, 3)) (by decide) (fun c => (?_ : XW _ _ _ _ _ _ _ 33 _ _)) (fun c => (?_ : XW _ _ _ _ _ _ _ 12 _ _))
  · replace vc := vc.1 c
    refine xi_aload_n (by decide +kernel : decode mX11_tellWays.2.1 33 = .ok (.aload_n 0, 1)) rfl rfl (?_ : XW _ _ _ _ _ _ _ 34 _ _)
    refine xi_getI (by decide +kernel : decode mX11_tellWays.2.1 34 = .ok (.getfield 333, 3)) fX11_333 rfl (by omega) rfl (?_ : XW _ _ _ _ _ _ _ 37 _ _)
    refine xi_iconst (v := 1) (by decide +kernel : decode mX11_tellWays.2.1 37 = .ok (.iconst 1, 1)) (by decide) (?_ : XW _ _ _ _ _ _ _ 38 _ _)
    refine xi_isub (by decide +kernel : decode mX11_tellWays.2.1 38 = .ok (.isub, 1)) (?_ : XW _ _ _ _ _ _ _ 39 _ _)
    refine xi_istore_n (ls' := [some (.ref 56), some (.int ((xI h 56 46) - 1)), none, none, none, none, none]) (by decide +kernel : decode mX11_tellWays.2.1 39 = .ok (.istore_n 1, 1)) rfl (by decide) rfl (?_ : XW _ _ _ _ _ _ _ 40 _ _)
    exact vc
  · replace vc := vc.2 c
    refine xi_aload_n (by decide +kernel : decode mX11_tellWays.2.1 12 = .ok (.aload_n 0, 1)) rfl rfl (?_ : XW _ _ _ _ _ _ _ 13 _ _)
    refine xi_getR (y := 88) (by decide +kernel : decode mX11_tellWays.2.1 13 = .ok (.getfield 128, 3)) fX11_128 rfl (by omega) rfl (mp_waysOn hM) (?_ : XW _ _ _ _ _ _ _ 16 _ _)
    refine xi_bipush (v := 101) (by decide +kernel : decode mX11_tellWays.2.1 16 = .ok (.bipush 101, 2)) (by decide) (?_ : XW _ _ _ _ _ _ _ 18 _ _)
    refine xi_aload_n (by decide +kernel : decode mX11_tellWays.2.1 18 = .ok (.aload_n 0, 1)) rfl rfl (?_ : XW _ _ _ _ _ _ _ 19 _ _)
    refine xi_getI (by decide +kernel : decode mX11_tellWays.2.1 19 = .ok (.getfield 333, 3)) fX11_333 rfl (by omega) rfl (?_ : XW _ _ _ _ _ _ _ 22 _ _)
    refine xi_imul (by decide +kernel : decode mX11_tellWays.2.1 22 = .ok (.imul, 1)) (?_ : XW _ _ _ _ _ _ _ 23 _ _)
    refine xi_iload_n (by decide +kernel : decode mX11_tellWays.2.1 23 = .ok (.iload_n 1, 1)) rfl rfl (?_ : XW _ _ _ _ _ _ _ 24 _ _)
    refine xi_iadd (by decide +kernel : decode mX11_tellWays.2.1 24 = .ok (.iadd, 1)) (?_ : XW _ _ _ _ _ _ _ 25 _ _)
    refine xi_lconst (v := 1) (by decide +kernel : decode mX11_tellWays.2.1 25 = .ok (.lconst 1, 1)) (by decide) (?_ : XW _ _ _ _ _ _ _ 26 _ _)
    obtain ⟨s1, vc⟩ := vc
    refine xi_last (by decide +kernel : decode mX11_tellWays.2.1 26 = .ok (.lastore, 1)) rfl (by omega) s1 (?_ : XW _ _ _ _ _ _ (xSL 88 (va_up (xL h 88) ((101 * (xI h 56 46)) + x1).toNatClampNeg 1) h) 27 _ _)
    refine xi_iinc (v := x1 + 1) (ls' := [some (.ref 56), some (.int (x1 + 1)), none, none, none, none, none]) (by decide +kernel : decode mX11_tellWays.2.1 27 = .ok (.iinc 1 1, 3)) rfl rfl (by decide) rfl (?_ : XW _ _ _ _ _ _ _ 30 _ _)
    refine xi_goto (by decide +kernel : decode mX11_tellWays.2.1 30 = .ok (.goto (-28), 3)) (by decide) (?_ : XW _ _ _ _ _ _ _ 2 _ _)
    exact vc

set_option maxRecDepth 20000 in
theorem v_X11_tellWays_40 {h : XH} {Q : Option Value → XH → Prop} {X : String → XH → Prop} (hM : xMod (xP h))  (x1 : Int32)
    (vc : (x1 < 0 → Q none h) ∧ (¬ x1 < 0 → XW (xrm 2 0 0) mX11_tellWays (xE 100 Q X 0 0) 100 0 0 h 46 [some (.ref 56), some (.int x1), some (.int 0), none, none, none, none] [])) :
    XW (xrm 2 0 0) mX11_tellWays (xE 100 Q X 0 0) 100 0 0 h 40 [some (.ref 56), some (.int x1), none, none, none, none, none] [] := by
  refine xi_iload_n (by decide +kernel : decode mX11_tellWays.2.1 40 = .ok (.iload_n 1, 1)) rfl rfl (?_ : XW _ _ _ _ _ _ _ 41 _ _)
  refine xi_if_lt (by decide +kernel : decode mX11_tellWays.2.1 41 = .ok (.ifCond .lt 127, 3)) (by decide) (fun c => (?_ : XW _ _ _ _ _ _ _ 168 _ _)) (fun c => (?_ : XW _ _ _ _ _ _ _ 44 _ _))
  · replace vc := vc.1 c
    exact xi_vret (by decide +kernel : decode mX11_tellWays.2.1 168 = .ok (.return_, 1)) rfl vc
  · replace vc := vc.2 c
    refine xi_iconst (v := 0) (by decide +kernel : decode mX11_tellWays.2.1 44 = .ok (.iconst 0, 1)) (by decide) (?_ : XW _ _ _ _ _ _ _ 45 _ _)
    refine xi_istore_n (ls' := [some (.ref 56), some (.int x1), some (.int 0), none, none, none, none]) (by decide +kernel : decode mX11_tellWays.2.1 45 = .ok (.istore_n 2, 1)) rfl (by decide) rfl (?_ : XW _ _ _ _ _ _ _ 46 _ _)
    exact vc

set_option maxRecDepth 20000 in
theorem v_X11_tellWays_46 {h : XH} {Q : Option Value → XH → Prop} {X : String → XH → Prop} (hM : xMod (xP h))  (x1 : Int32) (x2 : Int32)
    (vc : ((xI h 59 0) < x2 → XW (xrm 2 0 0) mX11_tellWays (xE 100 Q X 0 0) 100 0 0 h 40 [some (.ref 56), some (.int (x1 + (-1))), none, none, none, none, none] []) ∧ (¬ (xI h 59 0) < x2 → XW (xrm 2 0 0) mX11_tellWays (xE 100 Q X 0 0) 100 0 0 h 61 [some (.ref 56), some (.int x1), some (.int x2), some (.long 0), none, some (.int 1), none] [])) :
    XW (xrm 2 0 0) mX11_tellWays (xE 100 Q X 0 0) 100 0 0 h 46 [some (.ref 56), some (.int x1), some (.int x2), none, none, none, none] [] := by
  refine xi_iload_n (by decide +kernel : decode mX11_tellWays.2.1 46 = .ok (.iload_n 2, 1)) rfl rfl (?_ : XW _ _ _ _ _ _ _ 47 _ _)
  refine xi_aload_n (by decide +kernel : decode mX11_tellWays.2.1 47 = .ok (.aload_n 0, 1)) rfl rfl (?_ : XW _ _ _ _ _ _ _ 48 _ _)
  refine xi_getR (y := 59) (by decide +kernel : decode mX11_tellWays.2.1 48 = .ok (.getfield 32, 3)) fX11_32 rfl (by omega) rfl (mp_told hM) (?_ : XW _ _ _ _ _ _ _ 51 _ _)
  refine xi_iconst (v := 0) (by decide +kernel : decode mX11_tellWays.2.1 51 = .ok (.iconst 0, 1)) (by decide) (?_ : XW _ _ _ _ _ _ _ 52 _ _)
  refine xi_iald (by decide +kernel : decode mX11_tellWays.2.1 52 = .ok (.iaload, 1)) rfl (by omega) (by unfold vp_in; decide) (?_ : XW _ _ _ _ _ _ _ 53 _ [.int (xI h 59 0), .int x2])
  refine xi_icmp_gt (by decide +kernel : decode mX11_tellWays.2.1 53 = .ok (.if_icmp .gt 109, 3)) (by decide) (fun c => (?_ : XW _ _ _ _ _ _ _ 162 _ _)) (fun c => (?_ : XW _ _ _ _ _ _ _ 56 _ _))
  · replace vc := vc.1 c
    refine xi_iinc (v := x1 + (-1)) (ls' := [some (.ref 56), some (.int (x1 + (-1))), some (.int x2), none, none, none, none]) (by decide +kernel : decode mX11_tellWays.2.1 162 = .ok (.iinc 1 (-1), 3)) rfl rfl (by decide) rfl (?_ : XW _ _ _ _ _ _ _ 165 _ _)
    refine xi_goto (by decide +kernel : decode mX11_tellWays.2.1 165 = .ok (.goto (-125), 3)) (by decide) (?_ : XW _ _ _ _ _ _ _ 40 _ _)
    refine xw_drop 2 (ls' := [some (.ref 56), some (.int (x1 + (-1))), none, none, none, none, none]) rfl ?_
    exact vc
  · replace vc := vc.2 c
    refine xi_lconst (v := 0) (by decide +kernel : decode mX11_tellWays.2.1 56 = .ok (.lconst 0, 1)) (by decide) (?_ : XW _ _ _ _ _ _ _ 57 _ _)
    refine xi_lstore_n (ls' := [some (.ref 56), some (.int x1), some (.int x2), some (.long 0), none, none, none]) (by decide +kernel : decode mX11_tellWays.2.1 57 = .ok (.lstore_n 3, 1)) rfl (by decide) rfl (?_ : XW _ _ _ _ _ _ _ 58 _ _)
    refine xi_iconst (v := 1) (by decide +kernel : decode mX11_tellWays.2.1 58 = .ok (.iconst 1, 1)) (by decide) (?_ : XW _ _ _ _ _ _ _ 59 _ _)
    refine xi_istore (ls' := [some (.ref 56), some (.int x1), some (.int x2), some (.long 0), none, some (.int 1), none]) (by decide +kernel : decode mX11_tellWays.2.1 59 = .ok (.istore 5, 2)) (by decide) rfl (?_ : XW _ _ _ _ _ _ _ 61 _ _)
    exact vc

set_option maxRecDepth 20000 in
theorem v_X11_tellWays_61 {h : XH} {Q : Option Value → XH → Prop} {X : String → XH → Prop} (hM : xMod (xP h))  (x1 : Int32) (x2 : Int32) (x3 : Int64) (x5 : Int32)
    (vc : (6 < x5 → (vp_in ((101 * x1) + x2) 4141) ∧ (XW (xrm 2 0 0) mX11_tellWays (xE 100 Q X 0 0) 100 0 0 (xSL 88 (va_up (xL h 88) ((101 * x1) + x2).toNatClampNeg (if x3 < 1000000000000000000 then x3 else 1000000000000000000)) h) 46 [some (.ref 56), some (.int x1), some (.int (x2 + 1)), none, none, none, none] [])) ∧ (¬ 6 < x5 → (vp_in ((101 * x5) + x2) 707) ∧ ((vp_in (x5 - 1) 12) ∧ (((xI h 60 (x5 - 1).toNatClampNeg) ≤ 0 → XW (xrm 2 0 0) mX11_tellWays (xE 100 Q X 0 0) 100 0 0 h 61 [some (.ref 56), some (.int x1), some (.int x2), some (.long x3), none, some (.int (x5 + 1)), none] []) ∧ (¬ (xI h 60 (x5 - 1).toNatClampNeg) ≤ 0 → (vp_in x1 40) ∧ (((xI h 87 x1.toNatClampNeg) = (-1) → (vp_in ((101 * (x1 + 1)) + (xI h 67 ((101 * x5) + x2).toNatClampNeg)) 4141) ∧ (XW (xrm 2 0 0) mX11_tellWays (xE 100 Q X 0 0) 100 0 0 h 61 [some (.ref 56), some (.int x1), some (.int x2), some (.long (x3 + (xL h 88 ((101 * (x1 + 1)) + (xI h 67 ((101 * x5) + x2).toNatClampNeg)).toNatClampNeg))), none, some (.int (x5 + 1)), none] [])) ∧ (¬ (xI h 87 x1.toNatClampNeg) = (-1) → (vp_in x1 40) ∧ ((¬ (xI h 87 x1.toNatClampNeg) = (xI h 67 ((101 * x5) + x2).toNatClampNeg) → XW (xrm 2 0 0) mX11_tellWays (xE 100 Q X 0 0) 100 0 0 h 61 [some (.ref 56), some (.int x1), some (.int x2), some (.long x3), none, some (.int (x5 + 1)), none] []) ∧ ((xI h 87 x1.toNatClampNeg) = (xI h 67 ((101 * x5) + x2).toNatClampNeg) → (vp_in ((101 * (x1 + 1)) + (xI h 67 ((101 * x5) + x2).toNatClampNeg)) 4141) ∧ (XW (xrm 2 0 0) mX11_tellWays (xE 100 Q X 0 0) 100 0 0 h 61 [some (.ref 56), some (.int x1), some (.int x2), some (.long (x3 + (xL h 88 ((101 * (x1 + 1)) + (xI h 67 ((101 * x5) + x2).toNatClampNeg)).toNatClampNeg))), none, some (.int (x5 + 1)), none] [])))))))))) :
    XW (xrm 2 0 0) mX11_tellWays (xE 100 Q X 0 0) 100 0 0 h 61 [some (.ref 56), some (.int x1), some (.int x2), some (.long x3), none, some (.int x5), none] [] := by
  refine xi_iload (by decide +kernel : decode mX11_tellWays.2.1 61 = .ok (.iload 5, 2)) rfl (?_ : XW _ _ _ _ _ _ _ 63 _ _)
  refine xi_bipush (v := 6) (by decide +kernel : decode mX11_tellWays.2.1 63 = .ok (.bipush 6, 2)) (by decide) (?_ : XW _ _ _ _ _ _ _ 65 _ _)
  refine xi_icmp_gt (by decide +kernel : decode mX11_tellWays.2.1 65 = .ok (.if_icmp .gt 73, 3)) (by decide) (fun c => (?_ : XW _ _ _ _ _ _ _ 138 _ _)) (fun c => (?_ : XW _ _ _ _ _ _ _ 68 _ _))
  · replace vc := vc.1 c
    refine xi_aload_n (by decide +kernel : decode mX11_tellWays.2.1 138 = .ok (.aload_n 0, 1)) rfl rfl (?_ : XW _ _ _ _ _ _ _ 139 _ _)
    refine xi_getR (y := 88) (by decide +kernel : decode mX11_tellWays.2.1 139 = .ok (.getfield 128, 3)) fX11_128 rfl (by omega) rfl (mp_waysOn hM) (?_ : XW _ _ _ _ _ _ _ 142 _ _)
    refine xi_bipush (v := 101) (by decide +kernel : decode mX11_tellWays.2.1 142 = .ok (.bipush 101, 2)) (by decide) (?_ : XW _ _ _ _ _ _ _ 144 _ _)
    refine xi_iload_n (by decide +kernel : decode mX11_tellWays.2.1 144 = .ok (.iload_n 1, 1)) rfl rfl (?_ : XW _ _ _ _ _ _ _ 145 _ _)
    refine xi_imul (by decide +kernel : decode mX11_tellWays.2.1 145 = .ok (.imul, 1)) (?_ : XW _ _ _ _ _ _ _ 146 _ _)
    refine xi_iload_n (by decide +kernel : decode mX11_tellWays.2.1 146 = .ok (.iload_n 2, 1)) rfl rfl (?_ : XW _ _ _ _ _ _ _ 147 _ _)
    refine xi_iadd (by decide +kernel : decode mX11_tellWays.2.1 147 = .ok (.iadd, 1)) (?_ : XW _ _ _ _ _ _ _ 148 _ _)
    refine xi_ldc2 (v := 1000000000000000000) (by decide +kernel : decode mX11_tellWays.2.1 148 = .ok (.ldc2_w 469, 3)) cK_X11_469 (?_ : XW _ _ _ _ _ _ _ 151 _ _)
    refine xi_lload_n (by decide +kernel : decode mX11_tellWays.2.1 151 = .ok (.lload_n 3, 1)) rfl rfl (?_ : XW _ _ _ _ _ _ _ 152 _ _)
    refine xi_mminl (by decide +kernel : decode mX11_tellWays.2.1 152 = .ok (.invokestatic 435, 3)) kX11_435.2.1 (by decide) (Nat.le_of_ble_eq_true rfl) (?_ : XW _ _ _ _ _ _ _ 155 _ _)
    obtain ⟨s1, vc⟩ := vc
    refine xi_last (by decide +kernel : decode mX11_tellWays.2.1 155 = .ok (.lastore, 1)) rfl (by omega) s1 (?_ : XW _ _ _ _ _ _ (xSL 88 (va_up (xL h 88) ((101 * x1) + x2).toNatClampNeg (if x3 < 1000000000000000000 then x3 else 1000000000000000000)) h) 156 _ _)
    refine xi_iinc (v := x2 + 1) (ls' := [some (.ref 56), some (.int x1), some (.int (x2 + 1)), some (.long x3), none, some (.int x5), none]) (by decide +kernel : decode mX11_tellWays.2.1 156 = .ok (.iinc 2 1, 3)) rfl rfl (by decide) rfl (?_ : XW _ _ _ _ _ _ _ 159 _ _)
    refine xi_goto (by decide +kernel : decode mX11_tellWays.2.1 159 = .ok (.goto (-113), 3)) (by decide) (?_ : XW _ _ _ _ _ _ _ 46 _ _)
    refine xw_drop 3 (ls' := [some (.ref 56), some (.int x1), some (.int (x2 + 1)), none, none, some (.int x5), none]) rfl ?_
    refine xw_drop 5 (ls' := [some (.ref 56), some (.int x1), some (.int (x2 + 1)), none, none, none, none]) rfl ?_
    exact vc
  · replace vc := vc.2 c
    refine xi_aload_n (by decide +kernel : decode mX11_tellWays.2.1 68 = .ok (.aload_n 0, 1)) rfl rfl (?_ : XW _ _ _ _ _ _ _ 69 _ _)
    refine xi_getR (y := 67) (by decide +kernel : decode mX11_tellWays.2.1 69 = .ok (.getfield 61, 3)) fX11_61 rfl (by omega) rfl (mp_to hM) (?_ : XW _ _ _ _ _ _ _ 72 _ _)
    refine xi_bipush (v := 101) (by decide +kernel : decode mX11_tellWays.2.1 72 = .ok (.bipush 101, 2)) (by decide) (?_ : XW _ _ _ _ _ _ _ 74 _ _)
    refine xi_iload (by decide +kernel : decode mX11_tellWays.2.1 74 = .ok (.iload 5, 2)) rfl (?_ : XW _ _ _ _ _ _ _ 76 _ _)
    refine xi_imul (by decide +kernel : decode mX11_tellWays.2.1 76 = .ok (.imul, 1)) (?_ : XW _ _ _ _ _ _ _ 77 _ _)
    refine xi_iload_n (by decide +kernel : decode mX11_tellWays.2.1 77 = .ok (.iload_n 2, 1)) rfl rfl (?_ : XW _ _ _ _ _ _ _ 78 _ _)
    refine xi_iadd (by decide +kernel : decode mX11_tellWays.2.1 78 = .ok (.iadd, 1)) (?_ : XW _ _ _ _ _ _ _ 79 _ _)
    obtain ⟨s1, vc⟩ := vc
    refine xi_iald (by decide +kernel : decode mX11_tellWays.2.1 79 = .ok (.iaload, 1)) rfl (by omega) s1 (?_ : XW _ _ _ _ _ _ _ 80 _ _)
    refine xi_istore (ls' := [some (.ref 56), some (.int x1), some (.int x2), some (.long x3), none, some (.int x5), some (.int (xI h 67 ((101 * x5) + x2).toNatClampNeg))]) (by decide +kernel : decode mX11_tellWays.2.1 80 = .ok (.istore 6, 2)) (by decide) rfl (?_ : XW _ _ _ _ _ _ _ 82 _ _)
    refine xi_aload_n (by decide +kernel : decode mX11_tellWays.2.1 82 = .ok (.aload_n 0, 1)) rfl rfl (?_ : XW _ _ _ _ _ _ _ 83 _ _)
    refine xi_getR (y := 60) (by decide +kernel : decode mX11_tellWays.2.1 83 = .ok (.getfield 36, 3)) fX11_36 rfl (by omega) rfl (mp_die hM) (?_ : XW _ _ _ _ _ _ _ 86 _ _)
    refine xi_iload (by decide +kernel : decode mX11_tellWays.2.1 86 = .ok (.iload 5, 2)) rfl (?_ : XW _ _ _ _ _ _ _ 88 _ _)
    refine xi_iconst (v := 1) (by decide +kernel : decode mX11_tellWays.2.1 88 = .ok (.iconst 1, 1)) (by decide) (?_ : XW _ _ _ _ _ _ _ 89 _ _)
    refine xi_isub (by decide +kernel : decode mX11_tellWays.2.1 89 = .ok (.isub, 1)) (?_ : XW _ _ _ _ _ _ _ 90 _ _)
    obtain ⟨s1, vc⟩ := vc
    refine xi_iald (by decide +kernel : decode mX11_tellWays.2.1 90 = .ok (.iaload, 1)) rfl (by omega) s1 (?_ : XW _ _ _ _ _ _ _ 91 _ _)
    refine xi_if_le (by decide +kernel : decode mX11_tellWays.2.1 91 = .ok (.ifCond .le 41, 3)) (by decide) (fun c => (?_ : XW _ _ _ _ _ _ _ 132 _ _)) (fun c => (?_ : XW _ _ _ _ _ _ _ 94 _ _))
    · replace vc := vc.1 c
      refine xi_iinc (v := x5 + 1) (ls' := [some (.ref 56), some (.int x1), some (.int x2), some (.long x3), none, some (.int (x5 + 1)), some (.int (xI h 67 ((101 * x5) + x2).toNatClampNeg))]) (by decide +kernel : decode mX11_tellWays.2.1 132 = .ok (.iinc 5 1, 3)) rfl rfl (by decide) rfl (?_ : XW _ _ _ _ _ _ _ 135 _ _)
      refine xi_goto (by decide +kernel : decode mX11_tellWays.2.1 135 = .ok (.goto (-74), 3)) (by decide) (?_ : XW _ _ _ _ _ _ _ 61 _ _)
      refine xw_drop 6 (ls' := [some (.ref 56), some (.int x1), some (.int x2), some (.long x3), none, some (.int (x5 + 1)), none]) rfl ?_
      exact vc
    · replace vc := vc.2 c
      refine xi_aload_n (by decide +kernel : decode mX11_tellWays.2.1 94 = .ok (.aload_n 0, 1)) rfl rfl (?_ : XW _ _ _ _ _ _ _ 95 _ _)
      refine xi_getR (y := 87) (by decide +kernel : decode mX11_tellWays.2.1 95 = .ok (.getfield 125, 3)) fX11_125 rfl (by omega) rfl (mp_noted hM) (?_ : XW _ _ _ _ _ _ _ 98 _ _)
      refine xi_iload_n (by decide +kernel : decode mX11_tellWays.2.1 98 = .ok (.iload_n 1, 1)) rfl rfl (?_ : XW _ _ _ _ _ _ _ 99 _ _)
      obtain ⟨s1, vc⟩ := vc
      refine xi_iald (by decide +kernel : decode mX11_tellWays.2.1 99 = .ok (.iaload, 1)) rfl (by omega) s1 (?_ : XW _ _ _ _ _ _ _ 100 _ _)
      refine xi_iconst (v := (-1)) (by decide +kernel : decode mX11_tellWays.2.1 100 = .ok (.iconst (-1), 1)) (by decide) (?_ : XW _ _ _ _ _ _ _ 101 _ _)
      refine xi_icmp_eq (by decide +kernel : decode mX11_tellWays.2.1 101 = .ok (.if_icmp .eq 14, 3)) (by decide) (fun c => (?_ : XW _ _ _ _ _ _ _ 115 _ _)) (fun c => (?_ : XW _ _ _ _ _ _ _ 104 _ _))
      · replace vc := vc.1 c
        refine xi_lload_n (by decide +kernel : decode mX11_tellWays.2.1 115 = .ok (.lload_n 3, 1)) rfl rfl (?_ : XW _ _ _ _ _ _ _ 116 _ _)
        refine xi_aload_n (by decide +kernel : decode mX11_tellWays.2.1 116 = .ok (.aload_n 0, 1)) rfl rfl (?_ : XW _ _ _ _ _ _ _ 117 _ _)
        refine xi_getR (y := 88) (by decide +kernel : decode mX11_tellWays.2.1 117 = .ok (.getfield 128, 3)) fX11_128 rfl (by omega) rfl (mp_waysOn hM) (?_ : XW _ _ _ _ _ _ _ 120 _ _)
        refine xi_bipush (v := 101) (by decide +kernel : decode mX11_tellWays.2.1 120 = .ok (.bipush 101, 2)) (by decide) (?_ : XW _ _ _ _ _ _ _ 122 _ _)
        refine xi_iload_n (by decide +kernel : decode mX11_tellWays.2.1 122 = .ok (.iload_n 1, 1)) rfl rfl (?_ : XW _ _ _ _ _ _ _ 123 _ _)
        refine xi_iconst (v := 1) (by decide +kernel : decode mX11_tellWays.2.1 123 = .ok (.iconst 1, 1)) (by decide) (?_ : XW _ _ _ _ _ _ _ 124 _ _)
        refine xi_iadd (by decide +kernel : decode mX11_tellWays.2.1 124 = .ok (.iadd, 1)) (?_ : XW _ _ _ _ _ _ _ 125 _ _)
        refine xi_imul (by decide +kernel : decode mX11_tellWays.2.1 125 = .ok (.imul, 1)) (?_ : XW _ _ _ _ _ _ _ 126 _ _)
        refine xi_iload (by decide +kernel : decode mX11_tellWays.2.1 126 = .ok (.iload 6, 2)) rfl (?_ : XW _ _ _ _ _ _ _ 128 _ _)
        refine xi_iadd (by decide +kernel : decode mX11_tellWays.2.1 128 = .ok (.iadd, 1)) (?_ : XW _ _ _ _ _ _ _ 129 _ _)
        obtain ⟨s1, vc⟩ := vc
        refine xi_lald (by decide +kernel : decode mX11_tellWays.2.1 129 = .ok (.laload, 1)) rfl (by omega) s1 (?_ : XW _ _ _ _ _ _ _ 130 _ _)
        refine xi_ladd (by decide +kernel : decode mX11_tellWays.2.1 130 = .ok (.ladd, 1)) (?_ : XW _ _ _ _ _ _ _ 131 _ _)
        refine xi_lstore_n (ls' := [some (.ref 56), some (.int x1), some (.int x2), some (.long (x3 + (xL h 88 ((101 * (x1 + 1)) + (xI h 67 ((101 * x5) + x2).toNatClampNeg)).toNatClampNeg))), none, some (.int x5), some (.int (xI h 67 ((101 * x5) + x2).toNatClampNeg))]) (by decide +kernel : decode mX11_tellWays.2.1 131 = .ok (.lstore_n 3, 1)) rfl (by decide) rfl (?_ : XW _ _ _ _ _ _ _ 132 _ _)
        refine xi_iinc (v := x5 + 1) (ls' := [some (.ref 56), some (.int x1), some (.int x2), some (.long (x3 + (xL h 88 ((101 * (x1 + 1)) + (xI h 67 ((101 * x5) + x2).toNatClampNeg)).toNatClampNeg))), none, some (.int (x5 + 1)), some (.int (xI h 67 ((101 * x5) + x2).toNatClampNeg))]) (by decide +kernel : decode mX11_tellWays.2.1 132 = .ok (.iinc 5 1, 3)) rfl rfl (by decide) rfl (?_ : XW _ _ _ _ _ _ _ 135 _ _)
        refine xi_goto (by decide +kernel : decode mX11_tellWays.2.1 135 = .ok (.goto (-74), 3)) (by decide) (?_ : XW _ _ _ _ _ _ _ 61 _ _)
        refine xw_drop 6 (ls' := [some (.ref 56), some (.int x1), some (.int x2), some (.long (x3 + (xL h 88 ((101 * (x1 + 1)) + (xI h 67 ((101 * x5) + x2).toNatClampNeg)).toNatClampNeg))), none, some (.int (x5 + 1)), none]) rfl ?_
        exact vc
      · replace vc := vc.2 c
        refine xi_aload_n (by decide +kernel : decode mX11_tellWays.2.1 104 = .ok (.aload_n 0, 1)) rfl rfl (?_ : XW _ _ _ _ _ _ _ 105 _ _)
        refine xi_getR (y := 87) (by decide +kernel : decode mX11_tellWays.2.1 105 = .ok (.getfield 125, 3)) fX11_125 rfl (by omega) rfl (mp_noted hM) (?_ : XW _ _ _ _ _ _ _ 108 _ _)
        refine xi_iload_n (by decide +kernel : decode mX11_tellWays.2.1 108 = .ok (.iload_n 1, 1)) rfl rfl (?_ : XW _ _ _ _ _ _ _ 109 _ _)
        obtain ⟨s1, vc⟩ := vc
        refine xi_iald (by decide +kernel : decode mX11_tellWays.2.1 109 = .ok (.iaload, 1)) rfl (by omega) s1 (?_ : XW _ _ _ _ _ _ _ 110 _ _)
        refine xi_iload (by decide +kernel : decode mX11_tellWays.2.1 110 = .ok (.iload 6, 2)) rfl (?_ : XW _ _ _ _ _ _ _ 112 _ _)
        refine xi_icmp_ne (by decide +kernel : decode mX11_tellWays.2.1 112 = .ok (.if_icmp .ne 20, 3)) (by decide) (fun c => (?_ : XW _ _ _ _ _ _ _ 132 _ _)) (fun c => (?_ : XW _ _ _ _ _ _ _ 115 _ _))
        · replace vc := vc.1 c
          refine xi_iinc (v := x5 + 1) (ls' := [some (.ref 56), some (.int x1), some (.int x2), some (.long x3), none, some (.int (x5 + 1)), some (.int (xI h 67 ((101 * x5) + x2).toNatClampNeg))]) (by decide +kernel : decode mX11_tellWays.2.1 132 = .ok (.iinc 5 1, 3)) rfl rfl (by decide) rfl (?_ : XW _ _ _ _ _ _ _ 135 _ _)
          refine xi_goto (by decide +kernel : decode mX11_tellWays.2.1 135 = .ok (.goto (-74), 3)) (by decide) (?_ : XW _ _ _ _ _ _ _ 61 _ _)
          refine xw_drop 6 (ls' := [some (.ref 56), some (.int x1), some (.int x2), some (.long x3), none, some (.int (x5 + 1)), none]) rfl ?_
          exact vc
        · replace vc := vc.2 c
          refine xi_lload_n (by decide +kernel : decode mX11_tellWays.2.1 115 = .ok (.lload_n 3, 1)) rfl rfl (?_ : XW _ _ _ _ _ _ _ 116 _ _)
          refine xi_aload_n (by decide +kernel : decode mX11_tellWays.2.1 116 = .ok (.aload_n 0, 1)) rfl rfl (?_ : XW _ _ _ _ _ _ _ 117 _ _)
          refine xi_getR (y := 88) (by decide +kernel : decode mX11_tellWays.2.1 117 = .ok (.getfield 128, 3)) fX11_128 rfl (by omega) rfl (mp_waysOn hM) (?_ : XW _ _ _ _ _ _ _ 120 _ _)
          refine xi_bipush (v := 101) (by decide +kernel : decode mX11_tellWays.2.1 120 = .ok (.bipush 101, 2)) (by decide) (?_ : XW _ _ _ _ _ _ _ 122 _ _)
          refine xi_iload_n (by decide +kernel : decode mX11_tellWays.2.1 122 = .ok (.iload_n 1, 1)) rfl rfl (?_ : XW _ _ _ _ _ _ _ 123 _ _)
          refine xi_iconst (v := 1) (by decide +kernel : decode mX11_tellWays.2.1 123 = .ok (.iconst 1, 1)) (by decide) (?_ : XW _ _ _ _ _ _ _ 124 _ _)
          refine xi_iadd (by decide +kernel : decode mX11_tellWays.2.1 124 = .ok (.iadd, 1)) (?_ : XW _ _ _ _ _ _ _ 125 _ _)
          refine xi_imul (by decide +kernel : decode mX11_tellWays.2.1 125 = .ok (.imul, 1)) (?_ : XW _ _ _ _ _ _ _ 126 _ _)
          refine xi_iload (by decide +kernel : decode mX11_tellWays.2.1 126 = .ok (.iload 6, 2)) rfl (?_ : XW _ _ _ _ _ _ _ 128 _ _)
          refine xi_iadd (by decide +kernel : decode mX11_tellWays.2.1 128 = .ok (.iadd, 1)) (?_ : XW _ _ _ _ _ _ _ 129 _ _)
          obtain ⟨s1, vc⟩ := vc
          refine xi_lald (by decide +kernel : decode mX11_tellWays.2.1 129 = .ok (.laload, 1)) rfl (by omega) s1 (?_ : XW _ _ _ _ _ _ _ 130 _ _)
          refine xi_ladd (by decide +kernel : decode mX11_tellWays.2.1 130 = .ok (.ladd, 1)) (?_ : XW _ _ _ _ _ _ _ 131 _ _)
          refine xi_lstore_n (ls' := [some (.ref 56), some (.int x1), some (.int x2), some (.long (x3 + (xL h 88 ((101 * (x1 + 1)) + (xI h 67 ((101 * x5) + x2).toNatClampNeg)).toNatClampNeg))), none, some (.int x5), some (.int (xI h 67 ((101 * x5) + x2).toNatClampNeg))]) (by decide +kernel : decode mX11_tellWays.2.1 131 = .ok (.lstore_n 3, 1)) rfl (by decide) rfl (?_ : XW _ _ _ _ _ _ _ 132 _ _)
          refine xi_iinc (v := x5 + 1) (ls' := [some (.ref 56), some (.int x1), some (.int x2), some (.long (x3 + (xL h 88 ((101 * (x1 + 1)) + (xI h 67 ((101 * x5) + x2).toNatClampNeg)).toNatClampNeg))), none, some (.int (x5 + 1)), some (.int (xI h 67 ((101 * x5) + x2).toNatClampNeg))]) (by decide +kernel : decode mX11_tellWays.2.1 132 = .ok (.iinc 5 1, 3)) rfl rfl (by decide) rfl (?_ : XW _ _ _ _ _ _ _ 135 _ _)
          refine xi_goto (by decide +kernel : decode mX11_tellWays.2.1 135 = .ok (.goto (-74), 3)) (by decide) (?_ : XW _ _ _ _ _ _ _ 61 _ _)
          refine xw_drop 6 (ls' := [some (.ref 56), some (.int x1), some (.int x2), some (.long (x3 + (xL h 88 ((101 * (x1 + 1)) + (xI h 67 ((101 * x5) + x2).toNatClampNeg)).toNatClampNeg))), none, some (.int (x5 + 1)), none]) rfl ?_
          exact vc

set_option maxRecDepth 20000 in
theorem v_X11_isStep_0 {h : XH} {Q : Option Value → XH → Prop} {X : String → XH → Prop} (hM : xMod (xP h))  (i : Int32) (q : Int32) (f : Int32)
    (vc : (vp_in ((101 * f) + q) 707) ∧ ((vp_in (f - 1) 12) ∧ (((xI h 60 (f - 1).toNatClampNeg) ≤ 0 → Q (some (.int 0)) h) ∧ (¬ (xI h 60 (f - 1).toNatClampNeg) ≤ 0 → (vp_in i 40) ∧ (((xI h 87 i.toNatClampNeg) = (-1) → (vp_in ((101 * (i + 1)) + (xI h 67 ((101 * f) + q).toNatClampNeg)) 4141) ∧ (((lg_cmp (xL h 88 ((101 * (i + 1)) + (xI h 67 ((101 * f) + q).toNatClampNeg)).toNatClampNeg) 0) ≤ 0 → Q (some (.int 0)) h) ∧ (¬ (lg_cmp (xL h 88 ((101 * (i + 1)) + (xI h 67 ((101 * f) + q).toNatClampNeg)).toNatClampNeg) 0) ≤ 0 → Q (some (.int 1)) h))) ∧ (¬ (xI h 87 i.toNatClampNeg) = (-1) → (vp_in i 40) ∧ ((¬ (xI h 87 i.toNatClampNeg) = (xI h 67 ((101 * f) + q).toNatClampNeg) → Q (some (.int 0)) h) ∧ ((xI h 87 i.toNatClampNeg) = (xI h 67 ((101 * f) + q).toNatClampNeg) → (vp_in ((101 * (i + 1)) + (xI h 67 ((101 * f) + q).toNatClampNeg)) 4141) ∧ (((lg_cmp (xL h 88 ((101 * (i + 1)) + (xI h 67 ((101 * f) + q).toNatClampNeg)).toNatClampNeg) 0) ≤ 0 → Q (some (.int 0)) h) ∧ (¬ (lg_cmp (xL h 88 ((101 * (i + 1)) + (xI h 67 ((101 * f) + q).toNatClampNeg)).toNatClampNeg) 0) ≤ 0 → Q (some (.int 1)) h)))))))))) :
    XW (xrm 1 0 0) mX11_isStep (xE 100 Q X 0 0) 100 0 0 h 0 [some (.ref 56), some (.int i), some (.int q), some (.int f), none] [] := by
  refine xi_aload_n (by decide +kernel : decode mX11_isStep.2.1 0 = .ok (.aload_n 0, 1)) rfl rfl (?_ : XW _ _ _ _ _ _ _ 1 _ _)
  refine xi_getR (y := 67) (by decide +kernel : decode mX11_isStep.2.1 1 = .ok (.getfield 61, 3)) fX11_61 rfl (by omega) rfl (mp_to hM) (?_ : XW _ _ _ _ _ _ _ 4 _ _)
  refine xi_bipush (v := 101) (by decide +kernel : decode mX11_isStep.2.1 4 = .ok (.bipush 101, 2)) (by decide) (?_ : XW _ _ _ _ _ _ _ 6 _ _)
  refine xi_iload_n (by decide +kernel : decode mX11_isStep.2.1 6 = .ok (.iload_n 3, 1)) rfl rfl (?_ : XW _ _ _ _ _ _ _ 7 _ _)
  refine xi_imul (by decide +kernel : decode mX11_isStep.2.1 7 = .ok (.imul, 1)) (?_ : XW _ _ _ _ _ _ _ 8 _ _)
  refine xi_iload_n (by decide +kernel : decode mX11_isStep.2.1 8 = .ok (.iload_n 2, 1)) rfl rfl (?_ : XW _ _ _ _ _ _ _ 9 _ _)
  refine xi_iadd (by decide +kernel : decode mX11_isStep.2.1 9 = .ok (.iadd, 1)) (?_ : XW _ _ _ _ _ _ _ 10 _ _)
  obtain ⟨s1, vc⟩ := vc
  refine xi_iald (by decide +kernel : decode mX11_isStep.2.1 10 = .ok (.iaload, 1)) rfl (by omega) s1 (?_ : XW _ _ _ _ _ _ _ 11 _ _)
  refine xi_istore (ls' := [some (.ref 56), some (.int i), some (.int q), some (.int f), some (.int (xI h 67 ((101 * f) + q).toNatClampNeg))]) (by decide +kernel : decode mX11_isStep.2.1 11 = .ok (.istore 4, 2)) (by decide) rfl (?_ : XW _ _ _ _ _ _ _ 13 _ _)
  refine xi_aload_n (by decide +kernel : decode mX11_isStep.2.1 13 = .ok (.aload_n 0, 1)) rfl rfl (?_ : XW _ _ _ _ _ _ _ 14 _ _)
  refine xi_getR (y := 60) (by decide +kernel : decode mX11_isStep.2.1 14 = .ok (.getfield 36, 3)) fX11_36 rfl (by omega) rfl (mp_die hM) (?_ : XW _ _ _ _ _ _ _ 17 _ _)
  refine xi_iload_n (by decide +kernel : decode mX11_isStep.2.1 17 = .ok (.iload_n 3, 1)) rfl rfl (?_ : XW _ _ _ _ _ _ _ 18 _ _)
  refine xi_iconst (v := 1) (by decide +kernel : decode mX11_isStep.2.1 18 = .ok (.iconst 1, 1)) (by decide) (?_ : XW _ _ _ _ _ _ _ 19 _ _)
  refine xi_isub (by decide +kernel : decode mX11_isStep.2.1 19 = .ok (.isub, 1)) (?_ : XW _ _ _ _ _ _ _ 20 _ _)
  obtain ⟨s1, vc⟩ := vc
  refine xi_iald (by decide +kernel : decode mX11_isStep.2.1 20 = .ok (.iaload, 1)) rfl (by omega) s1 (?_ : XW _ _ _ _ _ _ _ 21 _ _)
  refine xi_if_le (by decide +kernel : decode mX11_isStep.2.1 21 = .ok (.ifCond .le 47, 3)) (by decide) (fun c => (?_ : XW _ _ _ _ _ _ _ 68 _ _)) (fun c => (?_ : XW _ _ _ _ _ _ _ 24 _ _))
  · replace vc := vc.1 c
    refine xi_iconst (v := 0) (by decide +kernel : decode mX11_isStep.2.1 68 = .ok (.iconst 0, 1)) (by decide) (?_ : XW _ _ _ _ _ _ _ 69 _ _)
    exact xi_iret (by decide +kernel : decode mX11_isStep.2.1 69 = .ok (.ireturn, 1)) rfl rfl vc
  · replace vc := vc.2 c
    refine xi_aload_n (by decide +kernel : decode mX11_isStep.2.1 24 = .ok (.aload_n 0, 1)) rfl rfl (?_ : XW _ _ _ _ _ _ _ 25 _ _)
    refine xi_getR (y := 87) (by decide +kernel : decode mX11_isStep.2.1 25 = .ok (.getfield 125, 3)) fX11_125 rfl (by omega) rfl (mp_noted hM) (?_ : XW _ _ _ _ _ _ _ 28 _ _)
    refine xi_iload_n (by decide +kernel : decode mX11_isStep.2.1 28 = .ok (.iload_n 1, 1)) rfl rfl (?_ : XW _ _ _ _ _ _ _ 29 _ _)
    obtain ⟨s1, vc⟩ := vc
    refine xi_iald (by decide +kernel : decode mX11_isStep.2.1 29 = .ok (.iaload, 1)) rfl (by omega) s1 (?_ : XW _ _ _ _ _ _ _ 30 _ _)
    refine xi_iconst (v := (-1)) (by decide +kernel : decode mX11_isStep.2.1 30 = .ok (.iconst (-1), 1)) (by decide) (?_ : XW _ _ _ _ _ _ _ 31 _ _)
    refine xi_icmp_eq (by decide +kernel : decode mX11_isStep.2.1 31 = .ok (.if_icmp .eq 14, 3)) (by decide) (fun c => (?_ : XW _ _ _ _ _ _ _ 45 _ _)) (fun c => (?_ : XW _ _ _ _ _ _ _ 34 _ _))
    · replace vc := vc.1 c
      refine xi_aload_n (by decide +kernel : decode mX11_isStep.2.1 45 = .ok (.aload_n 0, 1)) rfl rfl (?_ : XW _ _ _ _ _ _ _ 46 _ _)
      refine xi_getR (y := 88) (by decide +kernel : decode mX11_isStep.2.1 46 = .ok (.getfield 128, 3)) fX11_128 rfl (by omega) rfl (mp_waysOn hM) (?_ : XW _ _ _ _ _ _ _ 49 _ _)
      refine xi_bipush (v := 101) (by decide +kernel : decode mX11_isStep.2.1 49 = .ok (.bipush 101, 2)) (by decide) (?_ : XW _ _ _ _ _ _ _ 51 _ _)
      refine xi_iload_n (by decide +kernel : decode mX11_isStep.2.1 51 = .ok (.iload_n 1, 1)) rfl rfl (?_ : XW _ _ _ _ _ _ _ 52 _ _)
      refine xi_iconst (v := 1) (by decide +kernel : decode mX11_isStep.2.1 52 = .ok (.iconst 1, 1)) (by decide) (?_ : XW _ _ _ _ _ _ _ 53 _ _)
      refine xi_iadd (by decide +kernel : decode mX11_isStep.2.1 53 = .ok (.iadd, 1)) (?_ : XW _ _ _ _ _ _ _ 54 _ _)
      refine xi_imul (by decide +kernel : decode mX11_isStep.2.1 54 = .ok (.imul, 1)) (?_ : XW _ _ _ _ _ _ _ 55 _ _)
      refine xi_iload (by decide +kernel : decode mX11_isStep.2.1 55 = .ok (.iload 4, 2)) rfl (?_ : XW _ _ _ _ _ _ _ 57 _ _)
      refine xi_iadd (by decide +kernel : decode mX11_isStep.2.1 57 = .ok (.iadd, 1)) (?_ : XW _ _ _ _ _ _ _ 58 _ _)
      obtain ⟨s1, vc⟩ := vc
      refine xi_lald (by decide +kernel : decode mX11_isStep.2.1 58 = .ok (.laload, 1)) rfl (by omega) s1 (?_ : XW _ _ _ _ _ _ _ 59 _ _)
      refine xi_lconst (v := 0) (by decide +kernel : decode mX11_isStep.2.1 59 = .ok (.lconst 0, 1)) (by decide) (?_ : XW _ _ _ _ _ _ _ 60 _ _)
      refine xi_lcmp (by decide +kernel : decode mX11_isStep.2.1 60 = .ok (.lcmp, 1)) (?_ : XW _ _ _ _ _ _ _ 61 _ _)
      refine xi_if_le (by decide +kernel : decode mX11_isStep.2.1 61 = .ok (.ifCond .le 7, 3)) (by decide) (fun c => (?_ : XW _ _ _ _ _ _ _ 68 _ _)) (fun c => (?_ : XW _ _ _ _ _ _ _ 64 _ _))
      · replace vc := vc.1 c
        refine xi_iconst (v := 0) (by decide +kernel : decode mX11_isStep.2.1 68 = .ok (.iconst 0, 1)) (by decide) (?_ : XW _ _ _ _ _ _ _ 69 _ _)
        exact xi_iret (by decide +kernel : decode mX11_isStep.2.1 69 = .ok (.ireturn, 1)) rfl rfl vc
      · replace vc := vc.2 c
        refine xi_iconst (v := 1) (by decide +kernel : decode mX11_isStep.2.1 64 = .ok (.iconst 1, 1)) (by decide) (?_ : XW _ _ _ _ _ _ _ 65 _ _)
        refine xi_goto (by decide +kernel : decode mX11_isStep.2.1 65 = .ok (.goto 4, 3)) (by decide) (?_ : XW _ _ _ _ _ _ _ 69 _ _)
        exact xi_iret (by decide +kernel : decode mX11_isStep.2.1 69 = .ok (.ireturn, 1)) rfl rfl vc
    · replace vc := vc.2 c
      refine xi_aload_n (by decide +kernel : decode mX11_isStep.2.1 34 = .ok (.aload_n 0, 1)) rfl rfl (?_ : XW _ _ _ _ _ _ _ 35 _ _)
      refine xi_getR (y := 87) (by decide +kernel : decode mX11_isStep.2.1 35 = .ok (.getfield 125, 3)) fX11_125 rfl (by omega) rfl (mp_noted hM) (?_ : XW _ _ _ _ _ _ _ 38 _ _)
      refine xi_iload_n (by decide +kernel : decode mX11_isStep.2.1 38 = .ok (.iload_n 1, 1)) rfl rfl (?_ : XW _ _ _ _ _ _ _ 39 _ _)
      obtain ⟨s1, vc⟩ := vc
      refine xi_iald (by decide +kernel : decode mX11_isStep.2.1 39 = .ok (.iaload, 1)) rfl (by omega) s1 (?_ : XW _ _ _ _ _ _ _ 40 _ _)
      refine xi_iload (by decide +kernel : decode mX11_isStep.2.1 40 = .ok (.iload 4, 2)) rfl (?_ : XW _ _ _ _ _ _ _ 42 _ _)
      refine xi_icmp_ne (by decide +kernel : decode mX11_isStep.2.1 42 = .ok (.if_icmp .ne 26, 3)) (by decide) (fun c => (?_ : XW _ _ _ _ _ _ _ 68 _ _)) (fun c => (?_ : XW _ _ _ _ _ _ _ 45 _ _))
      · replace vc := vc.1 c
        refine xi_iconst (v := 0) (by decide +kernel : decode mX11_isStep.2.1 68 = .ok (.iconst 0, 1)) (by decide) (?_ : XW _ _ _ _ _ _ _ 69 _ _)
        exact xi_iret (by decide +kernel : decode mX11_isStep.2.1 69 = .ok (.ireturn, 1)) rfl rfl vc
      · replace vc := vc.2 c
        refine xi_aload_n (by decide +kernel : decode mX11_isStep.2.1 45 = .ok (.aload_n 0, 1)) rfl rfl (?_ : XW _ _ _ _ _ _ _ 46 _ _)
        refine xi_getR (y := 88) (by decide +kernel : decode mX11_isStep.2.1 46 = .ok (.getfield 128, 3)) fX11_128 rfl (by omega) rfl (mp_waysOn hM) (?_ : XW _ _ _ _ _ _ _ 49 _ _)
        refine xi_bipush (v := 101) (by decide +kernel : decode mX11_isStep.2.1 49 = .ok (.bipush 101, 2)) (by decide) (?_ : XW _ _ _ _ _ _ _ 51 _ _)
        refine xi_iload_n (by decide +kernel : decode mX11_isStep.2.1 51 = .ok (.iload_n 1, 1)) rfl rfl (?_ : XW _ _ _ _ _ _ _ 52 _ _)
        refine xi_iconst (v := 1) (by decide +kernel : decode mX11_isStep.2.1 52 = .ok (.iconst 1, 1)) (by decide) (?_ : XW _ _ _ _ _ _ _ 53 _ _)
        refine xi_iadd (by decide +kernel : decode mX11_isStep.2.1 53 = .ok (.iadd, 1)) (?_ : XW _ _ _ _ _ _ _ 54 _ _)
        refine xi_imul (by decide +kernel : decode mX11_isStep.2.1 54 = .ok (.imul, 1)) (?_ : XW _ _ _ _ _ _ _ 55 _ _)
        refine xi_iload (by decide +kernel : decode mX11_isStep.2.1 55 = .ok (.iload 4, 2)) rfl (?_ : XW _ _ _ _ _ _ _ 57 _ _)
        refine xi_iadd (by decide +kernel : decode mX11_isStep.2.1 57 = .ok (.iadd, 1)) (?_ : XW _ _ _ _ _ _ _ 58 _ _)
        obtain ⟨s1, vc⟩ := vc
        refine xi_lald (by decide +kernel : decode mX11_isStep.2.1 58 = .ok (.laload, 1)) rfl (by omega) s1 (?_ : XW _ _ _ _ _ _ _ 59 _ _)
        refine xi_lconst (v := 0) (by decide +kernel : decode mX11_isStep.2.1 59 = .ok (.lconst 0, 1)) (by decide) (?_ : XW _ _ _ _ _ _ _ 60 _ _)
        refine xi_lcmp (by decide +kernel : decode mX11_isStep.2.1 60 = .ok (.lcmp, 1)) (?_ : XW _ _ _ _ _ _ _ 61 _ _)
        refine xi_if_le (by decide +kernel : decode mX11_isStep.2.1 61 = .ok (.ifCond .le 7, 3)) (by decide) (fun c => (?_ : XW _ _ _ _ _ _ _ 68 _ _)) (fun c => (?_ : XW _ _ _ _ _ _ _ 64 _ _))
        · replace vc := vc.1 c
          refine xi_iconst (v := 0) (by decide +kernel : decode mX11_isStep.2.1 68 = .ok (.iconst 0, 1)) (by decide) (?_ : XW _ _ _ _ _ _ _ 69 _ _)
          exact xi_iret (by decide +kernel : decode mX11_isStep.2.1 69 = .ok (.ireturn, 1)) rfl rfl vc
        · replace vc := vc.2 c
          refine xi_iconst (v := 1) (by decide +kernel : decode mX11_isStep.2.1 64 = .ok (.iconst 1, 1)) (by decide) (?_ : XW _ _ _ _ _ _ _ 65 _ _)
          refine xi_goto (by decide +kernel : decode mX11_isStep.2.1 65 = .ok (.goto 4, 3)) (by decide) (?_ : XW _ _ _ _ _ _ _ 69 _ _)
          exact xi_iret (by decide +kernel : decode mX11_isStep.2.1 69 = .ok (.ireturn, 1)) rfl rfl vc

set_option maxRecDepth 20000 in
theorem v_X11_fits_0 {h : XH} {Q : Option Value → XH → Prop} {X : String → XH → Prop} (hM : xMod (xP h)) 
    (vc : ∃ Q1, XSpec mX11_tellBoard 5 0 0 100 100 [.ref 56] (xSI 56 (va_up (xI h 56) 2 0) h) Q1 xno ∧ ∀ v h1, Q1 v h1 → v = none ∧ (∃ Q1, XSpec mX11_tellWays 2 0 0 100 100 [.ref 56] h1 Q1 xno ∧ ∀ v h2, Q1 v h2 → v = none ∧ ((xP h2 56 47 = some 88) ∧ ((¬ (lg_cmp (xL h2 88 0) 0) = 0 → XW (xrm 6 0 0) mX11_fits (xE 100 Q X 0 0) 100 0 0 h2 33 [some (.ref 56), some (.long (xL h2 88 0)), none, some (.int 0), some (.int 0), none] []) ∧ ((lg_cmp (xL h2 88 0) 0) = 0 → Q (some (.long 0)) h2))))) :
    XW (xrm 6 0 0) mX11_fits (xE 100 Q X 0 0) 100 0 0 h 0 [some (.ref 56), none, none, none, none, none] [] := by
  refine xi_aload_n (by decide +kernel : decode mX11_fits.2.1 0 = .ok (.aload_n 0, 1)) rfl rfl (?_ : XW _ _ _ _ _ _ _ 1 _ _)
  refine xi_iconst (v := 0) (by decide +kernel : decode mX11_fits.2.1 1 = .ok (.iconst 0, 1)) (by decide) (?_ : XW _ _ _ _ _ _ _ 2 _ _)
  refine xi_putI (by decide +kernel : decode mX11_fits.2.1 2 = .ok (.putfield 161, 3)) fX11_161 rfl (by omega) rfl rfl rfl (?_ : XW _ _ _ _ _ _ (xSI 56 (va_up (xI h 56) 2 0) h) 5 _ _)
  refine xi_aload_n (by decide +kernel : decode mX11_fits.2.1 5 = .ok (.aload_n 0, 1)) rfl rfl (?_ : XW _ _ _ _ _ _ _ 6 _ _)
  obtain ⟨Q1, sp, vc⟩ := vc
  refine xi_callV (b := 0) (bs := 0) (As := []) (st := []) (by decide +kernel : decode mX11_fits.2.1 6 = .ok (.invokevirtual 373, 3)) kX11_373 rfl rfl (by omega) rfl sp (by decide) (by decide) (Nat.le_of_ble_eq_true rfl) (by omega) (fun v9 h1 hq9 => ?_)
  obtain ⟨e9, vc⟩ := vc v9 h1 hq9
  subst e9
  show XW _ _ _ _ _ _ _ 9 _ []
  refine xi_aload_n (by decide +kernel : decode mX11_fits.2.1 9 = .ok (.aload_n 0, 1)) rfl rfl (?_ : XW _ _ _ _ _ _ _ 10 _ _)
  obtain ⟨Q1, sp, vc⟩ := vc
  refine xi_callV (b := 0) (bs := 0) (As := []) (st := []) (by decide +kernel : decode mX11_fits.2.1 10 = .ok (.invokevirtual 471, 3)) kX11_471 rfl rfl (by omega) rfl sp (by decide) (by decide) (Nat.le_of_ble_eq_true rfl) (by omega) (fun v9 h2 hq9 => ?_)
  obtain ⟨e9, vc⟩ := vc v9 h2 hq9
  subst e9
  show XW _ _ _ _ _ _ _ 13 _ []
  refine xi_aload_n (by decide +kernel : decode mX11_fits.2.1 13 = .ok (.aload_n 0, 1)) rfl rfl (?_ : XW _ _ _ _ _ _ _ 14 _ _)
  obtain ⟨s1, vc⟩ := vc
  refine xi_getR (y := 88) (by decide +kernel : decode mX11_fits.2.1 14 = .ok (.getfield 128, 3)) fX11_128 rfl (by omega) rfl s1 (?_ : XW _ _ _ _ _ _ _ 17 _ _)
  refine xi_iconst (v := 0) (by decide +kernel : decode mX11_fits.2.1 17 = .ok (.iconst 0, 1)) (by decide) (?_ : XW _ _ _ _ _ _ _ 18 _ _)
  refine xi_lald (by decide +kernel : decode mX11_fits.2.1 18 = .ok (.laload, 1)) rfl (by omega) (by unfold vp_in; decide) (?_ : XW _ _ _ _ _ _ _ 19 _ [.long (xL h2 88 0)])
  refine xi_lstore_n (ls' := [some (.ref 56), some (.long (xL h2 88 0)), none, none, none, none]) (by decide +kernel : decode mX11_fits.2.1 19 = .ok (.lstore_n 1, 1)) rfl (by decide) rfl (?_ : XW _ _ _ _ _ _ _ 20 _ _)
  refine xi_lload_n (by decide +kernel : decode mX11_fits.2.1 20 = .ok (.lload_n 1, 1)) rfl rfl (?_ : XW _ _ _ _ _ _ _ 21 _ _)
  refine xi_lconst (v := 0) (by decide +kernel : decode mX11_fits.2.1 21 = .ok (.lconst 0, 1)) (by decide) (?_ : XW _ _ _ _ _ _ _ 22 _ _)
  refine xi_lcmp (by decide +kernel : decode mX11_fits.2.1 22 = .ok (.lcmp, 1)) (?_ : XW _ _ _ _ _ _ _ 23 _ _)
  refine xi_if_ne (by decide +kernel : decode mX11_fits.2.1 23 = .ok (.ifCond .ne 5, 3)) (by decide) (fun c => (?_ : XW _ _ _ _ _ _ _ 28 _ _)) (fun c => (?_ : XW _ _ _ _ _ _ _ 26 _ _))
  · replace vc := vc.1 c
    refine xi_iconst (v := 0) (by decide +kernel : decode mX11_fits.2.1 28 = .ok (.iconst 0, 1)) (by decide) (?_ : XW _ _ _ _ _ _ _ 29 _ _)
    refine xi_istore_n (ls' := [some (.ref 56), some (.long (xL h2 88 0)), none, some (.int 0), none, none]) (by decide +kernel : decode mX11_fits.2.1 29 = .ok (.istore_n 3, 1)) rfl (by decide) rfl (?_ : XW _ _ _ _ _ _ _ 30 _ _)
    refine xi_iconst (v := 0) (by decide +kernel : decode mX11_fits.2.1 30 = .ok (.iconst 0, 1)) (by decide) (?_ : XW _ _ _ _ _ _ _ 31 _ _)
    refine xi_istore (ls' := [some (.ref 56), some (.long (xL h2 88 0)), none, some (.int 0), some (.int 0), none]) (by decide +kernel : decode mX11_fits.2.1 31 = .ok (.istore 4, 2)) (by decide) rfl (?_ : XW _ _ _ _ _ _ _ 33 _ _)
    exact vc
  · replace vc := vc.2 c
    refine xi_lconst (v := 0) (by decide +kernel : decode mX11_fits.2.1 26 = .ok (.lconst 0, 1)) (by decide) (?_ : XW _ _ _ _ _ _ _ 27 _ _)
    exact xi_lret (by decide +kernel : decode mX11_fits.2.1 27 = .ok (.lreturn, 1)) rfl vc

set_option maxRecDepth 20000 in
theorem v_X11_fits_33 {h : XH} {Q : Option Value → XH → Prop} {X : String → XH → Prop} (hM : xMod (xP h))  (x1 : Int64) (x3 : Int32) (x4 : Int32)
    (vc : ((xI h 56 46) ≤ x4 → Q (some (.long x1)) (xSI 56 (va_up (xI h 56) 38 (xI h 56 46)) h)) ∧ (¬ (xI h 56 46) ≤ x4 → XW (xrm 6 0 0) mX11_fits (xE 100 Q X 0 0) 100 0 0 h 45 [some (.ref 56), some (.long x1), none, some (.int x3), some (.int x4), some (.int 1)] [])) :
    XW (xrm 6 0 0) mX11_fits (xE 100 Q X 0 0) 100 0 0 h 33 [some (.ref 56), some (.long x1), none, some (.int x3), some (.int x4), none] [] := by
  refine xi_iload (by decide +kernel : decode mX11_fits.2.1 33 = .ok (.iload 4, 2)) rfl (?_ : XW _ _ _ _ _ _ _ 35 _ _)
  refine xi_aload_n (by decide +kernel : decode mX11_fits.2.1 35 = .ok (.aload_n 0, 1)) rfl rfl (?_ : XW _ _ _ _ _ _ _ 36 _ _)
  refine xi_getI (by decide +kernel : decode mX11_fits.2.1 36 = .ok (.getfield 333, 3)) fX11_333 rfl (by omega) rfl (?_ : XW _ _ _ _ _ _ _ 39 _ _)
  refine xi_icmp_ge (by decide +kernel : decode mX11_fits.2.1 39 = .ok (.if_icmp .ge 52, 3)) (by decide) (fun c => (?_ : XW _ _ _ _ _ _ _ 91 _ _)) (fun c => (?_ : XW _ _ _ _ _ _ _ 42 _ _))
  · replace vc := vc.1 c
    refine xi_aload_n (by decide +kernel : decode mX11_fits.2.1 91 = .ok (.aload_n 0, 1)) rfl rfl (?_ : XW _ _ _ _ _ _ _ 92 _ _)
    refine xi_aload_n (by decide +kernel : decode mX11_fits.2.1 92 = .ok (.aload_n 0, 1)) rfl rfl (?_ : XW _ _ _ _ _ _ _ 93 _ _)
    refine xi_getI (by decide +kernel : decode mX11_fits.2.1 93 = .ok (.getfield 333, 3)) fX11_333 rfl (by omega) rfl (?_ : XW _ _ _ _ _ _ _ 96 _ _)
    refine xi_putI (by decide +kernel : decode mX11_fits.2.1 96 = .ok (.putfield 103, 3)) fX11_103 rfl (by omega) rfl rfl rfl (?_ : XW _ _ _ _ _ _ (xSI 56 (va_up (xI h 56) 38 (xI h 56 46)) h) 99 _ _)
    refine xi_lload_n (by decide +kernel : decode mX11_fits.2.1 99 = .ok (.lload_n 1, 1)) rfl rfl (?_ : XW _ _ _ _ _ _ _ 100 _ _)
    exact xi_lret (by decide +kernel : decode mX11_fits.2.1 100 = .ok (.lreturn, 1)) rfl vc
  · replace vc := vc.2 c
    refine xi_iconst (v := 1) (by decide +kernel : decode mX11_fits.2.1 42 = .ok (.iconst 1, 1)) (by decide) (?_ : XW _ _ _ _ _ _ _ 43 _ _)
    refine xi_istore (ls' := [some (.ref 56), some (.long x1), none, some (.int x3), some (.int x4), some (.int 1)]) (by decide +kernel : decode mX11_fits.2.1 43 = .ok (.istore 5, 2)) (by decide) rfl (?_ : XW _ _ _ _ _ _ _ 45 _ _)
    exact vc

set_option maxRecDepth 20000 in
theorem v_X11_fits_45 {h : XH} {Q : Option Value → XH → Prop} {X : String → XH → Prop} (hM : xMod (xP h))  (x1 : Int64) (x3 : Int32) (x4 : Int32) (x5 : Int32)
    (vc : ∃ Q1, XSpec mX11_isStep 1 0 0 100 100 [.ref 56, .int x4, .int x3, .int x5] h Q1 xno ∧ ∀ v h3, Q1 v h3 → ∃ r3 : Int32, v = some (.int r3) ∧ ((¬ r3 = 0 → (xP h3 56 36 = some 79) ∧ ((vp_in x4 101) ∧ ((xP h3 56 21 = some 67) ∧ ((vp_in ((101 * x5) + x3) 707) ∧ (XW (xrm 6 0 0) mX11_fits (xE 100 Q X 0 0) 100 0 0 (xSI 79 (va_up (xI h3 79) x4.toNatClampNeg x5) h3) 33 [some (.ref 56), some (.long x1), none, some (.int (xI h3 67 ((101 * x5) + x3).toNatClampNeg)), some (.int (x4 + 1)), none] []))))) ∧ (r3 = 0 → XW (xrm 6 0 0) mX11_fits (xE 100 Q X 0 0) 100 0 0 h3 45 [some (.ref 56), some (.long x1), none, some (.int x3), some (.int x4), some (.int (x5 + 1))] []))) :
    XW (xrm 6 0 0) mX11_fits (xE 100 Q X 0 0) 100 0 0 h 45 [some (.ref 56), some (.long x1), none, some (.int x3), some (.int x4), some (.int x5)] [] := by
  refine xi_aload_n (by decide +kernel : decode mX11_fits.2.1 45 = .ok (.aload_n 0, 1)) rfl rfl (?_ : XW _ _ _ _ _ _ _ 46 _ _)
  refine xi_iload (by decide +kernel : decode mX11_fits.2.1 46 = .ok (.iload 4, 2)) rfl (?_ : XW _ _ _ _ _ _ _ 48 _ _)
  refine xi_iload_n (by decide +kernel : decode mX11_fits.2.1 48 = .ok (.iload_n 3, 1)) rfl rfl (?_ : XW _ _ _ _ _ _ _ 49 _ _)
  refine xi_iload (by decide +kernel : decode mX11_fits.2.1 49 = .ok (.iload 5, 2)) rfl (?_ : XW _ _ _ _ _ _ _ 51 _ _)
  obtain ⟨Q1, sp, vc⟩ := vc
  refine xi_callV (b := 0) (bs := 0) (As := [.int x4, .int x3, .int x5]) (st := []) (by decide +kernel : decode mX11_fits.2.1 51 = .ok (.invokevirtual 474, 3)) kX11_474 rfl rfl (by omega) rfl sp (by decide) (by decide) (Nat.le_of_ble_eq_true rfl) (by omega) (fun v9 h3 hq9 => ?_)
  obtain ⟨r3, e9, vc⟩ := vc v9 h3 hq9
  subst e9
  show XW _ _ _ _ _ _ _ 54 _ [.int r3]
  refine xi_if_ne (by decide +kernel : decode mX11_fits.2.1 54 = .ok (.ifCond .ne 9, 3)) (by decide) (fun c => (?_ : XW _ _ _ _ _ _ _ 63 _ _)) (fun c => (?_ : XW _ _ _ _ _ _ _ 57 _ _))
  · replace vc := vc.1 c
    refine xi_aload_n (by decide +kernel : decode mX11_fits.2.1 63 = .ok (.aload_n 0, 1)) rfl rfl (?_ : XW _ _ _ _ _ _ _ 64 _ _)
    obtain ⟨s1, vc⟩ := vc
    refine xi_getR (y := 79) (by decide +kernel : decode mX11_fits.2.1 64 = .ok (.getfield 97, 3)) fX11_97 rfl (by omega) rfl s1 (?_ : XW _ _ _ _ _ _ _ 67 _ _)
    refine xi_iload (by decide +kernel : decode mX11_fits.2.1 67 = .ok (.iload 4, 2)) rfl (?_ : XW _ _ _ _ _ _ _ 69 _ _)
    refine xi_iload (by decide +kernel : decode mX11_fits.2.1 69 = .ok (.iload 5, 2)) rfl (?_ : XW _ _ _ _ _ _ _ 71 _ _)
    obtain ⟨s1, vc⟩ := vc
    refine xi_iast (by decide +kernel : decode mX11_fits.2.1 71 = .ok (.iastore, 1)) rfl (by omega) s1 (?_ : XW _ _ _ _ _ _ (xSI 79 (va_up (xI h3 79) x4.toNatClampNeg x5) h3) 72 _ _)
    refine xi_aload_n (by decide +kernel : decode mX11_fits.2.1 72 = .ok (.aload_n 0, 1)) rfl rfl (?_ : XW _ _ _ _ _ _ _ 73 _ _)
    obtain ⟨s1, vc⟩ := vc
    refine xi_getR (y := 67) (by decide +kernel : decode mX11_fits.2.1 73 = .ok (.getfield 61, 3)) fX11_61 rfl (by omega) rfl s1 (?_ : XW _ _ _ _ _ _ _ 76 _ _)
    refine xi_bipush (v := 101) (by decide +kernel : decode mX11_fits.2.1 76 = .ok (.bipush 101, 2)) (by decide) (?_ : XW _ _ _ _ _ _ _ 78 _ _)
    refine xi_iload (by decide +kernel : decode mX11_fits.2.1 78 = .ok (.iload 5, 2)) rfl (?_ : XW _ _ _ _ _ _ _ 80 _ _)
    refine xi_imul (by decide +kernel : decode mX11_fits.2.1 80 = .ok (.imul, 1)) (?_ : XW _ _ _ _ _ _ _ 81 _ _)
    refine xi_iload_n (by decide +kernel : decode mX11_fits.2.1 81 = .ok (.iload_n 3, 1)) rfl rfl (?_ : XW _ _ _ _ _ _ _ 82 _ _)
    refine xi_iadd (by decide +kernel : decode mX11_fits.2.1 82 = .ok (.iadd, 1)) (?_ : XW _ _ _ _ _ _ _ 83 _ _)
    obtain ⟨s1, vc⟩ := vc
    refine xi_iald (by decide +kernel : decode mX11_fits.2.1 83 = .ok (.iaload, 1)) rfl (by omega) s1 (?_ : XW _ _ _ _ _ _ _ 84 _ [.int (xI h3 67 ((101 * x5) + x3).toNatClampNeg)])
    refine xi_istore_n (ls' := [some (.ref 56), some (.long x1), none, some (.int (xI h3 67 ((101 * x5) + x3).toNatClampNeg)), some (.int x4), some (.int x5)]) (by decide +kernel : decode mX11_fits.2.1 84 = .ok (.istore_n 3, 1)) rfl (by decide) rfl (?_ : XW _ _ _ _ _ _ _ 85 _ _)
    refine xi_iinc (v := x4 + 1) (ls' := [some (.ref 56), some (.long x1), none, some (.int (xI h3 67 ((101 * x5) + x3).toNatClampNeg)), some (.int (x4 + 1)), some (.int x5)]) (by decide +kernel : decode mX11_fits.2.1 85 = .ok (.iinc 4 1, 3)) rfl rfl (by decide) rfl (?_ : XW _ _ _ _ _ _ _ 88 _ _)
    refine xi_goto (by decide +kernel : decode mX11_fits.2.1 88 = .ok (.goto (-55), 3)) (by decide) (?_ : XW _ _ _ _ _ _ _ 33 _ _)
    refine xw_drop 5 (ls' := [some (.ref 56), some (.long x1), none, some (.int (xI h3 67 ((101 * x5) + x3).toNatClampNeg)), some (.int (x4 + 1)), none]) rfl ?_
    exact vc
  · replace vc := vc.2 c
    refine xi_iinc (v := x5 + 1) (ls' := [some (.ref 56), some (.long x1), none, some (.int x3), some (.int x4), some (.int (x5 + 1))]) (by decide +kernel : decode mX11_fits.2.1 57 = .ok (.iinc 5 1, 3)) rfl rfl (by decide) rfl (?_ : XW _ _ _ _ _ _ _ 60 _ _)
    refine xi_goto (by decide +kernel : decode mX11_fits.2.1 60 = .ok (.goto (-15), 3)) (by decide) (?_ : XW _ _ _ _ _ _ _ 45 _ _)
    exact vc

