/-! THE GAME: the walks of both, the small ones -/
set_option maxRecDepth 20000 in
theorem v_X10_count_0 {h : XH} {Q : Option Value → XH → Prop} {X : String → XH → Prop} (r : Nat) (hbp : BP r h)  (w : Int32)
    (vc : (w ≤ 20 → (w = 0 → Q (some (.int (xI h r 0))) h) ∧ (w = 1 → Q (some (.int (xI h r 7))) h) ∧ (w = 2 → Q (some (.int (xI h r 6))) h) ∧ (w = 3 → Q (some (.int (xI h r 3))) h) ∧ (w = 4 → Q (some (.int (xI h r 4))) h) ∧ (w = 5 → ((xI h r 5) = 0 → Q (some (.int 0)) h) ∧ (¬ (xI h r 5) = 0 → Q (some (.int 1)) h)) ∧ (w = 6 → Q (some (.int (xI h 29 1))) h) ∧ (w = 7 → Q (some (.int (xI h 29 0))) h) ∧ (w = 8 → Q (some (.int (xI h 29 2))) h) ∧ (w = 9 → Q (some (.int (xI h 0 1))) h) ∧ (w = 10 → ∃ Q1, XSpec mX7_refusedOf 1 0 0 100 100 [.ref 29, .int 0] h Q1 xno ∧ ∀ v h1, Q1 v h1 → ∃ r1 : Int32, v = some (.int r1) ∧ (Q (some (.int r1)) h1)) ∧ (w = 11 → ∃ Q1, XSpec mX7_refusedOf 1 0 0 100 100 [.ref 29, .int 1] h Q1 xno ∧ ∀ v h2, Q1 v h2 → ∃ r2 : Int32, v = some (.int r2) ∧ (Q (some (.int r2)) h2)) ∧ (w = 12 → ∃ Q1, XSpec mX7_refusedOf 1 0 0 100 100 [.ref 29, .int 2] h Q1 xno ∧ ∀ v h3, Q1 v h3 → ∃ r3 : Int32, v = some (.int r3) ∧ (Q (some (.int r3)) h3)) ∧ ((w.toInt < 0 ∨ 12 < w.toInt) → X "java/util/NoSuchElementException" h)) ∧ (¬ w ≤ 20 → (26 < w → (w = 0 → Q (some (.int (xI h r 0))) h) ∧ (w = 1 → Q (some (.int (xI h r 7))) h) ∧ (w = 2 → Q (some (.int (xI h r 6))) h) ∧ (w = 3 → Q (some (.int (xI h r 3))) h) ∧ (w = 4 → Q (some (.int (xI h r 4))) h) ∧ (w = 5 → ((xI h r 5) = 0 → Q (some (.int 0)) h) ∧ (¬ (xI h r 5) = 0 → Q (some (.int 1)) h)) ∧ (w = 6 → Q (some (.int (xI h 29 1))) h) ∧ (w = 7 → Q (some (.int (xI h 29 0))) h) ∧ (w = 8 → Q (some (.int (xI h 29 2))) h) ∧ (w = 9 → Q (some (.int (xI h 0 1))) h) ∧ (w = 10 → ∃ Q1, XSpec mX7_refusedOf 1 0 0 100 100 [.ref 29, .int 0] h Q1 xno ∧ ∀ v h4, Q1 v h4 → ∃ r4 : Int32, v = some (.int r4) ∧ (Q (some (.int r4)) h4)) ∧ (w = 11 → ∃ Q1, XSpec mX7_refusedOf 1 0 0 100 100 [.ref 29, .int 1] h Q1 xno ∧ ∀ v h5, Q1 v h5 → ∃ r5 : Int32, v = some (.int r5) ∧ (Q (some (.int r5)) h5)) ∧ (w = 12 → ∃ Q1, XSpec mX7_refusedOf 1 0 0 100 100 [.ref 29, .int 2] h Q1 xno ∧ ∀ v h6, Q1 v h6 → ∃ r6 : Int32, v = some (.int r6) ∧ (Q (some (.int r6)) h6)) ∧ ((w.toInt < 0 ∨ 12 < w.toInt) → X "java/util/NoSuchElementException" h)) ∧ (¬ 26 < w → ∃ Q1, XSpec mX5_oddsOf 1 0 0 100 100 [.ref r, .int (w - 20)] h Q1 xno ∧ ∀ v h7, Q1 v h7 → ∃ r7 : Int32, v = some (.int r7) ∧ (Q (some (.int r7)) h7)))) :
    XW (xrm 7 1 6) mX10_count (xE 100 Q X 1 6) 100 1 6 h 0 [some (.ref 0), some (.int w)] [] := by
  obtain ⟨hb, hr, hnr, ha21, ha25, hu29, hu34, hw, hnt, hwr⟩ := hbp
  refine xi_iload_n (by decide +kernel : decode mX10_count.2.1 0 = .ok (.iload_n 1, 1)) rfl rfl (?_ : XW _ _ _ _ _ _ _ 1 _ _)
  refine xi_bipush (v := 20) (by decide +kernel : decode mX10_count.2.1 1 = .ok (.bipush 20, 2)) (by decide) (?_ : XW _ _ _ _ _ _ _ 3 _ _)
  refine xi_icmp_le (by decide +kernel : decode mX10_count.2.1 3 = .ok (.if_icmp .le 21, 3)) (by decide) (fun c => (?_ : XW _ _ _ _ _ _ _ 24 _ _)) (fun c => (?_ : XW _ _ _ _ _ _ _ 6 _ _))
  · replace vc := vc.1 c
    refine xi_iload_n (by decide +kernel : decode mX10_count.2.1 24 = .ok (.iload_n 1, 1)) rfl rfl (?_ : XW _ _ _ _ _ _ _ 25 _ _)
    by_cases c9 : w.toInt < 0 ∨ 12 < w.toInt
    · replace vc := vc.2.2.2.2.2.2.2.2.2.2.2.2.2 c9
      refine xi_tableOut (by decide +kernel : decode mX10_count.2.1 25 = .ok (.tableswitch 179 0 12 #[67, 75, 83, 91, 99, 107, 123, 131, 139, 147, 152, 161, 170], 67)) c9 (by decide) (?_ : XW _ _ _ _ _ _ _ 204 _ _)
      exact xi_throw (b := 0) (bs := 0) xT_174 (by decide +kernel : decode mX10_count.2.1 204 = .ok (.new 172, 3)) (by decide +kernel : decode mX10_count.2.1 207 = .ok (.dup, 1)) (by decide +kernel : decode mX10_count.2.1 208 = .ok (.invokespecial 174, 3)) (by decide +kernel : decode mX10_count.2.1 211 = .ok (.athrow, 1)) rfl (by decide) (Nat.le_of_ble_eq_true rfl) vc
    · have c8 := x_tabcases (lo := 0) (hi := 12) (by omega) (by omega) c9
      obtain ⟨j, hj, c7⟩ := c8
      have hj2 : j < 13 := by omega
      by_cases e0 : j = 0
      · subst e0
        have c6 : w = 0 := c7.trans (by decide)
        replace vc := vc.1 c6
        refine xi_tableIn (off := 67) (by decide +kernel : decode mX10_count.2.1 25 = .ok (.tableswitch 179 0 12 #[67, 75, 83, 91, 99, 107, 123, 131, 139, 147, 152, 161, 170], 67)) (by omega) (by omega) (by rw [c6]; decide) (by decide) (?_ : XW _ _ _ _ _ _ _ 92 _ _)
        refine xi_aload_n (by decide +kernel : decode mX10_count.2.1 92 = .ok (.aload_n 0, 1)) rfl rfl (?_ : XW _ _ _ _ _ _ _ 93 _ _)
        refine xi_getR (y := r) (by decide +kernel : decode mX10_count.2.1 93 = .ok (.getfield 23, 3)) fX10_23 rfl (by omega) rfl hb.2.1 (?_ : XW _ _ _ _ _ _ _ 96 _ _)
        refine xi_getI (by decide +kernel : decode mX10_count.2.1 96 = .ok (.getfield 148, 3)) fX10_148 (xRul_s0 hr) (by omega) rfl (?_ : XW _ _ _ _ _ _ _ 99 _ _)
        exact xi_iret (by decide +kernel : decode mX10_count.2.1 99 = .ok (.ireturn, 1)) rfl rfl vc
      by_cases e1 : j = 1
      · subst e1
        have c6 : w = 1 := c7.trans (by decide)
        replace vc := vc.2.1 c6
        refine xi_tableIn (off := 75) (by decide +kernel : decode mX10_count.2.1 25 = .ok (.tableswitch 179 0 12 #[67, 75, 83, 91, 99, 107, 123, 131, 139, 147, 152, 161, 170], 67)) (by omega) (by omega) (by rw [c6]; decide) (by decide) (?_ : XW _ _ _ _ _ _ _ 100 _ _)
        refine xi_aload_n (by decide +kernel : decode mX10_count.2.1 100 = .ok (.aload_n 0, 1)) rfl rfl (?_ : XW _ _ _ _ _ _ _ 101 _ _)
        refine xi_getR (y := r) (by decide +kernel : decode mX10_count.2.1 101 = .ok (.getfield 23, 3)) fX10_23 rfl (by omega) rfl hb.2.1 (?_ : XW _ _ _ _ _ _ _ 104 _ _)
        refine xi_getI (by decide +kernel : decode mX10_count.2.1 104 = .ok (.getfield 151, 3)) fX10_151 (xRul_s0 hr) (by omega) rfl (?_ : XW _ _ _ _ _ _ _ 107 _ _)
        exact xi_iret (by decide +kernel : decode mX10_count.2.1 107 = .ok (.ireturn, 1)) rfl rfl vc
      by_cases e2 : j = 2
      · subst e2
        have c6 : w = 2 := c7.trans (by decide)
        replace vc := vc.2.2.1 c6
        refine xi_tableIn (off := 83) (by decide +kernel : decode mX10_count.2.1 25 = .ok (.tableswitch 179 0 12 #[67, 75, 83, 91, 99, 107, 123, 131, 139, 147, 152, 161, 170], 67)) (by omega) (by omega) (by rw [c6]; decide) (by decide) (?_ : XW _ _ _ _ _ _ _ 108 _ _)
        refine xi_aload_n (by decide +kernel : decode mX10_count.2.1 108 = .ok (.aload_n 0, 1)) rfl rfl (?_ : XW _ _ _ _ _ _ _ 109 _ _)
        refine xi_getR (y := r) (by decide +kernel : decode mX10_count.2.1 109 = .ok (.getfield 23, 3)) fX10_23 rfl (by omega) rfl hb.2.1 (?_ : XW _ _ _ _ _ _ _ 112 _ _)
        refine xi_getI (by decide +kernel : decode mX10_count.2.1 112 = .ok (.getfield 136, 3)) fX10_136 (xRul_s0 hr) (by omega) rfl (?_ : XW _ _ _ _ _ _ _ 115 _ _)
        exact xi_iret (by decide +kernel : decode mX10_count.2.1 115 = .ok (.ireturn, 1)) rfl rfl vc
      by_cases e3 : j = 3
      · subst e3
        have c6 : w = 3 := c7.trans (by decide)
        replace vc := vc.2.2.2.1 c6
        refine xi_tableIn (off := 91) (by decide +kernel : decode mX10_count.2.1 25 = .ok (.tableswitch 179 0 12 #[67, 75, 83, 91, 99, 107, 123, 131, 139, 147, 152, 161, 170], 67)) (by omega) (by omega) (by rw [c6]; decide) (by decide) (?_ : XW _ _ _ _ _ _ _ 116 _ _)
        refine xi_aload_n (by decide +kernel : decode mX10_count.2.1 116 = .ok (.aload_n 0, 1)) rfl rfl (?_ : XW _ _ _ _ _ _ _ 117 _ _)
        refine xi_getR (y := r) (by decide +kernel : decode mX10_count.2.1 117 = .ok (.getfield 23, 3)) fX10_23 rfl (by omega) rfl hb.2.1 (?_ : XW _ _ _ _ _ _ _ 120 _ _)
        refine xi_getI (by decide +kernel : decode mX10_count.2.1 120 = .ok (.getfield 129, 3)) fX10_129 (xRul_s0 hr) (by omega) rfl (?_ : XW _ _ _ _ _ _ _ 123 _ _)
        exact xi_iret (by decide +kernel : decode mX10_count.2.1 123 = .ok (.ireturn, 1)) rfl rfl vc
      by_cases e4 : j = 4
      · subst e4
        have c6 : w = 4 := c7.trans (by decide)
        replace vc := vc.2.2.2.2.1 c6
        refine xi_tableIn (off := 99) (by decide +kernel : decode mX10_count.2.1 25 = .ok (.tableswitch 179 0 12 #[67, 75, 83, 91, 99, 107, 123, 131, 139, 147, 152, 161, 170], 67)) (by omega) (by omega) (by rw [c6]; decide) (by decide) (?_ : XW _ _ _ _ _ _ _ 124 _ _)
        refine xi_aload_n (by decide +kernel : decode mX10_count.2.1 124 = .ok (.aload_n 0, 1)) rfl rfl (?_ : XW _ _ _ _ _ _ _ 125 _ _)
        refine xi_getR (y := r) (by decide +kernel : decode mX10_count.2.1 125 = .ok (.getfield 23, 3)) fX10_23 rfl (by omega) rfl hb.2.1 (?_ : XW _ _ _ _ _ _ _ 128 _ _)
        refine xi_getI (by decide +kernel : decode mX10_count.2.1 128 = .ok (.getfield 154, 3)) fX10_154 (xRul_s0 hr) (by omega) rfl (?_ : XW _ _ _ _ _ _ _ 131 _ _)
        exact xi_iret (by decide +kernel : decode mX10_count.2.1 131 = .ok (.ireturn, 1)) rfl rfl vc
      by_cases e5 : j = 5
      · subst e5
        have c6 : w = 5 := c7.trans (by decide)
        replace vc := vc.2.2.2.2.2.1 c6
        refine xi_tableIn (off := 107) (by decide +kernel : decode mX10_count.2.1 25 = .ok (.tableswitch 179 0 12 #[67, 75, 83, 91, 99, 107, 123, 131, 139, 147, 152, 161, 170], 67)) (by omega) (by omega) (by rw [c6]; decide) (by decide) (?_ : XW _ _ _ _ _ _ _ 132 _ _)
        refine xi_aload_n (by decide +kernel : decode mX10_count.2.1 132 = .ok (.aload_n 0, 1)) rfl rfl (?_ : XW _ _ _ _ _ _ _ 133 _ _)
        refine xi_getR (y := r) (by decide +kernel : decode mX10_count.2.1 133 = .ok (.getfield 23, 3)) fX10_23 rfl (by omega) rfl hb.2.1 (?_ : XW _ _ _ _ _ _ _ 136 _ _)
        refine xi_getI (by decide +kernel : decode mX10_count.2.1 136 = .ok (.getfield 157, 3)) fX10_157 (xRul_s0 hr) (by omega) rfl (?_ : XW _ _ _ _ _ _ _ 139 _ _)
        refine xi_if_eq (by decide +kernel : decode mX10_count.2.1 139 = .ok (.ifCond .eq 7, 3)) (by decide) (fun c => (?_ : XW _ _ _ _ _ _ _ 146 _ _)) (fun c => (?_ : XW _ _ _ _ _ _ _ 142 _ _))
        · replace vc := vc.1 c
          refine xi_iconst (v := 0) (by decide +kernel : decode mX10_count.2.1 146 = .ok (.iconst 0, 1)) (by decide) (?_ : XW _ _ _ _ _ _ _ 147 _ _)
          exact xi_iret (by decide +kernel : decode mX10_count.2.1 147 = .ok (.ireturn, 1)) rfl rfl vc
        · replace vc := vc.2 c
          refine xi_iconst (v := 1) (by decide +kernel : decode mX10_count.2.1 142 = .ok (.iconst 1, 1)) (by decide) (?_ : XW _ _ _ _ _ _ _ 143 _ _)
          refine xi_goto (by decide +kernel : decode mX10_count.2.1 143 = .ok (.goto 4, 3)) (by decide) (?_ : XW _ _ _ _ _ _ _ 147 _ _)
          exact xi_iret (by decide +kernel : decode mX10_count.2.1 147 = .ok (.ireturn, 1)) rfl rfl vc
      by_cases e6 : j = 6
      · subst e6
        have c6 : w = 6 := c7.trans (by decide)
        replace vc := vc.2.2.2.2.2.2.1 c6
        refine xi_tableIn (off := 123) (by decide +kernel : decode mX10_count.2.1 25 = .ok (.tableswitch 179 0 12 #[67, 75, 83, 91, 99, 107, 123, 131, 139, 147, 152, 161, 170], 67)) (by omega) (by omega) (by rw [c6]; decide) (by decide) (?_ : XW _ _ _ _ _ _ _ 148 _ _)
        refine xi_aload_n (by decide +kernel : decode mX10_count.2.1 148 = .ok (.aload_n 0, 1)) rfl rfl (?_ : XW _ _ _ _ _ _ _ 149 _ _)
        refine xi_getR (y := 29) (by decide +kernel : decode mX10_count.2.1 149 = .ok (.getfield 49, 3)) fX10_49 rfl (by omega) rfl hb.2.2.2.2.2.1 (?_ : XW _ _ _ _ _ _ _ 152 _ _)
        refine xi_getI (by decide +kernel : decode mX10_count.2.1 152 = .ok (.getfield 160, 3)) fX10_160 rfl (by omega) rfl (?_ : XW _ _ _ _ _ _ _ 155 _ _)
        exact xi_iret (by decide +kernel : decode mX10_count.2.1 155 = .ok (.ireturn, 1)) rfl rfl vc
      by_cases e7 : j = 7
      · subst e7
        have c6 : w = 7 := c7.trans (by decide)
        replace vc := vc.2.2.2.2.2.2.2.1 c6
        refine xi_tableIn (off := 131) (by decide +kernel : decode mX10_count.2.1 25 = .ok (.tableswitch 179 0 12 #[67, 75, 83, 91, 99, 107, 123, 131, 139, 147, 152, 161, 170], 67)) (by omega) (by omega) (by rw [c6]; decide) (by decide) (?_ : XW _ _ _ _ _ _ _ 156 _ _)
        refine xi_aload_n (by decide +kernel : decode mX10_count.2.1 156 = .ok (.aload_n 0, 1)) rfl rfl (?_ : XW _ _ _ _ _ _ _ 157 _ _)
        refine xi_getR (y := 29) (by decide +kernel : decode mX10_count.2.1 157 = .ok (.getfield 49, 3)) fX10_49 rfl (by omega) rfl hb.2.2.2.2.2.1 (?_ : XW _ _ _ _ _ _ _ 160 _ _)
        refine xi_getI (by decide +kernel : decode mX10_count.2.1 160 = .ok (.getfield 163, 3)) fX10_163 rfl (by omega) rfl (?_ : XW _ _ _ _ _ _ _ 163 _ _)
        exact xi_iret (by decide +kernel : decode mX10_count.2.1 163 = .ok (.ireturn, 1)) rfl rfl vc
      by_cases e8 : j = 8
      · subst e8
        have c6 : w = 8 := c7.trans (by decide)
        replace vc := vc.2.2.2.2.2.2.2.2.1 c6
        refine xi_tableIn (off := 139) (by decide +kernel : decode mX10_count.2.1 25 = .ok (.tableswitch 179 0 12 #[67, 75, 83, 91, 99, 107, 123, 131, 139, 147, 152, 161, 170], 67)) (by omega) (by omega) (by rw [c6]; decide) (by decide) (?_ : XW _ _ _ _ _ _ _ 164 _ _)
        refine xi_aload_n (by decide +kernel : decode mX10_count.2.1 164 = .ok (.aload_n 0, 1)) rfl rfl (?_ : XW _ _ _ _ _ _ _ 165 _ _)
        refine xi_getR (y := 29) (by decide +kernel : decode mX10_count.2.1 165 = .ok (.getfield 49, 3)) fX10_49 rfl (by omega) rfl hb.2.2.2.2.2.1 (?_ : XW _ _ _ _ _ _ _ 168 _ _)
        refine xi_getI (by decide +kernel : decode mX10_count.2.1 168 = .ok (.getfield 166, 3)) fX10_166 rfl (by omega) rfl (?_ : XW _ _ _ _ _ _ _ 171 _ _)
        exact xi_iret (by decide +kernel : decode mX10_count.2.1 171 = .ok (.ireturn, 1)) rfl rfl vc
      by_cases e9 : j = 9
      · subst e9
        have c6 : w = 9 := c7.trans (by decide)
        replace vc := vc.2.2.2.2.2.2.2.2.2.1 c6
        refine xi_tableIn (off := 147) (by decide +kernel : decode mX10_count.2.1 25 = .ok (.tableswitch 179 0 12 #[67, 75, 83, 91, 99, 107, 123, 131, 139, 147, 152, 161, 170], 67)) (by omega) (by omega) (by rw [c6]; decide) (by decide) (?_ : XW _ _ _ _ _ _ _ 172 _ _)
        refine xi_aload_n (by decide +kernel : decode mX10_count.2.1 172 = .ok (.aload_n 0, 1)) rfl rfl (?_ : XW _ _ _ _ _ _ _ 173 _ _)
        refine xi_getI (by decide +kernel : decode mX10_count.2.1 173 = .ok (.getfield 13, 3)) fX10_13 rfl (by omega) rfl (?_ : XW _ _ _ _ _ _ _ 176 _ _)
        exact xi_iret (by decide +kernel : decode mX10_count.2.1 176 = .ok (.ireturn, 1)) rfl rfl vc
      by_cases e10 : j = 10
      · subst e10
        have c6 : w = 10 := c7.trans (by decide)
        replace vc := vc.2.2.2.2.2.2.2.2.2.2.1 c6
        refine xi_tableIn (off := 152) (by decide +kernel : decode mX10_count.2.1 25 = .ok (.tableswitch 179 0 12 #[67, 75, 83, 91, 99, 107, 123, 131, 139, 147, 152, 161, 170], 67)) (by omega) (by omega) (by rw [c6]; decide) (by decide) (?_ : XW _ _ _ _ _ _ _ 177 _ _)
        refine xi_aload_n (by decide +kernel : decode mX10_count.2.1 177 = .ok (.aload_n 0, 1)) rfl rfl (?_ : XW _ _ _ _ _ _ _ 178 _ _)
        refine xi_getR (y := 29) (by decide +kernel : decode mX10_count.2.1 178 = .ok (.getfield 49, 3)) fX10_49 rfl (by omega) rfl hb.2.2.2.2.2.1 (?_ : XW _ _ _ _ _ _ _ 181 _ _)
        refine xi_iconst (v := 0) (by decide +kernel : decode mX10_count.2.1 181 = .ok (.iconst 0, 1)) (by decide) (?_ : XW _ _ _ _ _ _ _ 182 _ _)
        obtain ⟨Q1, sp, vc⟩ := vc
        refine xi_callV (b := 1) (bs := 6) (As := [.int 0]) (st := []) (by decide +kernel : decode mX10_count.2.1 182 = .ok (.invokevirtual 169, 3)) kX10_169 rfl rfl (by omega) rfl sp (by decide) (by decide) (Nat.le_of_ble_eq_true rfl) (by omega) (fun v9 h1 hq9 => ?_)
        obtain ⟨r1, e9, vc⟩ := vc v9 h1 hq9
        subst e9
        show XW _ _ _ _ _ _ _ 185 _ [.int r1]
        exact xi_iret (by decide +kernel : decode mX10_count.2.1 185 = .ok (.ireturn, 1)) rfl rfl vc
      by_cases e11 : j = 11
      · subst e11
        have c6 : w = 11 := c7.trans (by decide)
        replace vc := vc.2.2.2.2.2.2.2.2.2.2.2.1 c6
        refine xi_tableIn (off := 161) (by decide +kernel : decode mX10_count.2.1 25 = .ok (.tableswitch 179 0 12 #[67, 75, 83, 91, 99, 107, 123, 131, 139, 147, 152, 161, 170], 67)) (by omega) (by omega) (by rw [c6]; decide) (by decide) (?_ : XW _ _ _ _ _ _ _ 186 _ _)
        refine xi_aload_n (by decide +kernel : decode mX10_count.2.1 186 = .ok (.aload_n 0, 1)) rfl rfl (?_ : XW _ _ _ _ _ _ _ 187 _ _)
        refine xi_getR (y := 29) (by decide +kernel : decode mX10_count.2.1 187 = .ok (.getfield 49, 3)) fX10_49 rfl (by omega) rfl hb.2.2.2.2.2.1 (?_ : XW _ _ _ _ _ _ _ 190 _ _)
        refine xi_iconst (v := 1) (by decide +kernel : decode mX10_count.2.1 190 = .ok (.iconst 1, 1)) (by decide) (?_ : XW _ _ _ _ _ _ _ 191 _ _)
        obtain ⟨Q1, sp, vc⟩ := vc
        refine xi_callV (b := 1) (bs := 6) (As := [.int 1]) (st := []) (by decide +kernel : decode mX10_count.2.1 191 = .ok (.invokevirtual 169, 3)) kX10_169 rfl rfl (by omega) rfl sp (by decide) (by decide) (Nat.le_of_ble_eq_true rfl) (by omega) (fun v9 h2 hq9 => ?_)
        obtain ⟨r2, e9, vc⟩ := vc v9 h2 hq9
        subst e9
        show XW _ _ _ _ _ _ _ 194 _ [.int r2]
        exact xi_iret (by decide +kernel : decode mX10_count.2.1 194 = .ok (.ireturn, 1)) rfl rfl vc
      by_cases e12 : j = 12
      · subst e12
        have c6 : w = 12 := c7.trans (by decide)
        replace vc := vc.2.2.2.2.2.2.2.2.2.2.2.2.1 c6
        refine xi_tableIn (off := 170) (by decide +kernel : decode mX10_count.2.1 25 = .ok (.tableswitch 179 0 12 #[67, 75, 83, 91, 99, 107, 123, 131, 139, 147, 152, 161, 170], 67)) (by omega) (by omega) (by rw [c6]; decide) (by decide) (?_ : XW _ _ _ _ _ _ _ 195 _ _)
        refine xi_aload_n (by decide +kernel : decode mX10_count.2.1 195 = .ok (.aload_n 0, 1)) rfl rfl (?_ : XW _ _ _ _ _ _ _ 196 _ _)
        refine xi_getR (y := 29) (by decide +kernel : decode mX10_count.2.1 196 = .ok (.getfield 49, 3)) fX10_49 rfl (by omega) rfl hb.2.2.2.2.2.1 (?_ : XW _ _ _ _ _ _ _ 199 _ _)
        refine xi_iconst (v := 2) (by decide +kernel : decode mX10_count.2.1 199 = .ok (.iconst 2, 1)) (by decide) (?_ : XW _ _ _ _ _ _ _ 200 _ _)
        obtain ⟨Q1, sp, vc⟩ := vc
        refine xi_callV (b := 1) (bs := 6) (As := [.int 2]) (st := []) (by decide +kernel : decode mX10_count.2.1 200 = .ok (.invokevirtual 169, 3)) kX10_169 rfl rfl (by omega) rfl sp (by decide) (by decide) (Nat.le_of_ble_eq_true rfl) (by omega) (fun v9 h3 hq9 => ?_)
        obtain ⟨r3, e9, vc⟩ := vc v9 h3 hq9
        subst e9
        show XW _ _ _ _ _ _ _ 203 _ [.int r3]
        exact xi_iret (by decide +kernel : decode mX10_count.2.1 203 = .ok (.ireturn, 1)) rfl rfl vc
      omega
  · replace vc := vc.2 c
    refine xi_iload_n (by decide +kernel : decode mX10_count.2.1 6 = .ok (.iload_n 1, 1)) rfl rfl (?_ : XW _ _ _ _ _ _ _ 7 _ _)
    refine xi_bipush (v := 26) (by decide +kernel : decode mX10_count.2.1 7 = .ok (.bipush 26, 2)) (by decide) (?_ : XW _ _ _ _ _ _ _ 9 _ _)
    refine xi_icmp_gt (by decide +kernel : decode mX10_count.2.1 9 = .ok (.if_icmp .gt 15, 3)) (by decide) (fun c => (?_ : XW _ _ _ _ _ _ _ 24 _ _)) (fun c => (?_ : XW _ _ _ _ _ _ _ 12 _ _))
    · replace vc := vc.1 c
      refine xi_iload_n (by decide +kernel : decode mX10_count.2.1 24 = .ok (.iload_n 1, 1)) rfl rfl (?_ : XW _ _ _ _ _ _ _ 25 _ _)
      by_cases c9 : w.toInt < 0 ∨ 12 < w.toInt
      · replace vc := vc.2.2.2.2.2.2.2.2.2.2.2.2.2 c9
        refine xi_tableOut (by decide +kernel : decode mX10_count.2.1 25 = .ok (.tableswitch 179 0 12 #[67, 75, 83, 91, 99, 107, 123, 131, 139, 147, 152, 161, 170], 67)) c9 (by decide) (?_ : XW _ _ _ _ _ _ _ 204 _ _)
        exact xi_throw (b := 0) (bs := 0) xT_174 (by decide +kernel : decode mX10_count.2.1 204 = .ok (.new 172, 3)) (by decide +kernel : decode mX10_count.2.1 207 = .ok (.dup, 1)) (by decide +kernel : decode mX10_count.2.1 208 = .ok (.invokespecial 174, 3)) (by decide +kernel : decode mX10_count.2.1 211 = .ok (.athrow, 1)) rfl (by decide) (Nat.le_of_ble_eq_true rfl) vc
      · have c8 := x_tabcases (lo := 0) (hi := 12) (by omega) (by omega) c9
        obtain ⟨j, hj, c7⟩ := c8
        have hj2 : j < 13 := by omega
        by_cases e0 : j = 0
        · subst e0
          have c6 : w = 0 := c7.trans (by decide)
          replace vc := vc.1 c6
          refine xi_tableIn (off := 67) (by decide +kernel : decode mX10_count.2.1 25 = .ok (.tableswitch 179 0 12 #[67, 75, 83, 91, 99, 107, 123, 131, 139, 147, 152, 161, 170], 67)) (by omega) (by omega) (by rw [c6]; decide) (by decide) (?_ : XW _ _ _ _ _ _ _ 92 _ _)
          refine xi_aload_n (by decide +kernel : decode mX10_count.2.1 92 = .ok (.aload_n 0, 1)) rfl rfl (?_ : XW _ _ _ _ _ _ _ 93 _ _)
          refine xi_getR (y := r) (by decide +kernel : decode mX10_count.2.1 93 = .ok (.getfield 23, 3)) fX10_23 rfl (by omega) rfl hb.2.1 (?_ : XW _ _ _ _ _ _ _ 96 _ _)
          refine xi_getI (by decide +kernel : decode mX10_count.2.1 96 = .ok (.getfield 148, 3)) fX10_148 (xRul_s0 hr) (by omega) rfl (?_ : XW _ _ _ _ _ _ _ 99 _ _)
          exact xi_iret (by decide +kernel : decode mX10_count.2.1 99 = .ok (.ireturn, 1)) rfl rfl vc
        by_cases e1 : j = 1
        · subst e1
          have c6 : w = 1 := c7.trans (by decide)
          replace vc := vc.2.1 c6
          refine xi_tableIn (off := 75) (by decide +kernel : decode mX10_count.2.1 25 = .ok (.tableswitch 179 0 12 #[67, 75, 83, 91, 99, 107, 123, 131, 139, 147, 152, 161, 170], 67)) (by omega) (by omega) (by rw [c6]; decide) (by decide) (?_ : XW _ _ _ _ _ _ _ 100 _ _)
          refine xi_aload_n (by decide +kernel : decode mX10_count.2.1 100 = .ok (.aload_n 0, 1)) rfl rfl (?_ : XW _ _ _ _ _ _ _ 101 _ _)
          refine xi_getR (y := r) (by decide +kernel : decode mX10_count.2.1 101 = .ok (.getfield 23, 3)) fX10_23 rfl (by omega) rfl hb.2.1 (?_ : XW _ _ _ _ _ _ _ 104 _ _)
          refine xi_getI (by decide +kernel : decode mX10_count.2.1 104 = .ok (.getfield 151, 3)) fX10_151 (xRul_s0 hr) (by omega) rfl (?_ : XW _ _ _ _ _ _ _ 107 _ _)
          exact xi_iret (by decide +kernel : decode mX10_count.2.1 107 = .ok (.ireturn, 1)) rfl rfl vc
        by_cases e2 : j = 2
        · subst e2
          have c6 : w = 2 := c7.trans (by decide)
          replace vc := vc.2.2.1 c6
          refine xi_tableIn (off := 83) (by decide +kernel : decode mX10_count.2.1 25 = .ok (.tableswitch 179 0 12 #[67, 75, 83, 91, 99, 107, 123, 131, 139, 147, 152, 161, 170], 67)) (by omega) (by omega) (by rw [c6]; decide) (by decide) (?_ : XW _ _ _ _ _ _ _ 108 _ _)
          refine xi_aload_n (by decide +kernel : decode mX10_count.2.1 108 = .ok (.aload_n 0, 1)) rfl rfl (?_ : XW _ _ _ _ _ _ _ 109 _ _)
          refine xi_getR (y := r) (by decide +kernel : decode mX10_count.2.1 109 = .ok (.getfield 23, 3)) fX10_23 rfl (by omega) rfl hb.2.1 (?_ : XW _ _ _ _ _ _ _ 112 _ _)
          refine xi_getI (by decide +kernel : decode mX10_count.2.1 112 = .ok (.getfield 136, 3)) fX10_136 (xRul_s0 hr) (by omega) rfl (?_ : XW _ _ _ _ _ _ _ 115 _ _)
          exact xi_iret (by decide +kernel : decode mX10_count.2.1 115 = .ok (.ireturn, 1)) rfl rfl vc
        by_cases e3 : j = 3
        · subst e3
          have c6 : w = 3 := c7.trans (by decide)
          replace vc := vc.2.2.2.1 c6
          refine xi_tableIn (off := 91) (by decide +kernel : decode mX10_count.2.1 25 = .ok (.tableswitch 179 0 12 #[67, 75, 83, 91, 99, 107, 123, 131, 139, 147, 152, 161, 170], 67)) (by omega) (by omega) (by rw [c6]; decide) (by decide) (?_ : XW _ _ _ _ _ _ _ 116 _ _)
          refine xi_aload_n (by decide +kernel : decode mX10_count.2.1 116 = .ok (.aload_n 0, 1)) rfl rfl (?_ : XW _ _ _ _ _ _ _ 117 _ _)
          refine xi_getR (y := r) (by decide +kernel : decode mX10_count.2.1 117 = .ok (.getfield 23, 3)) fX10_23 rfl (by omega) rfl hb.2.1 (?_ : XW _ _ _ _ _ _ _ 120 _ _)
          refine xi_getI (by decide +kernel : decode mX10_count.2.1 120 = .ok (.getfield 129, 3)) fX10_129 (xRul_s0 hr) (by omega) rfl (?_ : XW _ _ _ _ _ _ _ 123 _ _)
          exact xi_iret (by decide +kernel : decode mX10_count.2.1 123 = .ok (.ireturn, 1)) rfl rfl vc
        by_cases e4 : j = 4
        · subst e4
          have c6 : w = 4 := c7.trans (by decide)
          replace vc := vc.2.2.2.2.1 c6
          refine xi_tableIn (off := 99) (by decide +kernel : decode mX10_count.2.1 25 = .ok (.tableswitch 179 0 12 #[67, 75, 83, 91, 99, 107, 123, 131, 139, 147, 152, 161, 170], 67)) (by omega) (by omega) (by rw [c6]; decide) (by decide) (?_ : XW _ _ _ _ _ _ _ 124 _ _)
          refine xi_aload_n (by decide +kernel : decode mX10_count.2.1 124 = .ok (.aload_n 0, 1)) rfl rfl (?_ : XW _ _ _ _ _ _ _ 125 _ _)
          refine xi_getR (y := r) (by decide +kernel : decode mX10_count.2.1 125 = .ok (.getfield 23, 3)) fX10_23 rfl (by omega) rfl hb.2.1 (?_ : XW _ _ _ _ _ _ _ 128 _ _)
          refine xi_getI (by decide +kernel : decode mX10_count.2.1 128 = .ok (.getfield 154, 3)) fX10_154 (xRul_s0 hr) (by omega) rfl (?_ : XW _ _ _ _ _ _ _ 131 _ _)
          exact xi_iret (by decide +kernel : decode mX10_count.2.1 131 = .ok (.ireturn, 1)) rfl rfl vc
        by_cases e5 : j = 5
        · subst e5
          have c6 : w = 5 := c7.trans (by decide)
          replace vc := vc.2.2.2.2.2.1 c6
          refine xi_tableIn (off := 107) (by decide +kernel : decode mX10_count.2.1 25 = .ok (.tableswitch 179 0 12 #[67, 75, 83, 91, 99, 107, 123, 131, 139, 147, 152, 161, 170], 67)) (by omega) (by omega) (by rw [c6]; decide) (by decide) (?_ : XW _ _ _ _ _ _ _ 132 _ _)
          refine xi_aload_n (by decide +kernel : decode mX10_count.2.1 132 = .ok (.aload_n 0, 1)) rfl rfl (?_ : XW _ _ _ _ _ _ _ 133 _ _)
          refine xi_getR (y := r) (by decide +kernel : decode mX10_count.2.1 133 = .ok (.getfield 23, 3)) fX10_23 rfl (by omega) rfl hb.2.1 (?_ : XW _ _ _ _ _ _ _ 136 _ _)
          refine xi_getI (by decide +kernel : decode mX10_count.2.1 136 = .ok (.getfield 157, 3)) fX10_157 (xRul_s0 hr) (by omega) rfl (?_ : XW _ _ _ _ _ _ _ 139 _ _)
          refine xi_if_eq (by decide +kernel : decode mX10_count.2.1 139 = .ok (.ifCond .eq 7, 3)) (by decide) (fun c => (?_ : XW _ _ _ _ _ _ _ 146 _ _)) (fun c => (?_ : XW _ _ _ _ _ _ _ 142 _ _))
          · replace vc := vc.1 c
            refine xi_iconst (v := 0) (by decide +kernel : decode mX10_count.2.1 146 = .ok (.iconst 0, 1)) (by decide) (?_ : XW _ _ _ _ _ _ _ 147 _ _)
            exact xi_iret (by decide +kernel : decode mX10_count.2.1 147 = .ok (.ireturn, 1)) rfl rfl vc
          · replace vc := vc.2 c
            refine xi_iconst (v := 1) (by decide +kernel : decode mX10_count.2.1 142 = .ok (.iconst 1, 1)) (by decide) (?_ : XW _ _ _ _ _ _ _ 143 _ _)
            refine xi_goto (by decide +kernel : decode mX10_count.2.1 143 = .ok (.goto 4, 3)) (by decide) (?_ : XW _ _ _ _ _ _ _ 147 _ _)
            exact xi_iret (by decide +kernel : decode mX10_count.2.1 147 = .ok (.ireturn, 1)) rfl rfl vc
        by_cases e6 : j = 6
        · subst e6
          have c6 : w = 6 := c7.trans (by decide)
          replace vc := vc.2.2.2.2.2.2.1 c6
          refine xi_tableIn (off := 123) (by decide +kernel : decode mX10_count.2.1 25 = .ok (.tableswitch 179 0 12 #[67, 75, 83, 91, 99, 107, 123, 131, 139, 147, 152, 161, 170], 67)) (by omega) (by omega) (by rw [c6]; decide) (by decide) (?_ : XW _ _ _ _ _ _ _ 148 _ _)
          refine xi_aload_n (by decide +kernel : decode mX10_count.2.1 148 = .ok (.aload_n 0, 1)) rfl rfl (?_ : XW _ _ _ _ _ _ _ 149 _ _)
          refine xi_getR (y := 29) (by decide +kernel : decode mX10_count.2.1 149 = .ok (.getfield 49, 3)) fX10_49 rfl (by omega) rfl hb.2.2.2.2.2.1 (?_ : XW _ _ _ _ _ _ _ 152 _ _)
          refine xi_getI (by decide +kernel : decode mX10_count.2.1 152 = .ok (.getfield 160, 3)) fX10_160 rfl (by omega) rfl (?_ : XW _ _ _ _ _ _ _ 155 _ _)
          exact xi_iret (by decide +kernel : decode mX10_count.2.1 155 = .ok (.ireturn, 1)) rfl rfl vc
        by_cases e7 : j = 7
        · subst e7
          have c6 : w = 7 := c7.trans (by decide)
          replace vc := vc.2.2.2.2.2.2.2.1 c6
          refine xi_tableIn (off := 131) (by decide +kernel : decode mX10_count.2.1 25 = .ok (.tableswitch 179 0 12 #[67, 75, 83, 91, 99, 107, 123, 131, 139, 147, 152, 161, 170], 67)) (by omega) (by omega) (by rw [c6]; decide) (by decide) (?_ : XW _ _ _ _ _ _ _ 156 _ _)
          refine xi_aload_n (by decide +kernel : decode mX10_count.2.1 156 = .ok (.aload_n 0, 1)) rfl rfl (?_ : XW _ _ _ _ _ _ _ 157 _ _)
          refine xi_getR (y := 29) (by decide +kernel : decode mX10_count.2.1 157 = .ok (.getfield 49, 3)) fX10_49 rfl (by omega) rfl hb.2.2.2.2.2.1 (?_ : XW _ _ _ _ _ _ _ 160 _ _)
          refine xi_getI (by decide +kernel : decode mX10_count.2.1 160 = .ok (.getfield 163, 3)) fX10_163 rfl (by omega) rfl (?_ : XW _ _ _ _ _ _ _ 163 _ _)
          exact xi_iret (by decide +kernel : decode mX10_count.2.1 163 = .ok (.ireturn, 1)) rfl rfl vc
        by_cases e8 : j = 8
        · subst e8
          have c6 : w = 8 := c7.trans (by decide)
          replace vc := vc.2.2.2.2.2.2.2.2.1 c6
          refine xi_tableIn (off := 139) (by decide +kernel : decode mX10_count.2.1 25 = .ok (.tableswitch 179 0 12 #[67, 75, 83, 91, 99, 107, 123, 131, 139, 147, 152, 161, 170], 67)) (by omega) (by omega) (by rw [c6]; decide) (by decide) (?_ : XW _ _ _ _ _ _ _ 164 _ _)
          refine xi_aload_n (by decide +kernel : decode mX10_count.2.1 164 = .ok (.aload_n 0, 1)) rfl rfl (?_ : XW _ _ _ _ _ _ _ 165 _ _)
          refine xi_getR (y := 29) (by decide +kernel : decode mX10_count.2.1 165 = .ok (.getfield 49, 3)) fX10_49 rfl (by omega) rfl hb.2.2.2.2.2.1 (?_ : XW _ _ _ _ _ _ _ 168 _ _)
          refine xi_getI (by decide +kernel : decode mX10_count.2.1 168 = .ok (.getfield 166, 3)) fX10_166 rfl (by omega) rfl (?_ : XW _ _ _ _ _ _ _ 171 _ _)
          exact xi_iret (by decide +kernel : decode mX10_count.2.1 171 = .ok (.ireturn, 1)) rfl rfl vc
        by_cases e9 : j = 9
        · subst e9
          have c6 : w = 9 := c7.trans (by decide)
          replace vc := vc.2.2.2.2.2.2.2.2.2.1 c6
          refine xi_tableIn (off := 147) (by decide +kernel : decode mX10_count.2.1 25 = .ok (.tableswitch 179 0 12 #[67, 75, 83, 91, 99, 107, 123, 131, 139, 147, 152, 161, 170], 67)) (by omega) (by omega) (by rw [c6]; decide) (by decide) (?_ : XW _ _ _ _ _ _ _ 172 _ _)
          refine xi_aload_n (by decide +kernel : decode mX10_count.2.1 172 = .ok (.aload_n 0, 1)) rfl rfl (?_ : XW _ _ _ _ _ _ _ 173 _ _)
          refine xi_getI (by decide +kernel : decode mX10_count.2.1 173 = .ok (.getfield 13, 3)) fX10_13 rfl (by omega) rfl (?_ : XW _ _ _ _ _ _ _ 176 _ _)
          exact xi_iret (by decide +kernel : decode mX10_count.2.1 176 = .ok (.ireturn, 1)) rfl rfl vc
        by_cases e10 : j = 10
        · subst e10
          have c6 : w = 10 := c7.trans (by decide)
          replace vc := vc.2.2.2.2.2.2.2.2.2.2.1 c6
          refine xi_tableIn (off := 152) (by decide +kernel : decode mX10_count.2.1 25 = .ok (.tableswitch 179 0 12 #[67, 75, 83, 91, 99, 107, 123, 131, 139, 147, 152, 161, 170], 67)) (by omega) (by omega) (by rw [c6]; decide) (by decide) (?_ : XW _ _ _ _ _ _ _ 177 _ _)
          refine xi_aload_n (by decide +kernel : decode mX10_count.2.1 177 = .ok (.aload_n 0, 1)) rfl rfl (?_ : XW _ _ _ _ _ _ _ 178 _ _)
          refine xi_getR (y := 29) (by decide +kernel : decode mX10_count.2.1 178 = .ok (.getfield 49, 3)) fX10_49 rfl (by omega) rfl hb.2.2.2.2.2.1 (?_ : XW _ _ _ _ _ _ _ 181 _ _)
          refine xi_iconst (v := 0) (by decide +kernel : decode mX10_count.2.1 181 = .ok (.iconst 0, 1)) (by decide) (?_ : XW _ _ _ _ _ _ _ 182 _ _)
          obtain ⟨Q1, sp, vc⟩ := vc
          refine xi_callV (b := 1) (bs := 6) (As := [.int 0]) (st := []) (by decide +kernel : decode mX10_count.2.1 182 = .ok (.invokevirtual 169, 3)) kX10_169 rfl rfl (by omega) rfl sp (by decide) (by decide) (Nat.le_of_ble_eq_true rfl) (by omega) (fun v9 h4 hq9 => ?_)
          obtain ⟨r4, e9, vc⟩ := vc v9 h4 hq9
          subst e9
          show XW _ _ _ _ _ _ _ 185 _ [.int r4]
          exact xi_iret (by decide +kernel : decode mX10_count.2.1 185 = .ok (.ireturn, 1)) rfl rfl vc
        by_cases e11 : j = 11
        · subst e11
          have c6 : w = 11 := c7.trans (by decide)
          replace vc := vc.2.2.2.2.2.2.2.2.2.2.2.1 c6
          refine xi_tableIn (off := 161) (by decide +kernel : decode mX10_count.2.1 25 = .ok (.tableswitch 179 0 12 #[67, 75, 83, 91, 99, 107, 123, 131, 139, 147, 152, 161, 170], 67)) (by omega) (by omega) (by rw [c6]; decide) (by decide) (?_ : XW _ _ _ _ _ _ _ 186 _ _)
          refine xi_aload_n (by decide +kernel : decode mX10_count.2.1 186 = .ok (.aload_n 0, 1)) rfl rfl (?_ : XW _ _ _ _ _ _ _ 187 _ _)
          refine xi_getR (y := 29) (by decide +kernel : decode mX10_count.2.1 187 = .ok (.getfield 49, 3)) fX10_49 rfl (by omega) rfl hb.2.2.2.2.2.1 (?_ : XW _ _ _ _ _ _ _ 190 _ _)
          refine xi_iconst (v := 1) (by decide +kernel : decode mX10_count.2.1 190 = .ok (.iconst 1, 1)) (by decide) (?_ : XW _ _ _ _ _ _ _ 191 _ _)
          obtain ⟨Q1, sp, vc⟩ := vc
          refine xi_callV (b := 1) (bs := 6) (As := [.int 1]) (st := []) (by decide +kernel : decode mX10_count.2.1 191 = .ok (.invokevirtual 169, 3)) kX10_169 rfl rfl (by omega) rfl sp (by decide) (by decide) (Nat.le_of_ble_eq_true rfl) (by omega) (fun v9 h5 hq9 => ?_)
          obtain ⟨r5, e9, vc⟩ := vc v9 h5 hq9
          subst e9
          show XW _ _ _ _ _ _ _ 194 _ [.int r5]
          exact xi_iret (by decide +kernel : decode mX10_count.2.1 194 = .ok (.ireturn, 1)) rfl rfl vc
        by_cases e12 : j = 12
        · subst e12
          have c6 : w = 12 := c7.trans (by decide)
          replace vc := vc.2.2.2.2.2.2.2.2.2.2.2.2.1 c6
          refine xi_tableIn (off := 170) (by decide +kernel : decode mX10_count.2.1 25 = .ok (.tableswitch 179 0 12 #[67, 75, 83, 91, 99, 107, 123, 131, 139, 147, 152, 161, 170], 67)) (by omega) (by omega) (by rw [c6]; decide) (by decide) (?_ : XW _ _ _ _ _ _ _ 195 _ _)
          refine xi_aload_n (by decide +kernel : decode mX10_count.2.1 195 = .ok (.aload_n 0, 1)) rfl rfl (?_ : XW _ _ _ _ _ _ _ 196 _ _)
          refine xi_getR (y := 29) (by decide +kernel : decode mX10_count.2.1 196 = .ok (.getfield 49, 3)) fX10_49 rfl (by omega) rfl hb.2.2.2.2.2.1 (?_ : XW _ _ _ _ _ _ _ 199 _ _)
          refine xi_iconst (v := 2) (by decide +kernel : decode mX10_count.2.1 199 = .ok (.iconst 2, 1)) (by decide) (?_ : XW _ _ _ _ _ _ _ 200 _ _)
          obtain ⟨Q1, sp, vc⟩ := vc
          refine xi_callV (b := 1) (bs := 6) (As := [.int 2]) (st := []) (by decide +kernel : decode mX10_count.2.1 200 = .ok (.invokevirtual 169, 3)) kX10_169 rfl rfl (by omega) rfl sp (by decide) (by decide) (Nat.le_of_ble_eq_true rfl) (by omega) (fun v9 h6 hq9 => ?_)
          obtain ⟨r6, e9, vc⟩ := vc v9 h6 hq9
          subst e9
          show XW _ _ _ _ _ _ _ 203 _ [.int r6]
          exact xi_iret (by decide +kernel : decode mX10_count.2.1 203 = .ok (.ireturn, 1)) rfl rfl vc
        omega
    · replace vc := vc.2 c
      refine xi_aload_n (by decide +kernel : decode mX10_count.2.1 12 = .ok (.aload_n 0, 1)) rfl rfl (?_ : XW _ _ _ _ _ _ _ 13 _ _)
      refine xi_getR (y := r) (by decide +kernel : decode mX10_count.2.1 13 = .ok (.getfield 23, 3)) fX10_23 rfl (by omega) rfl hb.2.1 (?_ : XW _ _ _ _ _ _ _ 16 _ _)
      refine xi_iload_n (by decide +kernel : decode mX10_count.2.1 16 = .ok (.iload_n 1, 1)) rfl rfl (?_ : XW _ _ _ _ _ _ _ 17 _ _)
      refine xi_bipush (v := 20) (by decide +kernel : decode mX10_count.2.1 17 = .ok (.bipush 20, 2)) (by decide) (?_ : XW _ _ _ _ _ _ _ 19 _ _)
      refine xi_isub (by decide +kernel : decode mX10_count.2.1 19 = .ok (.isub, 1)) (?_ : XW _ _ _ _ _ _ _ 20 _ _)
      obtain ⟨Q1, sp, vc⟩ := vc
      refine xi_callV (b := 1) (bs := 6) (As := [.int (w - 20)]) (st := []) (by decide +kernel : decode mX10_count.2.1 20 = .ok (.invokevirtual 145, 3)) kX10_145 rfl (xRul_s0 hr) (by omega) rfl sp (by decide) (by decide) (Nat.le_of_ble_eq_true rfl) (by omega) (fun v9 h7 hq9 => ?_)
      obtain ⟨r7, e9, vc⟩ := vc v9 h7 hq9
      subst e9
      show XW _ _ _ _ _ _ _ 23 _ [.int r7]
      exact xi_iret (by decide +kernel : decode mX10_count.2.1 23 = .ok (.ireturn, 1)) rfl rfl vc

set_option maxRecDepth 20000 in
theorem v_X10_exit_0 {h : XH} {Q : Option Value → XH → Prop} {X : String → XH → Prop} (r : Nat) (hbp : BP r h)  (e : Int32) (w : Int32)
    (vc : ∃ Q1 X1, XSpec mX10_needExit 7 1 6 100 100 [.ref 0, .int e] h Q1 X1 ∧ (∀ E9 h9, X1 E9 h9 → X E9 h9) ∧ ∀ v h1, Q1 v h1 → v = none ∧ ((w = 0 → (¬ w = 0 → (xP h1 0 3 = some r) ∧ (∃ Q1, XSpec mX5_headOf 1 0 0 100 100 [.ref r, .int e] h1 Q1 xno ∧ ∀ v h2, Q1 v h2 → ∃ r2 : Int32, v = some (.int r2) ∧ (Q (some (.int r2)) h2))) ∧ (w = 0 → (xP h1 0 3 = some r) ∧ (∃ Q1, XSpec mX5_footOf 1 0 0 100 100 [.ref r, .int e] h1 Q1 xno ∧ ∀ v h3, Q1 v h3 → ∃ r3 : Int32, v = some (.int r3) ∧ (Q (some (.int r3)) h3)))) ∧ (¬ w = 0 → (w = 1 → (¬ w = 0 → (xP h1 0 3 = some r) ∧ (∃ Q1, XSpec mX5_headOf 1 0 0 100 100 [.ref r, .int e] h1 Q1 xno ∧ ∀ v h4, Q1 v h4 → ∃ r4 : Int32, v = some (.int r4) ∧ (Q (some (.int r4)) h4))) ∧ (w = 0 → (xP h1 0 3 = some r) ∧ (∃ Q1, XSpec mX5_footOf 1 0 0 100 100 [.ref r, .int e] h1 Q1 xno ∧ ∀ v h5, Q1 v h5 → ∃ r5 : Int32, v = some (.int r5) ∧ (Q (some (.int r5)) h5)))) ∧ (¬ w = 1 → X "java/util/NoSuchElementException" h1)))) :
    XW (xrm 8 2 12) mX10_exit (xE 100 Q X 2 12) 100 2 12 h 0 [some (.ref 0), some (.int e), some (.int w)] [] := by
  obtain ⟨hb, hr, hnr, ha21, ha25, hu29, hu34, hw, hnt, hwr⟩ := hbp
  refine xi_aload_n (by decide +kernel : decode mX10_exit.2.1 0 = .ok (.aload_n 0, 1)) rfl rfl (?_ : XW _ _ _ _ _ _ _ 1 _ _)
  refine xi_iload_n (by decide +kernel : decode mX10_exit.2.1 1 = .ok (.iload_n 1, 1)) rfl rfl (?_ : XW _ _ _ _ _ _ _ 2 _ _)
  obtain ⟨Q1, X1, sp, tx, vc⟩ := vc
  refine xi_callVX (b := 1) (bs := 6) (As := [.int e]) (st := []) (by decide +kernel : decode mX10_exit.2.1 2 = .ok (.invokevirtual 175, 3)) kX10_175 rfl rfl (by omega) rfl sp (by decide) (by decide) (Nat.le_of_ble_eq_true rfl) (by omega) rfl tx (fun v9 h1 hq9 => ?_)
  obtain ⟨e9, vc⟩ := vc v9 h1 hq9
  subst e9
  show XW _ _ _ _ _ _ _ 5 _ []
  refine xi_iload_n (by decide +kernel : decode mX10_exit.2.1 5 = .ok (.iload_n 2, 1)) rfl rfl (?_ : XW _ _ _ _ _ _ _ 6 _ _)
  refine xi_if_eq (by decide +kernel : decode mX10_exit.2.1 6 = .ok (.ifCond .eq 16, 3)) (by decide) (fun c => (?_ : XW _ _ _ _ _ _ _ 22 _ _)) (fun c => (?_ : XW _ _ _ _ _ _ _ 9 _ _))
  · replace vc := vc.1 c
    refine xi_iload_n (by decide +kernel : decode mX10_exit.2.1 22 = .ok (.iload_n 2, 1)) rfl rfl (?_ : XW _ _ _ _ _ _ _ 23 _ _)
    refine xi_if_ne (by decide +kernel : decode mX10_exit.2.1 23 = .ok (.ifCond .ne 14, 3)) (by decide) (fun c => (?_ : XW _ _ _ _ _ _ _ 37 _ _)) (fun c => (?_ : XW _ _ _ _ _ _ _ 26 _ _))
    · replace vc := vc.1 c
      refine xi_aload_n (by decide +kernel : decode mX10_exit.2.1 37 = .ok (.aload_n 0, 1)) rfl rfl (?_ : XW _ _ _ _ _ _ _ 38 _ _)
      obtain ⟨s1, vc⟩ := vc
      refine xi_getR (y := r) (by decide +kernel : decode mX10_exit.2.1 38 = .ok (.getfield 23, 3)) fX10_23 rfl (by omega) rfl s1 (?_ : XW _ _ _ _ _ _ _ 41 _ _)
      refine xi_iload_n (by decide +kernel : decode mX10_exit.2.1 41 = .ok (.iload_n 1, 1)) rfl rfl (?_ : XW _ _ _ _ _ _ _ 42 _ _)
      obtain ⟨Q1, sp, vc⟩ := vc
      refine xi_callV (b := 1) (bs := 6) (As := [.int e]) (st := []) (by decide +kernel : decode mX10_exit.2.1 42 = .ok (.invokevirtual 181, 3)) kX10_181 rfl (xRul_s0 hr) (by omega) rfl sp (by decide) (by decide) (Nat.le_of_ble_eq_true rfl) (by omega) (fun v9 h2 hq9 => ?_)
      obtain ⟨r2, e9, vc⟩ := vc v9 h2 hq9
      subst e9
      show XW _ _ _ _ _ _ _ 45 _ [.int r2]
      exact xi_iret (by decide +kernel : decode mX10_exit.2.1 45 = .ok (.ireturn, 1)) rfl rfl vc
    · replace vc := vc.2 c
      refine xi_aload_n (by decide +kernel : decode mX10_exit.2.1 26 = .ok (.aload_n 0, 1)) rfl rfl (?_ : XW _ _ _ _ _ _ _ 27 _ _)
      obtain ⟨s1, vc⟩ := vc
      refine xi_getR (y := r) (by decide +kernel : decode mX10_exit.2.1 27 = .ok (.getfield 23, 3)) fX10_23 rfl (by omega) rfl s1 (?_ : XW _ _ _ _ _ _ _ 30 _ _)
      refine xi_iload_n (by decide +kernel : decode mX10_exit.2.1 30 = .ok (.iload_n 1, 1)) rfl rfl (?_ : XW _ _ _ _ _ _ _ 31 _ _)
      obtain ⟨Q1, sp, vc⟩ := vc
      refine xi_callV (b := 1) (bs := 6) (As := [.int e]) (st := []) (by decide +kernel : decode mX10_exit.2.1 31 = .ok (.invokevirtual 178, 3)) kX10_178 rfl (xRul_s0 hr) (by omega) rfl sp (by decide) (by decide) (Nat.le_of_ble_eq_true rfl) (by omega) (fun v9 h3 hq9 => ?_)
      obtain ⟨r3, e9, vc⟩ := vc v9 h3 hq9
      subst e9
      show XW _ _ _ _ _ _ _ 34 _ [.int r3]
      refine xi_goto (by decide +kernel : decode mX10_exit.2.1 34 = .ok (.goto 11, 3)) (by decide) (?_ : XW _ _ _ _ _ _ _ 45 _ _)
      exact xi_iret (by decide +kernel : decode mX10_exit.2.1 45 = .ok (.ireturn, 1)) rfl rfl vc
  · replace vc := vc.2 c
    refine xi_iload_n (by decide +kernel : decode mX10_exit.2.1 9 = .ok (.iload_n 2, 1)) rfl rfl (?_ : XW _ _ _ _ _ _ _ 10 _ _)
    refine xi_iconst (v := 1) (by decide +kernel : decode mX10_exit.2.1 10 = .ok (.iconst 1, 1)) (by decide) (?_ : XW _ _ _ _ _ _ _ 11 _ _)
    refine xi_icmp_eq (by decide +kernel : decode mX10_exit.2.1 11 = .ok (.if_icmp .eq 11, 3)) (by decide) (fun c => (?_ : XW _ _ _ _ _ _ _ 22 _ _)) (fun c => (?_ : XW _ _ _ _ _ _ _ 14 _ _))
    · replace vc := vc.1 c
      refine xi_iload_n (by decide +kernel : decode mX10_exit.2.1 22 = .ok (.iload_n 2, 1)) rfl rfl (?_ : XW _ _ _ _ _ _ _ 23 _ _)
      refine xi_if_ne (by decide +kernel : decode mX10_exit.2.1 23 = .ok (.ifCond .ne 14, 3)) (by decide) (fun c => (?_ : XW _ _ _ _ _ _ _ 37 _ _)) (fun c => (?_ : XW _ _ _ _ _ _ _ 26 _ _))
      · replace vc := vc.1 c
        refine xi_aload_n (by decide +kernel : decode mX10_exit.2.1 37 = .ok (.aload_n 0, 1)) rfl rfl (?_ : XW _ _ _ _ _ _ _ 38 _ _)
        obtain ⟨s1, vc⟩ := vc
        refine xi_getR (y := r) (by decide +kernel : decode mX10_exit.2.1 38 = .ok (.getfield 23, 3)) fX10_23 rfl (by omega) rfl s1 (?_ : XW _ _ _ _ _ _ _ 41 _ _)
        refine xi_iload_n (by decide +kernel : decode mX10_exit.2.1 41 = .ok (.iload_n 1, 1)) rfl rfl (?_ : XW _ _ _ _ _ _ _ 42 _ _)
        obtain ⟨Q1, sp, vc⟩ := vc
        refine xi_callV (b := 1) (bs := 6) (As := [.int e]) (st := []) (by decide +kernel : decode mX10_exit.2.1 42 = .ok (.invokevirtual 181, 3)) kX10_181 rfl (xRul_s0 hr) (by omega) rfl sp (by decide) (by decide) (Nat.le_of_ble_eq_true rfl) (by omega) (fun v9 h4 hq9 => ?_)
        obtain ⟨r4, e9, vc⟩ := vc v9 h4 hq9
        subst e9
        show XW _ _ _ _ _ _ _ 45 _ [.int r4]
        exact xi_iret (by decide +kernel : decode mX10_exit.2.1 45 = .ok (.ireturn, 1)) rfl rfl vc
      · replace vc := vc.2 c
        refine xi_aload_n (by decide +kernel : decode mX10_exit.2.1 26 = .ok (.aload_n 0, 1)) rfl rfl (?_ : XW _ _ _ _ _ _ _ 27 _ _)
        obtain ⟨s1, vc⟩ := vc
        refine xi_getR (y := r) (by decide +kernel : decode mX10_exit.2.1 27 = .ok (.getfield 23, 3)) fX10_23 rfl (by omega) rfl s1 (?_ : XW _ _ _ _ _ _ _ 30 _ _)
        refine xi_iload_n (by decide +kernel : decode mX10_exit.2.1 30 = .ok (.iload_n 1, 1)) rfl rfl (?_ : XW _ _ _ _ _ _ _ 31 _ _)
        obtain ⟨Q1, sp, vc⟩ := vc
        refine xi_callV (b := 1) (bs := 6) (As := [.int e]) (st := []) (by decide +kernel : decode mX10_exit.2.1 31 = .ok (.invokevirtual 178, 3)) kX10_178 rfl (xRul_s0 hr) (by omega) rfl sp (by decide) (by decide) (Nat.le_of_ble_eq_true rfl) (by omega) (fun v9 h5 hq9 => ?_)
        obtain ⟨r5, e9, vc⟩ := vc v9 h5 hq9
        subst e9
        show XW _ _ _ _ _ _ _ 34 _ [.int r5]
        refine xi_goto (by decide +kernel : decode mX10_exit.2.1 34 = .ok (.goto 11, 3)) (by decide) (?_ : XW _ _ _ _ _ _ _ 45 _ _)
        exact xi_iret (by decide +kernel : decode mX10_exit.2.1 45 = .ok (.ireturn, 1)) rfl rfl vc
    · replace vc := vc.2 c
      exact xi_throw (b := 0) (bs := 0) xT_174 (by decide +kernel : decode mX10_exit.2.1 14 = .ok (.new 172, 3)) (by decide +kernel : decode mX10_exit.2.1 17 = .ok (.dup, 1)) (by decide +kernel : decode mX10_exit.2.1 18 = .ok (.invokespecial 174, 3)) (by decide +kernel : decode mX10_exit.2.1 21 = .ok (.athrow, 1)) rfl (by decide) (Nat.le_of_ble_eq_true rfl) vc

set_option maxRecDepth 20000 in
theorem v_X10_goes_0 {h : XH} {Q : Option Value → XH → Prop} {X : String → XH → Prop} (r : Nat) (hbp : BP r h)  (q : Int32) (f : Int32)
    (vc : ∃ Q1 X1, XSpec mX10_needSquare 7 1 6 100 100 [.ref 0, .int q] h Q1 X1 ∧ (∀ E9 h9, X1 E9 h9 → X E9 h9) ∧ ∀ v h1, Q1 v h1 → v = none ∧ (∃ Q1 X1, XSpec mX10_needFace 7 1 6 100 100 [.ref 0, .int f] h1 Q1 X1 ∧ (∀ E9 h9, X1 E9 h9 → X E9 h9) ∧ ∀ v h2, Q1 v h2 → v = none ∧ ((xP h2 0 5 = some 21) ∧ (∃ Q1, XSpec mX3_to 1 0 0 100 100 [.ref 21, .int q, .int f] h2 Q1 xno ∧ ∀ v h3, Q1 v h3 → ∃ r3 : Int32, v = some (.int r3) ∧ (Q (some (.int r3)) h3))))) :
    XW (xrm 8 2 12) mX10_goes (xE 100 Q X 2 12) 100 2 12 h 0 [some (.ref 0), some (.int q), some (.int f)] [] := by
  obtain ⟨hb, hr, hnr, ha21, ha25, hu29, hu34, hw, hnt, hwr⟩ := hbp
  refine xi_aload_n (by decide +kernel : decode mX10_goes.2.1 0 = .ok (.aload_n 0, 1)) rfl rfl (?_ : XW _ _ _ _ _ _ _ 1 _ _)
  refine xi_iload_n (by decide +kernel : decode mX10_goes.2.1 1 = .ok (.iload_n 1, 1)) rfl rfl (?_ : XW _ _ _ _ _ _ _ 2 _ _)
  obtain ⟨Q1, X1, sp, tx, vc⟩ := vc
  refine xi_callVX (b := 1) (bs := 6) (As := [.int q]) (st := []) (by decide +kernel : decode mX10_goes.2.1 2 = .ok (.invokevirtual 184, 3)) kX10_184 rfl rfl (by omega) rfl sp (by decide) (by decide) (Nat.le_of_ble_eq_true rfl) (by omega) rfl tx (fun v9 h1 hq9 => ?_)
  obtain ⟨e9, vc⟩ := vc v9 h1 hq9
  subst e9
  show XW _ _ _ _ _ _ _ 5 _ []
  refine xi_aload_n (by decide +kernel : decode mX10_goes.2.1 5 = .ok (.aload_n 0, 1)) rfl rfl (?_ : XW _ _ _ _ _ _ _ 6 _ _)
  refine xi_iload_n (by decide +kernel : decode mX10_goes.2.1 6 = .ok (.iload_n 2, 1)) rfl rfl (?_ : XW _ _ _ _ _ _ _ 7 _ _)
  obtain ⟨Q1, X1, sp, tx, vc⟩ := vc
  refine xi_callVX (b := 0) (bs := 0) (As := [.int f]) (st := []) (by decide +kernel : decode mX10_goes.2.1 7 = .ok (.invokevirtual 187, 3)) kX10_187 rfl rfl (by omega) rfl sp (by decide) (by decide) (Nat.le_of_ble_eq_true rfl) (by omega) rfl tx (fun v9 h2 hq9 => ?_)
  obtain ⟨e9, vc⟩ := vc v9 h2 hq9
  subst e9
  show XW _ _ _ _ _ _ _ 10 _ []
  refine xi_aload_n (by decide +kernel : decode mX10_goes.2.1 10 = .ok (.aload_n 0, 1)) rfl rfl (?_ : XW _ _ _ _ _ _ _ 11 _ _)
  obtain ⟨s1, vc⟩ := vc
  refine xi_getR (y := 21) (by decide +kernel : decode mX10_goes.2.1 11 = .ok (.getfield 39, 3)) fX10_39 rfl (by omega) rfl s1 (?_ : XW _ _ _ _ _ _ _ 14 _ _)
  refine xi_iload_n (by decide +kernel : decode mX10_goes.2.1 14 = .ok (.iload_n 1, 1)) rfl rfl (?_ : XW _ _ _ _ _ _ _ 15 _ _)
  refine xi_iload_n (by decide +kernel : decode mX10_goes.2.1 15 = .ok (.iload_n 2, 1)) rfl rfl (?_ : XW _ _ _ _ _ _ _ 16 _ _)
  obtain ⟨Q1, sp, vc⟩ := vc
  refine xi_callV (b := 0) (bs := 0) (As := [.int q, .int f]) (st := []) (by decide +kernel : decode mX10_goes.2.1 16 = .ok (.invokevirtual 190, 3)) kX10_190 rfl rfl (by omega) rfl sp (by decide) (by decide) (Nat.le_of_ble_eq_true rfl) (by omega) (fun v9 h3 hq9 => ?_)
  obtain ⟨r3, e9, vc⟩ := vc v9 h3 hq9
  subst e9
  show XW _ _ _ _ _ _ _ 19 _ [.int r3]
  exact xi_iret (by decide +kernel : decode mX10_goes.2.1 19 = .ok (.ireturn, 1)) rfl rfl vc

set_option maxRecDepth 20000 in
theorem v_X10_piece_0 {h : XH} {Q : Option Value → XH → Prop} {X : String → XH → Prop} (r : Nat) (hbp : BP r h)  (p : Int32)
    (vc : (p < 0 → X "java/util/NoSuchElementException" h) ∧ (¬ p < 0 → (p < (xI h r 6) → ∃ Q1, XSpec mX7_placeOf 1 0 0 100 100 [.ref 29, .int p] h Q1 xno ∧ ∀ v h1, Q1 v h1 → ∃ r1 : Int32, v = some (.int r1) ∧ (Q (some (.int r1)) h1)) ∧ (¬ p < (xI h r 6) → X "java/util/NoSuchElementException" h))) :
    XW (xrm 7 1 6) mX10_piece (xE 100 Q X 1 6) 100 1 6 h 0 [some (.ref 0), some (.int p)] [] := by
  obtain ⟨hb, hr, hnr, ha21, ha25, hu29, hu34, hw, hnt, hwr⟩ := hbp
  refine xi_iload_n (by decide +kernel : decode mX10_piece.2.1 0 = .ok (.iload_n 1, 1)) rfl rfl (?_ : XW _ _ _ _ _ _ _ 1 _ _)
  refine xi_if_lt (by decide +kernel : decode mX10_piece.2.1 1 = .ok (.ifCond .lt 14, 3)) (by decide) (fun c => (?_ : XW _ _ _ _ _ _ _ 15 _ _)) (fun c => (?_ : XW _ _ _ _ _ _ _ 4 _ _))
  · replace vc := vc.1 c
    exact xi_throw (b := 0) (bs := 0) xT_174 (by decide +kernel : decode mX10_piece.2.1 15 = .ok (.new 172, 3)) (by decide +kernel : decode mX10_piece.2.1 18 = .ok (.dup, 1)) (by decide +kernel : decode mX10_piece.2.1 19 = .ok (.invokespecial 174, 3)) (by decide +kernel : decode mX10_piece.2.1 22 = .ok (.athrow, 1)) rfl (by decide) (Nat.le_of_ble_eq_true rfl) vc
  · replace vc := vc.2 c
    refine xi_iload_n (by decide +kernel : decode mX10_piece.2.1 4 = .ok (.iload_n 1, 1)) rfl rfl (?_ : XW _ _ _ _ _ _ _ 5 _ _)
    refine xi_aload_n (by decide +kernel : decode mX10_piece.2.1 5 = .ok (.aload_n 0, 1)) rfl rfl (?_ : XW _ _ _ _ _ _ _ 6 _ _)
    refine xi_getR (y := r) (by decide +kernel : decode mX10_piece.2.1 6 = .ok (.getfield 23, 3)) fX10_23 rfl (by omega) rfl hb.2.1 (?_ : XW _ _ _ _ _ _ _ 9 _ _)
    refine xi_getI (by decide +kernel : decode mX10_piece.2.1 9 = .ok (.getfield 136, 3)) fX10_136 (xRul_s0 hr) (by omega) rfl (?_ : XW _ _ _ _ _ _ _ 12 _ _)
    refine xi_icmp_lt (by decide +kernel : decode mX10_piece.2.1 12 = .ok (.if_icmp .lt 11, 3)) (by decide) (fun c => (?_ : XW _ _ _ _ _ _ _ 23 _ _)) (fun c => (?_ : XW _ _ _ _ _ _ _ 15 _ _))
    · replace vc := vc.1 c
      refine xi_aload_n (by decide +kernel : decode mX10_piece.2.1 23 = .ok (.aload_n 0, 1)) rfl rfl (?_ : XW _ _ _ _ _ _ _ 24 _ _)
      refine xi_getR (y := 29) (by decide +kernel : decode mX10_piece.2.1 24 = .ok (.getfield 49, 3)) fX10_49 rfl (by omega) rfl hb.2.2.2.2.2.1 (?_ : XW _ _ _ _ _ _ _ 27 _ _)
      refine xi_iload_n (by decide +kernel : decode mX10_piece.2.1 27 = .ok (.iload_n 1, 1)) rfl rfl (?_ : XW _ _ _ _ _ _ _ 28 _ _)
      obtain ⟨Q1, sp, vc⟩ := vc
      refine xi_callV (b := 1) (bs := 6) (As := [.int p]) (st := []) (by decide +kernel : decode mX10_piece.2.1 28 = .ok (.invokevirtual 219, 3)) kX10_219 rfl rfl (by omega) rfl sp (by decide) (by decide) (Nat.le_of_ble_eq_true rfl) (by omega) (fun v9 h1 hq9 => ?_)
      obtain ⟨r1, e9, vc⟩ := vc v9 h1 hq9
      subst e9
      show XW _ _ _ _ _ _ _ 31 _ [.int r1]
      exact xi_iret (by decide +kernel : decode mX10_piece.2.1 31 = .ok (.ireturn, 1)) rfl rfl vc
    · replace vc := vc.2 c
      exact xi_throw (b := 0) (bs := 0) xT_174 (by decide +kernel : decode mX10_piece.2.1 15 = .ok (.new 172, 3)) (by decide +kernel : decode mX10_piece.2.1 18 = .ok (.dup, 1)) (by decide +kernel : decode mX10_piece.2.1 19 = .ok (.invokespecial 174, 3)) (by decide +kernel : decode mX10_piece.2.1 22 = .ok (.athrow, 1)) rfl (by decide) (Nat.le_of_ble_eq_true rfl) vc

set_option maxRecDepth 20000 in
theorem v_X10_rolled_0 {h : XH} {Q : Option Value → XH → Prop} {X : String → XH → Prop} (r : Nat) (hbp : BP r h)  (i : Int32) (w : Int32)
    (vc : (i < 0 → X "java/util/NoSuchElementException" h) ∧ (¬ i < 0 → ((xI h 29 1) ≤ i → X "java/util/NoSuchElementException" h) ∧ (¬ (xI h 29 1) ≤ i → (w < 0 → X "java/util/NoSuchElementException" h) ∧ (¬ w < 0 → (w < 5 → ∃ Q1, XSpec mX7_logged 1 0 0 100 100 [.ref 29, .int i, .int w] h Q1 xno ∧ ∀ v h1, Q1 v h1 → ∃ r1 : Int32, v = some (.int r1) ∧ (Q (some (.int r1)) h1)) ∧ (¬ w < 5 → X "java/util/NoSuchElementException" h))))) :
    XW (xrm 7 1 6) mX10_rolled (xE 100 Q X 1 6) 100 1 6 h 0 [some (.ref 0), some (.int i), some (.int w)] [] := by
  obtain ⟨hb, hr, hnr, ha21, ha25, hu29, hu34, hw, hnt, hwr⟩ := hbp
  refine xi_iload_n (by decide +kernel : decode mX10_rolled.2.1 0 = .ok (.iload_n 1, 1)) rfl rfl (?_ : XW _ _ _ _ _ _ _ 1 _ _)
  refine xi_if_lt (by decide +kernel : decode mX10_rolled.2.1 1 = .ok (.ifCond .lt 23, 3)) (by decide) (fun c => (?_ : XW _ _ _ _ _ _ _ 24 _ _)) (fun c => (?_ : XW _ _ _ _ _ _ _ 4 _ _))
  · replace vc := vc.1 c
    exact xi_throw (b := 0) (bs := 0) xT_174 (by decide +kernel : decode mX10_rolled.2.1 24 = .ok (.new 172, 3)) (by decide +kernel : decode mX10_rolled.2.1 27 = .ok (.dup, 1)) (by decide +kernel : decode mX10_rolled.2.1 28 = .ok (.invokespecial 174, 3)) (by decide +kernel : decode mX10_rolled.2.1 31 = .ok (.athrow, 1)) rfl (by decide) (Nat.le_of_ble_eq_true rfl) vc
  · replace vc := vc.2 c
    refine xi_iload_n (by decide +kernel : decode mX10_rolled.2.1 4 = .ok (.iload_n 1, 1)) rfl rfl (?_ : XW _ _ _ _ _ _ _ 5 _ _)
    refine xi_aload_n (by decide +kernel : decode mX10_rolled.2.1 5 = .ok (.aload_n 0, 1)) rfl rfl (?_ : XW _ _ _ _ _ _ _ 6 _ _)
    refine xi_getR (y := 29) (by decide +kernel : decode mX10_rolled.2.1 6 = .ok (.getfield 49, 3)) fX10_49 rfl (by omega) rfl hb.2.2.2.2.2.1 (?_ : XW _ _ _ _ _ _ _ 9 _ _)
    refine xi_getI (by decide +kernel : decode mX10_rolled.2.1 9 = .ok (.getfield 160, 3)) fX10_160 rfl (by omega) rfl (?_ : XW _ _ _ _ _ _ _ 12 _ _)
    refine xi_icmp_ge (by decide +kernel : decode mX10_rolled.2.1 12 = .ok (.if_icmp .ge 12, 3)) (by decide) (fun c => (?_ : XW _ _ _ _ _ _ _ 24 _ _)) (fun c => (?_ : XW _ _ _ _ _ _ _ 15 _ _))
    · replace vc := vc.1 c
      exact xi_throw (b := 0) (bs := 0) xT_174 (by decide +kernel : decode mX10_rolled.2.1 24 = .ok (.new 172, 3)) (by decide +kernel : decode mX10_rolled.2.1 27 = .ok (.dup, 1)) (by decide +kernel : decode mX10_rolled.2.1 28 = .ok (.invokespecial 174, 3)) (by decide +kernel : decode mX10_rolled.2.1 31 = .ok (.athrow, 1)) rfl (by decide) (Nat.le_of_ble_eq_true rfl) vc
    · replace vc := vc.2 c
      refine xi_iload_n (by decide +kernel : decode mX10_rolled.2.1 15 = .ok (.iload_n 2, 1)) rfl rfl (?_ : XW _ _ _ _ _ _ _ 16 _ _)
      refine xi_if_lt (by decide +kernel : decode mX10_rolled.2.1 16 = .ok (.ifCond .lt 8, 3)) (by decide) (fun c => (?_ : XW _ _ _ _ _ _ _ 24 _ _)) (fun c => (?_ : XW _ _ _ _ _ _ _ 19 _ _))
      · replace vc := vc.1 c
        exact xi_throw (b := 0) (bs := 0) xT_174 (by decide +kernel : decode mX10_rolled.2.1 24 = .ok (.new 172, 3)) (by decide +kernel : decode mX10_rolled.2.1 27 = .ok (.dup, 1)) (by decide +kernel : decode mX10_rolled.2.1 28 = .ok (.invokespecial 174, 3)) (by decide +kernel : decode mX10_rolled.2.1 31 = .ok (.athrow, 1)) rfl (by decide) (Nat.le_of_ble_eq_true rfl) vc
      · replace vc := vc.2 c
        refine xi_iload_n (by decide +kernel : decode mX10_rolled.2.1 19 = .ok (.iload_n 2, 1)) rfl rfl (?_ : XW _ _ _ _ _ _ _ 20 _ _)
        refine xi_iconst (v := 5) (by decide +kernel : decode mX10_rolled.2.1 20 = .ok (.iconst 5, 1)) (by decide) (?_ : XW _ _ _ _ _ _ _ 21 _ _)
        refine xi_icmp_lt (by decide +kernel : decode mX10_rolled.2.1 21 = .ok (.if_icmp .lt 11, 3)) (by decide) (fun c => (?_ : XW _ _ _ _ _ _ _ 32 _ _)) (fun c => (?_ : XW _ _ _ _ _ _ _ 24 _ _))
        · replace vc := vc.1 c
          refine xi_aload_n (by decide +kernel : decode mX10_rolled.2.1 32 = .ok (.aload_n 0, 1)) rfl rfl (?_ : XW _ _ _ _ _ _ _ 33 _ _)
          refine xi_getR (y := 29) (by decide +kernel : decode mX10_rolled.2.1 33 = .ok (.getfield 49, 3)) fX10_49 rfl (by omega) rfl hb.2.2.2.2.2.1 (?_ : XW _ _ _ _ _ _ _ 36 _ _)
          refine xi_iload_n (by decide +kernel : decode mX10_rolled.2.1 36 = .ok (.iload_n 1, 1)) rfl rfl (?_ : XW _ _ _ _ _ _ _ 37 _ _)
          refine xi_iload_n (by decide +kernel : decode mX10_rolled.2.1 37 = .ok (.iload_n 2, 1)) rfl rfl (?_ : XW _ _ _ _ _ _ _ 38 _ _)
          obtain ⟨Q1, sp, vc⟩ := vc
          refine xi_callV (b := 1) (bs := 6) (As := [.int i, .int w]) (st := []) (by decide +kernel : decode mX10_rolled.2.1 38 = .ok (.invokevirtual 222, 3)) kX10_222 rfl rfl (by omega) rfl sp (by decide) (by decide) (Nat.le_of_ble_eq_true rfl) (by omega) (fun v9 h1 hq9 => ?_)
          obtain ⟨r1, e9, vc⟩ := vc v9 h1 hq9
          subst e9
          show XW _ _ _ _ _ _ _ 41 _ [.int r1]
          exact xi_iret (by decide +kernel : decode mX10_rolled.2.1 41 = .ok (.ireturn, 1)) rfl rfl vc
        · replace vc := vc.2 c
          exact xi_throw (b := 0) (bs := 0) xT_174 (by decide +kernel : decode mX10_rolled.2.1 24 = .ok (.new 172, 3)) (by decide +kernel : decode mX10_rolled.2.1 27 = .ok (.dup, 1)) (by decide +kernel : decode mX10_rolled.2.1 28 = .ok (.invokespecial 174, 3)) (by decide +kernel : decode mX10_rolled.2.1 31 = .ok (.athrow, 1)) rfl (by decide) (Nat.le_of_ble_eq_true rfl) vc

set_option maxRecDepth 20000 in
theorem v_X10_note_0 {h : XH} {Q : Option Value → XH → Prop} {X : String → XH → Prop} (r : Nat) (hbp : BP r h)  (q : Int32)
    (vc : (q < (-1) → ∃ Q1, XSpec mX7_refuse 1 0 0 100 100 [.ref 29, .int 2] h Q1 xno ∧ ∀ v h1, Q1 v h1 → v = none ∧ (Q (some (.int (-1))) h1)) ∧ (¬ q < (-1) → ((xI h r 0) < q → ∃ Q1, XSpec mX7_refuse 1 0 0 100 100 [.ref 29, .int 2] h Q1 xno ∧ ∀ v h2, Q1 v h2 → v = none ∧ (Q (some (.int (-1))) h2)) ∧ (¬ (xI h r 0) < q → ((xI h 29 2) < 40 → ∃ Q1, XSpec mX7_putNote 1 0 0 100 100 [.ref 29, .int q] h Q1 xno ∧ ∀ v h3, Q1 v h3 → v = none ∧ ((xP h3 0 7 = some 29) ∧ (Q (some (.int (xI h3 29 2))) h3))) ∧ (¬ (xI h 29 2) < 40 → ∃ Q1, XSpec mX7_refuse 1 0 0 100 100 [.ref 29, .int 2] h Q1 xno ∧ ∀ v h4, Q1 v h4 → v = none ∧ (Q (some (.int (-1))) h4))))) :
    XW (xrm 2 0 0) mX10_note (xE 100 Q X 0 0) 100 0 0 h 0 [some (.ref 0), some (.int q)] [] := by
  obtain ⟨hb, hr, hnr, ha21, ha25, hu29, hu34, hw, hnt, hwr⟩ := hbp
  refine xi_iload_n (by decide +kernel : decode mX10_note.2.1 0 = .ok (.iload_n 1, 1)) rfl rfl (?_ : XW _ _ _ _ _ _ _ 1 _ _)
  refine xi_iconst (v := (-1)) (by decide +kernel : decode mX10_note.2.1 1 = .ok (.iconst (-1), 1)) (by decide) (?_ : XW _ _ _ _ _ _ _ 2 _ _)
  refine xi_icmp_lt (by decide +kernel : decode mX10_note.2.1 2 = .ok (.if_icmp .lt 26, 3)) (by decide) (fun c => (?_ : XW _ _ _ _ _ _ _ 28 _ _)) (fun c => (?_ : XW _ _ _ _ _ _ _ 5 _ _))
  · replace vc := vc.1 c
    refine xi_aload_n (by decide +kernel : decode mX10_note.2.1 28 = .ok (.aload_n 0, 1)) rfl rfl (?_ : XW _ _ _ _ _ _ _ 29 _ _)
    refine xi_getR (y := 29) (by decide +kernel : decode mX10_note.2.1 29 = .ok (.getfield 49, 3)) fX10_49 rfl (by omega) rfl hb.2.2.2.2.2.1 (?_ : XW _ _ _ _ _ _ _ 32 _ _)
    refine xi_iconst (v := 2) (by decide +kernel : decode mX10_note.2.1 32 = .ok (.iconst 2, 1)) (by decide) (?_ : XW _ _ _ _ _ _ _ 33 _ _)
    obtain ⟨Q1, sp, vc⟩ := vc
    refine xi_callV (b := 0) (bs := 0) (As := [.int 2]) (st := []) (by decide +kernel : decode mX10_note.2.1 33 = .ok (.invokevirtual 115, 3)) kX10_115 rfl rfl (by omega) rfl sp (by decide) (by decide) (Nat.le_of_ble_eq_true rfl) (by omega) (fun v9 h1 hq9 => ?_)
    obtain ⟨e9, vc⟩ := vc v9 h1 hq9
    subst e9
    show XW _ _ _ _ _ _ _ 36 _ []
    refine xi_iconst (v := (-1)) (by decide +kernel : decode mX10_note.2.1 36 = .ok (.iconst (-1), 1)) (by decide) (?_ : XW _ _ _ _ _ _ _ 37 _ _)
    exact xi_iret (by decide +kernel : decode mX10_note.2.1 37 = .ok (.ireturn, 1)) rfl rfl vc
  · replace vc := vc.2 c
    refine xi_iload_n (by decide +kernel : decode mX10_note.2.1 5 = .ok (.iload_n 1, 1)) rfl rfl (?_ : XW _ _ _ _ _ _ _ 6 _ _)
    refine xi_aload_n (by decide +kernel : decode mX10_note.2.1 6 = .ok (.aload_n 0, 1)) rfl rfl (?_ : XW _ _ _ _ _ _ _ 7 _ _)
    refine xi_getR (y := r) (by decide +kernel : decode mX10_note.2.1 7 = .ok (.getfield 23, 3)) fX10_23 rfl (by omega) rfl hb.2.1 (?_ : XW _ _ _ _ _ _ _ 10 _ _)
    refine xi_getI (by decide +kernel : decode mX10_note.2.1 10 = .ok (.getfield 148, 3)) fX10_148 (xRul_s0 hr) (by omega) rfl (?_ : XW _ _ _ _ _ _ _ 13 _ _)
    refine xi_icmp_gt (by decide +kernel : decode mX10_note.2.1 13 = .ok (.if_icmp .gt 15, 3)) (by decide) (fun c => (?_ : XW _ _ _ _ _ _ _ 28 _ _)) (fun c => (?_ : XW _ _ _ _ _ _ _ 16 _ _))
    · replace vc := vc.1 c
      refine xi_aload_n (by decide +kernel : decode mX10_note.2.1 28 = .ok (.aload_n 0, 1)) rfl rfl (?_ : XW _ _ _ _ _ _ _ 29 _ _)
      refine xi_getR (y := 29) (by decide +kernel : decode mX10_note.2.1 29 = .ok (.getfield 49, 3)) fX10_49 rfl (by omega) rfl hb.2.2.2.2.2.1 (?_ : XW _ _ _ _ _ _ _ 32 _ _)
      refine xi_iconst (v := 2) (by decide +kernel : decode mX10_note.2.1 32 = .ok (.iconst 2, 1)) (by decide) (?_ : XW _ _ _ _ _ _ _ 33 _ _)
      obtain ⟨Q1, sp, vc⟩ := vc
      refine xi_callV (b := 0) (bs := 0) (As := [.int 2]) (st := []) (by decide +kernel : decode mX10_note.2.1 33 = .ok (.invokevirtual 115, 3)) kX10_115 rfl rfl (by omega) rfl sp (by decide) (by decide) (Nat.le_of_ble_eq_true rfl) (by omega) (fun v9 h2 hq9 => ?_)
      obtain ⟨e9, vc⟩ := vc v9 h2 hq9
      subst e9
      show XW _ _ _ _ _ _ _ 36 _ []
      refine xi_iconst (v := (-1)) (by decide +kernel : decode mX10_note.2.1 36 = .ok (.iconst (-1), 1)) (by decide) (?_ : XW _ _ _ _ _ _ _ 37 _ _)
      exact xi_iret (by decide +kernel : decode mX10_note.2.1 37 = .ok (.ireturn, 1)) rfl rfl vc
    · replace vc := vc.2 c
      refine xi_aload_n (by decide +kernel : decode mX10_note.2.1 16 = .ok (.aload_n 0, 1)) rfl rfl (?_ : XW _ _ _ _ _ _ _ 17 _ _)
      refine xi_getR (y := 29) (by decide +kernel : decode mX10_note.2.1 17 = .ok (.getfield 49, 3)) fX10_49 rfl (by omega) rfl hb.2.2.2.2.2.1 (?_ : XW _ _ _ _ _ _ _ 20 _ _)
      refine xi_getI (by decide +kernel : decode mX10_note.2.1 20 = .ok (.getfield 166, 3)) fX10_166 rfl (by omega) rfl (?_ : XW _ _ _ _ _ _ _ 23 _ _)
      refine xi_bipush (v := 40) (by decide +kernel : decode mX10_note.2.1 23 = .ok (.bipush 40, 2)) (by decide) (?_ : XW _ _ _ _ _ _ _ 25 _ _)
      refine xi_icmp_lt (by decide +kernel : decode mX10_note.2.1 25 = .ok (.if_icmp .lt 13, 3)) (by decide) (fun c => (?_ : XW _ _ _ _ _ _ _ 38 _ _)) (fun c => (?_ : XW _ _ _ _ _ _ _ 28 _ _))
      · replace vc := vc.1 c
        refine xi_aload_n (by decide +kernel : decode mX10_note.2.1 38 = .ok (.aload_n 0, 1)) rfl rfl (?_ : XW _ _ _ _ _ _ _ 39 _ _)
        refine xi_getR (y := 29) (by decide +kernel : decode mX10_note.2.1 39 = .ok (.getfield 49, 3)) fX10_49 rfl (by omega) rfl hb.2.2.2.2.2.1 (?_ : XW _ _ _ _ _ _ _ 42 _ _)
        refine xi_iload_n (by decide +kernel : decode mX10_note.2.1 42 = .ok (.iload_n 1, 1)) rfl rfl (?_ : XW _ _ _ _ _ _ _ 43 _ _)
        obtain ⟨Q1, sp, vc⟩ := vc
        refine xi_callV (b := 0) (bs := 0) (As := [.int q]) (st := []) (by decide +kernel : decode mX10_note.2.1 43 = .ok (.invokevirtual 319, 3)) kX10_319 rfl rfl (by omega) rfl sp (by decide) (by decide) (Nat.le_of_ble_eq_true rfl) (by omega) (fun v9 h3 hq9 => ?_)
        obtain ⟨e9, vc⟩ := vc v9 h3 hq9
        subst e9
        show XW _ _ _ _ _ _ _ 46 _ []
        refine xi_aload_n (by decide +kernel : decode mX10_note.2.1 46 = .ok (.aload_n 0, 1)) rfl rfl (?_ : XW _ _ _ _ _ _ _ 47 _ _)
        obtain ⟨s1, vc⟩ := vc
        refine xi_getR (y := 29) (by decide +kernel : decode mX10_note.2.1 47 = .ok (.getfield 49, 3)) fX10_49 rfl (by omega) rfl s1 (?_ : XW _ _ _ _ _ _ _ 50 _ _)
        refine xi_getI (by decide +kernel : decode mX10_note.2.1 50 = .ok (.getfield 166, 3)) fX10_166 rfl (by omega) rfl (?_ : XW _ _ _ _ _ _ _ 53 _ _)
        exact xi_iret (by decide +kernel : decode mX10_note.2.1 53 = .ok (.ireturn, 1)) rfl rfl vc
      · replace vc := vc.2 c
        refine xi_aload_n (by decide +kernel : decode mX10_note.2.1 28 = .ok (.aload_n 0, 1)) rfl rfl (?_ : XW _ _ _ _ _ _ _ 29 _ _)
        refine xi_getR (y := 29) (by decide +kernel : decode mX10_note.2.1 29 = .ok (.getfield 49, 3)) fX10_49 rfl (by omega) rfl hb.2.2.2.2.2.1 (?_ : XW _ _ _ _ _ _ _ 32 _ _)
        refine xi_iconst (v := 2) (by decide +kernel : decode mX10_note.2.1 32 = .ok (.iconst 2, 1)) (by decide) (?_ : XW _ _ _ _ _ _ _ 33 _ _)
        obtain ⟨Q1, sp, vc⟩ := vc
        refine xi_callV (b := 0) (bs := 0) (As := [.int 2]) (st := []) (by decide +kernel : decode mX10_note.2.1 33 = .ok (.invokevirtual 115, 3)) kX10_115 rfl rfl (by omega) rfl sp (by decide) (by decide) (Nat.le_of_ble_eq_true rfl) (by omega) (fun v9 h4 hq9 => ?_)
        obtain ⟨e9, vc⟩ := vc v9 h4 hq9
        subst e9
        show XW _ _ _ _ _ _ _ 36 _ []
        refine xi_iconst (v := (-1)) (by decide +kernel : decode mX10_note.2.1 36 = .ok (.iconst (-1), 1)) (by decide) (?_ : XW _ _ _ _ _ _ _ 37 _ _)
        exact xi_iret (by decide +kernel : decode mX10_note.2.1 37 = .ok (.ireturn, 1)) rfl rfl vc

set_option maxRecDepth 20000 in
theorem v_X10_forget_0 {h : XH} {Q : Option Value → XH → Prop} {X : String → XH → Prop} (r : Nat) (hbp : BP r h) 
    (vc : (0 < (xI h 29 2) → Q (some (.int (va_up (xI h 29) 2 ((xI h 29 2) - 1) 2))) (xSI 29 (va_up (xI h 29) 2 ((xI h 29 2) - 1)) h)) ∧ (¬ 0 < (xI h 29 2) → Q (some (.int (-1))) h)) :
    XW (xrm 1 0 0) mX10_forget (xE 100 Q X 0 0) 100 0 0 h 0 [some (.ref 0)] [] := by
  obtain ⟨hb, hr, hnr, ha21, ha25, hu29, hu34, hw, hnt, hwr⟩ := hbp
  refine xi_aload_n (by decide +kernel : decode mX10_forget.2.1 0 = .ok (.aload_n 0, 1)) rfl rfl (?_ : XW _ _ _ _ _ _ _ 1 _ _)
  refine xi_getR (y := 29) (by decide +kernel : decode mX10_forget.2.1 1 = .ok (.getfield 49, 3)) fX10_49 rfl (by omega) rfl hb.2.2.2.2.2.1 (?_ : XW _ _ _ _ _ _ _ 4 _ _)
  refine xi_getI (by decide +kernel : decode mX10_forget.2.1 4 = .ok (.getfield 166, 3)) fX10_166 rfl (by omega) rfl (?_ : XW _ _ _ _ _ _ _ 7 _ _)
  refine xi_if_gt (by decide +kernel : decode mX10_forget.2.1 7 = .ok (.ifCond .gt 5, 3)) (by decide) (fun c => (?_ : XW _ _ _ _ _ _ _ 12 _ _)) (fun c => (?_ : XW _ _ _ _ _ _ _ 10 _ _))
  · replace vc := vc.1 c
    refine xi_aload_n (by decide +kernel : decode mX10_forget.2.1 12 = .ok (.aload_n 0, 1)) rfl rfl (?_ : XW _ _ _ _ _ _ _ 13 _ _)
    refine xi_getR (y := 29) (by decide +kernel : decode mX10_forget.2.1 13 = .ok (.getfield 49, 3)) fX10_49 rfl (by omega) rfl hb.2.2.2.2.2.1 (?_ : XW _ _ _ _ _ _ _ 16 _ _)
    refine xi_dup (by decide +kernel : decode mX10_forget.2.1 16 = .ok (.dup, 1)) rfl (?_ : XW _ _ _ _ _ _ _ 17 _ _)
    refine xi_getI (by decide +kernel : decode mX10_forget.2.1 17 = .ok (.getfield 166, 3)) fX10_166 rfl (by omega) rfl (?_ : XW _ _ _ _ _ _ _ 20 _ _)
    refine xi_iconst (v := 1) (by decide +kernel : decode mX10_forget.2.1 20 = .ok (.iconst 1, 1)) (by decide) (?_ : XW _ _ _ _ _ _ _ 21 _ _)
    refine xi_isub (by decide +kernel : decode mX10_forget.2.1 21 = .ok (.isub, 1)) (?_ : XW _ _ _ _ _ _ _ 22 _ _)
    refine xi_putI (by decide +kernel : decode mX10_forget.2.1 22 = .ok (.putfield 166, 3)) fX10_166 rfl (by omega) rfl rfl rfl (?_ : XW _ _ _ _ _ _ (xSI 29 (va_up (xI h 29) 2 ((xI h 29 2) - 1)) h) 25 _ _)
    refine xi_aload_n (by decide +kernel : decode mX10_forget.2.1 25 = .ok (.aload_n 0, 1)) rfl rfl (?_ : XW _ _ _ _ _ _ _ 26 _ _)
    refine xi_getR (y := 29) (by decide +kernel : decode mX10_forget.2.1 26 = .ok (.getfield 49, 3)) fX10_49 rfl (by omega) rfl hb.2.2.2.2.2.1 (?_ : XW _ _ _ _ _ _ _ 29 _ _)
    refine xi_getI (by decide +kernel : decode mX10_forget.2.1 29 = .ok (.getfield 166, 3)) fX10_166 rfl (by omega) rfl (?_ : XW _ _ _ _ _ _ _ 32 _ [.int (va_up (xI h 29) 2 ((xI h 29 2) - 1) 2)])
    exact xi_iret (by decide +kernel : decode mX10_forget.2.1 32 = .ok (.ireturn, 1)) rfl rfl vc
  · replace vc := vc.2 c
    refine xi_iconst (v := (-1)) (by decide +kernel : decode mX10_forget.2.1 10 = .ok (.iconst (-1), 1)) (by decide) (?_ : XW _ _ _ _ _ _ _ 11 _ _)
    exact xi_iret (by decide +kernel : decode mX10_forget.2.1 11 = .ok (.ireturn, 1)) rfl rfl vc

set_option maxRecDepth 20000 in
theorem v_X10_fault_0 {h : XH} {Q : Option Value → XH → Prop} {X : String → XH → Prop} (r : Nat) (hbp : BP r h) 
    (vc : Q (some (.int (xI h 0 2))) h) :
    XW (xrm 1 0 0) mX10_fault (xE 100 Q X 0 0) 100 0 0 h 0 [some (.ref 0)] [] := by
  obtain ⟨hb, hr, hnr, ha21, ha25, hu29, hu34, hw, hnt, hwr⟩ := hbp
  refine xi_aload_n (by decide +kernel : decode mX10_fault.2.1 0 = .ok (.aload_n 0, 1)) rfl rfl (?_ : XW _ _ _ _ _ _ _ 1 _ _)
  refine xi_getI (by decide +kernel : decode mX10_fault.2.1 1 = .ok (.getfield 17, 3)) fX10_17 rfl (by omega) rfl (?_ : XW _ _ _ _ _ _ _ 4 _ _)
  exact xi_iret (by decide +kernel : decode mX10_fault.2.1 4 = .ok (.ireturn, 1)) rfl rfl vc

set_option maxRecDepth 20000 in
theorem v_X10_often_0 {h : XH} {Q : Option Value → XH → Prop} {X : String → XH → Prop} (r : Nat) (hbp : BP r h)  (f : Int32)
    (vc : ∃ Q1 X1, XSpec mX10_needFace 7 1 6 100 100 [.ref 0, .int f] h Q1 X1 ∧ (∀ E9 h9, X1 E9 h9 → X E9 h9) ∧ ∀ v h1, Q1 v h1 → v = none ∧ ((xP h1 0 7 = some 29) ∧ (∃ Q1, XSpec mX7_timesThrown 2 0 0 100 100 [.ref 29, .int f] h1 Q1 xno ∧ ∀ v h2, Q1 v h2 → ∃ r2 : Int32, v = some (.int r2) ∧ (Q (some (.int r2)) h2)))) :
    XW (xrm 8 1 6) mX10_often (xE 100 Q X 1 6) 100 1 6 h 0 [some (.ref 0), some (.int f)] [] := by
  obtain ⟨hb, hr, hnr, ha21, ha25, hu29, hu34, hw, hnt, hwr⟩ := hbp
  refine xi_aload_n (by decide +kernel : decode mX10_often.2.1 0 = .ok (.aload_n 0, 1)) rfl rfl (?_ : XW _ _ _ _ _ _ _ 1 _ _)
  refine xi_iload_n (by decide +kernel : decode mX10_often.2.1 1 = .ok (.iload_n 1, 1)) rfl rfl (?_ : XW _ _ _ _ _ _ _ 2 _ _)
  obtain ⟨Q1, X1, sp, tx, vc⟩ := vc
  refine xi_callVX (b := 0) (bs := 0) (As := [.int f]) (st := []) (by decide +kernel : decode mX10_often.2.1 2 = .ok (.invokevirtual 187, 3)) kX10_187 rfl rfl (by omega) rfl sp (by decide) (by decide) (Nat.le_of_ble_eq_true rfl) (by omega) rfl tx (fun v9 h1 hq9 => ?_)
  obtain ⟨e9, vc⟩ := vc v9 h1 hq9
  subst e9
  show XW _ _ _ _ _ _ _ 5 _ []
  refine xi_aload_n (by decide +kernel : decode mX10_often.2.1 5 = .ok (.aload_n 0, 1)) rfl rfl (?_ : XW _ _ _ _ _ _ _ 6 _ _)
  obtain ⟨s1, vc⟩ := vc
  refine xi_getR (y := 29) (by decide +kernel : decode mX10_often.2.1 6 = .ok (.getfield 49, 3)) fX10_49 rfl (by omega) rfl s1 (?_ : XW _ _ _ _ _ _ _ 9 _ _)
  refine xi_iload_n (by decide +kernel : decode mX10_often.2.1 9 = .ok (.iload_n 1, 1)) rfl rfl (?_ : XW _ _ _ _ _ _ _ 10 _ _)
  obtain ⟨Q1, sp, vc⟩ := vc
  refine xi_callV (b := 0) (bs := 0) (As := [.int f]) (st := []) (by decide +kernel : decode mX10_often.2.1 10 = .ok (.invokevirtual 307, 3)) kX10_307 rfl rfl (by omega) rfl sp (by decide) (by decide) (Nat.le_of_ble_eq_true rfl) (by omega) (fun v9 h2 hq9 => ?_)
  obtain ⟨r2, e9, vc⟩ := vc v9 h2 hq9
  subst e9
  show XW _ _ _ _ _ _ _ 13 _ [.int r2]
  exact xi_iret (by decide +kernel : decode mX10_often.2.1 13 = .ok (.ireturn, 1)) rfl rfl vc

set_option maxRecDepth 20000 in
theorem v_X7_timesThrown_0 {h : XH} {Q : Option Value → XH → Prop} {X : String → XH → Prop} (r : Nat) (hbp : BP r h)  (f : Int32)
    (vc : XW (xrm 2 0 0) mX7_timesThrown (xE 100 Q X 0 0) 100 0 0 h 4 [some (.ref 29), some (.int f), some (.int 0), some (.int 0)] []) :
    XW (xrm 2 0 0) mX7_timesThrown (xE 100 Q X 0 0) 100 0 0 h 0 [some (.ref 29), some (.int f), none, none] [] := by
  obtain ⟨hb, hr, hnr, ha21, ha25, hu29, hu34, hw, hnt, hwr⟩ := hbp
  refine xi_iconst (v := 0) (by decide +kernel : decode mX7_timesThrown.2.1 0 = .ok (.iconst 0, 1)) (by decide) (?_ : XW _ _ _ _ _ _ _ 1 _ _)
  refine xi_istore_n (ls' := [some (.ref 29), some (.int f), some (.int 0), none]) (by decide +kernel : decode mX7_timesThrown.2.1 1 = .ok (.istore_n 2, 1)) rfl (by decide) rfl (?_ : XW _ _ _ _ _ _ _ 2 _ _)
  refine xi_iconst (v := 0) (by decide +kernel : decode mX7_timesThrown.2.1 2 = .ok (.iconst 0, 1)) (by decide) (?_ : XW _ _ _ _ _ _ _ 3 _ _)
  refine xi_istore_n (ls' := [some (.ref 29), some (.int f), some (.int 0), some (.int 0)]) (by decide +kernel : decode mX7_timesThrown.2.1 3 = .ok (.istore_n 3, 1)) rfl (by decide) rfl (?_ : XW _ _ _ _ _ _ _ 4 _ _)
  exact vc

set_option maxRecDepth 20000 in
theorem v_X7_timesThrown_4 {h : XH} {Q : Option Value → XH → Prop} {X : String → XH → Prop} (r : Nat) (hbp : BP r h)  (x1 : Int32) (x2 : Int32) (x3 : Int32)
    (vc : ((xI h 29 1) ≤ x3 → Q (some (.int x2)) h) ∧ (¬ (xI h 29 1) ≤ x3 → ∃ Q1, XSpec mX7_logged 1 0 0 100 100 [.ref 29, .int x3, .int 1] h Q1 xno ∧ ∀ v h1, Q1 v h1 → ∃ r1 : Int32, v = some (.int r1) ∧ ((¬ r1 = x1 → XW (xrm 2 0 0) mX7_timesThrown (xE 100 Q X 0 0) 100 0 0 h1 4 [some (.ref 29), some (.int x1), some (.int x2), some (.int (x3 + 1))] []) ∧ (r1 = x1 → XW (xrm 2 0 0) mX7_timesThrown (xE 100 Q X 0 0) 100 0 0 h1 4 [some (.ref 29), some (.int x1), some (.int (x2 + 1)), some (.int (x3 + 1))] [])))) :
    XW (xrm 2 0 0) mX7_timesThrown (xE 100 Q X 0 0) 100 0 0 h 4 [some (.ref 29), some (.int x1), some (.int x2), some (.int x3)] [] := by
  obtain ⟨hb, hr, hnr, ha21, ha25, hu29, hu34, hw, hnt, hwr⟩ := hbp
  refine xi_iload_n (by decide +kernel : decode mX7_timesThrown.2.1 4 = .ok (.iload_n 3, 1)) rfl rfl (?_ : XW _ _ _ _ _ _ _ 5 _ _)
  refine xi_aload_n (by decide +kernel : decode mX7_timesThrown.2.1 5 = .ok (.aload_n 0, 1)) rfl rfl (?_ : XW _ _ _ _ _ _ _ 6 _ _)
  refine xi_getI (by decide +kernel : decode mX7_timesThrown.2.1 6 = .ok (.getfield 46, 3)) fX7_46 rfl (by omega) rfl (?_ : XW _ _ _ _ _ _ _ 9 _ _)
  refine xi_icmp_ge (by decide +kernel : decode mX7_timesThrown.2.1 9 = .ok (.if_icmp .ge 22, 3)) (by decide) (fun c => (?_ : XW _ _ _ _ _ _ _ 31 _ _)) (fun c => (?_ : XW _ _ _ _ _ _ _ 12 _ _))
  · replace vc := vc.1 c
    refine xi_iload_n (by decide +kernel : decode mX7_timesThrown.2.1 31 = .ok (.iload_n 2, 1)) rfl rfl (?_ : XW _ _ _ _ _ _ _ 32 _ _)
    exact xi_iret (by decide +kernel : decode mX7_timesThrown.2.1 32 = .ok (.ireturn, 1)) rfl rfl vc
  · replace vc := vc.2 c
    refine xi_aload_n (by decide +kernel : decode mX7_timesThrown.2.1 12 = .ok (.aload_n 0, 1)) rfl rfl (?_ : XW _ _ _ _ _ _ _ 13 _ _)
    refine xi_iload_n (by decide +kernel : decode mX7_timesThrown.2.1 13 = .ok (.iload_n 3, 1)) rfl rfl (?_ : XW _ _ _ _ _ _ _ 14 _ _)
    refine xi_iconst (v := 1) (by decide +kernel : decode mX7_timesThrown.2.1 14 = .ok (.iconst 1, 1)) (by decide) (?_ : XW _ _ _ _ _ _ _ 15 _ _)
    obtain ⟨Q1, sp, vc⟩ := vc
    refine xi_callV (b := 0) (bs := 0) (As := [.int x3, .int 1]) (st := []) (by decide +kernel : decode mX7_timesThrown.2.1 15 = .ok (.invokevirtual 97, 3)) kX7_97 rfl rfl (by omega) rfl sp (by decide) (by decide) (Nat.le_of_ble_eq_true rfl) (by omega) (fun v9 h1 hq9 => ?_)
    obtain ⟨r1, e9, vc⟩ := vc v9 h1 hq9
    subst e9
    show XW _ _ _ _ _ _ _ 18 _ [.int r1]
    refine xi_iload_n (by decide +kernel : decode mX7_timesThrown.2.1 18 = .ok (.iload_n 1, 1)) rfl rfl (?_ : XW _ _ _ _ _ _ _ 19 _ _)
    refine xi_icmp_ne (by decide +kernel : decode mX7_timesThrown.2.1 19 = .ok (.if_icmp .ne 6, 3)) (by decide) (fun c => (?_ : XW _ _ _ _ _ _ _ 25 _ _)) (fun c => (?_ : XW _ _ _ _ _ _ _ 22 _ _))
    · replace vc := vc.1 c
      refine xi_iinc (v := x3 + 1) (ls' := [some (.ref 29), some (.int x1), some (.int x2), some (.int (x3 + 1))]) (by decide +kernel : decode mX7_timesThrown.2.1 25 = .ok (.iinc 3 1, 3)) rfl rfl (by decide) rfl (?_ : XW _ _ _ _ _ _ _ 28 _ _)
      refine xi_goto (by decide +kernel : decode mX7_timesThrown.2.1 28 = .ok (.goto (-24), 3)) (by decide) (?_ : XW _ _ _ _ _ _ _ 4 _ _)
      exact vc
    · replace vc := vc.2 c
      refine xi_iinc (v := x2 + 1) (ls' := [some (.ref 29), some (.int x1), some (.int (x2 + 1)), some (.int x3)]) (by decide +kernel : decode mX7_timesThrown.2.1 22 = .ok (.iinc 2 1, 3)) rfl rfl (by decide) rfl (?_ : XW _ _ _ _ _ _ _ 25 _ _)
      refine xi_iinc (v := x3 + 1) (ls' := [some (.ref 29), some (.int x1), some (.int (x2 + 1)), some (.int (x3 + 1))]) (by decide +kernel : decode mX7_timesThrown.2.1 25 = .ok (.iinc 3 1, 3)) rfl rfl (by decide) rfl (?_ : XW _ _ _ _ _ _ _ 28 _ _)
      refine xi_goto (by decide +kernel : decode mX7_timesThrown.2.1 28 = .ok (.goto (-24), 3)) (by decide) (?_ : XW _ _ _ _ _ _ _ 4 _ _)
      exact vc

set_option maxRecDepth 20000 in
theorem v_X11_count_0 {h : XH} {Q : Option Value → XH → Prop} {X : String → XH → Prop} (hM : xMod (xP h))  (w : Int32)
    (vc : ∃ Q1, XSpec mX11_isIn 1 0 0 100 100 [.long (Int32.toInt64 w), .long 0, .long 5] (xSI 56 (va_up (xI h 56) 2 0) h) Q1 xno ∧ ∀ v h1, Q1 v h1 → ∃ r1 : Int32, v = some (.int r1) ∧ ((r1 = 0 → ∃ Q1, XSpec mX11_isIn 1 0 0 100 100 [.long (Int32.toInt64 w), .long 21, .long 26] h1 Q1 xno ∧ ∀ v h2, Q1 v h2 → ∃ r2 : Int32, v = some (.int r2) ∧ ((r2 = 0 → (w = 6 → Q (some (.int (xI h2 56 34))) h2) ∧ (w = 7 → ∃ Q1, XSpec mX11_isOver 1 0 0 100 100 [.ref 56] h2 Q1 xno ∧ ∀ v h3, Q1 v h3 → ∃ r3 : Int32, v = some (.int r3) ∧ ((r3 = 0 → Q (some (.int (xI h3 56 33))) h3) ∧ (¬ r3 = 0 → Q (some (.int (-1))) h3))) ∧ (w = 8 → Q (some (.int (xI h2 56 46))) h2) ∧ (w = 9 → Q (some (.int (xI h2 56 11))) h2) ∧ (w = 10 → (xP h2 56 9 = some 65) ∧ ((vp_in (w - 10) 3) ∧ (Q (some (.int (xI h2 65 (w - 10).toNatClampNeg))) h2))) ∧ (w = 11 → (xP h2 56 9 = some 65) ∧ ((vp_in (w - 10) 3) ∧ (Q (some (.int (xI h2 65 (w - 10).toNatClampNeg))) h2))) ∧ (w = 12 → (xP h2 56 9 = some 65) ∧ ((vp_in (w - 10) 3) ∧ (Q (some (.int (xI h2 65 (w - 10).toNatClampNeg))) h2))) ∧ ((w.toInt < 6 ∨ 12 < w.toInt) → ∃ Q1, XSpec mX11_fail 1 0 0 100 100 [.ref 56, .int 1] h2 Q1 xno ∧ ∀ v h4, Q1 v h4 → ∃ r4 : Int32, v = some (.int r4) ∧ (Q (some (.int r4)) h4))) ∧ (¬ r2 = 0 → (xP h2 56 4 = some 60) ∧ ((vp_in (w - 21) 12) ∧ (Q (some (.int (xI h2 60 (w - 21).toNatClampNeg))) h2))))) ∧ (¬ r1 = 0 → (xP h1 56 3 = some 59) ∧ ((vp_in w 16) ∧ (Q (some (.int (xI h1 59 w.toNatClampNeg))) h1))))) :
    XW (xrm 2 0 0) mX11_count (xE 100 Q X 0 0) 100 0 0 h 0 [some (.ref 56), some (.int w)] [] := by
  refine xi_aload_n (by decide +kernel : decode mX11_count.2.1 0 = .ok (.aload_n 0, 1)) rfl rfl (?_ : XW _ _ _ _ _ _ _ 1 _ _)
  refine xi_iconst (v := 0) (by decide +kernel : decode mX11_count.2.1 1 = .ok (.iconst 0, 1)) (by decide) (?_ : XW _ _ _ _ _ _ _ 2 _ _)
  refine xi_putI (by decide +kernel : decode mX11_count.2.1 2 = .ok (.putfield 161, 3)) fX11_161 rfl (by omega) rfl rfl rfl (?_ : XW _ _ _ _ _ _ (xSI 56 (va_up (xI h 56) 2 0) h) 5 _ _)
  refine xi_iload_n (by decide +kernel : decode mX11_count.2.1 5 = .ok (.iload_n 1, 1)) rfl rfl (?_ : XW _ _ _ _ _ _ _ 6 _ _)
  refine xi_i2l (by decide +kernel : decode mX11_count.2.1 6 = .ok (.i2l, 1)) (?_ : XW _ _ _ _ _ _ _ 7 _ _)
  refine xi_lconst (v := 0) (by decide +kernel : decode mX11_count.2.1 7 = .ok (.lconst 0, 1)) (by decide) (?_ : XW _ _ _ _ _ _ _ 8 _ _)
  refine xi_ldc2 (v := 5) (by decide +kernel : decode mX11_count.2.1 8 = .ok (.ldc2_w 357, 3)) cK_X11_357 (?_ : XW _ _ _ _ _ _ _ 11 _ _)
  obtain ⟨Q1, sp, vc⟩ := vc
  refine xi_callS (b := 0) (bs := 0) (As := [.long (Int32.toInt64 w), .long 0, .long 5]) (st := []) (by decide +kernel : decode mX11_count.2.1 11 = .ok (.invokestatic 164, 3)) kX11_164 rfl rfl sp (by decide) (by decide) (Nat.le_of_ble_eq_true rfl) (by omega) (fun v9 h1 hq9 => ?_)
  obtain ⟨r1, e9, vc⟩ := vc v9 h1 hq9
  subst e9
  show XW _ _ _ _ _ _ _ 14 _ [.int r1]
  refine xi_if_eq (by decide +kernel : decode mX11_count.2.1 14 = .ok (.ifCond .eq 10, 3)) (by decide) (fun c => (?_ : XW _ _ _ _ _ _ _ 24 _ _)) (fun c => (?_ : XW _ _ _ _ _ _ _ 17 _ _))
  · replace vc := vc.1 c
    refine xi_iload_n (by decide +kernel : decode mX11_count.2.1 24 = .ok (.iload_n 1, 1)) rfl rfl (?_ : XW _ _ _ _ _ _ _ 25 _ _)
    refine xi_i2l (by decide +kernel : decode mX11_count.2.1 25 = .ok (.i2l, 1)) (?_ : XW _ _ _ _ _ _ _ 26 _ _)
    refine xi_ldc2 (v := 21) (by decide +kernel : decode mX11_count.2.1 26 = .ok (.ldc2_w 359, 3)) cK_X11_359 (?_ : XW _ _ _ _ _ _ _ 29 _ _)
    refine xi_ldc2 (v := 26) (by decide +kernel : decode mX11_count.2.1 29 = .ok (.ldc2_w 361, 3)) cK_X11_361 (?_ : XW _ _ _ _ _ _ _ 32 _ _)
    obtain ⟨Q1, sp, vc⟩ := vc
    refine xi_callS (b := 0) (bs := 0) (As := [.long (Int32.toInt64 w), .long 21, .long 26]) (st := []) (by decide +kernel : decode mX11_count.2.1 32 = .ok (.invokestatic 164, 3)) kX11_164 rfl rfl sp (by decide) (by decide) (Nat.le_of_ble_eq_true rfl) (by omega) (fun v9 h2 hq9 => ?_)
    obtain ⟨r2, e9, vc⟩ := vc v9 h2 hq9
    subst e9
    show XW _ _ _ _ _ _ _ 35 _ [.int r2]
    refine xi_if_eq (by decide +kernel : decode mX11_count.2.1 35 = .ok (.ifCond .eq 13, 3)) (by decide) (fun c => (?_ : XW _ _ _ _ _ _ _ 48 _ _)) (fun c => (?_ : XW _ _ _ _ _ _ _ 38 _ _))
    · replace vc := vc.1 c
      refine xi_iload_n (by decide +kernel : decode mX11_count.2.1 48 = .ok (.iload_n 1, 1)) rfl rfl (?_ : XW _ _ _ _ _ _ _ 49 _ _)
      by_cases c9 : w.toInt < 6 ∨ 12 < w.toInt
      · replace vc := vc.2.2.2.2.2.2.2 c9
        refine xi_tableOut (by decide +kernel : decode mX11_count.2.1 49 = .ok (.tableswitch 84 6 12 #[43, 48, 64, 69, 74, 74, 74], 43)) c9 (by decide) (?_ : XW _ _ _ _ _ _ _ 133 _ _)
        refine xi_aload_n (by decide +kernel : decode mX11_count.2.1 133 = .ok (.aload_n 0, 1)) rfl rfl (?_ : XW _ _ _ _ _ _ _ 134 _ _)
        refine xi_iconst (v := 1) (by decide +kernel : decode mX11_count.2.1 134 = .ok (.iconst 1, 1)) (by decide) (?_ : XW _ _ _ _ _ _ _ 135 _ _)
        obtain ⟨Q1, sp, vc⟩ := vc
        refine xi_callV (b := 0) (bs := 0) (As := [.int 1]) (st := []) (by decide +kernel : decode mX11_count.2.1 135 = .ok (.invokevirtual 311, 3)) kX11_311 rfl rfl (by omega) rfl sp (by decide) (by decide) (Nat.le_of_ble_eq_true rfl) (by omega) (fun v9 h4 hq9 => ?_)
        obtain ⟨r4, e9, vc⟩ := vc v9 h4 hq9
        subst e9
        show XW _ _ _ _ _ _ _ 138 _ [.int r4]
        exact xi_iret (by decide +kernel : decode mX11_count.2.1 138 = .ok (.ireturn, 1)) rfl rfl vc
      · have c8 := x_tabcases (lo := 6) (hi := 12) (by omega) (by omega) c9
        obtain ⟨j, hj, c7⟩ := c8
        have hj2 : j < 7 := by omega
        by_cases e0 : j = 0
        · subst e0
          have c6 : w = 6 := c7.trans (by decide)
          replace vc := vc.1 c6
          refine xi_tableIn (off := 43) (by decide +kernel : decode mX11_count.2.1 49 = .ok (.tableswitch 84 6 12 #[43, 48, 64, 69, 74, 74, 74], 43)) (by omega) (by omega) (by rw [c6]; decide) (by decide) (?_ : XW _ _ _ _ _ _ _ 92 _ _)
          refine xi_aload_n (by decide +kernel : decode mX11_count.2.1 92 = .ok (.aload_n 0, 1)) rfl rfl (?_ : XW _ _ _ _ _ _ _ 93 _ _)
          refine xi_getI (by decide +kernel : decode mX11_count.2.1 93 = .ok (.getfield 330, 3)) fX11_330 rfl (by omega) rfl (?_ : XW _ _ _ _ _ _ _ 96 _ _)
          exact xi_iret (by decide +kernel : decode mX11_count.2.1 96 = .ok (.ireturn, 1)) rfl rfl vc
        by_cases e1 : j = 1
        · subst e1
          have c6 : w = 7 := c7.trans (by decide)
          replace vc := vc.2.1 c6
          refine xi_tableIn (off := 48) (by decide +kernel : decode mX11_count.2.1 49 = .ok (.tableswitch 84 6 12 #[43, 48, 64, 69, 74, 74, 74], 43)) (by omega) (by omega) (by rw [c6]; decide) (by decide) (?_ : XW _ _ _ _ _ _ _ 97 _ _)
          refine xi_aload_n (by decide +kernel : decode mX11_count.2.1 97 = .ok (.aload_n 0, 1)) rfl rfl (?_ : XW _ _ _ _ _ _ _ 98 _ _)
          obtain ⟨Q1, sp, vc⟩ := vc
          refine xi_callV (b := 0) (bs := 0) (As := []) (st := []) (by decide +kernel : decode mX11_count.2.1 98 = .ok (.invokevirtual 363, 3)) kX11_363 rfl rfl (by omega) rfl sp (by decide) (by decide) (Nat.le_of_ble_eq_true rfl) (by omega) (fun v9 h3 hq9 => ?_)
          obtain ⟨r3, e9, vc⟩ := vc v9 h3 hq9
          subst e9
          show XW _ _ _ _ _ _ _ 101 _ [.int r3]
          refine xi_if_eq (by decide +kernel : decode mX11_count.2.1 101 = .ok (.ifCond .eq 7, 3)) (by decide) (fun c => (?_ : XW _ _ _ _ _ _ _ 108 _ _)) (fun c => (?_ : XW _ _ _ _ _ _ _ 104 _ _))
          · replace vc := vc.1 c
            refine xi_aload_n (by decide +kernel : decode mX11_count.2.1 108 = .ok (.aload_n 0, 1)) rfl rfl (?_ : XW _ _ _ _ _ _ _ 109 _ _)
            refine xi_getI (by decide +kernel : decode mX11_count.2.1 109 = .ok (.getfield 327, 3)) fX11_327 rfl (by omega) rfl (?_ : XW _ _ _ _ _ _ _ 112 _ _)
            exact xi_iret (by decide +kernel : decode mX11_count.2.1 112 = .ok (.ireturn, 1)) rfl rfl vc
          · replace vc := vc.2 c
            refine xi_iconst (v := (-1)) (by decide +kernel : decode mX11_count.2.1 104 = .ok (.iconst (-1), 1)) (by decide) (?_ : XW _ _ _ _ _ _ _ 105 _ _)
            refine xi_goto (by decide +kernel : decode mX11_count.2.1 105 = .ok (.goto 7, 3)) (by decide) (?_ : XW _ _ _ _ _ _ _ 112 _ _)
            exact xi_iret (by decide +kernel : decode mX11_count.2.1 112 = .ok (.ireturn, 1)) rfl rfl vc
        by_cases e2 : j = 2
        · subst e2
          have c6 : w = 8 := c7.trans (by decide)
          replace vc := vc.2.2.1 c6
          refine xi_tableIn (off := 64) (by decide +kernel : decode mX11_count.2.1 49 = .ok (.tableswitch 84 6 12 #[43, 48, 64, 69, 74, 74, 74], 43)) (by omega) (by omega) (by rw [c6]; decide) (by decide) (?_ : XW _ _ _ _ _ _ _ 113 _ _)
          refine xi_aload_n (by decide +kernel : decode mX11_count.2.1 113 = .ok (.aload_n 0, 1)) rfl rfl (?_ : XW _ _ _ _ _ _ _ 114 _ _)
          refine xi_getI (by decide +kernel : decode mX11_count.2.1 114 = .ok (.getfield 333, 3)) fX11_333 rfl (by omega) rfl (?_ : XW _ _ _ _ _ _ _ 117 _ _)
          exact xi_iret (by decide +kernel : decode mX11_count.2.1 117 = .ok (.ireturn, 1)) rfl rfl vc
        by_cases e3 : j = 3
        · subst e3
          have c6 : w = 9 := c7.trans (by decide)
          replace vc := vc.2.2.2.1 c6
          refine xi_tableIn (off := 69) (by decide +kernel : decode mX11_count.2.1 49 = .ok (.tableswitch 84 6 12 #[43, 48, 64, 69, 74, 74, 74], 43)) (by omega) (by omega) (by rw [c6]; decide) (by decide) (?_ : XW _ _ _ _ _ _ _ 118 _ _)
          refine xi_aload_n (by decide +kernel : decode mX11_count.2.1 118 = .ok (.aload_n 0, 1)) rfl rfl (?_ : XW _ _ _ _ _ _ _ 119 _ _)
          refine xi_getI (by decide +kernel : decode mX11_count.2.1 119 = .ok (.getfield 170, 3)) fX11_170 rfl (by omega) rfl (?_ : XW _ _ _ _ _ _ _ 122 _ _)
          exact xi_iret (by decide +kernel : decode mX11_count.2.1 122 = .ok (.ireturn, 1)) rfl rfl vc
        by_cases e4 : j = 4
        · subst e4
          have c6 : w = 10 := c7.trans (by decide)
          replace vc := vc.2.2.2.2.1 c6
          refine xi_tableIn (off := 74) (by decide +kernel : decode mX11_count.2.1 49 = .ok (.tableswitch 84 6 12 #[43, 48, 64, 69, 74, 74, 74], 43)) (by omega) (by omega) (by rw [c6]; decide) (by decide) (?_ : XW _ _ _ _ _ _ _ 123 _ _)
          refine xi_aload_n (by decide +kernel : decode mX11_count.2.1 123 = .ok (.aload_n 0, 1)) rfl rfl (?_ : XW _ _ _ _ _ _ _ 124 _ _)
          obtain ⟨s1, vc⟩ := vc
          refine xi_getR (y := 65) (by decide +kernel : decode mX11_count.2.1 124 = .ok (.getfield 51, 3)) fX11_51 rfl (by omega) rfl s1 (?_ : XW _ _ _ _ _ _ _ 127 _ _)
          refine xi_iload_n (by decide +kernel : decode mX11_count.2.1 127 = .ok (.iload_n 1, 1)) rfl rfl (?_ : XW _ _ _ _ _ _ _ 128 _ _)
          refine xi_bipush (v := 10) (by decide +kernel : decode mX11_count.2.1 128 = .ok (.bipush 10, 2)) (by decide) (?_ : XW _ _ _ _ _ _ _ 130 _ _)
          refine xi_isub (by decide +kernel : decode mX11_count.2.1 130 = .ok (.isub, 1)) (?_ : XW _ _ _ _ _ _ _ 131 _ _)
          obtain ⟨s1, vc⟩ := vc
          refine xi_iald (by decide +kernel : decode mX11_count.2.1 131 = .ok (.iaload, 1)) rfl (by omega) s1 (?_ : XW _ _ _ _ _ _ _ 132 _ _)
          exact xi_iret (by decide +kernel : decode mX11_count.2.1 132 = .ok (.ireturn, 1)) rfl rfl vc
        by_cases e5 : j = 5
        · subst e5
          have c6 : w = 11 := c7.trans (by decide)
          replace vc := vc.2.2.2.2.2.1 c6
          refine xi_tableIn (off := 74) (by decide +kernel : decode mX11_count.2.1 49 = .ok (.tableswitch 84 6 12 #[43, 48, 64, 69, 74, 74, 74], 43)) (by omega) (by omega) (by rw [c6]; decide) (by decide) (?_ : XW _ _ _ _ _ _ _ 123 _ _)
          refine xi_aload_n (by decide +kernel : decode mX11_count.2.1 123 = .ok (.aload_n 0, 1)) rfl rfl (?_ : XW _ _ _ _ _ _ _ 124 _ _)
          obtain ⟨s1, vc⟩ := vc
          refine xi_getR (y := 65) (by decide +kernel : decode mX11_count.2.1 124 = .ok (.getfield 51, 3)) fX11_51 rfl (by omega) rfl s1 (?_ : XW _ _ _ _ _ _ _ 127 _ _)
          refine xi_iload_n (by decide +kernel : decode mX11_count.2.1 127 = .ok (.iload_n 1, 1)) rfl rfl (?_ : XW _ _ _ _ _ _ _ 128 _ _)
          refine xi_bipush (v := 10) (by decide +kernel : decode mX11_count.2.1 128 = .ok (.bipush 10, 2)) (by decide) (?_ : XW _ _ _ _ _ _ _ 130 _ _)
          refine xi_isub (by decide +kernel : decode mX11_count.2.1 130 = .ok (.isub, 1)) (?_ : XW _ _ _ _ _ _ _ 131 _ _)
          obtain ⟨s1, vc⟩ := vc
          refine xi_iald (by decide +kernel : decode mX11_count.2.1 131 = .ok (.iaload, 1)) rfl (by omega) s1 (?_ : XW _ _ _ _ _ _ _ 132 _ _)
          exact xi_iret (by decide +kernel : decode mX11_count.2.1 132 = .ok (.ireturn, 1)) rfl rfl vc
        by_cases e6 : j = 6
        · subst e6
          have c6 : w = 12 := c7.trans (by decide)
          replace vc := vc.2.2.2.2.2.2.1 c6
          refine xi_tableIn (off := 74) (by decide +kernel : decode mX11_count.2.1 49 = .ok (.tableswitch 84 6 12 #[43, 48, 64, 69, 74, 74, 74], 43)) (by omega) (by omega) (by rw [c6]; decide) (by decide) (?_ : XW _ _ _ _ _ _ _ 123 _ _)
          refine xi_aload_n (by decide +kernel : decode mX11_count.2.1 123 = .ok (.aload_n 0, 1)) rfl rfl (?_ : XW _ _ _ _ _ _ _ 124 _ _)
          obtain ⟨s1, vc⟩ := vc
          refine xi_getR (y := 65) (by decide +kernel : decode mX11_count.2.1 124 = .ok (.getfield 51, 3)) fX11_51 rfl (by omega) rfl s1 (?_ : XW _ _ _ _ _ _ _ 127 _ _)
          refine xi_iload_n (by decide +kernel : decode mX11_count.2.1 127 = .ok (.iload_n 1, 1)) rfl rfl (?_ : XW _ _ _ _ _ _ _ 128 _ _)
          refine xi_bipush (v := 10) (by decide +kernel : decode mX11_count.2.1 128 = .ok (.bipush 10, 2)) (by decide) (?_ : XW _ _ _ _ _ _ _ 130 _ _)
          refine xi_isub (by decide +kernel : decode mX11_count.2.1 130 = .ok (.isub, 1)) (?_ : XW _ _ _ _ _ _ _ 131 _ _)
          obtain ⟨s1, vc⟩ := vc
          refine xi_iald (by decide +kernel : decode mX11_count.2.1 131 = .ok (.iaload, 1)) rfl (by omega) s1 (?_ : XW _ _ _ _ _ _ _ 132 _ _)
          exact xi_iret (by decide +kernel : decode mX11_count.2.1 132 = .ok (.ireturn, 1)) rfl rfl vc
        omega
    · replace vc := vc.2 c
      refine xi_aload_n (by decide +kernel : decode mX11_count.2.1 38 = .ok (.aload_n 0, 1)) rfl rfl (?_ : XW _ _ _ _ _ _ _ 39 _ _)
      obtain ⟨s1, vc⟩ := vc
      refine xi_getR (y := 60) (by decide +kernel : decode mX11_count.2.1 39 = .ok (.getfield 36, 3)) fX11_36 rfl (by omega) rfl s1 (?_ : XW _ _ _ _ _ _ _ 42 _ _)
      refine xi_iload_n (by decide +kernel : decode mX11_count.2.1 42 = .ok (.iload_n 1, 1)) rfl rfl (?_ : XW _ _ _ _ _ _ _ 43 _ _)
      refine xi_bipush (v := 21) (by decide +kernel : decode mX11_count.2.1 43 = .ok (.bipush 21, 2)) (by decide) (?_ : XW _ _ _ _ _ _ _ 45 _ _)
      refine xi_isub (by decide +kernel : decode mX11_count.2.1 45 = .ok (.isub, 1)) (?_ : XW _ _ _ _ _ _ _ 46 _ _)
      obtain ⟨s1, vc⟩ := vc
      refine xi_iald (by decide +kernel : decode mX11_count.2.1 46 = .ok (.iaload, 1)) rfl (by omega) s1 (?_ : XW _ _ _ _ _ _ _ 47 _ _)
      exact xi_iret (by decide +kernel : decode mX11_count.2.1 47 = .ok (.ireturn, 1)) rfl rfl vc
  · replace vc := vc.2 c
    refine xi_aload_n (by decide +kernel : decode mX11_count.2.1 17 = .ok (.aload_n 0, 1)) rfl rfl (?_ : XW _ _ _ _ _ _ _ 18 _ _)
    obtain ⟨s1, vc⟩ := vc
    refine xi_getR (y := 59) (by decide +kernel : decode mX11_count.2.1 18 = .ok (.getfield 32, 3)) fX11_32 rfl (by omega) rfl s1 (?_ : XW _ _ _ _ _ _ _ 21 _ _)
    refine xi_iload_n (by decide +kernel : decode mX11_count.2.1 21 = .ok (.iload_n 1, 1)) rfl rfl (?_ : XW _ _ _ _ _ _ _ 22 _ _)
    obtain ⟨s1, vc⟩ := vc
    refine xi_iald (by decide +kernel : decode mX11_count.2.1 22 = .ok (.iaload, 1)) rfl (by omega) s1 (?_ : XW _ _ _ _ _ _ _ 23 _ _)
    exact xi_iret (by decide +kernel : decode mX11_count.2.1 23 = .ok (.ireturn, 1)) rfl rfl vc

set_option maxRecDepth 20000 in
theorem v_X11_exit_0 {h : XH} {Q : Option Value → XH → Prop} {X : String → XH → Prop} (hM : xMod (xP h))  (e : Int32) (w : Int32)
    (vc : ∃ Q1, XSpec mX11_isIn 1 0 0 100 100 [.long (Int32.toInt64 e), .long 0, .long (Int32.toInt64 ((xI h 59 1) - 1))] (xSI 56 (va_up (xI h 56) 2 0) h) Q1 xno ∧ ∀ v h1, Q1 v h1 → ∃ r1 : Int32, v = some (.int r1) ∧ ((r1 = 0 → ∃ Q1, XSpec mX11_fail 1 0 0 100 100 [.ref 56, .int 1] h1 Q1 xno ∧ ∀ v h2, Q1 v h2 → ∃ r2 : Int32, v = some (.int r2) ∧ (Q (some (.int r2)) h2)) ∧ (¬ r1 = 0 → (w < 0 → ∃ Q1, XSpec mX11_fail 1 0 0 100 100 [.ref 56, .int 1] h1 Q1 xno ∧ ∀ v h3, Q1 v h3 → ∃ r3 : Int32, v = some (.int r3) ∧ (Q (some (.int r3)) h3)) ∧ (¬ w < 0 → (w ≤ 1 → (¬ w = 0 → (xP h1 56 6 = some 62) ∧ ((vp_in e 48) ∧ (Q (some (.int (xI h1 62 e.toNatClampNeg))) h1))) ∧ (w = 0 → (xP h1 56 5 = some 61) ∧ ((vp_in e 48) ∧ (Q (some (.int (xI h1 61 e.toNatClampNeg))) h1)))) ∧ (¬ w ≤ 1 → ∃ Q1, XSpec mX11_fail 1 0 0 100 100 [.ref 56, .int 1] h1 Q1 xno ∧ ∀ v h4, Q1 v h4 → ∃ r4 : Int32, v = some (.int r4) ∧ (Q (some (.int r4)) h4)))))) :
    XW (xrm 2 0 0) mX11_exit (xE 100 Q X 0 0) 100 0 0 h 0 [some (.ref 56), some (.int e), some (.int w)] [] := by
  refine xi_aload_n (by decide +kernel : decode mX11_exit.2.1 0 = .ok (.aload_n 0, 1)) rfl rfl (?_ : XW _ _ _ _ _ _ _ 1 _ _)
  refine xi_iconst (v := 0) (by decide +kernel : decode mX11_exit.2.1 1 = .ok (.iconst 0, 1)) (by decide) (?_ : XW _ _ _ _ _ _ _ 2 _ _)
  refine xi_putI (by decide +kernel : decode mX11_exit.2.1 2 = .ok (.putfield 161, 3)) fX11_161 rfl (by omega) rfl rfl rfl (?_ : XW _ _ _ _ _ _ (xSI 56 (va_up (xI h 56) 2 0) h) 5 _ _)
  refine xi_iload_n (by decide +kernel : decode mX11_exit.2.1 5 = .ok (.iload_n 1, 1)) rfl rfl (?_ : XW _ _ _ _ _ _ _ 6 _ _)
  refine xi_i2l (by decide +kernel : decode mX11_exit.2.1 6 = .ok (.i2l, 1)) (?_ : XW _ _ _ _ _ _ _ 7 _ _)
  refine xi_lconst (v := 0) (by decide +kernel : decode mX11_exit.2.1 7 = .ok (.lconst 0, 1)) (by decide) (?_ : XW _ _ _ _ _ _ _ 8 _ _)
  refine xi_aload_n (by decide +kernel : decode mX11_exit.2.1 8 = .ok (.aload_n 0, 1)) rfl rfl (?_ : XW _ _ _ _ _ _ _ 9 _ _)
  refine xi_getR (y := 59) (by decide +kernel : decode mX11_exit.2.1 9 = .ok (.getfield 32, 3)) fX11_32 rfl (by omega) rfl (mp_told hM) (?_ : XW _ _ _ _ _ _ _ 12 _ _)
  refine xi_iconst (v := 1) (by decide +kernel : decode mX11_exit.2.1 12 = .ok (.iconst 1, 1)) (by decide) (?_ : XW _ _ _ _ _ _ _ 13 _ _)
  refine xi_iald (by decide +kernel : decode mX11_exit.2.1 13 = .ok (.iaload, 1)) rfl (by omega) (by unfold vp_in; decide) (?_ : XW _ _ _ _ _ _ _ 14 _ [.int (xI h 59 1), .long 0, .long (Int32.toInt64 e)])
  refine xi_iconst (v := 1) (by decide +kernel : decode mX11_exit.2.1 14 = .ok (.iconst 1, 1)) (by decide) (?_ : XW _ _ _ _ _ _ _ 15 _ _)
  refine xi_isub (by decide +kernel : decode mX11_exit.2.1 15 = .ok (.isub, 1)) (?_ : XW _ _ _ _ _ _ _ 16 _ _)
  refine xi_i2l (by decide +kernel : decode mX11_exit.2.1 16 = .ok (.i2l, 1)) (?_ : XW _ _ _ _ _ _ _ 17 _ _)
  obtain ⟨Q1, sp, vc⟩ := vc
  refine xi_callS (b := 0) (bs := 0) (As := [.long (Int32.toInt64 e), .long 0, .long (Int32.toInt64 ((xI h 59 1) - 1))]) (st := []) (by decide +kernel : decode mX11_exit.2.1 17 = .ok (.invokestatic 164, 3)) kX11_164 rfl rfl sp (by decide) (by decide) (Nat.le_of_ble_eq_true rfl) (by omega) (fun v9 h1 hq9 => ?_)
  obtain ⟨r1, e9, vc⟩ := vc v9 h1 hq9
  subst e9
  show XW _ _ _ _ _ _ _ 20 _ [.int r1]
  refine xi_if_eq (by decide +kernel : decode mX11_exit.2.1 20 = .ok (.ifCond .eq 12, 3)) (by decide) (fun c => (?_ : XW _ _ _ _ _ _ _ 32 _ _)) (fun c => (?_ : XW _ _ _ _ _ _ _ 23 _ _))
  · replace vc := vc.1 c
    refine xi_aload_n (by decide +kernel : decode mX11_exit.2.1 32 = .ok (.aload_n 0, 1)) rfl rfl (?_ : XW _ _ _ _ _ _ _ 33 _ _)
    refine xi_iconst (v := 1) (by decide +kernel : decode mX11_exit.2.1 33 = .ok (.iconst 1, 1)) (by decide) (?_ : XW _ _ _ _ _ _ _ 34 _ _)
    obtain ⟨Q1, sp, vc⟩ := vc
    refine xi_callV (b := 0) (bs := 0) (As := [.int 1]) (st := []) (by decide +kernel : decode mX11_exit.2.1 34 = .ok (.invokevirtual 311, 3)) kX11_311 rfl rfl (by omega) rfl sp (by decide) (by decide) (Nat.le_of_ble_eq_true rfl) (by omega) (fun v9 h2 hq9 => ?_)
    obtain ⟨r2, e9, vc⟩ := vc v9 h2 hq9
    subst e9
    show XW _ _ _ _ _ _ _ 37 _ [.int r2]
    exact xi_iret (by decide +kernel : decode mX11_exit.2.1 37 = .ok (.ireturn, 1)) rfl rfl vc
  · replace vc := vc.2 c
    refine xi_iload_n (by decide +kernel : decode mX11_exit.2.1 23 = .ok (.iload_n 2, 1)) rfl rfl (?_ : XW _ _ _ _ _ _ _ 24 _ _)
    refine xi_if_lt (by decide +kernel : decode mX11_exit.2.1 24 = .ok (.ifCond .lt 8, 3)) (by decide) (fun c => (?_ : XW _ _ _ _ _ _ _ 32 _ _)) (fun c => (?_ : XW _ _ _ _ _ _ _ 27 _ _))
    · replace vc := vc.1 c
      refine xi_aload_n (by decide +kernel : decode mX11_exit.2.1 32 = .ok (.aload_n 0, 1)) rfl rfl (?_ : XW _ _ _ _ _ _ _ 33 _ _)
      refine xi_iconst (v := 1) (by decide +kernel : decode mX11_exit.2.1 33 = .ok (.iconst 1, 1)) (by decide) (?_ : XW _ _ _ _ _ _ _ 34 _ _)
      obtain ⟨Q1, sp, vc⟩ := vc
      refine xi_callV (b := 0) (bs := 0) (As := [.int 1]) (st := []) (by decide +kernel : decode mX11_exit.2.1 34 = .ok (.invokevirtual 311, 3)) kX11_311 rfl rfl (by omega) rfl sp (by decide) (by decide) (Nat.le_of_ble_eq_true rfl) (by omega) (fun v9 h3 hq9 => ?_)
      obtain ⟨r3, e9, vc⟩ := vc v9 h3 hq9
      subst e9
      show XW _ _ _ _ _ _ _ 37 _ [.int r3]
      exact xi_iret (by decide +kernel : decode mX11_exit.2.1 37 = .ok (.ireturn, 1)) rfl rfl vc
    · replace vc := vc.2 c
      refine xi_iload_n (by decide +kernel : decode mX11_exit.2.1 27 = .ok (.iload_n 2, 1)) rfl rfl (?_ : XW _ _ _ _ _ _ _ 28 _ _)
      refine xi_iconst (v := 1) (by decide +kernel : decode mX11_exit.2.1 28 = .ok (.iconst 1, 1)) (by decide) (?_ : XW _ _ _ _ _ _ _ 29 _ _)
      refine xi_icmp_le (by decide +kernel : decode mX11_exit.2.1 29 = .ok (.if_icmp .le 9, 3)) (by decide) (fun c => (?_ : XW _ _ _ _ _ _ _ 38 _ _)) (fun c => (?_ : XW _ _ _ _ _ _ _ 32 _ _))
      · replace vc := vc.1 c
        refine xi_iload_n (by decide +kernel : decode mX11_exit.2.1 38 = .ok (.iload_n 2, 1)) rfl rfl (?_ : XW _ _ _ _ _ _ _ 39 _ _)
        refine xi_if_ne (by decide +kernel : decode mX11_exit.2.1 39 = .ok (.ifCond .ne 12, 3)) (by decide) (fun c => (?_ : XW _ _ _ _ _ _ _ 51 _ _)) (fun c => (?_ : XW _ _ _ _ _ _ _ 42 _ _))
        · replace vc := vc.1 c
          refine xi_aload_n (by decide +kernel : decode mX11_exit.2.1 51 = .ok (.aload_n 0, 1)) rfl rfl (?_ : XW _ _ _ _ _ _ _ 52 _ _)
          obtain ⟨s1, vc⟩ := vc
          refine xi_getR (y := 62) (by decide +kernel : decode mX11_exit.2.1 52 = .ok (.getfield 42, 3)) fX11_42 rfl (by omega) rfl s1 (?_ : XW _ _ _ _ _ _ _ 55 _ _)
          refine xi_iload_n (by decide +kernel : decode mX11_exit.2.1 55 = .ok (.iload_n 1, 1)) rfl rfl (?_ : XW _ _ _ _ _ _ _ 56 _ _)
          obtain ⟨s1, vc⟩ := vc
          refine xi_iald (by decide +kernel : decode mX11_exit.2.1 56 = .ok (.iaload, 1)) rfl (by omega) s1 (?_ : XW _ _ _ _ _ _ _ 57 _ _)
          exact xi_iret (by decide +kernel : decode mX11_exit.2.1 57 = .ok (.ireturn, 1)) rfl rfl vc
        · replace vc := vc.2 c
          refine xi_aload_n (by decide +kernel : decode mX11_exit.2.1 42 = .ok (.aload_n 0, 1)) rfl rfl (?_ : XW _ _ _ _ _ _ _ 43 _ _)
          obtain ⟨s1, vc⟩ := vc
          refine xi_getR (y := 61) (by decide +kernel : decode mX11_exit.2.1 43 = .ok (.getfield 39, 3)) fX11_39 rfl (by omega) rfl s1 (?_ : XW _ _ _ _ _ _ _ 46 _ _)
          refine xi_iload_n (by decide +kernel : decode mX11_exit.2.1 46 = .ok (.iload_n 1, 1)) rfl rfl (?_ : XW _ _ _ _ _ _ _ 47 _ _)
          obtain ⟨s1, vc⟩ := vc
          refine xi_iald (by decide +kernel : decode mX11_exit.2.1 47 = .ok (.iaload, 1)) rfl (by omega) s1 (?_ : XW _ _ _ _ _ _ _ 48 _ _)
          refine xi_goto (by decide +kernel : decode mX11_exit.2.1 48 = .ok (.goto 9, 3)) (by decide) (?_ : XW _ _ _ _ _ _ _ 57 _ _)
          exact xi_iret (by decide +kernel : decode mX11_exit.2.1 57 = .ok (.ireturn, 1)) rfl rfl vc
      · replace vc := vc.2 c
        refine xi_aload_n (by decide +kernel : decode mX11_exit.2.1 32 = .ok (.aload_n 0, 1)) rfl rfl (?_ : XW _ _ _ _ _ _ _ 33 _ _)
        refine xi_iconst (v := 1) (by decide +kernel : decode mX11_exit.2.1 33 = .ok (.iconst 1, 1)) (by decide) (?_ : XW _ _ _ _ _ _ _ 34 _ _)
        obtain ⟨Q1, sp, vc⟩ := vc
        refine xi_callV (b := 0) (bs := 0) (As := [.int 1]) (st := []) (by decide +kernel : decode mX11_exit.2.1 34 = .ok (.invokevirtual 311, 3)) kX11_311 rfl rfl (by omega) rfl sp (by decide) (by decide) (Nat.le_of_ble_eq_true rfl) (by omega) (fun v9 h4 hq9 => ?_)
        obtain ⟨r4, e9, vc⟩ := vc v9 h4 hq9
        subst e9
        show XW _ _ _ _ _ _ _ 37 _ [.int r4]
        exact xi_iret (by decide +kernel : decode mX11_exit.2.1 37 = .ok (.ireturn, 1)) rfl rfl vc

set_option maxRecDepth 20000 in
theorem v_X11_goes_0 {h : XH} {Q : Option Value → XH → Prop} {X : String → XH → Prop} (hM : xMod (xP h))  (q : Int32) (f : Int32)
    (vc : ∃ Q1, XSpec mX11_isSquare 2 0 0 100 100 [.ref 56, .int q] (xSI 56 (va_up (xI h 56) 2 0) h) Q1 xno ∧ ∀ v h1, Q1 v h1 → ∃ r1 : Int32, v = some (.int r1) ∧ ((r1 = 0 → ∃ Q1, XSpec mX11_fail 1 0 0 100 100 [.ref 56, .int 1] h1 Q1 xno ∧ ∀ v h2, Q1 v h2 → ∃ r2 : Int32, v = some (.int r2) ∧ (Q (some (.int r2)) h2)) ∧ (¬ r1 = 0 → ∃ Q1, XSpec mX11_isFace 2 0 0 100 100 [.int f] h1 Q1 xno ∧ ∀ v h3, Q1 v h3 → ∃ r3 : Int32, v = some (.int r3) ∧ ((¬ r3 = 0 → ∃ Q1, XSpec mX11_tellBoard 5 0 0 100 100 [.ref 56] h3 Q1 xno ∧ ∀ v h4, Q1 v h4 → v = none ∧ ((xP h4 56 21 = some 67) ∧ ((vp_in ((101 * f) + q) 707) ∧ (Q (some (.int (xI h4 67 ((101 * f) + q).toNatClampNeg))) h4)))) ∧ (r3 = 0 → ∃ Q1, XSpec mX11_fail 1 0 0 100 100 [.ref 56, .int 1] h3 Q1 xno ∧ ∀ v h5, Q1 v h5 → ∃ r5 : Int32, v = some (.int r5) ∧ (Q (some (.int r5)) h5)))))) :
    XW (xrm 6 0 0) mX11_goes (xE 100 Q X 0 0) 100 0 0 h 0 [some (.ref 56), some (.int q), some (.int f)] [] := by
  refine xi_aload_n (by decide +kernel : decode mX11_goes.2.1 0 = .ok (.aload_n 0, 1)) rfl rfl (?_ : XW _ _ _ _ _ _ _ 1 _ _)
  refine xi_iconst (v := 0) (by decide +kernel : decode mX11_goes.2.1 1 = .ok (.iconst 0, 1)) (by decide) (?_ : XW _ _ _ _ _ _ _ 2 _ _)
  refine xi_putI (by decide +kernel : decode mX11_goes.2.1 2 = .ok (.putfield 161, 3)) fX11_161 rfl (by omega) rfl rfl rfl (?_ : XW _ _ _ _ _ _ (xSI 56 (va_up (xI h 56) 2 0) h) 5 _ _)
  refine xi_aload_n (by decide +kernel : decode mX11_goes.2.1 5 = .ok (.aload_n 0, 1)) rfl rfl (?_ : XW _ _ _ _ _ _ _ 6 _ _)
  refine xi_iload_n (by decide +kernel : decode mX11_goes.2.1 6 = .ok (.iload_n 1, 1)) rfl rfl (?_ : XW _ _ _ _ _ _ _ 7 _ _)
  obtain ⟨Q1, sp, vc⟩ := vc
  refine xi_callV (b := 0) (bs := 0) (As := [.int q]) (st := []) (by decide +kernel : decode mX11_goes.2.1 7 = .ok (.invokevirtual 367, 3)) kX11_367 rfl rfl (by omega) rfl sp (by decide) (by decide) (Nat.le_of_ble_eq_true rfl) (by omega) (fun v9 h1 hq9 => ?_)
  obtain ⟨r1, e9, vc⟩ := vc v9 h1 hq9
  subst e9
  show XW _ _ _ _ _ _ _ 10 _ [.int r1]
  refine xi_if_eq (by decide +kernel : decode mX11_goes.2.1 10 = .ok (.ifCond .eq 10, 3)) (by decide) (fun c => (?_ : XW _ _ _ _ _ _ _ 20 _ _)) (fun c => (?_ : XW _ _ _ _ _ _ _ 13 _ _))
  · replace vc := vc.1 c
    refine xi_aload_n (by decide +kernel : decode mX11_goes.2.1 20 = .ok (.aload_n 0, 1)) rfl rfl (?_ : XW _ _ _ _ _ _ _ 21 _ _)
    refine xi_iconst (v := 1) (by decide +kernel : decode mX11_goes.2.1 21 = .ok (.iconst 1, 1)) (by decide) (?_ : XW _ _ _ _ _ _ _ 22 _ _)
    obtain ⟨Q1, sp, vc⟩ := vc
    refine xi_callV (b := 0) (bs := 0) (As := [.int 1]) (st := []) (by decide +kernel : decode mX11_goes.2.1 22 = .ok (.invokevirtual 311, 3)) kX11_311 rfl rfl (by omega) rfl sp (by decide) (by decide) (Nat.le_of_ble_eq_true rfl) (by omega) (fun v9 h2 hq9 => ?_)
    obtain ⟨r2, e9, vc⟩ := vc v9 h2 hq9
    subst e9
    show XW _ _ _ _ _ _ _ 25 _ [.int r2]
    exact xi_iret (by decide +kernel : decode mX11_goes.2.1 25 = .ok (.ireturn, 1)) rfl rfl vc
  · replace vc := vc.2 c
    refine xi_iload_n (by decide +kernel : decode mX11_goes.2.1 13 = .ok (.iload_n 2, 1)) rfl rfl (?_ : XW _ _ _ _ _ _ _ 14 _ _)
    obtain ⟨Q1, sp, vc⟩ := vc
    refine xi_callS (b := 0) (bs := 0) (As := [.int f]) (st := []) (by decide +kernel : decode mX11_goes.2.1 14 = .ok (.invokestatic 370, 3)) kX11_370 rfl rfl sp (by decide) (by decide) (Nat.le_of_ble_eq_true rfl) (by omega) (fun v9 h3 hq9 => ?_)
    obtain ⟨r3, e9, vc⟩ := vc v9 h3 hq9
    subst e9
    show XW _ _ _ _ _ _ _ 17 _ [.int r3]
    refine xi_if_ne (by decide +kernel : decode mX11_goes.2.1 17 = .ok (.ifCond .ne 9, 3)) (by decide) (fun c => (?_ : XW _ _ _ _ _ _ _ 26 _ _)) (fun c => (?_ : XW _ _ _ _ _ _ _ 20 _ _))
    · replace vc := vc.1 c
      refine xi_aload_n (by decide +kernel : decode mX11_goes.2.1 26 = .ok (.aload_n 0, 1)) rfl rfl (?_ : XW _ _ _ _ _ _ _ 27 _ _)
      obtain ⟨Q1, sp, vc⟩ := vc
      refine xi_callV (b := 0) (bs := 0) (As := []) (st := []) (by decide +kernel : decode mX11_goes.2.1 27 = .ok (.invokevirtual 373, 3)) kX11_373 rfl rfl (by omega) rfl sp (by decide) (by decide) (Nat.le_of_ble_eq_true rfl) (by omega) (fun v9 h4 hq9 => ?_)
      obtain ⟨e9, vc⟩ := vc v9 h4 hq9
      subst e9
      show XW _ _ _ _ _ _ _ 30 _ []
      refine xi_aload_n (by decide +kernel : decode mX11_goes.2.1 30 = .ok (.aload_n 0, 1)) rfl rfl (?_ : XW _ _ _ _ _ _ _ 31 _ _)
      obtain ⟨s1, vc⟩ := vc
      refine xi_getR (y := 67) (by decide +kernel : decode mX11_goes.2.1 31 = .ok (.getfield 61, 3)) fX11_61 rfl (by omega) rfl s1 (?_ : XW _ _ _ _ _ _ _ 34 _ _)
      refine xi_bipush (v := 101) (by decide +kernel : decode mX11_goes.2.1 34 = .ok (.bipush 101, 2)) (by decide) (?_ : XW _ _ _ _ _ _ _ 36 _ _)
      refine xi_iload_n (by decide +kernel : decode mX11_goes.2.1 36 = .ok (.iload_n 2, 1)) rfl rfl (?_ : XW _ _ _ _ _ _ _ 37 _ _)
      refine xi_imul (by decide +kernel : decode mX11_goes.2.1 37 = .ok (.imul, 1)) (?_ : XW _ _ _ _ _ _ _ 38 _ _)
      refine xi_iload_n (by decide +kernel : decode mX11_goes.2.1 38 = .ok (.iload_n 1, 1)) rfl rfl (?_ : XW _ _ _ _ _ _ _ 39 _ _)
      refine xi_iadd (by decide +kernel : decode mX11_goes.2.1 39 = .ok (.iadd, 1)) (?_ : XW _ _ _ _ _ _ _ 40 _ _)
      obtain ⟨s1, vc⟩ := vc
      refine xi_iald (by decide +kernel : decode mX11_goes.2.1 40 = .ok (.iaload, 1)) rfl (by omega) s1 (?_ : XW _ _ _ _ _ _ _ 41 _ _)
      exact xi_iret (by decide +kernel : decode mX11_goes.2.1 41 = .ok (.ireturn, 1)) rfl rfl vc
    · replace vc := vc.2 c
      refine xi_aload_n (by decide +kernel : decode mX11_goes.2.1 20 = .ok (.aload_n 0, 1)) rfl rfl (?_ : XW _ _ _ _ _ _ _ 21 _ _)
      refine xi_iconst (v := 1) (by decide +kernel : decode mX11_goes.2.1 21 = .ok (.iconst 1, 1)) (by decide) (?_ : XW _ _ _ _ _ _ _ 22 _ _)
      obtain ⟨Q1, sp, vc⟩ := vc
      refine xi_callV (b := 0) (bs := 0) (As := [.int 1]) (st := []) (by decide +kernel : decode mX11_goes.2.1 22 = .ok (.invokevirtual 311, 3)) kX11_311 rfl rfl (by omega) rfl sp (by decide) (by decide) (Nat.le_of_ble_eq_true rfl) (by omega) (fun v9 h5 hq9 => ?_)
      obtain ⟨r5, e9, vc⟩ := vc v9 h5 hq9
      subst e9
      show XW _ _ _ _ _ _ _ 25 _ [.int r5]
      exact xi_iret (by decide +kernel : decode mX11_goes.2.1 25 = .ok (.ireturn, 1)) rfl rfl vc

set_option maxRecDepth 20000 in
theorem v_X11_piece_0 {h : XH} {Q : Option Value → XH → Prop} {X : String → XH → Prop} (hM : xMod (xP h))  (p : Int32)
    (vc : ∃ Q1, XSpec mX11_isIn 1 0 0 100 100 [.long (Int32.toInt64 p), .long 0, .long (Int32.toInt64 ((xI h 59 2) - 1))] (xSI 56 (va_up (xI h 56) 2 0) h) Q1 xno ∧ ∀ v h1, Q1 v h1 → ∃ r1 : Int32, v = some (.int r1) ∧ ((r1 = 0 → ∃ Q1, XSpec mX11_fail 1 0 0 100 100 [.ref 56, .int 1] h1 Q1 xno ∧ ∀ v h2, Q1 v h2 → ∃ r2 : Int32, v = some (.int r2) ∧ (Q (some (.int r2)) h2)) ∧ (¬ r1 = 0 → (xP h1 56 25 = some 71) ∧ ((vp_in p 4) ∧ (Q (some (.int (xI h1 71 p.toNatClampNeg))) h1))))) :
    XW (xrm 2 0 0) mX11_piece (xE 100 Q X 0 0) 100 0 0 h 0 [some (.ref 56), some (.int p)] [] := by
  refine xi_aload_n (by decide +kernel : decode mX11_piece.2.1 0 = .ok (.aload_n 0, 1)) rfl rfl (?_ : XW _ _ _ _ _ _ _ 1 _ _)
  refine xi_iconst (v := 0) (by decide +kernel : decode mX11_piece.2.1 1 = .ok (.iconst 0, 1)) (by decide) (?_ : XW _ _ _ _ _ _ _ 2 _ _)
  refine xi_putI (by decide +kernel : decode mX11_piece.2.1 2 = .ok (.putfield 161, 3)) fX11_161 rfl (by omega) rfl rfl rfl (?_ : XW _ _ _ _ _ _ (xSI 56 (va_up (xI h 56) 2 0) h) 5 _ _)
  refine xi_iload_n (by decide +kernel : decode mX11_piece.2.1 5 = .ok (.iload_n 1, 1)) rfl rfl (?_ : XW _ _ _ _ _ _ _ 6 _ _)
  refine xi_i2l (by decide +kernel : decode mX11_piece.2.1 6 = .ok (.i2l, 1)) (?_ : XW _ _ _ _ _ _ _ 7 _ _)
  refine xi_lconst (v := 0) (by decide +kernel : decode mX11_piece.2.1 7 = .ok (.lconst 0, 1)) (by decide) (?_ : XW _ _ _ _ _ _ _ 8 _ _)
  refine xi_aload_n (by decide +kernel : decode mX11_piece.2.1 8 = .ok (.aload_n 0, 1)) rfl rfl (?_ : XW _ _ _ _ _ _ _ 9 _ _)
  refine xi_getR (y := 59) (by decide +kernel : decode mX11_piece.2.1 9 = .ok (.getfield 32, 3)) fX11_32 rfl (by omega) rfl (mp_told hM) (?_ : XW _ _ _ _ _ _ _ 12 _ _)
  refine xi_iconst (v := 2) (by decide +kernel : decode mX11_piece.2.1 12 = .ok (.iconst 2, 1)) (by decide) (?_ : XW _ _ _ _ _ _ _ 13 _ _)
  refine xi_iald (by decide +kernel : decode mX11_piece.2.1 13 = .ok (.iaload, 1)) rfl (by omega) (by unfold vp_in; decide) (?_ : XW _ _ _ _ _ _ _ 14 _ [.int (xI h 59 2), .long 0, .long (Int32.toInt64 p)])
  refine xi_iconst (v := 1) (by decide +kernel : decode mX11_piece.2.1 14 = .ok (.iconst 1, 1)) (by decide) (?_ : XW _ _ _ _ _ _ _ 15 _ _)
  refine xi_isub (by decide +kernel : decode mX11_piece.2.1 15 = .ok (.isub, 1)) (?_ : XW _ _ _ _ _ _ _ 16 _ _)
  refine xi_i2l (by decide +kernel : decode mX11_piece.2.1 16 = .ok (.i2l, 1)) (?_ : XW _ _ _ _ _ _ _ 17 _ _)
  obtain ⟨Q1, sp, vc⟩ := vc
  refine xi_callS (b := 0) (bs := 0) (As := [.long (Int32.toInt64 p), .long 0, .long (Int32.toInt64 ((xI h 59 2) - 1))]) (st := []) (by decide +kernel : decode mX11_piece.2.1 17 = .ok (.invokestatic 164, 3)) kX11_164 rfl rfl sp (by decide) (by decide) (Nat.le_of_ble_eq_true rfl) (by omega) (fun v9 h1 hq9 => ?_)
  obtain ⟨r1, e9, vc⟩ := vc v9 h1 hq9
  subst e9
  show XW _ _ _ _ _ _ _ 20 _ [.int r1]
  refine xi_if_eq (by decide +kernel : decode mX11_piece.2.1 20 = .ok (.ifCond .eq 12, 3)) (by decide) (fun c => (?_ : XW _ _ _ _ _ _ _ 32 _ _)) (fun c => (?_ : XW _ _ _ _ _ _ _ 23 _ _))
  · replace vc := vc.1 c
    refine xi_aload_n (by decide +kernel : decode mX11_piece.2.1 32 = .ok (.aload_n 0, 1)) rfl rfl (?_ : XW _ _ _ _ _ _ _ 33 _ _)
    refine xi_iconst (v := 1) (by decide +kernel : decode mX11_piece.2.1 33 = .ok (.iconst 1, 1)) (by decide) (?_ : XW _ _ _ _ _ _ _ 34 _ _)
    obtain ⟨Q1, sp, vc⟩ := vc
    refine xi_callV (b := 0) (bs := 0) (As := [.int 1]) (st := []) (by decide +kernel : decode mX11_piece.2.1 34 = .ok (.invokevirtual 311, 3)) kX11_311 rfl rfl (by omega) rfl sp (by decide) (by decide) (Nat.le_of_ble_eq_true rfl) (by omega) (fun v9 h2 hq9 => ?_)
    obtain ⟨r2, e9, vc⟩ := vc v9 h2 hq9
    subst e9
    show XW _ _ _ _ _ _ _ 37 _ [.int r2]
    exact xi_iret (by decide +kernel : decode mX11_piece.2.1 37 = .ok (.ireturn, 1)) rfl rfl vc
  · replace vc := vc.2 c
    refine xi_aload_n (by decide +kernel : decode mX11_piece.2.1 23 = .ok (.aload_n 0, 1)) rfl rfl (?_ : XW _ _ _ _ _ _ _ 24 _ _)
    obtain ⟨s1, vc⟩ := vc
    refine xi_getR (y := 71) (by decide +kernel : decode mX11_piece.2.1 24 = .ok (.getfield 73, 3)) fX11_73 rfl (by omega) rfl s1 (?_ : XW _ _ _ _ _ _ _ 27 _ _)
    refine xi_iload_n (by decide +kernel : decode mX11_piece.2.1 27 = .ok (.iload_n 1, 1)) rfl rfl (?_ : XW _ _ _ _ _ _ _ 28 _ _)
    obtain ⟨s1, vc⟩ := vc
    refine xi_iald (by decide +kernel : decode mX11_piece.2.1 28 = .ok (.iaload, 1)) rfl (by omega) s1 (?_ : XW _ _ _ _ _ _ _ 29 _ _)
    refine xi_goto (by decide +kernel : decode mX11_piece.2.1 29 = .ok (.goto 8, 3)) (by decide) (?_ : XW _ _ _ _ _ _ _ 37 _ _)
    exact xi_iret (by decide +kernel : decode mX11_piece.2.1 37 = .ok (.ireturn, 1)) rfl rfl vc

set_option maxRecDepth 20000 in
theorem v_X11_rolled_0 {h : XH} {Q : Option Value → XH → Prop} {X : String → XH → Prop} (hM : xMod (xP h))  (i : Int32) (w : Int32)
    (vc : ∃ Q1, XSpec mX11_isIn 1 0 0 100 100 [.long (Int32.toInt64 i), .long 0, .long (Int32.toInt64 ((va_up (xI h 56) 2 0 34) - 1))] (xSI 56 (va_up (xI h 56) 2 0) h) Q1 xno ∧ ∀ v h1, Q1 v h1 → ∃ r1 : Int32, v = some (.int r1) ∧ ((¬ r1 = 0 → (¬ w = 0 → (¬ w = 1 → (¬ w = 2 → (¬ w = 3 → (¬ w = 4 → ∃ Q1, XSpec mX11_fail 1 0 0 100 100 [.ref 56, .int 1] h1 Q1 xno ∧ ∀ v h2, Q1 v h2 → ∃ r2 : Int32, v = some (.int r2) ∧ (Q (some (.int r2)) h2)) ∧ (w = 4 → (xP h1 56 30 = some 76) ∧ ((vp_in i 200) ∧ (Q (some (.int (xI h1 76 i.toNatClampNeg))) h1)))) ∧ (w = 3 → (xP h1 56 29 = some 75) ∧ ((vp_in i 200) ∧ (Q (some (.int (xI h1 75 i.toNatClampNeg))) h1)))) ∧ (w = 2 → (xP h1 56 28 = some 74) ∧ ((vp_in i 200) ∧ (Q (some (.int (xI h1 74 i.toNatClampNeg))) h1)))) ∧ (w = 1 → (xP h1 56 27 = some 73) ∧ ((vp_in i 200) ∧ (Q (some (.int (xI h1 73 i.toNatClampNeg))) h1)))) ∧ (w = 0 → (xP h1 56 26 = some 72) ∧ ((vp_in i 200) ∧ (Q (some (.int (xI h1 72 i.toNatClampNeg))) h1)))) ∧ (r1 = 0 → ∃ Q1, XSpec mX11_fail 1 0 0 100 100 [.ref 56, .int 1] h1 Q1 xno ∧ ∀ v h3, Q1 v h3 → ∃ r3 : Int32, v = some (.int r3) ∧ (Q (some (.int r3)) h3)))) :
    XW (xrm 2 0 0) mX11_rolled (xE 100 Q X 0 0) 100 0 0 h 0 [some (.ref 56), some (.int i), some (.int w)] [] := by
  refine xi_aload_n (by decide +kernel : decode mX11_rolled.2.1 0 = .ok (.aload_n 0, 1)) rfl rfl (?_ : XW _ _ _ _ _ _ _ 1 _ _)
  refine xi_iconst (v := 0) (by decide +kernel : decode mX11_rolled.2.1 1 = .ok (.iconst 0, 1)) (by decide) (?_ : XW _ _ _ _ _ _ _ 2 _ _)
  refine xi_putI (by decide +kernel : decode mX11_rolled.2.1 2 = .ok (.putfield 161, 3)) fX11_161 rfl (by omega) rfl rfl rfl (?_ : XW _ _ _ _ _ _ (xSI 56 (va_up (xI h 56) 2 0) h) 5 _ _)
  refine xi_iload_n (by decide +kernel : decode mX11_rolled.2.1 5 = .ok (.iload_n 1, 1)) rfl rfl (?_ : XW _ _ _ _ _ _ _ 6 _ _)
  refine xi_i2l (by decide +kernel : decode mX11_rolled.2.1 6 = .ok (.i2l, 1)) (?_ : XW _ _ _ _ _ _ _ 7 _ _)
  refine xi_lconst (v := 0) (by decide +kernel : decode mX11_rolled.2.1 7 = .ok (.lconst 0, 1)) (by decide) (?_ : XW _ _ _ _ _ _ _ 8 _ _)
  refine xi_aload_n (by decide +kernel : decode mX11_rolled.2.1 8 = .ok (.aload_n 0, 1)) rfl rfl (?_ : XW _ _ _ _ _ _ _ 9 _ _)
  refine xi_getI (by decide +kernel : decode mX11_rolled.2.1 9 = .ok (.getfield 330, 3)) fX11_330 rfl (by omega) rfl (?_ : XW _ _ _ _ _ _ _ 12 _ [.int (va_up (xI h 56) 2 0 34), .long 0, .long (Int32.toInt64 i)])
  refine xi_iconst (v := 1) (by decide +kernel : decode mX11_rolled.2.1 12 = .ok (.iconst 1, 1)) (by decide) (?_ : XW _ _ _ _ _ _ _ 13 _ _)
  refine xi_isub (by decide +kernel : decode mX11_rolled.2.1 13 = .ok (.isub, 1)) (?_ : XW _ _ _ _ _ _ _ 14 _ _)
  refine xi_i2l (by decide +kernel : decode mX11_rolled.2.1 14 = .ok (.i2l, 1)) (?_ : XW _ _ _ _ _ _ _ 15 _ _)
  obtain ⟨Q1, sp, vc⟩ := vc
  refine xi_callS (b := 0) (bs := 0) (As := [.long (Int32.toInt64 i), .long 0, .long (Int32.toInt64 ((va_up (xI h 56) 2 0 34) - 1))]) (st := []) (by decide +kernel : decode mX11_rolled.2.1 15 = .ok (.invokestatic 164, 3)) kX11_164 rfl rfl sp (by decide) (by decide) (Nat.le_of_ble_eq_true rfl) (by omega) (fun v9 h1 hq9 => ?_)
  obtain ⟨r1, e9, vc⟩ := vc v9 h1 hq9
  subst e9
  show XW _ _ _ _ _ _ _ 18 _ [.int r1]
  refine xi_if_ne (by decide +kernel : decode mX11_rolled.2.1 18 = .ok (.ifCond .ne 9, 3)) (by decide) (fun c => (?_ : XW _ _ _ _ _ _ _ 27 _ _)) (fun c => (?_ : XW _ _ _ _ _ _ _ 21 _ _))
  · replace vc := vc.1 c
    refine xi_iload_n (by decide +kernel : decode mX11_rolled.2.1 27 = .ok (.iload_n 2, 1)) rfl rfl (?_ : XW _ _ _ _ _ _ _ 28 _ _)
    refine xi_if_ne (by decide +kernel : decode mX11_rolled.2.1 28 = .ok (.ifCond .ne 12, 3)) (by decide) (fun c => (?_ : XW _ _ _ _ _ _ _ 40 _ _)) (fun c => (?_ : XW _ _ _ _ _ _ _ 31 _ _))
    · replace vc := vc.1 c
      refine xi_iload_n (by decide +kernel : decode mX11_rolled.2.1 40 = .ok (.iload_n 2, 1)) rfl rfl (?_ : XW _ _ _ _ _ _ _ 41 _ _)
      refine xi_iconst (v := 1) (by decide +kernel : decode mX11_rolled.2.1 41 = .ok (.iconst 1, 1)) (by decide) (?_ : XW _ _ _ _ _ _ _ 42 _ _)
      refine xi_icmp_ne (by decide +kernel : decode mX11_rolled.2.1 42 = .ok (.if_icmp .ne 12, 3)) (by decide) (fun c => (?_ : XW _ _ _ _ _ _ _ 54 _ _)) (fun c => (?_ : XW _ _ _ _ _ _ _ 45 _ _))
      · replace vc := vc.1 c
        refine xi_iload_n (by decide +kernel : decode mX11_rolled.2.1 54 = .ok (.iload_n 2, 1)) rfl rfl (?_ : XW _ _ _ _ _ _ _ 55 _ _)
        refine xi_iconst (v := 2) (by decide +kernel : decode mX11_rolled.2.1 55 = .ok (.iconst 2, 1)) (by decide) (?_ : XW _ _ _ _ _ _ _ 56 _ _)
        refine xi_icmp_ne (by decide +kernel : decode mX11_rolled.2.1 56 = .ok (.if_icmp .ne 12, 3)) (by decide) (fun c => (?_ : XW _ _ _ _ _ _ _ 68 _ _)) (fun c => (?_ : XW _ _ _ _ _ _ _ 59 _ _))
        · replace vc := vc.1 c
          refine xi_iload_n (by decide +kernel : decode mX11_rolled.2.1 68 = .ok (.iload_n 2, 1)) rfl rfl (?_ : XW _ _ _ _ _ _ _ 69 _ _)
          refine xi_iconst (v := 3) (by decide +kernel : decode mX11_rolled.2.1 69 = .ok (.iconst 3, 1)) (by decide) (?_ : XW _ _ _ _ _ _ _ 70 _ _)
          refine xi_icmp_ne (by decide +kernel : decode mX11_rolled.2.1 70 = .ok (.if_icmp .ne 12, 3)) (by decide) (fun c => (?_ : XW _ _ _ _ _ _ _ 82 _ _)) (fun c => (?_ : XW _ _ _ _ _ _ _ 73 _ _))
          · replace vc := vc.1 c
            refine xi_iload_n (by decide +kernel : decode mX11_rolled.2.1 82 = .ok (.iload_n 2, 1)) rfl rfl (?_ : XW _ _ _ _ _ _ _ 83 _ _)
            refine xi_iconst (v := 4) (by decide +kernel : decode mX11_rolled.2.1 83 = .ok (.iconst 4, 1)) (by decide) (?_ : XW _ _ _ _ _ _ _ 84 _ _)
            refine xi_icmp_ne (by decide +kernel : decode mX11_rolled.2.1 84 = .ok (.if_icmp .ne 12, 3)) (by decide) (fun c => (?_ : XW _ _ _ _ _ _ _ 96 _ _)) (fun c => (?_ : XW _ _ _ _ _ _ _ 87 _ _))
            · replace vc := vc.1 c
              refine xi_aload_n (by decide +kernel : decode mX11_rolled.2.1 96 = .ok (.aload_n 0, 1)) rfl rfl (?_ : XW _ _ _ _ _ _ _ 97 _ _)
              refine xi_iconst (v := 1) (by decide +kernel : decode mX11_rolled.2.1 97 = .ok (.iconst 1, 1)) (by decide) (?_ : XW _ _ _ _ _ _ _ 98 _ _)
              obtain ⟨Q1, sp, vc⟩ := vc
              refine xi_callV (b := 0) (bs := 0) (As := [.int 1]) (st := []) (by decide +kernel : decode mX11_rolled.2.1 98 = .ok (.invokevirtual 311, 3)) kX11_311 rfl rfl (by omega) rfl sp (by decide) (by decide) (Nat.le_of_ble_eq_true rfl) (by omega) (fun v9 h2 hq9 => ?_)
              obtain ⟨r2, e9, vc⟩ := vc v9 h2 hq9
              subst e9
              show XW _ _ _ _ _ _ _ 101 _ [.int r2]
              exact xi_iret (by decide +kernel : decode mX11_rolled.2.1 101 = .ok (.ireturn, 1)) rfl rfl vc
            · replace vc := vc.2 c
              refine xi_aload_n (by decide +kernel : decode mX11_rolled.2.1 87 = .ok (.aload_n 0, 1)) rfl rfl (?_ : XW _ _ _ _ _ _ _ 88 _ _)
              obtain ⟨s1, vc⟩ := vc
              refine xi_getR (y := 76) (by decide +kernel : decode mX11_rolled.2.1 88 = .ok (.getfield 88, 3)) fX11_88 rfl (by omega) rfl s1 (?_ : XW _ _ _ _ _ _ _ 91 _ _)
              refine xi_iload_n (by decide +kernel : decode mX11_rolled.2.1 91 = .ok (.iload_n 1, 1)) rfl rfl (?_ : XW _ _ _ _ _ _ _ 92 _ _)
              obtain ⟨s1, vc⟩ := vc
              refine xi_iald (by decide +kernel : decode mX11_rolled.2.1 92 = .ok (.iaload, 1)) rfl (by omega) s1 (?_ : XW _ _ _ _ _ _ _ 93 _ _)
              refine xi_goto (by decide +kernel : decode mX11_rolled.2.1 93 = .ok (.goto 8, 3)) (by decide) (?_ : XW _ _ _ _ _ _ _ 101 _ _)
              exact xi_iret (by decide +kernel : decode mX11_rolled.2.1 101 = .ok (.ireturn, 1)) rfl rfl vc
          · replace vc := vc.2 c
            refine xi_aload_n (by decide +kernel : decode mX11_rolled.2.1 73 = .ok (.aload_n 0, 1)) rfl rfl (?_ : XW _ _ _ _ _ _ _ 74 _ _)
            obtain ⟨s1, vc⟩ := vc
            refine xi_getR (y := 75) (by decide +kernel : decode mX11_rolled.2.1 74 = .ok (.getfield 85, 3)) fX11_85 rfl (by omega) rfl s1 (?_ : XW _ _ _ _ _ _ _ 77 _ _)
            refine xi_iload_n (by decide +kernel : decode mX11_rolled.2.1 77 = .ok (.iload_n 1, 1)) rfl rfl (?_ : XW _ _ _ _ _ _ _ 78 _ _)
            obtain ⟨s1, vc⟩ := vc
            refine xi_iald (by decide +kernel : decode mX11_rolled.2.1 78 = .ok (.iaload, 1)) rfl (by omega) s1 (?_ : XW _ _ _ _ _ _ _ 79 _ _)
            refine xi_goto (by decide +kernel : decode mX11_rolled.2.1 79 = .ok (.goto 22, 3)) (by decide) (?_ : XW _ _ _ _ _ _ _ 101 _ _)
            exact xi_iret (by decide +kernel : decode mX11_rolled.2.1 101 = .ok (.ireturn, 1)) rfl rfl vc
        · replace vc := vc.2 c
          refine xi_aload_n (by decide +kernel : decode mX11_rolled.2.1 59 = .ok (.aload_n 0, 1)) rfl rfl (?_ : XW _ _ _ _ _ _ _ 60 _ _)
          obtain ⟨s1, vc⟩ := vc
          refine xi_getR (y := 74) (by decide +kernel : decode mX11_rolled.2.1 60 = .ok (.getfield 82, 3)) fX11_82 rfl (by omega) rfl s1 (?_ : XW _ _ _ _ _ _ _ 63 _ _)
          refine xi_iload_n (by decide +kernel : decode mX11_rolled.2.1 63 = .ok (.iload_n 1, 1)) rfl rfl (?_ : XW _ _ _ _ _ _ _ 64 _ _)
          obtain ⟨s1, vc⟩ := vc
          refine xi_iald (by decide +kernel : decode mX11_rolled.2.1 64 = .ok (.iaload, 1)) rfl (by omega) s1 (?_ : XW _ _ _ _ _ _ _ 65 _ _)
          refine xi_goto (by decide +kernel : decode mX11_rolled.2.1 65 = .ok (.goto 36, 3)) (by decide) (?_ : XW _ _ _ _ _ _ _ 101 _ _)
          exact xi_iret (by decide +kernel : decode mX11_rolled.2.1 101 = .ok (.ireturn, 1)) rfl rfl vc
      · replace vc := vc.2 c
        refine xi_aload_n (by decide +kernel : decode mX11_rolled.2.1 45 = .ok (.aload_n 0, 1)) rfl rfl (?_ : XW _ _ _ _ _ _ _ 46 _ _)
        obtain ⟨s1, vc⟩ := vc
        refine xi_getR (y := 73) (by decide +kernel : decode mX11_rolled.2.1 46 = .ok (.getfield 79, 3)) fX11_79 rfl (by omega) rfl s1 (?_ : XW _ _ _ _ _ _ _ 49 _ _)
        refine xi_iload_n (by decide +kernel : decode mX11_rolled.2.1 49 = .ok (.iload_n 1, 1)) rfl rfl (?_ : XW _ _ _ _ _ _ _ 50 _ _)
        obtain ⟨s1, vc⟩ := vc
        refine xi_iald (by decide +kernel : decode mX11_rolled.2.1 50 = .ok (.iaload, 1)) rfl (by omega) s1 (?_ : XW _ _ _ _ _ _ _ 51 _ _)
        refine xi_goto (by decide +kernel : decode mX11_rolled.2.1 51 = .ok (.goto 50, 3)) (by decide) (?_ : XW _ _ _ _ _ _ _ 101 _ _)
        exact xi_iret (by decide +kernel : decode mX11_rolled.2.1 101 = .ok (.ireturn, 1)) rfl rfl vc
    · replace vc := vc.2 c
      refine xi_aload_n (by decide +kernel : decode mX11_rolled.2.1 31 = .ok (.aload_n 0, 1)) rfl rfl (?_ : XW _ _ _ _ _ _ _ 32 _ _)
      obtain ⟨s1, vc⟩ := vc
      refine xi_getR (y := 72) (by decide +kernel : decode mX11_rolled.2.1 32 = .ok (.getfield 76, 3)) fX11_76 rfl (by omega) rfl s1 (?_ : XW _ _ _ _ _ _ _ 35 _ _)
      refine xi_iload_n (by decide +kernel : decode mX11_rolled.2.1 35 = .ok (.iload_n 1, 1)) rfl rfl (?_ : XW _ _ _ _ _ _ _ 36 _ _)
      obtain ⟨s1, vc⟩ := vc
      refine xi_iald (by decide +kernel : decode mX11_rolled.2.1 36 = .ok (.iaload, 1)) rfl (by omega) s1 (?_ : XW _ _ _ _ _ _ _ 37 _ _)
      refine xi_goto (by decide +kernel : decode mX11_rolled.2.1 37 = .ok (.goto 64, 3)) (by decide) (?_ : XW _ _ _ _ _ _ _ 101 _ _)
      exact xi_iret (by decide +kernel : decode mX11_rolled.2.1 101 = .ok (.ireturn, 1)) rfl rfl vc
  · replace vc := vc.2 c
    refine xi_aload_n (by decide +kernel : decode mX11_rolled.2.1 21 = .ok (.aload_n 0, 1)) rfl rfl (?_ : XW _ _ _ _ _ _ _ 22 _ _)
    refine xi_iconst (v := 1) (by decide +kernel : decode mX11_rolled.2.1 22 = .ok (.iconst 1, 1)) (by decide) (?_ : XW _ _ _ _ _ _ _ 23 _ _)
    obtain ⟨Q1, sp, vc⟩ := vc
    refine xi_callV (b := 0) (bs := 0) (As := [.int 1]) (st := []) (by decide +kernel : decode mX11_rolled.2.1 23 = .ok (.invokevirtual 311, 3)) kX11_311 rfl rfl (by omega) rfl sp (by decide) (by decide) (Nat.le_of_ble_eq_true rfl) (by omega) (fun v9 h3 hq9 => ?_)
    obtain ⟨r3, e9, vc⟩ := vc v9 h3 hq9
    subst e9
    show XW _ _ _ _ _ _ _ 26 _ [.int r3]
    exact xi_iret (by decide +kernel : decode mX11_rolled.2.1 26 = .ok (.ireturn, 1)) rfl rfl vc

set_option maxRecDepth 20000 in
theorem v_X11_note_0 {h : XH} {Q : Option Value → XH → Prop} {X : String → XH → Prop} (hM : xMod (xP h))  (q : Int32)
    (vc : ((va_up (xI h 56) 2 0 46) = 40 → Q (some (.int (-1))) (xSI 65 (va_up (xI h 65) 2 ((xI h 65 2) + 1)) (xSI 56 (va_up (xI h 56) 2 0) h))) ∧ (¬ (va_up (xI h 56) 2 0 46) = 40 → ∃ Q1, XSpec mX11_isIn 1 0 0 100 100 [.long (Int32.toInt64 q), .long (-1), .long (Int32.toInt64 (xI h 59 0))] (xSI 56 (va_up (xI h 56) 2 0) h) Q1 xno ∧ ∀ v h1, Q1 v h1 → ∃ r1 : Int32, v = some (.int r1) ∧ ((¬ r1 = 0 → (xP h1 56 45 = some 87) ∧ ((vp_in (xI h1 56 46) 40) ∧ (Q (some (.int (va_up (xI h1 56) 46 ((xI h1 56 46) + 1) 46))) (xSI 56 (va_up (xI h1 56) 46 ((xI h1 56 46) + 1)) (xSI 87 (va_up (xI h1 87) (xI h1 56 46).toNatClampNeg q) h1))))) ∧ (r1 = 0 → (xP h1 56 9 = some 65) ∧ (Q (some (.int (-1))) (xSI 65 (va_up (xI h1 65) 2 ((xI h1 65 2) + 1)) h1)))))) :
    XW (xrm 2 0 0) mX11_note (xE 100 Q X 0 0) 100 0 0 h 0 [some (.ref 56), some (.int q)] [] := by
  refine xi_aload_n (by decide +kernel : decode mX11_note.2.1 0 = .ok (.aload_n 0, 1)) rfl rfl (?_ : XW _ _ _ _ _ _ _ 1 _ _)
  refine xi_iconst (v := 0) (by decide +kernel : decode mX11_note.2.1 1 = .ok (.iconst 0, 1)) (by decide) (?_ : XW _ _ _ _ _ _ _ 2 _ _)
  refine xi_putI (by decide +kernel : decode mX11_note.2.1 2 = .ok (.putfield 161, 3)) fX11_161 rfl (by omega) rfl rfl rfl (?_ : XW _ _ _ _ _ _ (xSI 56 (va_up (xI h 56) 2 0) h) 5 _ _)
  refine xi_aload_n (by decide +kernel : decode mX11_note.2.1 5 = .ok (.aload_n 0, 1)) rfl rfl (?_ : XW _ _ _ _ _ _ _ 6 _ _)
  refine xi_getI (by decide +kernel : decode mX11_note.2.1 6 = .ok (.getfield 333, 3)) fX11_333 rfl (by omega) rfl (?_ : XW _ _ _ _ _ _ _ 9 _ [.int (va_up (xI h 56) 2 0 46)])
  refine xi_bipush (v := 40) (by decide +kernel : decode mX11_note.2.1 9 = .ok (.bipush 40, 2)) (by decide) (?_ : XW _ _ _ _ _ _ _ 11 _ _)
  refine xi_icmp_eq (by decide +kernel : decode mX11_note.2.1 11 = .ok (.if_icmp .eq 21, 3)) (by decide) (fun c => (?_ : XW _ _ _ _ _ _ _ 32 _ _)) (fun c => (?_ : XW _ _ _ _ _ _ _ 14 _ _))
  · replace vc := vc.1 c
    refine xi_aload_n (by decide +kernel : decode mX11_note.2.1 32 = .ok (.aload_n 0, 1)) rfl rfl (?_ : XW _ _ _ _ _ _ _ 33 _ _)
    refine xi_getR (y := 65) (by decide +kernel : decode mX11_note.2.1 33 = .ok (.getfield 51, 3)) fX11_51 rfl (by omega) rfl (mp_status hM) (?_ : XW _ _ _ _ _ _ _ 36 _ _)
    refine xi_iconst (v := 2) (by decide +kernel : decode mX11_note.2.1 36 = .ok (.iconst 2, 1)) (by decide) (?_ : XW _ _ _ _ _ _ _ 37 _ _)
    refine xi_dup2 (by decide +kernel : decode mX11_note.2.1 37 = .ok (.dup2, 1)) rfl rfl (?_ : XW _ _ _ _ _ _ _ 38 _ _)
    refine xi_iald (by decide +kernel : decode mX11_note.2.1 38 = .ok (.iaload, 1)) rfl (by omega) (by unfold vp_in; decide) (?_ : XW _ _ _ _ _ _ _ 39 _ [.int (xI h 65 2), .int 2, .ref 65])
    refine xi_iconst (v := 1) (by decide +kernel : decode mX11_note.2.1 39 = .ok (.iconst 1, 1)) (by decide) (?_ : XW _ _ _ _ _ _ _ 40 _ _)
    refine xi_iadd (by decide +kernel : decode mX11_note.2.1 40 = .ok (.iadd, 1)) (?_ : XW _ _ _ _ _ _ _ 41 _ _)
    refine xi_iast (by decide +kernel : decode mX11_note.2.1 41 = .ok (.iastore, 1)) rfl (by omega) (by unfold vp_in; decide) (?_ : XW _ _ _ _ _ _ (xSI 65 (va_up (xI h 65) 2 ((xI h 65 2) + 1)) (xSI 56 (va_up (xI h 56) 2 0) h)) 42 _ _)
    refine xi_iconst (v := (-1)) (by decide +kernel : decode mX11_note.2.1 42 = .ok (.iconst (-1), 1)) (by decide) (?_ : XW _ _ _ _ _ _ _ 43 _ _)
    exact xi_iret (by decide +kernel : decode mX11_note.2.1 43 = .ok (.ireturn, 1)) rfl rfl vc
  · replace vc := vc.2 c
    refine xi_iload_n (by decide +kernel : decode mX11_note.2.1 14 = .ok (.iload_n 1, 1)) rfl rfl (?_ : XW _ _ _ _ _ _ _ 15 _ _)
    refine xi_i2l (by decide +kernel : decode mX11_note.2.1 15 = .ok (.i2l, 1)) (?_ : XW _ _ _ _ _ _ _ 16 _ _)
    refine xi_ldc2 (v := (-1)) (by decide +kernel : decode mX11_note.2.1 16 = .ok (.ldc2_w 443, 3)) cK_X11_443 (?_ : XW _ _ _ _ _ _ _ 19 _ _)
    refine xi_aload_n (by decide +kernel : decode mX11_note.2.1 19 = .ok (.aload_n 0, 1)) rfl rfl (?_ : XW _ _ _ _ _ _ _ 20 _ _)
    refine xi_getR (y := 59) (by decide +kernel : decode mX11_note.2.1 20 = .ok (.getfield 32, 3)) fX11_32 rfl (by omega) rfl (mp_told hM) (?_ : XW _ _ _ _ _ _ _ 23 _ _)
    refine xi_iconst (v := 0) (by decide +kernel : decode mX11_note.2.1 23 = .ok (.iconst 0, 1)) (by decide) (?_ : XW _ _ _ _ _ _ _ 24 _ _)
    refine xi_iald (by decide +kernel : decode mX11_note.2.1 24 = .ok (.iaload, 1)) rfl (by omega) (by unfold vp_in; decide) (?_ : XW _ _ _ _ _ _ _ 25 _ [.int (xI h 59 0), .long (-1), .long (Int32.toInt64 q)])
    refine xi_i2l (by decide +kernel : decode mX11_note.2.1 25 = .ok (.i2l, 1)) (?_ : XW _ _ _ _ _ _ _ 26 _ _)
    obtain ⟨Q1, sp, vc⟩ := vc
    refine xi_callS (b := 0) (bs := 0) (As := [.long (Int32.toInt64 q), .long (-1), .long (Int32.toInt64 (xI h 59 0))]) (st := []) (by decide +kernel : decode mX11_note.2.1 26 = .ok (.invokestatic 164, 3)) kX11_164 rfl rfl sp (by decide) (by decide) (Nat.le_of_ble_eq_true rfl) (by omega) (fun v9 h1 hq9 => ?_)
    obtain ⟨r1, e9, vc⟩ := vc v9 h1 hq9
    subst e9
    show XW _ _ _ _ _ _ _ 29 _ [.int r1]
    refine xi_if_ne (by decide +kernel : decode mX11_note.2.1 29 = .ok (.ifCond .ne 15, 3)) (by decide) (fun c => (?_ : XW _ _ _ _ _ _ _ 44 _ _)) (fun c => (?_ : XW _ _ _ _ _ _ _ 32 _ _))
    · replace vc := vc.1 c
      refine xi_aload_n (by decide +kernel : decode mX11_note.2.1 44 = .ok (.aload_n 0, 1)) rfl rfl (?_ : XW _ _ _ _ _ _ _ 45 _ _)
      obtain ⟨s1, vc⟩ := vc
      refine xi_getR (y := 87) (by decide +kernel : decode mX11_note.2.1 45 = .ok (.getfield 125, 3)) fX11_125 rfl (by omega) rfl s1 (?_ : XW _ _ _ _ _ _ _ 48 _ _)
      refine xi_aload_n (by decide +kernel : decode mX11_note.2.1 48 = .ok (.aload_n 0, 1)) rfl rfl (?_ : XW _ _ _ _ _ _ _ 49 _ _)
      refine xi_getI (by decide +kernel : decode mX11_note.2.1 49 = .ok (.getfield 333, 3)) fX11_333 rfl (by omega) rfl (?_ : XW _ _ _ _ _ _ _ 52 _ _)
      refine xi_iload_n (by decide +kernel : decode mX11_note.2.1 52 = .ok (.iload_n 1, 1)) rfl rfl (?_ : XW _ _ _ _ _ _ _ 53 _ _)
      obtain ⟨s1, vc⟩ := vc
      refine xi_iast (by decide +kernel : decode mX11_note.2.1 53 = .ok (.iastore, 1)) rfl (by omega) s1 (?_ : XW _ _ _ _ _ _ (xSI 87 (va_up (xI h1 87) (xI h1 56 46).toNatClampNeg q) h1) 54 _ _)
      refine xi_aload_n (by decide +kernel : decode mX11_note.2.1 54 = .ok (.aload_n 0, 1)) rfl rfl (?_ : XW _ _ _ _ _ _ _ 55 _ _)
      refine xi_dup (by decide +kernel : decode mX11_note.2.1 55 = .ok (.dup, 1)) rfl (?_ : XW _ _ _ _ _ _ _ 56 _ _)
      refine xi_getI (by decide +kernel : decode mX11_note.2.1 56 = .ok (.getfield 333, 3)) fX11_333 rfl (by omega) rfl (?_ : XW _ _ _ _ _ _ _ 59 _ [.int (xI h1 56 46), .ref 56])
      refine xi_iconst (v := 1) (by decide +kernel : decode mX11_note.2.1 59 = .ok (.iconst 1, 1)) (by decide) (?_ : XW _ _ _ _ _ _ _ 60 _ _)
      refine xi_iadd (by decide +kernel : decode mX11_note.2.1 60 = .ok (.iadd, 1)) (?_ : XW _ _ _ _ _ _ _ 61 _ _)
      refine xi_putI (by decide +kernel : decode mX11_note.2.1 61 = .ok (.putfield 333, 3)) fX11_333 rfl (by omega) rfl rfl rfl (?_ : XW _ _ _ _ _ _ (xSI 56 (va_up (xI h1 56) 46 ((xI h1 56 46) + 1)) (xSI 87 (va_up (xI h1 87) (xI h1 56 46).toNatClampNeg q) h1)) 64 _ _)
      refine xi_aload_n (by decide +kernel : decode mX11_note.2.1 64 = .ok (.aload_n 0, 1)) rfl rfl (?_ : XW _ _ _ _ _ _ _ 65 _ _)
      refine xi_getI (by decide +kernel : decode mX11_note.2.1 65 = .ok (.getfield 333, 3)) fX11_333 rfl (by omega) rfl (?_ : XW _ _ _ _ _ _ _ 68 _ [.int (va_up (xI h1 56) 46 ((xI h1 56 46) + 1) 46)])
      exact xi_iret (by decide +kernel : decode mX11_note.2.1 68 = .ok (.ireturn, 1)) rfl rfl vc
    · replace vc := vc.2 c
      refine xi_aload_n (by decide +kernel : decode mX11_note.2.1 32 = .ok (.aload_n 0, 1)) rfl rfl (?_ : XW _ _ _ _ _ _ _ 33 _ _)
      obtain ⟨s1, vc⟩ := vc
      refine xi_getR (y := 65) (by decide +kernel : decode mX11_note.2.1 33 = .ok (.getfield 51, 3)) fX11_51 rfl (by omega) rfl s1 (?_ : XW _ _ _ _ _ _ _ 36 _ _)
      refine xi_iconst (v := 2) (by decide +kernel : decode mX11_note.2.1 36 = .ok (.iconst 2, 1)) (by decide) (?_ : XW _ _ _ _ _ _ _ 37 _ _)
      refine xi_dup2 (by decide +kernel : decode mX11_note.2.1 37 = .ok (.dup2, 1)) rfl rfl (?_ : XW _ _ _ _ _ _ _ 38 _ _)
      refine xi_iald (by decide +kernel : decode mX11_note.2.1 38 = .ok (.iaload, 1)) rfl (by omega) (by unfold vp_in; decide) (?_ : XW _ _ _ _ _ _ _ 39 _ [.int (xI h1 65 2), .int 2, .ref 65])
      refine xi_iconst (v := 1) (by decide +kernel : decode mX11_note.2.1 39 = .ok (.iconst 1, 1)) (by decide) (?_ : XW _ _ _ _ _ _ _ 40 _ _)
      refine xi_iadd (by decide +kernel : decode mX11_note.2.1 40 = .ok (.iadd, 1)) (?_ : XW _ _ _ _ _ _ _ 41 _ _)
      refine xi_iast (by decide +kernel : decode mX11_note.2.1 41 = .ok (.iastore, 1)) rfl (by omega) (by unfold vp_in; decide) (?_ : XW _ _ _ _ _ _ (xSI 65 (va_up (xI h1 65) 2 ((xI h1 65 2) + 1)) h1) 42 _ _)
      refine xi_iconst (v := (-1)) (by decide +kernel : decode mX11_note.2.1 42 = .ok (.iconst (-1), 1)) (by decide) (?_ : XW _ _ _ _ _ _ _ 43 _ _)
      exact xi_iret (by decide +kernel : decode mX11_note.2.1 43 = .ok (.ireturn, 1)) rfl rfl vc

set_option maxRecDepth 20000 in
theorem v_X11_forget_0 {h : XH} {Q : Option Value → XH → Prop} {X : String → XH → Prop} (hM : xMod (xP h)) 
    (vc : (¬ (va_up (xI h 56) 2 0 46) = 0 → Q (some (.int (va_up (va_up (xI h 56) 2 0) 46 ((va_up (xI h 56) 2 0 46) - 1) 46))) (xSI 56 (va_up (va_up (xI h 56) 2 0) 46 ((va_up (xI h 56) 2 0 46) - 1)) (xSI 56 (va_up (xI h 56) 2 0) h))) ∧ ((va_up (xI h 56) 2 0 46) = 0 → Q (some (.int (-1))) (xSI 56 (va_up (xI h 56) 2 0) h))) :
    XW (xrm 1 0 0) mX11_forget (xE 100 Q X 0 0) 100 0 0 h 0 [some (.ref 56)] [] := by
  refine xi_aload_n (by decide +kernel : decode mX11_forget.2.1 0 = .ok (.aload_n 0, 1)) rfl rfl (?_ : XW _ _ _ _ _ _ _ 1 _ _)
  refine xi_iconst (v := 0) (by decide +kernel : decode mX11_forget.2.1 1 = .ok (.iconst 0, 1)) (by decide) (?_ : XW _ _ _ _ _ _ _ 2 _ _)
  refine xi_putI (by decide +kernel : decode mX11_forget.2.1 2 = .ok (.putfield 161, 3)) fX11_161 rfl (by omega) rfl rfl rfl (?_ : XW _ _ _ _ _ _ (xSI 56 (va_up (xI h 56) 2 0) h) 5 _ _)
  refine xi_aload_n (by decide +kernel : decode mX11_forget.2.1 5 = .ok (.aload_n 0, 1)) rfl rfl (?_ : XW _ _ _ _ _ _ _ 6 _ _)
  refine xi_getI (by decide +kernel : decode mX11_forget.2.1 6 = .ok (.getfield 333, 3)) fX11_333 rfl (by omega) rfl (?_ : XW _ _ _ _ _ _ _ 9 _ [.int (va_up (xI h 56) 2 0 46)])
  refine xi_if_ne (by decide +kernel : decode mX11_forget.2.1 9 = .ok (.ifCond .ne 5, 3)) (by decide) (fun c => (?_ : XW _ _ _ _ _ _ _ 14 _ _)) (fun c => (?_ : XW _ _ _ _ _ _ _ 12 _ _))
  · replace vc := vc.1 c
    refine xi_aload_n (by decide +kernel : decode mX11_forget.2.1 14 = .ok (.aload_n 0, 1)) rfl rfl (?_ : XW _ _ _ _ _ _ _ 15 _ _)
    refine xi_dup (by decide +kernel : decode mX11_forget.2.1 15 = .ok (.dup, 1)) rfl (?_ : XW _ _ _ _ _ _ _ 16 _ _)
    refine xi_getI (by decide +kernel : decode mX11_forget.2.1 16 = .ok (.getfield 333, 3)) fX11_333 rfl (by omega) rfl (?_ : XW _ _ _ _ _ _ _ 19 _ [.int (va_up (xI h 56) 2 0 46), .ref 56])
    refine xi_iconst (v := 1) (by decide +kernel : decode mX11_forget.2.1 19 = .ok (.iconst 1, 1)) (by decide) (?_ : XW _ _ _ _ _ _ _ 20 _ _)
    refine xi_isub (by decide +kernel : decode mX11_forget.2.1 20 = .ok (.isub, 1)) (?_ : XW _ _ _ _ _ _ _ 21 _ _)
    refine xi_putI (by decide +kernel : decode mX11_forget.2.1 21 = .ok (.putfield 333, 3)) fX11_333 rfl (by omega) rfl rfl rfl (?_ : XW _ _ _ _ _ _ (xSI 56 (va_up (va_up (xI h 56) 2 0) 46 ((va_up (xI h 56) 2 0 46) - 1)) (xSI 56 (va_up (xI h 56) 2 0) h)) 24 _ _)
    refine xi_aload_n (by decide +kernel : decode mX11_forget.2.1 24 = .ok (.aload_n 0, 1)) rfl rfl (?_ : XW _ _ _ _ _ _ _ 25 _ _)
    refine xi_getI (by decide +kernel : decode mX11_forget.2.1 25 = .ok (.getfield 333, 3)) fX11_333 rfl (by omega) rfl (?_ : XW _ _ _ _ _ _ _ 28 _ [.int (va_up (va_up (xI h 56) 2 0) 46 ((va_up (xI h 56) 2 0 46) - 1) 46)])
    exact xi_iret (by decide +kernel : decode mX11_forget.2.1 28 = .ok (.ireturn, 1)) rfl rfl vc
  · replace vc := vc.2 c
    refine xi_iconst (v := (-1)) (by decide +kernel : decode mX11_forget.2.1 12 = .ok (.iconst (-1), 1)) (by decide) (?_ : XW _ _ _ _ _ _ _ 13 _ _)
    exact xi_iret (by decide +kernel : decode mX11_forget.2.1 13 = .ok (.ireturn, 1)) rfl rfl vc

set_option maxRecDepth 20000 in
theorem v_X11_fault_0 {h : XH} {Q : Option Value → XH → Prop} {X : String → XH → Prop} (hM : xMod (xP h)) 
    (vc : Q (some (.int (va_up (xI h 56) 2 0 20))) (xSI 56 (va_up (xI h 56) 2 0) h)) :
    XW (xrm 1 0 0) mX11_fault (xE 100 Q X 0 0) 100 0 0 h 0 [some (.ref 56)] [] := by
  refine xi_aload_n (by decide +kernel : decode mX11_fault.2.1 0 = .ok (.aload_n 0, 1)) rfl rfl (?_ : XW _ _ _ _ _ _ _ 1 _ _)
  refine xi_iconst (v := 0) (by decide +kernel : decode mX11_fault.2.1 1 = .ok (.iconst 0, 1)) (by decide) (?_ : XW _ _ _ _ _ _ _ 2 _ _)
  refine xi_putI (by decide +kernel : decode mX11_fault.2.1 2 = .ok (.putfield 161, 3)) fX11_161 rfl (by omega) rfl rfl rfl (?_ : XW _ _ _ _ _ _ (xSI 56 (va_up (xI h 56) 2 0) h) 5 _ _)
  refine xi_aload_n (by decide +kernel : decode mX11_fault.2.1 5 = .ok (.aload_n 0, 1)) rfl rfl (?_ : XW _ _ _ _ _ _ _ 6 _ _)
  refine xi_getI (by decide +kernel : decode mX11_fault.2.1 6 = .ok (.getfield 57, 3)) fX11_57 rfl (by omega) rfl (?_ : XW _ _ _ _ _ _ _ 9 _ [.int (va_up (xI h 56) 2 0 20)])
  exact xi_iret (by decide +kernel : decode mX11_fault.2.1 9 = .ok (.ireturn, 1)) rfl rfl vc

set_option maxRecDepth 20000 in
theorem v_X11_often_0 {h : XH} {Q : Option Value → XH → Prop} {X : String → XH → Prop} (hM : xMod (xP h))  (f : Int32)
    (vc : ∃ Q1, XSpec mX11_isFace 2 0 0 100 100 [.int f] (xSI 56 (va_up (xI h 56) 2 0) h) Q1 xno ∧ ∀ v h1, Q1 v h1 → ∃ r1 : Int32, v = some (.int r1) ∧ ((r1 = 0 → ∃ Q1, XSpec mX11_fail 1 0 0 100 100 [.ref 56, .int 1] h1 Q1 xno ∧ ∀ v h2, Q1 v h2 → ∃ r2 : Int32, v = some (.int r2) ∧ (Q (some (.int r2)) h2)) ∧ (¬ r1 = 0 → ∃ Q1, XSpec mX11_oftenOf 1 0 0 100 100 [.ref 56, .int f] h1 Q1 xno ∧ ∀ v h3, Q1 v h3 → ∃ r3 : Int32, v = some (.int r3) ∧ (Q (some (.int r3)) h3)))) :
    XW (xrm 3 0 0) mX11_often (xE 100 Q X 0 0) 100 0 0 h 0 [some (.ref 56), some (.int f)] [] := by
  refine xi_aload_n (by decide +kernel : decode mX11_often.2.1 0 = .ok (.aload_n 0, 1)) rfl rfl (?_ : XW _ _ _ _ _ _ _ 1 _ _)
  refine xi_iconst (v := 0) (by decide +kernel : decode mX11_often.2.1 1 = .ok (.iconst 0, 1)) (by decide) (?_ : XW _ _ _ _ _ _ _ 2 _ _)
  refine xi_putI (by decide +kernel : decode mX11_often.2.1 2 = .ok (.putfield 161, 3)) fX11_161 rfl (by omega) rfl rfl rfl (?_ : XW _ _ _ _ _ _ (xSI 56 (va_up (xI h 56) 2 0) h) 5 _ _)
  refine xi_iload_n (by decide +kernel : decode mX11_often.2.1 5 = .ok (.iload_n 1, 1)) rfl rfl (?_ : XW _ _ _ _ _ _ _ 6 _ _)
  obtain ⟨Q1, sp, vc⟩ := vc
  refine xi_callS (b := 0) (bs := 0) (As := [.int f]) (st := []) (by decide +kernel : decode mX11_often.2.1 6 = .ok (.invokestatic 370, 3)) kX11_370 rfl rfl sp (by decide) (by decide) (Nat.le_of_ble_eq_true rfl) (by omega) (fun v9 h1 hq9 => ?_)
  obtain ⟨r1, e9, vc⟩ := vc v9 h1 hq9
  subst e9
  show XW _ _ _ _ _ _ _ 9 _ [.int r1]
  refine xi_if_eq (by decide +kernel : decode mX11_often.2.1 9 = .ok (.ifCond .eq 11, 3)) (by decide) (fun c => (?_ : XW _ _ _ _ _ _ _ 20 _ _)) (fun c => (?_ : XW _ _ _ _ _ _ _ 12 _ _))
  · replace vc := vc.1 c
    refine xi_aload_n (by decide +kernel : decode mX11_often.2.1 20 = .ok (.aload_n 0, 1)) rfl rfl (?_ : XW _ _ _ _ _ _ _ 21 _ _)
    refine xi_iconst (v := 1) (by decide +kernel : decode mX11_often.2.1 21 = .ok (.iconst 1, 1)) (by decide) (?_ : XW _ _ _ _ _ _ _ 22 _ _)
    obtain ⟨Q1, sp, vc⟩ := vc
    refine xi_callV (b := 0) (bs := 0) (As := [.int 1]) (st := []) (by decide +kernel : decode mX11_often.2.1 22 = .ok (.invokevirtual 311, 3)) kX11_311 rfl rfl (by omega) rfl sp (by decide) (by decide) (Nat.le_of_ble_eq_true rfl) (by omega) (fun v9 h2 hq9 => ?_)
    obtain ⟨r2, e9, vc⟩ := vc v9 h2 hq9
    subst e9
    show XW _ _ _ _ _ _ _ 25 _ [.int r2]
    exact xi_iret (by decide +kernel : decode mX11_often.2.1 25 = .ok (.ireturn, 1)) rfl rfl vc
  · replace vc := vc.2 c
    refine xi_aload_n (by decide +kernel : decode mX11_often.2.1 12 = .ok (.aload_n 0, 1)) rfl rfl (?_ : XW _ _ _ _ _ _ _ 13 _ _)
    refine xi_iload_n (by decide +kernel : decode mX11_often.2.1 13 = .ok (.iload_n 1, 1)) rfl rfl (?_ : XW _ _ _ _ _ _ _ 14 _ _)
    obtain ⟨Q1, sp, vc⟩ := vc
    refine xi_callV (b := 0) (bs := 0) (As := [.int f]) (st := []) (by decide +kernel : decode mX11_often.2.1 14 = .ok (.invokevirtual 454, 3)) kX11_454 rfl rfl (by omega) rfl sp (by decide) (by decide) (Nat.le_of_ble_eq_true rfl) (by omega) (fun v9 h3 hq9 => ?_)
    obtain ⟨r3, e9, vc⟩ := vc v9 h3 hq9
    subst e9
    show XW _ _ _ _ _ _ _ 17 _ [.int r3]
    refine xi_goto (by decide +kernel : decode mX11_often.2.1 17 = .ok (.goto 8, 3)) (by decide) (?_ : XW _ _ _ _ _ _ _ 25 _ _)
    exact xi_iret (by decide +kernel : decode mX11_often.2.1 25 = .ok (.ireturn, 1)) rfl rfl vc

set_option maxRecDepth 20000 in
theorem v_X11_oftenOf_0 {h : XH} {Q : Option Value → XH → Prop} {X : String → XH → Prop} (hM : xMod (xP h))  (f : Int32)
    (vc : XW (xrm 1 0 0) mX11_oftenOf (xE 100 Q X 0 0) 100 0 0 h 4 [some (.ref 56), some (.int f), some (.int 0), some (.int 0)] []) :
    XW (xrm 1 0 0) mX11_oftenOf (xE 100 Q X 0 0) 100 0 0 h 0 [some (.ref 56), some (.int f), none, none] [] := by
  refine xi_iconst (v := 0) (by decide +kernel : decode mX11_oftenOf.2.1 0 = .ok (.iconst 0, 1)) (by decide) (?_ : XW _ _ _ _ _ _ _ 1 _ _)
  refine xi_istore_n (ls' := [some (.ref 56), some (.int f), some (.int 0), none]) (by decide +kernel : decode mX11_oftenOf.2.1 1 = .ok (.istore_n 2, 1)) rfl (by decide) rfl (?_ : XW _ _ _ _ _ _ _ 2 _ _)
  refine xi_iconst (v := 0) (by decide +kernel : decode mX11_oftenOf.2.1 2 = .ok (.iconst 0, 1)) (by decide) (?_ : XW _ _ _ _ _ _ _ 3 _ _)
  refine xi_istore_n (ls' := [some (.ref 56), some (.int f), some (.int 0), some (.int 0)]) (by decide +kernel : decode mX11_oftenOf.2.1 3 = .ok (.istore_n 3, 1)) rfl (by decide) rfl (?_ : XW _ _ _ _ _ _ _ 4 _ _)
  exact vc

set_option maxRecDepth 20000 in
theorem v_X11_oftenOf_4 {h : XH} {Q : Option Value → XH → Prop} {X : String → XH → Prop} (hM : xMod (xP h))  (x1 : Int32) (x2 : Int32) (x3 : Int32)
    (vc : ((xI h 56 34) ≤ x3 → Q (some (.int x2)) h) ∧ (¬ (xI h 56 34) ≤ x3 → (vp_in x3 200) ∧ ((¬ (xI h 73 x3.toNatClampNeg) = x1 → XW (xrm 1 0 0) mX11_oftenOf (xE 100 Q X 0 0) 100 0 0 h 4 [some (.ref 56), some (.int x1), some (.int (x2 + 0)), some (.int (x3 + 1))] []) ∧ ((xI h 73 x3.toNatClampNeg) = x1 → XW (xrm 1 0 0) mX11_oftenOf (xE 100 Q X 0 0) 100 0 0 h 4 [some (.ref 56), some (.int x1), some (.int (x2 + 1)), some (.int (x3 + 1))] [])))) :
    XW (xrm 1 0 0) mX11_oftenOf (xE 100 Q X 0 0) 100 0 0 h 4 [some (.ref 56), some (.int x1), some (.int x2), some (.int x3)] [] := by
  refine xi_iload_n (by decide +kernel : decode mX11_oftenOf.2.1 4 = .ok (.iload_n 3, 1)) rfl rfl (?_ : XW _ _ _ _ _ _ _ 5 _ _)
  refine xi_aload_n (by decide +kernel : decode mX11_oftenOf.2.1 5 = .ok (.aload_n 0, 1)) rfl rfl (?_ : XW _ _ _ _ _ _ _ 6 _ _)
  refine xi_getI (by decide +kernel : decode mX11_oftenOf.2.1 6 = .ok (.getfield 330, 3)) fX11_330 rfl (by omega) rfl (?_ : XW _ _ _ _ _ _ _ 9 _ _)
  refine xi_icmp_ge (by decide +kernel : decode mX11_oftenOf.2.1 9 = .ok (.if_icmp .ge 27, 3)) (by decide) (fun c => (?_ : XW _ _ _ _ _ _ _ 36 _ _)) (fun c => (?_ : XW _ _ _ _ _ _ _ 12 _ _))
  · replace vc := vc.1 c
    refine xi_iload_n (by decide +kernel : decode mX11_oftenOf.2.1 36 = .ok (.iload_n 2, 1)) rfl rfl (?_ : XW _ _ _ _ _ _ _ 37 _ _)
    exact xi_iret (by decide +kernel : decode mX11_oftenOf.2.1 37 = .ok (.ireturn, 1)) rfl rfl vc
  · replace vc := vc.2 c
    refine xi_iload_n (by decide +kernel : decode mX11_oftenOf.2.1 12 = .ok (.iload_n 2, 1)) rfl rfl (?_ : XW _ _ _ _ _ _ _ 13 _ _)
    refine xi_aload_n (by decide +kernel : decode mX11_oftenOf.2.1 13 = .ok (.aload_n 0, 1)) rfl rfl (?_ : XW _ _ _ _ _ _ _ 14 _ _)
    refine xi_getR (y := 73) (by decide +kernel : decode mX11_oftenOf.2.1 14 = .ok (.getfield 79, 3)) fX11_79 rfl (by omega) rfl (mp_rolledFace hM) (?_ : XW _ _ _ _ _ _ _ 17 _ _)
    refine xi_iload_n (by decide +kernel : decode mX11_oftenOf.2.1 17 = .ok (.iload_n 3, 1)) rfl rfl (?_ : XW _ _ _ _ _ _ _ 18 _ _)
    obtain ⟨s1, vc⟩ := vc
    refine xi_iald (by decide +kernel : decode mX11_oftenOf.2.1 18 = .ok (.iaload, 1)) rfl (by omega) s1 (?_ : XW _ _ _ _ _ _ _ 19 _ _)
    refine xi_iload_n (by decide +kernel : decode mX11_oftenOf.2.1 19 = .ok (.iload_n 1, 1)) rfl rfl (?_ : XW _ _ _ _ _ _ _ 20 _ _)
    refine xi_icmp_ne (by decide +kernel : decode mX11_oftenOf.2.1 20 = .ok (.if_icmp .ne 7, 3)) (by decide) (fun c => (?_ : XW _ _ _ _ _ _ _ 27 _ _)) (fun c => (?_ : XW _ _ _ _ _ _ _ 23 _ _))
    · replace vc := vc.1 c
      refine xi_iconst (v := 0) (by decide +kernel : decode mX11_oftenOf.2.1 27 = .ok (.iconst 0, 1)) (by decide) (?_ : XW _ _ _ _ _ _ _ 28 _ _)
      refine xi_iadd (by decide +kernel : decode mX11_oftenOf.2.1 28 = .ok (.iadd, 1)) (?_ : XW _ _ _ _ _ _ _ 29 _ _)
      refine xi_istore_n (ls' := [some (.ref 56), some (.int x1), some (.int (x2 + 0)), some (.int x3)]) (by decide +kernel : decode mX11_oftenOf.2.1 29 = .ok (.istore_n 2, 1)) rfl (by decide) rfl (?_ : XW _ _ _ _ _ _ _ 30 _ _)
      refine xi_iinc (v := x3 + 1) (ls' := [some (.ref 56), some (.int x1), some (.int (x2 + 0)), some (.int (x3 + 1))]) (by decide +kernel : decode mX11_oftenOf.2.1 30 = .ok (.iinc 3 1, 3)) rfl rfl (by decide) rfl (?_ : XW _ _ _ _ _ _ _ 33 _ _)
      refine xi_goto (by decide +kernel : decode mX11_oftenOf.2.1 33 = .ok (.goto (-29), 3)) (by decide) (?_ : XW _ _ _ _ _ _ _ 4 _ _)
      exact vc
    · replace vc := vc.2 c
      refine xi_iconst (v := 1) (by decide +kernel : decode mX11_oftenOf.2.1 23 = .ok (.iconst 1, 1)) (by decide) (?_ : XW _ _ _ _ _ _ _ 24 _ _)
      refine xi_goto (by decide +kernel : decode mX11_oftenOf.2.1 24 = .ok (.goto 4, 3)) (by decide) (?_ : XW _ _ _ _ _ _ _ 28 _ _)
      refine xi_iadd (by decide +kernel : decode mX11_oftenOf.2.1 28 = .ok (.iadd, 1)) (?_ : XW _ _ _ _ _ _ _ 29 _ _)
      refine xi_istore_n (ls' := [some (.ref 56), some (.int x1), some (.int (x2 + 1)), some (.int x3)]) (by decide +kernel : decode mX11_oftenOf.2.1 29 = .ok (.istore_n 2, 1)) rfl (by decide) rfl (?_ : XW _ _ _ _ _ _ _ 30 _ _)
      refine xi_iinc (v := x3 + 1) (ls' := [some (.ref 56), some (.int x1), some (.int (x2 + 1)), some (.int (x3 + 1))]) (by decide +kernel : decode mX11_oftenOf.2.1 30 = .ok (.iinc 3 1, 3)) rfl rfl (by decide) rfl (?_ : XW _ _ _ _ _ _ _ 33 _ _)
      refine xi_goto (by decide +kernel : decode mX11_oftenOf.2.1 33 = .ok (.goto (-29), 3)) (by decide) (?_ : XW _ _ _ _ _ _ _ 4 _ _)
      exact vc

set_option maxRecDepth 20000 in
theorem v_X11_thrown_0 {h : XH} {Q : Option Value → XH → Prop} {X : String → XH → Prop} (hM : xMod (xP h)) 
    (vc : Q (some (.int (xI h 56 2))) h) :
    XW (xrm 1 0 0) mX11_thrown (xE 100 Q X 0 0) 100 0 0 h 0 [some (.ref 56)] [] := by
  refine xi_aload_n (by decide +kernel : decode mX11_thrown.2.1 0 = .ok (.aload_n 0, 1)) rfl rfl (?_ : XW _ _ _ _ _ _ _ 1 _ _)
  refine xi_getI (by decide +kernel : decode mX11_thrown.2.1 1 = .ok (.getfield 161, 3)) fX11_161 rfl (by omega) rfl (?_ : XW _ _ _ _ _ _ _ 4 _ _)
  exact xi_iret (by decide +kernel : decode mX11_thrown.2.1 4 = .ok (.ireturn, 1)) rfl rfl vc

set_option maxRecDepth 20000 in
theorem v_X11_isOver_0 {h : XH} {Q : Option Value → XH → Prop} {X : String → XH → Prop} (hM : xMod (xP h)) 
    (vc : XW (xrm 1 0 0) mX11_isOver (xE 100 Q X 0 0) 100 0 0 h 2 [some (.ref 56), some (.int 0)] []) :
    XW (xrm 1 0 0) mX11_isOver (xE 100 Q X 0 0) 100 0 0 h 0 [some (.ref 56), none] [] := by
  refine xi_iconst (v := 0) (by decide +kernel : decode mX11_isOver.2.1 0 = .ok (.iconst 0, 1)) (by decide) (?_ : XW _ _ _ _ _ _ _ 1 _ _)
  refine xi_istore_n (ls' := [some (.ref 56), some (.int 0)]) (by decide +kernel : decode mX11_isOver.2.1 1 = .ok (.istore_n 1, 1)) rfl (by decide) rfl (?_ : XW _ _ _ _ _ _ _ 2 _ _)
  exact vc

set_option maxRecDepth 20000 in
theorem v_X11_isOver_2 {h : XH} {Q : Option Value → XH → Prop} {X : String → XH → Prop} (hM : xMod (xP h))  (x1 : Int32)
    (vc : ((xI h 59 2) ≤ x1 → Q (some (.int 1)) h) ∧ (¬ (xI h 59 2) ≤ x1 → (vp_in x1 4) ∧ (((xI h 71 x1.toNatClampNeg) = (xI h 59 0) → XW (xrm 1 0 0) mX11_isOver (xE 100 Q X 0 0) 100 0 0 h 2 [some (.ref 56), some (.int (x1 + 1))] []) ∧ (¬ (xI h 71 x1.toNatClampNeg) = (xI h 59 0) → Q (some (.int 0)) h)))) :
    XW (xrm 1 0 0) mX11_isOver (xE 100 Q X 0 0) 100 0 0 h 2 [some (.ref 56), some (.int x1)] [] := by
  refine xi_iload_n (by decide +kernel : decode mX11_isOver.2.1 2 = .ok (.iload_n 1, 1)) rfl rfl (?_ : XW _ _ _ _ _ _ _ 3 _ _)
  refine xi_aload_n (by decide +kernel : decode mX11_isOver.2.1 3 = .ok (.aload_n 0, 1)) rfl rfl (?_ : XW _ _ _ _ _ _ _ 4 _ _)
  refine xi_getR (y := 59) (by decide +kernel : decode mX11_isOver.2.1 4 = .ok (.getfield 32, 3)) fX11_32 rfl (by omega) rfl (mp_told hM) (?_ : XW _ _ _ _ _ _ _ 7 _ _)
  refine xi_iconst (v := 2) (by decide +kernel : decode mX11_isOver.2.1 7 = .ok (.iconst 2, 1)) (by decide) (?_ : XW _ _ _ _ _ _ _ 8 _ _)
  refine xi_iald (by decide +kernel : decode mX11_isOver.2.1 8 = .ok (.iaload, 1)) rfl (by omega) (by unfold vp_in; decide) (?_ : XW _ _ _ _ _ _ _ 9 _ [.int (xI h 59 2), .int x1])
  refine xi_icmp_ge (by decide +kernel : decode mX11_isOver.2.1 9 = .ok (.if_icmp .ge 26, 3)) (by decide) (fun c => (?_ : XW _ _ _ _ _ _ _ 35 _ _)) (fun c => (?_ : XW _ _ _ _ _ _ _ 12 _ _))
  · replace vc := vc.1 c
    refine xi_iconst (v := 1) (by decide +kernel : decode mX11_isOver.2.1 35 = .ok (.iconst 1, 1)) (by decide) (?_ : XW _ _ _ _ _ _ _ 36 _ _)
    exact xi_iret (by decide +kernel : decode mX11_isOver.2.1 36 = .ok (.ireturn, 1)) rfl rfl vc
  · replace vc := vc.2 c
    refine xi_aload_n (by decide +kernel : decode mX11_isOver.2.1 12 = .ok (.aload_n 0, 1)) rfl rfl (?_ : XW _ _ _ _ _ _ _ 13 _ _)
    refine xi_getR (y := 71) (by decide +kernel : decode mX11_isOver.2.1 13 = .ok (.getfield 73, 3)) fX11_73 rfl (by omega) rfl (mp_place hM) (?_ : XW _ _ _ _ _ _ _ 16 _ _)
    refine xi_iload_n (by decide +kernel : decode mX11_isOver.2.1 16 = .ok (.iload_n 1, 1)) rfl rfl (?_ : XW _ _ _ _ _ _ _ 17 _ _)
    obtain ⟨s1, vc⟩ := vc
    refine xi_iald (by decide +kernel : decode mX11_isOver.2.1 17 = .ok (.iaload, 1)) rfl (by omega) s1 (?_ : XW _ _ _ _ _ _ _ 18 _ _)
    refine xi_aload_n (by decide +kernel : decode mX11_isOver.2.1 18 = .ok (.aload_n 0, 1)) rfl rfl (?_ : XW _ _ _ _ _ _ _ 19 _ _)
    refine xi_getR (y := 59) (by decide +kernel : decode mX11_isOver.2.1 19 = .ok (.getfield 32, 3)) fX11_32 rfl (by omega) rfl (mp_told hM) (?_ : XW _ _ _ _ _ _ _ 22 _ _)
    refine xi_iconst (v := 0) (by decide +kernel : decode mX11_isOver.2.1 22 = .ok (.iconst 0, 1)) (by decide) (?_ : XW _ _ _ _ _ _ _ 23 _ _)
    refine xi_iald (by decide +kernel : decode mX11_isOver.2.1 23 = .ok (.iaload, 1)) rfl (by omega) (by unfold vp_in; decide) (?_ : XW _ _ _ _ _ _ _ 24 _ [.int (xI h 59 0), .int (xI h 71 x1.toNatClampNeg)])
    refine xi_icmp_eq (by decide +kernel : decode mX11_isOver.2.1 24 = .ok (.if_icmp .eq 5, 3)) (by decide) (fun c => (?_ : XW _ _ _ _ _ _ _ 29 _ _)) (fun c => (?_ : XW _ _ _ _ _ _ _ 27 _ _))
    · replace vc := vc.1 c
      refine xi_iinc (v := x1 + 1) (ls' := [some (.ref 56), some (.int (x1 + 1))]) (by decide +kernel : decode mX11_isOver.2.1 29 = .ok (.iinc 1 1, 3)) rfl rfl (by decide) rfl (?_ : XW _ _ _ _ _ _ _ 32 _ _)
      refine xi_goto (by decide +kernel : decode mX11_isOver.2.1 32 = .ok (.goto (-30), 3)) (by decide) (?_ : XW _ _ _ _ _ _ _ 2 _ _)
      exact vc
    · replace vc := vc.2 c
      refine xi_iconst (v := 0) (by decide +kernel : decode mX11_isOver.2.1 27 = .ok (.iconst 0, 1)) (by decide) (?_ : XW _ _ _ _ _ _ _ 28 _ _)
      exact xi_iret (by decide +kernel : decode mX11_isOver.2.1 28 = .ok (.ireturn, 1)) rfl rfl vc

