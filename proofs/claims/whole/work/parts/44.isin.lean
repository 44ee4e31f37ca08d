/-! THE REFERENCE: is it in -/
set_option maxRecDepth 20000 in
theorem v_X11_isIn_0 {h : XH} {Q : Option Value → XH → Prop} {X : String → XH → Prop} (n : Nat)  (v9 : Int64) (a9 : Int64) (b9 : Int64)
    (vc : ((lg_cmp v9 a9) < 0 → Q (some (.int 0)) h) ∧ (¬ (lg_cmp v9 a9) < 0 → (0 < (lg_cmp v9 b9) → Q (some (.int 0)) h) ∧ (¬ 0 < (lg_cmp v9 b9) → Q (some (.int 1)) h))) :
    XW (xrm 1 0 0) mX11_isIn (xE n Q X 0 0) n 0 0 h 0 [some (.long v9), none, some (.long a9), none, some (.long b9), none] [] := by
  refine xi_lload_n (by decide +kernel : decode mX11_isIn.2.1 0 = .ok (.lload_n 0, 1)) rfl rfl (?_ : XW _ _ _ _ _ _ _ 1 _ _)
  refine xi_lload_n (by decide +kernel : decode mX11_isIn.2.1 1 = .ok (.lload_n 2, 1)) rfl rfl (?_ : XW _ _ _ _ _ _ _ 2 _ _)
  refine xi_lcmp (by decide +kernel : decode mX11_isIn.2.1 2 = .ok (.lcmp, 1)) (?_ : XW _ _ _ _ _ _ _ 3 _ _)
  refine xi_if_lt (by decide +kernel : decode mX11_isIn.2.1 3 = .ok (.ifCond .lt 14, 3)) (by decide) (fun c => (?_ : XW _ _ _ _ _ _ _ 17 _ _)) (fun c => (?_ : XW _ _ _ _ _ _ _ 6 _ _))
  · replace vc := vc.1 c
    refine xi_iconst (v := 0) (by decide +kernel : decode mX11_isIn.2.1 17 = .ok (.iconst 0, 1)) (by decide) (?_ : XW _ _ _ _ _ _ _ 18 _ _)
    exact xi_iret (by decide +kernel : decode mX11_isIn.2.1 18 = .ok (.ireturn, 1)) rfl rfl vc
  · replace vc := vc.2 c
    refine xi_lload_n (by decide +kernel : decode mX11_isIn.2.1 6 = .ok (.lload_n 0, 1)) rfl rfl (?_ : XW _ _ _ _ _ _ _ 7 _ _)
    refine xi_lload (by decide +kernel : decode mX11_isIn.2.1 7 = .ok (.lload 4, 2)) rfl (?_ : XW _ _ _ _ _ _ _ 9 _ _)
    refine xi_lcmp (by decide +kernel : decode mX11_isIn.2.1 9 = .ok (.lcmp, 1)) (?_ : XW _ _ _ _ _ _ _ 10 _ _)
    refine xi_if_gt (by decide +kernel : decode mX11_isIn.2.1 10 = .ok (.ifCond .gt 7, 3)) (by decide) (fun c => (?_ : XW _ _ _ _ _ _ _ 17 _ _)) (fun c => (?_ : XW _ _ _ _ _ _ _ 13 _ _))
    · replace vc := vc.1 c
      refine xi_iconst (v := 0) (by decide +kernel : decode mX11_isIn.2.1 17 = .ok (.iconst 0, 1)) (by decide) (?_ : XW _ _ _ _ _ _ _ 18 _ _)
      exact xi_iret (by decide +kernel : decode mX11_isIn.2.1 18 = .ok (.ireturn, 1)) rfl rfl vc
    · replace vc := vc.2 c
      refine xi_iconst (v := 1) (by decide +kernel : decode mX11_isIn.2.1 13 = .ok (.iconst 1, 1)) (by decide) (?_ : XW _ _ _ _ _ _ _ 14 _ _)
      refine xi_goto (by decide +kernel : decode mX11_isIn.2.1 14 = .ok (.goto 4, 3)) (by decide) (?_ : XW _ _ _ _ _ _ _ 18 _ _)
      exact xi_iret (by decide +kernel : decode mX11_isIn.2.1 18 = .ok (.ireturn, 1)) rfl rfl vc

set_option maxRecDepth 20000 in
theorem v_X11_isFace_0 {h : XH} {Q : Option Value → XH → Prop} {X : String → XH → Prop} (n : Nat)  (fc : Int32)
    (vc : ∃ Q1, XSpec mX11_isIn 1 0 0 n n [.long (Int32.toInt64 fc), .long 1, .long 6] h Q1 xno ∧ ∀ v h1, Q1 v h1 → ∃ r1 : Int32, v = some (.int r1) ∧ ((narrow .boolean (.int r1) = .int r1) ∧ (Q (some (.int r1)) h1))) :
    XW (xrm 2 0 0) mX11_isFace (xE n Q X 0 0) n 0 0 h 0 [some (.int fc)] [] := by
  refine xi_iload_n (by decide +kernel : decode mX11_isFace.2.1 0 = .ok (.iload_n 0, 1)) rfl rfl (?_ : XW _ _ _ _ _ _ _ 1 _ _)
  refine xi_i2l (by decide +kernel : decode mX11_isFace.2.1 1 = .ok (.i2l, 1)) (?_ : XW _ _ _ _ _ _ _ 2 _ _)
  refine xi_lconst (v := 1) (by decide +kernel : decode mX11_isFace.2.1 2 = .ok (.lconst 1, 1)) (by decide) (?_ : XW _ _ _ _ _ _ _ 3 _ _)
  refine xi_ldc2 (v := 6) (by decide +kernel : decode mX11_isFace.2.1 3 = .ok (.ldc2_w 168, 3)) cK_X11_168 (?_ : XW _ _ _ _ _ _ _ 6 _ _)
  obtain ⟨Q1, sp, vc⟩ := vc
  refine xi_callS (b := 0) (bs := 0) (As := [.long (Int32.toInt64 fc), .long 1, .long 6]) (st := []) (by decide +kernel : decode mX11_isFace.2.1 6 = .ok (.invokestatic 164, 3)) kX11_164 rfl rfl sp (by decide) (by decide) (Nat.le_of_ble_eq_true rfl) (by omega) (fun v9 h1 hq9 => ?_)
  obtain ⟨r1, e9, vc⟩ := vc v9 h1 hq9
  subst e9
  show XW _ _ _ _ _ _ _ 9 _ [.int r1]
  obtain ⟨s1, vc⟩ := vc
  exact xi_iret (by decide +kernel : decode mX11_isFace.2.1 9 = .ok (.ireturn, 1)) rfl s1 vc

set_option maxRecDepth 20000 in
theorem v_X11_fail_0 {h : XH} {Q : Option Value → XH → Prop} {X : String → XH → Prop} (hM : xMod (xP h))  (kk : Int32)
    (vc : Q (some (.int 0)) (xSI 56 (va_up (xI h 56) 2 kk) h)) :
    XW (xrm 1 0 0) mX11_fail (xE 100 Q X 0 0) 100 0 0 h 0 [some (.ref 56), some (.int kk)] [] := by
  refine xi_aload_n (by decide +kernel : decode mX11_fail.2.1 0 = .ok (.aload_n 0, 1)) rfl rfl (?_ : XW _ _ _ _ _ _ _ 1 _ _)
  refine xi_iload_n (by decide +kernel : decode mX11_fail.2.1 1 = .ok (.iload_n 1, 1)) rfl rfl (?_ : XW _ _ _ _ _ _ _ 2 _ _)
  refine xi_putI (by decide +kernel : decode mX11_fail.2.1 2 = .ok (.putfield 161, 3)) fX11_161 rfl (by omega) rfl rfl rfl (?_ : XW _ _ _ _ _ _ (xSI 56 (va_up (xI h 56) 2 kk) h) 5 _ _)
  refine xi_iconst (v := 0) (by decide +kernel : decode mX11_fail.2.1 5 = .ok (.iconst 0, 1)) (by decide) (?_ : XW _ _ _ _ _ _ _ 6 _ _)
  exact xi_iret (by decide +kernel : decode mX11_fail.2.1 6 = .ok (.ireturn, 1)) rfl rfl vc

theorem s_X11_isIn (n : Nat) (h : XH) (v9 a9 b9 : Int64) : XSpec mX11_isIn 1 0 0 n n [.long v9, .long a9, .long b9] h (xq (some (.int (if v9 < a9 then 0 else if b9 < v9 then 0 else 1))) h) xno := by
  refine XSpec.of rfl (by decide) (Nat.le_of_ble_eq_true rfl) rfl (v_X11_isIn_0 n v9 a9 b9 ?_)
  rw [lg_cmp_lt, lg_cmp_gt]
  refine ⟨fun c => ⟨?_, rfl⟩, fun c => ⟨fun c2 => ⟨?_, rfl⟩, fun c2 => ⟨?_, rfl⟩⟩⟩
  · rw [if_pos c]
  · rw [if_neg c, if_pos c2]
  · rw [if_neg c, if_neg c2]
theorem i2l_lt (x y : Int32) : (Int32.toInt64 x < Int32.toInt64 y) ↔ x < y := by
  rw [Int64.lt_iff_toInt_lt, Int32.lt_iff_toInt_lt, Int32.toInt_toInt64, Int32.toInt_toInt64]
/-- an int between two others, as the reference asks -/
def inI (x lo hi : Int32) : Int32 := if x < lo then 0 else if hi < x then 0 else 1
theorem s_X11_isInI (n : Nat) (h : XH) (x lo hi : Int32) (a9 b9 : Int64) (ha : a9 = Int32.toInt64 lo) (hb : b9 = Int32.toInt64 hi) : XSpec mX11_isIn 1 0 0 n n [.long (Int32.toInt64 x), .long a9, .long b9] h (xq (some (.int (inI x lo hi))) h) xno := by
  have := s_X11_isIn n h (Int32.toInt64 x) a9 b9
  subst ha
  subst hb
  simp only [i2l_lt] at this
  exact this
theorem inI_narrow (x lo hi : Int32) : narrow .boolean (.int (inI x lo hi)) = .int (inI x lo hi) := by
  unfold inI
  split
  · rfl
  · split <;> rfl
theorem s_X11_isSquare (h : XH) (hM : xMod (xP h)) (x : Int32) : XSpec mX11_isSquare 2 0 0 100 100 [.ref 56, .int x] h (xq (some (.int (inI x 0 (xI h 59 0)))) h) xno := by
  refine XSpec.of rfl (by decide) (Nat.le_of_ble_eq_true rfl) rfl (v_X11_isSquare_0 hM x ⟨_, s_X11_isInI 100 h x 0 (xI h 59 0) 0 _ (by decide) rfl, ?_⟩)
  rintro v h1 ⟨rfl, e⟩
  exact ⟨_, rfl, inI_narrow _ _ _, rfl, e⟩
theorem s_X11_isFace (n : Nat) (h : XH) (x : Int32) : XSpec mX11_isFace 2 0 0 n n [.int x] h (xq (some (.int (inI x 1 6))) h) xno := by
  refine XSpec.of rfl (by decide) (Nat.le_of_ble_eq_true rfl) rfl (v_X11_isFace_0 n x ⟨_, s_X11_isInI n h x 1 6 1 6 (by decide) (by decide), ?_⟩)
  rintro v h1 ⟨rfl, e⟩
  exact ⟨_, rfl, inI_narrow _ _ _, rfl, e⟩
theorem s_X11_fail (h : XH) (hM : xMod (xP h)) (kk : Int32) : XSpec mX11_fail 1 0 0 100 100 [.ref 56, .int kk] h (xq (some (.int 0)) (xSI 56 (va_up (xI h 56) 2 kk) h)) xno :=
  XSpec.of rfl (by decide) (Nat.le_of_ble_eq_true rfl) rfl (v_X11_fail_0 hM kk ⟨rfl, rfl⟩)
