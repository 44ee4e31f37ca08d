/-! THE REFERENCE: its cells -/
def modl : List (Nat × Nat) := [(0, 57), (1, 58), (3, 59), (4, 60), (5, 61), (6, 62), (7, 63), (8, 64), (9, 65), (10, 66), (21, 67), (22, 68), (23, 69), (24, 70), (25, 71), (26, 72), (27, 73), (28, 74), (29, 75), (30, 76), (31, 77), (32, 78), (36, 79), (37, 80), (39, 81), (40, 82), (41, 83), (42, 84), (43, 85), (44, 86), (45, 87), (47, 88), (48, 89), (54, 90), (55, 91), (56, 92), (57, 93), (58, 94), (59, 95), (60, 96), (61, 97), (62, 98)]
def xMod (P : Nat → Nat → Option Nat) : Prop := ∀ q ∈ modl, P 56 q.1 = some q.2
theorem mp_ends {P : Nat → Nat → Option Nat} (h : xMod P) : P 56 0 = some 57 := h (0, 57) (by decide)
theorem mp_values {P : Nat → Nat → Option Nat} (h : xMod P) : P 56 1 = some 58 := h (1, 58) (by decide)
theorem mp_told {P : Nat → Nat → Option Nat} (h : xMod P) : P 56 3 = some 59 := h (3, 59) (by decide)
theorem mp_die {P : Nat → Nat → Option Nat} (h : xMod P) : P 56 4 = some 60 := h (4, 60) (by decide)
theorem mp_foot {P : Nat → Nat → Option Nat} (h : xMod P) : P 56 5 = some 61 := h (5, 61) (by decide)
theorem mp_head {P : Nat → Nat → Option Nat} (h : xMod P) : P 56 6 = some 62 := h (6, 62) (by decide)
theorem mp_signs {P : Nat → Nat → Option Nat} (h : xMod P) : P 56 7 = some 63 := h (7, 63) (by decide)
theorem mp_rule {P : Nat → Nat → Option Nat} (h : xMod P) : P 56 8 = some 64 := h (8, 64) (by decide)
theorem mp_status {P : Nat → Nat → Option Nat} (h : xMod P) : P 56 9 = some 65 := h (9, 65) (by decide)
theorem mp_tape {P : Nat → Nat → Option Nat} (h : xMod P) : P 56 10 = some 66 := h (10, 66) (by decide)
theorem mp_to {P : Nat → Nat → Option Nat} (h : xMod P) : P 56 21 = some 67 := h (21, 67) (by decide)
theorem mp_jump {P : Nat → Nat → Option Nat} (h : xMod P) : P 56 22 = some 68 := h (22, 68) (by decide)
theorem mp_stack {P : Nat → Nat → Option Nat} (h : xMod P) : P 56 23 = some 69 := h (23, 69) (by decide)
theorem mp_asked {P : Nat → Nat → Option Nat} (h : xMod P) : P 56 24 = some 70 := h (24, 70) (by decide)
theorem mp_place {P : Nat → Nat → Option Nat} (h : xMod P) : P 56 25 = some 71 := h (25, 71) (by decide)
theorem mp_rolledBy {P : Nat → Nat → Option Nat} (h : xMod P) : P 56 26 = some 72 := h (26, 72) (by decide)
theorem mp_rolledFace {P : Nat → Nat → Option Nat} (h : xMod P) : P 56 27 = some 73 := h (27, 73) (by decide)
theorem mp_rolledFrom {P : Nat → Nat → Option Nat} (h : xMod P) : P 56 28 = some 74 := h (28, 74) (by decide)
theorem mp_rolledTo {P : Nat → Nat → Option Nat} (h : xMod P) : P 56 29 = some 75 := h (29, 75) (by decide)
theorem mp_rolledMet {P : Nat → Nat → Option Nat} (h : xMod P) : P 56 30 = some 76 := h (30, 76) (by decide)
theorem mp_metAt {P : Nat → Nat → Option Nat} (h : xMod P) : P 56 31 = some 77 := h (31, 77) (by decide)
theorem mp_turnThen {P : Nat → Nat → Option Nat} (h : xMod P) : P 56 32 = some 78 := h (32, 78) (by decide)
theorem mp_row {P : Nat → Nat → Option Nat} (h : xMod P) : P 56 36 = some 79 := h (36, 79) (by decide)
theorem mp_away {P : Nat → Nat → Option Nat} (h : xMod P) : P 56 37 = some 80 := h (37, 80) (by decide)
theorem mp_lie {P : Nat → Nat → Option Nat} (h : xMod P) : P 56 39 = some 81 := h (39, 81) (by decide)
theorem mp_come {P : Nat → Nat → Option Nat} (h : xMod P) : P 56 40 = some 82 := h (40, 82) (by decide)
theorem mp_outOf {P : Nat → Nat → Option Nat} (h : xMod P) : P 56 41 = some 83 := h (41, 83) (by decide)
theorem mp_outOfOther {P : Nat → Nat → Option Nat} (h : xMod P) : P 56 42 = some 84 := h (42, 84) (by decide)
theorem mp_both {P : Nat → Nat → Option Nat} (h : xMod P) : P 56 43 = some 85 := h (43, 85) (by decide)
theorem mp_bothNext {P : Nat → Nat → Option Nat} (h : xMod P) : P 56 44 = some 86 := h (44, 86) (by decide)
theorem mp_noted {P : Nat → Nat → Option Nat} (h : xMod P) : P 56 45 = some 87 := h (45, 87) (by decide)
theorem mp_waysOn {P : Nat → Nat → Option Nat} (h : xMod P) : P 56 47 = some 88 := h (47, 88) (by decide)
theorem mp_text {P : Nat → Nat → Option Nat} (h : xMod P) : P 56 48 = some 89 := h (48, 89) (by decide)
theorem mp_placeImage {P : Nat → Nat → Option Nat} (h : xMod P) : P 56 54 = some 90 := h (54, 90) (by decide)
theorem mp_byImage {P : Nat → Nat → Option Nat} (h : xMod P) : P 56 55 = some 91 := h (55, 91) (by decide)
theorem mp_faceImage {P : Nat → Nat → Option Nat} (h : xMod P) : P 56 56 = some 92 := h (56, 92) (by decide)
theorem mp_fromImage {P : Nat → Nat → Option Nat} (h : xMod P) : P 56 57 = some 93 := h (57, 93) (by decide)
theorem mp_toImage {P : Nat → Nat → Option Nat} (h : xMod P) : P 56 58 = some 94 := h (58, 94) (by decide)
theorem mp_metImage {P : Nat → Nat → Option Nat} (h : xMod P) : P 56 59 = some 95 := h (59, 95) (by decide)
theorem mp_turnsImage {P : Nat → Nat → Option Nat} (h : xMod P) : P 56 60 = some 96 := h (60, 96) (by decide)
theorem mp_notedImage {P : Nat → Nat → Option Nat} (h : xMod P) : P 56 61 = some 97 := h (61, 97) (by decide)
theorem mp_statusImage {P : Nat → Nat → Option Nat} (h : xMod P) : P 56 62 = some 98 := h (62, 98) (by decide)
set_option maxRecDepth 20000 in
theorem v_X11_allOdds_0 {h : XH} {Q : Option Value → XH → Prop} {X : String → XH → Prop} (hM : xMod (xP h)) 
    (vc : XW (xrm 1 0 0) mX11_allOdds (xE 100 Q X 0 0) 100 0 0 h 4 [some (.ref 56), some (.int 0), some (.int 0)] []) :
    XW (xrm 1 0 0) mX11_allOdds (xE 100 Q X 0 0) 100 0 0 h 0 [some (.ref 56), none, none] [] := by
  refine xi_iconst (v := 0) (by decide +kernel : decode mX11_allOdds.2.1 0 = .ok (.iconst 0, 1)) (by decide) (?_ : XW _ _ _ _ _ _ _ 1 _ _)
  refine xi_istore_n (ls' := [some (.ref 56), some (.int 0), none]) (by decide +kernel : decode mX11_allOdds.2.1 1 = .ok (.istore_n 1, 1)) rfl (by decide) rfl (?_ : XW _ _ _ _ _ _ _ 2 _ _)
  refine xi_iconst (v := 0) (by decide +kernel : decode mX11_allOdds.2.1 2 = .ok (.iconst 0, 1)) (by decide) (?_ : XW _ _ _ _ _ _ _ 3 _ _)
  refine xi_istore_n (ls' := [some (.ref 56), some (.int 0), some (.int 0)]) (by decide +kernel : decode mX11_allOdds.2.1 3 = .ok (.istore_n 2, 1)) rfl (by decide) rfl (?_ : XW _ _ _ _ _ _ _ 4 _ _)
  exact vc

set_option maxRecDepth 20000 in
theorem v_X11_allOdds_4 {h : XH} {Q : Option Value → XH → Prop} {X : String → XH → Prop} (hM : xMod (xP h))  (x1 : Int32) (x2 : Int32)
    (vc : (6 ≤ x2 → Q (some (.int x1)) h) ∧ (¬ 6 ≤ x2 → (vp_in x2 12) ∧ (XW (xrm 1 0 0) mX11_allOdds (xE 100 Q X 0 0) 100 0 0 h 4 [some (.ref 56), some (.int (x1 + (xI h 60 x2.toNatClampNeg))), some (.int (x2 + 1))] []))) :
    XW (xrm 1 0 0) mX11_allOdds (xE 100 Q X 0 0) 100 0 0 h 4 [some (.ref 56), some (.int x1), some (.int x2)] [] := by
  refine xi_iload_n (by decide +kernel : decode mX11_allOdds.2.1 4 = .ok (.iload_n 2, 1)) rfl rfl (?_ : XW _ _ _ _ _ _ _ 5 _ _)
  refine xi_bipush (v := 6) (by decide +kernel : decode mX11_allOdds.2.1 5 = .ok (.bipush 6, 2)) (by decide) (?_ : XW _ _ _ _ _ _ _ 7 _ _)
  refine xi_icmp_ge (by decide +kernel : decode mX11_allOdds.2.1 7 = .ok (.if_icmp .ge 18, 3)) (by decide) (fun c => (?_ : XW _ _ _ _ _ _ _ 25 _ _)) (fun c => (?_ : XW _ _ _ _ _ _ _ 10 _ _))
  · replace vc := vc.1 c
    refine xi_iload_n (by decide +kernel : decode mX11_allOdds.2.1 25 = .ok (.iload_n 1, 1)) rfl rfl (?_ : XW _ _ _ _ _ _ _ 26 _ _)
    exact xi_iret (by decide +kernel : decode mX11_allOdds.2.1 26 = .ok (.ireturn, 1)) rfl rfl vc
  · replace vc := vc.2 c
    refine xi_iload_n (by decide +kernel : decode mX11_allOdds.2.1 10 = .ok (.iload_n 1, 1)) rfl rfl (?_ : XW _ _ _ _ _ _ _ 11 _ _)
    refine xi_aload_n (by decide +kernel : decode mX11_allOdds.2.1 11 = .ok (.aload_n 0, 1)) rfl rfl (?_ : XW _ _ _ _ _ _ _ 12 _ _)
    refine xi_getR (y := 60) (by decide +kernel : decode mX11_allOdds.2.1 12 = .ok (.getfield 36, 3)) fX11_36 rfl (by omega) rfl (mp_die hM) (?_ : XW _ _ _ _ _ _ _ 15 _ _)
    refine xi_iload_n (by decide +kernel : decode mX11_allOdds.2.1 15 = .ok (.iload_n 2, 1)) rfl rfl (?_ : XW _ _ _ _ _ _ _ 16 _ _)
    obtain ⟨s1, vc⟩ := vc
    refine xi_iald (by decide +kernel : decode mX11_allOdds.2.1 16 = .ok (.iaload, 1)) rfl (by omega) s1 (?_ : XW _ _ _ _ _ _ _ 17 _ _)
    refine xi_iadd (by decide +kernel : decode mX11_allOdds.2.1 17 = .ok (.iadd, 1)) (?_ : XW _ _ _ _ _ _ _ 18 _ _)
    refine xi_istore_n (ls' := [some (.ref 56), some (.int (x1 + (xI h 60 x2.toNatClampNeg))), some (.int x2)]) (by decide +kernel : decode mX11_allOdds.2.1 18 = .ok (.istore_n 1, 1)) rfl (by decide) rfl (?_ : XW _ _ _ _ _ _ _ 19 _ _)
    refine xi_iinc (v := x2 + 1) (ls' := [some (.ref 56), some (.int (x1 + (xI h 60 x2.toNatClampNeg))), some (.int (x2 + 1))]) (by decide +kernel : decode mX11_allOdds.2.1 19 = .ok (.iinc 2 1, 3)) rfl rfl (by decide) rfl (?_ : XW _ _ _ _ _ _ _ 22 _ _)
    refine xi_goto (by decide +kernel : decode mX11_allOdds.2.1 22 = .ok (.goto (-18), 3)) (by decide) (?_ : XW _ _ _ _ _ _ _ 4 _ _)
    exact vc

set_option maxRecDepth 20000 in
theorem v_X11_pour_0 {h : XH} {Q : Option Value → XH → Prop} {X : String → XH → Prop} (hM : xMod (xP h))  (sq : Int32)
    (vc : XW (xrm 1 0 0) mX11_pour (xE 100 Q X 0 0) 100 0 0 h 2 [some (.ref 56), some (.int sq), some (.int 0)] []) :
    XW (xrm 1 0 0) mX11_pour (xE 100 Q X 0 0) 100 0 0 h 0 [some (.ref 56), some (.int sq), none] [] := by
  refine xi_iconst (v := 0) (by decide +kernel : decode mX11_pour.2.1 0 = .ok (.iconst 0, 1)) (by decide) (?_ : XW _ _ _ _ _ _ _ 1 _ _)
  refine xi_istore_n (ls' := [some (.ref 56), some (.int sq), some (.int 0)]) (by decide +kernel : decode mX11_pour.2.1 1 = .ok (.istore_n 2, 1)) rfl (by decide) rfl (?_ : XW _ _ _ _ _ _ _ 2 _ _)
  exact vc

set_option maxRecDepth 20000 in
theorem v_X11_pour_2 {h : XH} {Q : Option Value → XH → Prop} {X : String → XH → Prop} (hM : xMod (xP h))  (x1 : Int32) (x2 : Int32)
    (vc : (101 ≤ x2 → Q none h) ∧ (¬ 101 ≤ x2 → (¬ x2 = x1 → (vp_in x2 101) ∧ (XW (xrm 1 0 0) mX11_pour (xE 100 Q X 0 0) 100 0 0 (xSL 81 (va_up (xL h 81) x2.toNatClampNeg 0) h) 2 [some (.ref 56), some (.int x1), some (.int (x2 + 1))] [])) ∧ (x2 = x1 → (vp_in x2 101) ∧ (XW (xrm 1 0 0) mX11_pour (xE 100 Q X 0 0) 100 0 0 (xSL 81 (va_up (xL h 81) x2.toNatClampNeg 1000000000) h) 2 [some (.ref 56), some (.int x1), some (.int (x2 + 1))] [])))) :
    XW (xrm 1 0 0) mX11_pour (xE 100 Q X 0 0) 100 0 0 h 2 [some (.ref 56), some (.int x1), some (.int x2)] [] := by
  refine xi_iload_n (by decide +kernel : decode mX11_pour.2.1 2 = .ok (.iload_n 2, 1)) rfl rfl (?_ : XW _ _ _ _ _ _ _ 3 _ _)
  refine xi_bipush (v := 101) (by decide +kernel : decode mX11_pour.2.1 3 = .ok (.bipush 101, 2)) (by decide) (?_ : XW _ _ _ _ _ _ _ 5 _ _)
  refine xi_icmp_ge (by decide +kernel : decode mX11_pour.2.1 5 = .ok (.if_icmp .ge 27, 3)) (by decide) (fun c => (?_ : XW _ _ _ _ _ _ _ 32 _ _)) (fun c => (?_ : XW _ _ _ _ _ _ _ 8 _ _))
  · replace vc := vc.1 c
    exact xi_vret (by decide +kernel : decode mX11_pour.2.1 32 = .ok (.return_, 1)) rfl vc
  · replace vc := vc.2 c
    refine xi_aload_n (by decide +kernel : decode mX11_pour.2.1 8 = .ok (.aload_n 0, 1)) rfl rfl (?_ : XW _ _ _ _ _ _ _ 9 _ _)
    refine xi_getR (y := 81) (by decide +kernel : decode mX11_pour.2.1 9 = .ok (.getfield 106, 3)) fX11_106 rfl (by omega) rfl (mp_lie hM) (?_ : XW _ _ _ _ _ _ _ 12 _ _)
    refine xi_iload_n (by decide +kernel : decode mX11_pour.2.1 12 = .ok (.iload_n 2, 1)) rfl rfl (?_ : XW _ _ _ _ _ _ _ 13 _ _)
    refine xi_iload_n (by decide +kernel : decode mX11_pour.2.1 13 = .ok (.iload_n 2, 1)) rfl rfl (?_ : XW _ _ _ _ _ _ _ 14 _ _)
    refine xi_iload_n (by decide +kernel : decode mX11_pour.2.1 14 = .ok (.iload_n 1, 1)) rfl rfl (?_ : XW _ _ _ _ _ _ _ 15 _ _)
    refine xi_icmp_ne (by decide +kernel : decode mX11_pour.2.1 15 = .ok (.if_icmp .ne 9, 3)) (by decide) (fun c => (?_ : XW _ _ _ _ _ _ _ 24 _ _)) (fun c => (?_ : XW _ _ _ _ _ _ _ 18 _ _))
    · replace vc := vc.1 c
      refine xi_lconst (v := 0) (by decide +kernel : decode mX11_pour.2.1 24 = .ok (.lconst 0, 1)) (by decide) (?_ : XW _ _ _ _ _ _ _ 25 _ _)
      obtain ⟨s1, vc⟩ := vc
      refine xi_last (by decide +kernel : decode mX11_pour.2.1 25 = .ok (.lastore, 1)) rfl (by omega) s1 (?_ : XW _ _ _ _ _ _ (xSL 81 (va_up (xL h 81) x2.toNatClampNeg 0) h) 26 _ _)
      refine xi_iinc (v := x2 + 1) (ls' := [some (.ref 56), some (.int x1), some (.int (x2 + 1))]) (by decide +kernel : decode mX11_pour.2.1 26 = .ok (.iinc 2 1, 3)) rfl rfl (by decide) rfl (?_ : XW _ _ _ _ _ _ _ 29 _ _)
      refine xi_goto (by decide +kernel : decode mX11_pour.2.1 29 = .ok (.goto (-27), 3)) (by decide) (?_ : XW _ _ _ _ _ _ _ 2 _ _)
      exact vc
    · replace vc := vc.2 c
      refine xi_ldc2 (v := 1000000000) (by decide +kernel : decode mX11_pour.2.1 18 = .ok (.ldc2_w 401, 3)) cK_X11_401 (?_ : XW _ _ _ _ _ _ _ 21 _ _)
      refine xi_goto (by decide +kernel : decode mX11_pour.2.1 21 = .ok (.goto 4, 3)) (by decide) (?_ : XW _ _ _ _ _ _ _ 25 _ _)
      obtain ⟨s1, vc⟩ := vc
      refine xi_last (by decide +kernel : decode mX11_pour.2.1 25 = .ok (.lastore, 1)) rfl (by omega) s1 (?_ : XW _ _ _ _ _ _ (xSL 81 (va_up (xL h 81) x2.toNatClampNeg 1000000000) h) 26 _ _)
      refine xi_iinc (v := x2 + 1) (ls' := [some (.ref 56), some (.int x1), some (.int (x2 + 1))]) (by decide +kernel : decode mX11_pour.2.1 26 = .ok (.iinc 2 1, 3)) rfl rfl (by decide) rfl (?_ : XW _ _ _ _ _ _ _ 29 _ _)
      refine xi_goto (by decide +kernel : decode mX11_pour.2.1 29 = .ok (.goto (-27), 3)) (by decide) (?_ : XW _ _ _ _ _ _ _ 2 _ _)
      exact vc

set_option maxRecDepth 20000 in
theorem v_X11_out_0 {h : XH} {Q : Option Value → XH → Prop} {X : String → XH → Prop} (hM : xMod (xP h)) 
    (vc : (vp_in (xI h 59 0) 101) ∧ (Q (some (.long (1000000000 - (xL h 81 (xI h 59 0).toNatClampNeg)))) h)) :
    XW (xrm 1 0 0) mX11_out (xE 100 Q X 0 0) 100 0 0 h 0 [some (.ref 56)] [] := by
  refine xi_ldc2 (v := 1000000000) (by decide +kernel : decode mX11_out.2.1 0 = .ok (.ldc2_w 401, 3)) cK_X11_401 (?_ : XW _ _ _ _ _ _ _ 3 _ _)
  refine xi_aload_n (by decide +kernel : decode mX11_out.2.1 3 = .ok (.aload_n 0, 1)) rfl rfl (?_ : XW _ _ _ _ _ _ _ 4 _ _)
  refine xi_getR (y := 81) (by decide +kernel : decode mX11_out.2.1 4 = .ok (.getfield 106, 3)) fX11_106 rfl (by omega) rfl (mp_lie hM) (?_ : XW _ _ _ _ _ _ _ 7 _ _)
  refine xi_aload_n (by decide +kernel : decode mX11_out.2.1 7 = .ok (.aload_n 0, 1)) rfl rfl (?_ : XW _ _ _ _ _ _ _ 8 _ _)
  refine xi_getR (y := 59) (by decide +kernel : decode mX11_out.2.1 8 = .ok (.getfield 32, 3)) fX11_32 rfl (by omega) rfl (mp_told hM) (?_ : XW _ _ _ _ _ _ _ 11 _ _)
  refine xi_iconst (v := 0) (by decide +kernel : decode mX11_out.2.1 11 = .ok (.iconst 0, 1)) (by decide) (?_ : XW _ _ _ _ _ _ _ 12 _ _)
  refine xi_iald (by decide +kernel : decode mX11_out.2.1 12 = .ok (.iaload, 1)) rfl (by omega) (by unfold vp_in; decide) (?_ : XW _ _ _ _ _ _ _ 13 _ [.int (xI h 59 0), .ref 81, .long 1000000000])
  obtain ⟨s1, vc⟩ := vc
  refine xi_lald (by decide +kernel : decode mX11_out.2.1 13 = .ok (.laload, 1)) rfl (by omega) s1 (?_ : XW _ _ _ _ _ _ _ 14 _ _)
  refine xi_lsub (by decide +kernel : decode mX11_out.2.1 14 = .ok (.lsub, 1)) (?_ : XW _ _ _ _ _ _ _ 15 _ _)
  exact xi_lret (by decide +kernel : decode mX11_out.2.1 15 = .ok (.lreturn, 1)) rfl vc

set_option maxRecDepth 20000 in
theorem v_X11_share_0 {h : XH} {Q : Option Value → XH → Prop} {X : String → XH → Prop} (hM : xMod (xP h)) 
    (vc : ∃ Q1, XSpec mX11_allOdds 1 0 0 100 100 [.ref 56] h Q1 xno ∧ ∀ v h1, Q1 v h1 → ∃ r1 : Int32, v = some (.int r1) ∧ (XW (xrm 2 0 0) mX11_share (xE 100 Q X 0 0) 100 0 0 h1 7 [some (.ref 56), some (.int r1), some (.int 1), none, none, none, none, none, none] [])) :
    XW (xrm 2 0 0) mX11_share (xE 100 Q X 0 0) 100 0 0 h 0 [some (.ref 56), none, none, none, none, none, none, none, none] [] := by
  refine xi_aload_n (by decide +kernel : decode mX11_share.2.1 0 = .ok (.aload_n 0, 1)) rfl rfl (?_ : XW _ _ _ _ _ _ _ 1 _ _)
  obtain ⟨Q1, sp, vc⟩ := vc
  refine xi_callV (b := 0) (bs := 0) (As := []) (st := []) (by decide +kernel : decode mX11_share.2.1 1 = .ok (.invokevirtual 388, 3)) kX11_388 rfl rfl (by omega) rfl sp (by decide) (by decide) (Nat.le_of_ble_eq_true rfl) (by omega) (fun v9 h1 hq9 => ?_)
  obtain ⟨r1, e9, vc⟩ := vc v9 h1 hq9
  subst e9
  show XW _ _ _ _ _ _ _ 4 _ [.int r1]
  refine xi_istore_n (ls' := [some (.ref 56), some (.int r1), none, none, none, none, none, none, none]) (by decide +kernel : decode mX11_share.2.1 4 = .ok (.istore_n 1, 1)) rfl (by decide) rfl (?_ : XW _ _ _ _ _ _ _ 5 _ _)
  refine xi_iconst (v := 1) (by decide +kernel : decode mX11_share.2.1 5 = .ok (.iconst 1, 1)) (by decide) (?_ : XW _ _ _ _ _ _ _ 6 _ _)
  refine xi_istore_n (ls' := [some (.ref 56), some (.int r1), some (.int 1), none, none, none, none, none, none]) (by decide +kernel : decode mX11_share.2.1 6 = .ok (.istore_n 2, 1)) rfl (by decide) rfl (?_ : XW _ _ _ _ _ _ _ 7 _ _)
  exact vc

set_option maxRecDepth 20000 in
theorem v_X11_share_7 {h : XH} {Q : Option Value → XH → Prop} {X : String → XH → Prop} (hM : xMod (xP h))  (x1 : Int32) (x2 : Int32)
    (vc : (vp_in (x2 - 1) 12) ∧ ((¬ (xI h 60 (x2 - 1).toNatClampNeg) = 0 → XW (xrm 2 0 0) mX11_share (xE 100 Q X 0 0) 100 0 0 h 26 [some (.ref 56), some (.int x1), some (.int x2), some (.int 0), none, none, none, none, none] []) ∧ ((xI h 60 (x2 - 1).toNatClampNeg) = 0 → XW (xrm 2 0 0) mX11_share (xE 100 Q X 0 0) 100 0 0 h 7 [some (.ref 56), some (.int x1), some (.int (x2 + 1)), none, none, none, none, none, none] []))) :
    XW (xrm 2 0 0) mX11_share (xE 100 Q X 0 0) 100 0 0 h 7 [some (.ref 56), some (.int x1), some (.int x2), none, none, none, none, none, none] [] := by
  refine xi_aload_n (by decide +kernel : decode mX11_share.2.1 7 = .ok (.aload_n 0, 1)) rfl rfl (?_ : XW _ _ _ _ _ _ _ 8 _ _)
  refine xi_getR (y := 60) (by decide +kernel : decode mX11_share.2.1 8 = .ok (.getfield 36, 3)) fX11_36 rfl (by omega) rfl (mp_die hM) (?_ : XW _ _ _ _ _ _ _ 11 _ _)
  refine xi_iload_n (by decide +kernel : decode mX11_share.2.1 11 = .ok (.iload_n 2, 1)) rfl rfl (?_ : XW _ _ _ _ _ _ _ 12 _ _)
  refine xi_iconst (v := 1) (by decide +kernel : decode mX11_share.2.1 12 = .ok (.iconst 1, 1)) (by decide) (?_ : XW _ _ _ _ _ _ _ 13 _ _)
  refine xi_isub (by decide +kernel : decode mX11_share.2.1 13 = .ok (.isub, 1)) (?_ : XW _ _ _ _ _ _ _ 14 _ _)
  obtain ⟨s1, vc⟩ := vc
  refine xi_iald (by decide +kernel : decode mX11_share.2.1 14 = .ok (.iaload, 1)) rfl (by omega) s1 (?_ : XW _ _ _ _ _ _ _ 15 _ _)
  refine xi_if_ne (by decide +kernel : decode mX11_share.2.1 15 = .ok (.ifCond .ne 9, 3)) (by decide) (fun c => (?_ : XW _ _ _ _ _ _ _ 24 _ _)) (fun c => (?_ : XW _ _ _ _ _ _ _ 18 _ _))
  · replace vc := vc.1 c
    refine xi_iconst (v := 0) (by decide +kernel : decode mX11_share.2.1 24 = .ok (.iconst 0, 1)) (by decide) (?_ : XW _ _ _ _ _ _ _ 25 _ _)
    refine xi_istore_n (ls' := [some (.ref 56), some (.int x1), some (.int x2), some (.int 0), none, none, none, none, none]) (by decide +kernel : decode mX11_share.2.1 25 = .ok (.istore_n 3, 1)) rfl (by decide) rfl (?_ : XW _ _ _ _ _ _ _ 26 _ _)
    exact vc
  · replace vc := vc.2 c
    refine xi_iinc (v := x2 + 1) (ls' := [some (.ref 56), some (.int x1), some (.int (x2 + 1)), none, none, none, none, none, none]) (by decide +kernel : decode mX11_share.2.1 18 = .ok (.iinc 2 1, 3)) rfl rfl (by decide) rfl (?_ : XW _ _ _ _ _ _ _ 21 _ _)
    refine xi_goto (by decide +kernel : decode mX11_share.2.1 21 = .ok (.goto (-14), 3)) (by decide) (?_ : XW _ _ _ _ _ _ _ 7 _ _)
    exact vc

set_option maxRecDepth 20000 in
theorem v_X11_share_26 {h : XH} {Q : Option Value → XH → Prop} {X : String → XH → Prop} (hM : xMod (xP h))  (x1 : Int32) (x2 : Int32) (x3 : Int32)
    (vc : ((xI h 59 0) < x3 → (vp_in (xI h 59 0) 101) ∧ ((vp_in (xI h 59 0) 101) ∧ (XW (xrm 2 0 0) mX11_share (xE 100 Q X 0 0) 100 0 0 (xSL 82 (va_up (xL h 82) (xI h 59 0).toNatClampNeg (xL h 81 (xI h 59 0).toNatClampNeg)) h) 73 [some (.ref 56), some (.int x1), some (.int x2), some (.int 0), none, none, none, none, none] []))) ∧ (¬ (xI h 59 0) < x3 → (vp_in x3 101) ∧ (XW (xrm 2 0 0) mX11_share (xE 100 Q X 0 0) 100 0 0 (xSL 82 (va_up (xL h 82) x3.toNatClampNeg 0) h) 26 [some (.ref 56), some (.int x1), some (.int x2), some (.int (x3 + 1)), none, none, none, none, none] []))) :
    XW (xrm 2 0 0) mX11_share (xE 100 Q X 0 0) 100 0 0 h 26 [some (.ref 56), some (.int x1), some (.int x2), some (.int x3), none, none, none, none, none] [] := by
  refine xi_iload_n (by decide +kernel : decode mX11_share.2.1 26 = .ok (.iload_n 3, 1)) rfl rfl (?_ : XW _ _ _ _ _ _ _ 27 _ _)
  refine xi_aload_n (by decide +kernel : decode mX11_share.2.1 27 = .ok (.aload_n 0, 1)) rfl rfl (?_ : XW _ _ _ _ _ _ _ 28 _ _)
  refine xi_getR (y := 59) (by decide +kernel : decode mX11_share.2.1 28 = .ok (.getfield 32, 3)) fX11_32 rfl (by omega) rfl (mp_told hM) (?_ : XW _ _ _ _ _ _ _ 31 _ _)
  refine xi_iconst (v := 0) (by decide +kernel : decode mX11_share.2.1 31 = .ok (.iconst 0, 1)) (by decide) (?_ : XW _ _ _ _ _ _ _ 32 _ _)
  refine xi_iald (by decide +kernel : decode mX11_share.2.1 32 = .ok (.iaload, 1)) rfl (by omega) (by unfold vp_in; decide) (?_ : XW _ _ _ _ _ _ _ 33 _ [.int (xI h 59 0), .int x3])
  refine xi_icmp_gt (by decide +kernel : decode mX11_share.2.1 33 = .ok (.if_icmp .gt 16, 3)) (by decide) (fun c => (?_ : XW _ _ _ _ _ _ _ 49 _ _)) (fun c => (?_ : XW _ _ _ _ _ _ _ 36 _ _))
  · replace vc := vc.1 c
    refine xi_aload_n (by decide +kernel : decode mX11_share.2.1 49 = .ok (.aload_n 0, 1)) rfl rfl (?_ : XW _ _ _ _ _ _ _ 50 _ _)
    refine xi_getR (y := 82) (by decide +kernel : decode mX11_share.2.1 50 = .ok (.getfield 110, 3)) fX11_110 rfl (by omega) rfl (mp_come hM) (?_ : XW _ _ _ _ _ _ _ 53 _ _)
    refine xi_aload_n (by decide +kernel : decode mX11_share.2.1 53 = .ok (.aload_n 0, 1)) rfl rfl (?_ : XW _ _ _ _ _ _ _ 54 _ _)
    refine xi_getR (y := 59) (by decide +kernel : decode mX11_share.2.1 54 = .ok (.getfield 32, 3)) fX11_32 rfl (by omega) rfl (mp_told hM) (?_ : XW _ _ _ _ _ _ _ 57 _ _)
    refine xi_iconst (v := 0) (by decide +kernel : decode mX11_share.2.1 57 = .ok (.iconst 0, 1)) (by decide) (?_ : XW _ _ _ _ _ _ _ 58 _ _)
    refine xi_iald (by decide +kernel : decode mX11_share.2.1 58 = .ok (.iaload, 1)) rfl (by omega) (by unfold vp_in; decide) (?_ : XW _ _ _ _ _ _ _ 59 _ [.int (xI h 59 0), .ref 82])
    refine xi_aload_n (by decide +kernel : decode mX11_share.2.1 59 = .ok (.aload_n 0, 1)) rfl rfl (?_ : XW _ _ _ _ _ _ _ 60 _ _)
    refine xi_getR (y := 81) (by decide +kernel : decode mX11_share.2.1 60 = .ok (.getfield 106, 3)) fX11_106 rfl (by omega) rfl (mp_lie hM) (?_ : XW _ _ _ _ _ _ _ 63 _ _)
    refine xi_aload_n (by decide +kernel : decode mX11_share.2.1 63 = .ok (.aload_n 0, 1)) rfl rfl (?_ : XW _ _ _ _ _ _ _ 64 _ _)
    refine xi_getR (y := 59) (by decide +kernel : decode mX11_share.2.1 64 = .ok (.getfield 32, 3)) fX11_32 rfl (by omega) rfl (mp_told hM) (?_ : XW _ _ _ _ _ _ _ 67 _ _)
    refine xi_iconst (v := 0) (by decide +kernel : decode mX11_share.2.1 67 = .ok (.iconst 0, 1)) (by decide) (?_ : XW _ _ _ _ _ _ _ 68 _ _)
    refine xi_iald (by decide +kernel : decode mX11_share.2.1 68 = .ok (.iaload, 1)) rfl (by omega) (by unfold vp_in; decide) (?_ : XW _ _ _ _ _ _ _ 69 _ [.int (xI h 59 0), .ref 81, .int (xI h 59 0), .ref 82])
    obtain ⟨s1, vc⟩ := vc
    refine xi_lald (by decide +kernel : decode mX11_share.2.1 69 = .ok (.laload, 1)) rfl (by omega) s1 (?_ : XW _ _ _ _ _ _ _ 70 _ _)
    obtain ⟨s1, vc⟩ := vc
    refine xi_last (by decide +kernel : decode mX11_share.2.1 70 = .ok (.lastore, 1)) rfl (by omega) s1 (?_ : XW _ _ _ _ _ _ (xSL 82 (va_up (xL h 82) (xI h 59 0).toNatClampNeg (xL h 81 (xI h 59 0).toNatClampNeg)) h) 71 _ _)
    refine xi_iconst (v := 0) (by decide +kernel : decode mX11_share.2.1 71 = .ok (.iconst 0, 1)) (by decide) (?_ : XW _ _ _ _ _ _ _ 72 _ _)
    refine xi_istore_n (ls' := [some (.ref 56), some (.int x1), some (.int x2), some (.int 0), none, none, none, none, none]) (by decide +kernel : decode mX11_share.2.1 72 = .ok (.istore_n 3, 1)) rfl (by decide) rfl (?_ : XW _ _ _ _ _ _ _ 73 _ _)
    exact vc
  · replace vc := vc.2 c
    refine xi_aload_n (by decide +kernel : decode mX11_share.2.1 36 = .ok (.aload_n 0, 1)) rfl rfl (?_ : XW _ _ _ _ _ _ _ 37 _ _)
    refine xi_getR (y := 82) (by decide +kernel : decode mX11_share.2.1 37 = .ok (.getfield 110, 3)) fX11_110 rfl (by omega) rfl (mp_come hM) (?_ : XW _ _ _ _ _ _ _ 40 _ _)
    refine xi_iload_n (by decide +kernel : decode mX11_share.2.1 40 = .ok (.iload_n 3, 1)) rfl rfl (?_ : XW _ _ _ _ _ _ _ 41 _ _)
    refine xi_lconst (v := 0) (by decide +kernel : decode mX11_share.2.1 41 = .ok (.lconst 0, 1)) (by decide) (?_ : XW _ _ _ _ _ _ _ 42 _ _)
    obtain ⟨s1, vc⟩ := vc
    refine xi_last (by decide +kernel : decode mX11_share.2.1 42 = .ok (.lastore, 1)) rfl (by omega) s1 (?_ : XW _ _ _ _ _ _ (xSL 82 (va_up (xL h 82) x3.toNatClampNeg 0) h) 43 _ _)
    refine xi_iinc (v := x3 + 1) (ls' := [some (.ref 56), some (.int x1), some (.int x2), some (.int (x3 + 1)), none, none, none, none, none]) (by decide +kernel : decode mX11_share.2.1 43 = .ok (.iinc 3 1, 3)) rfl rfl (by decide) rfl (?_ : XW _ _ _ _ _ _ _ 46 _ _)
    refine xi_goto (by decide +kernel : decode mX11_share.2.1 46 = .ok (.goto (-20), 3)) (by decide) (?_ : XW _ _ _ _ _ _ _ 26 _ _)
    exact vc

set_option maxRecDepth 20000 in
theorem v_X11_share_73 {h : XH} {Q : Option Value → XH → Prop} {X : String → XH → Prop} (hM : xMod (xP h))  (x1 : Int32) (x2 : Int32) (x3 : Int32)
    (vc : ((xI h 59 0) ≤ x3 → XW (xrm 2 0 0) mX11_share (xE 100 Q X 0 0) 100 0 0 h 187 [some (.ref 56), none, none, some (.int 0), none, none, none, none, none] []) ∧ (¬ (xI h 59 0) ≤ x3 → (vp_in x3 101) ∧ (XW (xrm 2 0 0) mX11_share (xE 100 Q X 0 0) 100 0 0 h 94 [some (.ref 56), some (.int x1), some (.int x2), some (.int x3), some (.long (xL h 81 x3.toNatClampNeg)), none, some (.int 1), none, none] []))) :
    XW (xrm 2 0 0) mX11_share (xE 100 Q X 0 0) 100 0 0 h 73 [some (.ref 56), some (.int x1), some (.int x2), some (.int x3), none, none, none, none, none] [] := by
  refine xi_iload_n (by decide +kernel : decode mX11_share.2.1 73 = .ok (.iload_n 3, 1)) rfl rfl (?_ : XW _ _ _ _ _ _ _ 74 _ _)
  refine xi_aload_n (by decide +kernel : decode mX11_share.2.1 74 = .ok (.aload_n 0, 1)) rfl rfl (?_ : XW _ _ _ _ _ _ _ 75 _ _)
  refine xi_getR (y := 59) (by decide +kernel : decode mX11_share.2.1 75 = .ok (.getfield 32, 3)) fX11_32 rfl (by omega) rfl (mp_told hM) (?_ : XW _ _ _ _ _ _ _ 78 _ _)
  refine xi_iconst (v := 0) (by decide +kernel : decode mX11_share.2.1 78 = .ok (.iconst 0, 1)) (by decide) (?_ : XW _ _ _ _ _ _ _ 79 _ _)
  refine xi_iald (by decide +kernel : decode mX11_share.2.1 79 = .ok (.iaload, 1)) rfl (by omega) (by unfold vp_in; decide) (?_ : XW _ _ _ _ _ _ _ 80 _ [.int (xI h 59 0), .int x3])
  refine xi_icmp_ge (by decide +kernel : decode mX11_share.2.1 80 = .ok (.if_icmp .ge 105, 3)) (by decide) (fun c => (?_ : XW _ _ _ _ _ _ _ 185 _ _)) (fun c => (?_ : XW _ _ _ _ _ _ _ 83 _ _))
  · replace vc := vc.1 c
    refine xi_iconst (v := 0) (by decide +kernel : decode mX11_share.2.1 185 = .ok (.iconst 0, 1)) (by decide) (?_ : XW _ _ _ _ _ _ _ 186 _ _)
    refine xi_istore_n (ls' := [some (.ref 56), some (.int x1), some (.int x2), some (.int 0), none, none, none, none, none]) (by decide +kernel : decode mX11_share.2.1 186 = .ok (.istore_n 3, 1)) rfl (by decide) rfl (?_ : XW _ _ _ _ _ _ _ 187 _ _)
    refine xw_drop 1 (ls' := [some (.ref 56), none, some (.int x2), some (.int 0), none, none, none, none, none]) rfl ?_
    refine xw_drop 2 (ls' := [some (.ref 56), none, none, some (.int 0), none, none, none, none, none]) rfl ?_
    exact vc
  · replace vc := vc.2 c
    refine xi_aload_n (by decide +kernel : decode mX11_share.2.1 83 = .ok (.aload_n 0, 1)) rfl rfl (?_ : XW _ _ _ _ _ _ _ 84 _ _)
    refine xi_getR (y := 81) (by decide +kernel : decode mX11_share.2.1 84 = .ok (.getfield 106, 3)) fX11_106 rfl (by omega) rfl (mp_lie hM) (?_ : XW _ _ _ _ _ _ _ 87 _ _)
    refine xi_iload_n (by decide +kernel : decode mX11_share.2.1 87 = .ok (.iload_n 3, 1)) rfl rfl (?_ : XW _ _ _ _ _ _ _ 88 _ _)
    obtain ⟨s1, vc⟩ := vc
    refine xi_lald (by decide +kernel : decode mX11_share.2.1 88 = .ok (.laload, 1)) rfl (by omega) s1 (?_ : XW _ _ _ _ _ _ _ 89 _ _)
    refine xi_lstore (ls' := [some (.ref 56), some (.int x1), some (.int x2), some (.int x3), some (.long (xL h 81 x3.toNatClampNeg)), none, none, none, none]) (by decide +kernel : decode mX11_share.2.1 89 = .ok (.lstore 4, 2)) (by decide) rfl (?_ : XW _ _ _ _ _ _ _ 91 _ _)
    refine xi_iconst (v := 1) (by decide +kernel : decode mX11_share.2.1 91 = .ok (.iconst 1, 1)) (by decide) (?_ : XW _ _ _ _ _ _ _ 92 _ _)
    refine xi_istore (ls' := [some (.ref 56), some (.int x1), some (.int x2), some (.int x3), some (.long (xL h 81 x3.toNatClampNeg)), none, some (.int 1), none, none]) (by decide +kernel : decode mX11_share.2.1 92 = .ok (.istore 6, 2)) (by decide) rfl (?_ : XW _ _ _ _ _ _ _ 94 _ _)
    exact vc

set_option maxRecDepth 20000 in
theorem v_X11_share_187 {h : XH} {Q : Option Value → XH → Prop} {X : String → XH → Prop} (hM : xMod (xP h))  (x3 : Int32)
    (vc : ((xI h 59 0) < x3 → Q none h) ∧ (¬ (xI h 59 0) < x3 → (vp_in x3 101) ∧ ((vp_in x3 101) ∧ (XW (xrm 2 0 0) mX11_share (xE 100 Q X 0 0) 100 0 0 (xSL 81 (va_up (xL h 81) x3.toNatClampNeg (xL h 82 x3.toNatClampNeg)) h) 187 [some (.ref 56), none, none, some (.int (x3 + 1)), none, none, none, none, none] [])))) :
    XW (xrm 2 0 0) mX11_share (xE 100 Q X 0 0) 100 0 0 h 187 [some (.ref 56), none, none, some (.int x3), none, none, none, none, none] [] := by
  refine xi_iload_n (by decide +kernel : decode mX11_share.2.1 187 = .ok (.iload_n 3, 1)) rfl rfl (?_ : XW _ _ _ _ _ _ _ 188 _ _)
  refine xi_aload_n (by decide +kernel : decode mX11_share.2.1 188 = .ok (.aload_n 0, 1)) rfl rfl (?_ : XW _ _ _ _ _ _ _ 189 _ _)
  refine xi_getR (y := 59) (by decide +kernel : decode mX11_share.2.1 189 = .ok (.getfield 32, 3)) fX11_32 rfl (by omega) rfl (mp_told hM) (?_ : XW _ _ _ _ _ _ _ 192 _ _)
  refine xi_iconst (v := 0) (by decide +kernel : decode mX11_share.2.1 192 = .ok (.iconst 0, 1)) (by decide) (?_ : XW _ _ _ _ _ _ _ 193 _ _)
  refine xi_iald (by decide +kernel : decode mX11_share.2.1 193 = .ok (.iaload, 1)) rfl (by omega) (by unfold vp_in; decide) (?_ : XW _ _ _ _ _ _ _ 194 _ [.int (xI h 59 0), .int x3])
  refine xi_icmp_gt (by decide +kernel : decode mX11_share.2.1 194 = .ok (.if_icmp .gt 21, 3)) (by decide) (fun c => (?_ : XW _ _ _ _ _ _ _ 215 _ _)) (fun c => (?_ : XW _ _ _ _ _ _ _ 197 _ _))
  · replace vc := vc.1 c
    exact xi_vret (by decide +kernel : decode mX11_share.2.1 215 = .ok (.return_, 1)) rfl vc
  · replace vc := vc.2 c
    refine xi_aload_n (by decide +kernel : decode mX11_share.2.1 197 = .ok (.aload_n 0, 1)) rfl rfl (?_ : XW _ _ _ _ _ _ _ 198 _ _)
    refine xi_getR (y := 81) (by decide +kernel : decode mX11_share.2.1 198 = .ok (.getfield 106, 3)) fX11_106 rfl (by omega) rfl (mp_lie hM) (?_ : XW _ _ _ _ _ _ _ 201 _ _)
    refine xi_iload_n (by decide +kernel : decode mX11_share.2.1 201 = .ok (.iload_n 3, 1)) rfl rfl (?_ : XW _ _ _ _ _ _ _ 202 _ _)
    refine xi_aload_n (by decide +kernel : decode mX11_share.2.1 202 = .ok (.aload_n 0, 1)) rfl rfl (?_ : XW _ _ _ _ _ _ _ 203 _ _)
    refine xi_getR (y := 82) (by decide +kernel : decode mX11_share.2.1 203 = .ok (.getfield 110, 3)) fX11_110 rfl (by omega) rfl (mp_come hM) (?_ : XW _ _ _ _ _ _ _ 206 _ _)
    refine xi_iload_n (by decide +kernel : decode mX11_share.2.1 206 = .ok (.iload_n 3, 1)) rfl rfl (?_ : XW _ _ _ _ _ _ _ 207 _ _)
    obtain ⟨s1, vc⟩ := vc
    refine xi_lald (by decide +kernel : decode mX11_share.2.1 207 = .ok (.laload, 1)) rfl (by omega) s1 (?_ : XW _ _ _ _ _ _ _ 208 _ _)
    obtain ⟨s1, vc⟩ := vc
    refine xi_last (by decide +kernel : decode mX11_share.2.1 208 = .ok (.lastore, 1)) rfl (by omega) s1 (?_ : XW _ _ _ _ _ _ (xSL 81 (va_up (xL h 81) x3.toNatClampNeg (xL h 82 x3.toNatClampNeg)) h) 209 _ _)
    refine xi_iinc (v := x3 + 1) (ls' := [some (.ref 56), none, none, some (.int (x3 + 1)), none, none, none, none, none]) (by decide +kernel : decode mX11_share.2.1 209 = .ok (.iinc 3 1, 3)) rfl rfl (by decide) rfl (?_ : XW _ _ _ _ _ _ _ 212 _ _)
    refine xi_goto (by decide +kernel : decode mX11_share.2.1 212 = .ok (.goto (-25), 3)) (by decide) (?_ : XW _ _ _ _ _ _ _ 187 _ _)
    exact vc

set_option maxRecDepth 20000 in
theorem v_X11_share_94 {h : XH} {Q : Option Value → XH → Prop} {X : String → XH → Prop} (hM : xMod (xP h))  (x1 : Int32) (x2 : Int32) (x3 : Int32) (x4 : Int64) (x6 : Int32)
    (vc : (6 < x6 → (vp_in ((101 * x2) + x3) 707) ∧ ((vp_in (xI h 67 ((101 * x2) + x3).toNatClampNeg) 101) ∧ ((vp_in (xI h 67 ((101 * x2) + x3).toNatClampNeg) 101) ∧ (XW (xrm 2 0 0) mX11_share (xE 100 Q X 0 0) 100 0 0 (xSL 82 (va_up (xL h 82) (xI h 67 ((101 * x2) + x3).toNatClampNeg).toNatClampNeg ((xL h 82 (xI h 67 ((101 * x2) + x3).toNatClampNeg).toNatClampNeg) + x4)) h) 73 [some (.ref 56), some (.int x1), some (.int x2), some (.int (x3 + 1)), none, none, none, none, none] [])))) ∧ (¬ 6 < x6 → (vp_in x3 101) ∧ ((vp_in (x6 - 1) 12) ∧ ((¬ (Int32.toInt64 x1) = 0) ∧ ((vp_in ((101 * x6) + x3) 707) ∧ ((vp_in (xI h 67 ((101 * x6) + x3).toNatClampNeg) 101) ∧ ((vp_in (xI h 67 ((101 * x6) + x3).toNatClampNeg) 101) ∧ (XW (xrm 2 0 0) mX11_share (xE 100 Q X 0 0) 100 0 0 (xSL 82 (va_up (xL h 82) (xI h 67 ((101 * x6) + x3).toNatClampNeg).toNatClampNeg ((xL h 82 (xI h 67 ((101 * x6) + x3).toNatClampNeg).toNatClampNeg) + (((xL h 81 x3.toNatClampNeg) * (Int32.toInt64 (xI h 60 (x6 - 1).toNatClampNeg))) / (Int32.toInt64 x1)))) h) 94 [some (.ref 56), some (.int x1), some (.int x2), some (.int x3), some (.long (x4 - (((xL h 81 x3.toNatClampNeg) * (Int32.toInt64 (xI h 60 (x6 - 1).toNatClampNeg))) / (Int32.toInt64 x1)))), none, some (.int (x6 + 1)), none, none] [])))))))) :
    XW (xrm 2 0 0) mX11_share (xE 100 Q X 0 0) 100 0 0 h 94 [some (.ref 56), some (.int x1), some (.int x2), some (.int x3), some (.long x4), none, some (.int x6), none, none] [] := by
  refine xi_iload (by decide +kernel : decode mX11_share.2.1 94 = .ok (.iload 6, 2)) rfl (?_ : XW _ _ _ _ _ _ _ 96 _ _)
  refine xi_bipush (v := 6) (by decide +kernel : decode mX11_share.2.1 96 = .ok (.bipush 6, 2)) (by decide) (?_ : XW _ _ _ _ _ _ _ 98 _ _)
  refine xi_icmp_gt (by decide +kernel : decode mX11_share.2.1 98 = .ok (.if_icmp .gt 60, 3)) (by decide) (fun c => (?_ : XW _ _ _ _ _ _ _ 158 _ _)) (fun c => (?_ : XW _ _ _ _ _ _ _ 101 _ _))
  · replace vc := vc.1 c
    refine xi_aload_n (by decide +kernel : decode mX11_share.2.1 158 = .ok (.aload_n 0, 1)) rfl rfl (?_ : XW _ _ _ _ _ _ _ 159 _ _)
    refine xi_getR (y := 82) (by decide +kernel : decode mX11_share.2.1 159 = .ok (.getfield 110, 3)) fX11_110 rfl (by omega) rfl (mp_come hM) (?_ : XW _ _ _ _ _ _ _ 162 _ _)
    refine xi_aload_n (by decide +kernel : decode mX11_share.2.1 162 = .ok (.aload_n 0, 1)) rfl rfl (?_ : XW _ _ _ _ _ _ _ 163 _ _)
    refine xi_getR (y := 67) (by decide +kernel : decode mX11_share.2.1 163 = .ok (.getfield 61, 3)) fX11_61 rfl (by omega) rfl (mp_to hM) (?_ : XW _ _ _ _ _ _ _ 166 _ _)
    refine xi_bipush (v := 101) (by decide +kernel : decode mX11_share.2.1 166 = .ok (.bipush 101, 2)) (by decide) (?_ : XW _ _ _ _ _ _ _ 168 _ _)
    refine xi_iload_n (by decide +kernel : decode mX11_share.2.1 168 = .ok (.iload_n 2, 1)) rfl rfl (?_ : XW _ _ _ _ _ _ _ 169 _ _)
    refine xi_imul (by decide +kernel : decode mX11_share.2.1 169 = .ok (.imul, 1)) (?_ : XW _ _ _ _ _ _ _ 170 _ _)
    refine xi_iload_n (by decide +kernel : decode mX11_share.2.1 170 = .ok (.iload_n 3, 1)) rfl rfl (?_ : XW _ _ _ _ _ _ _ 171 _ _)
    refine xi_iadd (by decide +kernel : decode mX11_share.2.1 171 = .ok (.iadd, 1)) (?_ : XW _ _ _ _ _ _ _ 172 _ _)
    obtain ⟨s1, vc⟩ := vc
    refine xi_iald (by decide +kernel : decode mX11_share.2.1 172 = .ok (.iaload, 1)) rfl (by omega) s1 (?_ : XW _ _ _ _ _ _ _ 173 _ _)
    refine xi_dup2 (by decide +kernel : decode mX11_share.2.1 173 = .ok (.dup2, 1)) rfl rfl (?_ : XW _ _ _ _ _ _ _ 174 _ _)
    obtain ⟨s1, vc⟩ := vc
    refine xi_lald (by decide +kernel : decode mX11_share.2.1 174 = .ok (.laload, 1)) rfl (by omega) s1 (?_ : XW _ _ _ _ _ _ _ 175 _ _)
    refine xi_lload (by decide +kernel : decode mX11_share.2.1 175 = .ok (.lload 4, 2)) rfl (?_ : XW _ _ _ _ _ _ _ 177 _ _)
    refine xi_ladd (by decide +kernel : decode mX11_share.2.1 177 = .ok (.ladd, 1)) (?_ : XW _ _ _ _ _ _ _ 178 _ _)
    obtain ⟨s1, vc⟩ := vc
    refine xi_last (by decide +kernel : decode mX11_share.2.1 178 = .ok (.lastore, 1)) rfl (by omega) s1 (?_ : XW _ _ _ _ _ _ (xSL 82 (va_up (xL h 82) (xI h 67 ((101 * x2) + x3).toNatClampNeg).toNatClampNeg ((xL h 82 (xI h 67 ((101 * x2) + x3).toNatClampNeg).toNatClampNeg) + x4)) h) 179 _ _)
    refine xi_iinc (v := x3 + 1) (ls' := [some (.ref 56), some (.int x1), some (.int x2), some (.int (x3 + 1)), some (.long x4), none, some (.int x6), none, none]) (by decide +kernel : decode mX11_share.2.1 179 = .ok (.iinc 3 1, 3)) rfl rfl (by decide) rfl (?_ : XW _ _ _ _ _ _ _ 182 _ _)
    refine xi_goto (by decide +kernel : decode mX11_share.2.1 182 = .ok (.goto (-109), 3)) (by decide) (?_ : XW _ _ _ _ _ _ _ 73 _ _)
    refine xw_drop 4 (ls' := [some (.ref 56), some (.int x1), some (.int x2), some (.int (x3 + 1)), none, none, some (.int x6), none, none]) rfl ?_
    refine xw_drop 6 (ls' := [some (.ref 56), some (.int x1), some (.int x2), some (.int (x3 + 1)), none, none, none, none, none]) rfl ?_
    exact vc
  · replace vc := vc.2 c
    refine xi_aload_n (by decide +kernel : decode mX11_share.2.1 101 = .ok (.aload_n 0, 1)) rfl rfl (?_ : XW _ _ _ _ _ _ _ 102 _ _)
    refine xi_getR (y := 81) (by decide +kernel : decode mX11_share.2.1 102 = .ok (.getfield 106, 3)) fX11_106 rfl (by omega) rfl (mp_lie hM) (?_ : XW _ _ _ _ _ _ _ 105 _ _)
    refine xi_iload_n (by decide +kernel : decode mX11_share.2.1 105 = .ok (.iload_n 3, 1)) rfl rfl (?_ : XW _ _ _ _ _ _ _ 106 _ _)
    obtain ⟨s1, vc⟩ := vc
    refine xi_lald (by decide +kernel : decode mX11_share.2.1 106 = .ok (.laload, 1)) rfl (by omega) s1 (?_ : XW _ _ _ _ _ _ _ 107 _ _)
    refine xi_aload_n (by decide +kernel : decode mX11_share.2.1 107 = .ok (.aload_n 0, 1)) rfl rfl (?_ : XW _ _ _ _ _ _ _ 108 _ _)
    refine xi_getR (y := 60) (by decide +kernel : decode mX11_share.2.1 108 = .ok (.getfield 36, 3)) fX11_36 rfl (by omega) rfl (mp_die hM) (?_ : XW _ _ _ _ _ _ _ 111 _ _)
    refine xi_iload (by decide +kernel : decode mX11_share.2.1 111 = .ok (.iload 6, 2)) rfl (?_ : XW _ _ _ _ _ _ _ 113 _ _)
    refine xi_iconst (v := 1) (by decide +kernel : decode mX11_share.2.1 113 = .ok (.iconst 1, 1)) (by decide) (?_ : XW _ _ _ _ _ _ _ 114 _ _)
    refine xi_isub (by decide +kernel : decode mX11_share.2.1 114 = .ok (.isub, 1)) (?_ : XW _ _ _ _ _ _ _ 115 _ _)
    obtain ⟨s1, vc⟩ := vc
    refine xi_iald (by decide +kernel : decode mX11_share.2.1 115 = .ok (.iaload, 1)) rfl (by omega) s1 (?_ : XW _ _ _ _ _ _ _ 116 _ _)
    refine xi_i2l (by decide +kernel : decode mX11_share.2.1 116 = .ok (.i2l, 1)) (?_ : XW _ _ _ _ _ _ _ 117 _ _)
    refine xi_lmul (by decide +kernel : decode mX11_share.2.1 117 = .ok (.lmul, 1)) (?_ : XW _ _ _ _ _ _ _ 118 _ _)
    refine xi_iload_n (by decide +kernel : decode mX11_share.2.1 118 = .ok (.iload_n 1, 1)) rfl rfl (?_ : XW _ _ _ _ _ _ _ 119 _ _)
    refine xi_i2l (by decide +kernel : decode mX11_share.2.1 119 = .ok (.i2l, 1)) (?_ : XW _ _ _ _ _ _ _ 120 _ _)
    obtain ⟨s1, vc⟩ := vc
    refine xi_ldiv (by decide +kernel : decode mX11_share.2.1 120 = .ok (.ldiv, 1)) s1 (?_ : XW _ _ _ _ _ _ _ 121 _ _)
    refine xi_lstore (ls' := [some (.ref 56), some (.int x1), some (.int x2), some (.int x3), some (.long x4), none, some (.int x6), some (.long (((xL h 81 x3.toNatClampNeg) * (Int32.toInt64 (xI h 60 (x6 - 1).toNatClampNeg))) / (Int32.toInt64 x1))), none]) (by decide +kernel : decode mX11_share.2.1 121 = .ok (.lstore 7, 2)) (by decide) rfl (?_ : XW _ _ _ _ _ _ _ 123 _ _)
    refine xi_aload_n (by decide +kernel : decode mX11_share.2.1 123 = .ok (.aload_n 0, 1)) rfl rfl (?_ : XW _ _ _ _ _ _ _ 124 _ _)
    refine xi_getR (y := 82) (by decide +kernel : decode mX11_share.2.1 124 = .ok (.getfield 110, 3)) fX11_110 rfl (by omega) rfl (mp_come hM) (?_ : XW _ _ _ _ _ _ _ 127 _ _)
    refine xi_aload_n (by decide +kernel : decode mX11_share.2.1 127 = .ok (.aload_n 0, 1)) rfl rfl (?_ : XW _ _ _ _ _ _ _ 128 _ _)
    refine xi_getR (y := 67) (by decide +kernel : decode mX11_share.2.1 128 = .ok (.getfield 61, 3)) fX11_61 rfl (by omega) rfl (mp_to hM) (?_ : XW _ _ _ _ _ _ _ 131 _ _)
    refine xi_bipush (v := 101) (by decide +kernel : decode mX11_share.2.1 131 = .ok (.bipush 101, 2)) (by decide) (?_ : XW _ _ _ _ _ _ _ 133 _ _)
    refine xi_iload (by decide +kernel : decode mX11_share.2.1 133 = .ok (.iload 6, 2)) rfl (?_ : XW _ _ _ _ _ _ _ 135 _ _)
    refine xi_imul (by decide +kernel : decode mX11_share.2.1 135 = .ok (.imul, 1)) (?_ : XW _ _ _ _ _ _ _ 136 _ _)
    refine xi_iload_n (by decide +kernel : decode mX11_share.2.1 136 = .ok (.iload_n 3, 1)) rfl rfl (?_ : XW _ _ _ _ _ _ _ 137 _ _)
    refine xi_iadd (by decide +kernel : decode mX11_share.2.1 137 = .ok (.iadd, 1)) (?_ : XW _ _ _ _ _ _ _ 138 _ _)
    obtain ⟨s1, vc⟩ := vc
    refine xi_iald (by decide +kernel : decode mX11_share.2.1 138 = .ok (.iaload, 1)) rfl (by omega) s1 (?_ : XW _ _ _ _ _ _ _ 139 _ _)
    refine xi_dup2 (by decide +kernel : decode mX11_share.2.1 139 = .ok (.dup2, 1)) rfl rfl (?_ : XW _ _ _ _ _ _ _ 140 _ _)
    obtain ⟨s1, vc⟩ := vc
    refine xi_lald (by decide +kernel : decode mX11_share.2.1 140 = .ok (.laload, 1)) rfl (by omega) s1 (?_ : XW _ _ _ _ _ _ _ 141 _ _)
    refine xi_lload (by decide +kernel : decode mX11_share.2.1 141 = .ok (.lload 7, 2)) rfl (?_ : XW _ _ _ _ _ _ _ 143 _ _)
    refine xi_ladd (by decide +kernel : decode mX11_share.2.1 143 = .ok (.ladd, 1)) (?_ : XW _ _ _ _ _ _ _ 144 _ _)
    obtain ⟨s1, vc⟩ := vc
    refine xi_last (by decide +kernel : decode mX11_share.2.1 144 = .ok (.lastore, 1)) rfl (by omega) s1 (?_ : XW _ _ _ _ _ _ (xSL 82 (va_up (xL h 82) (xI h 67 ((101 * x6) + x3).toNatClampNeg).toNatClampNeg ((xL h 82 (xI h 67 ((101 * x6) + x3).toNatClampNeg).toNatClampNeg) + (((xL h 81 x3.toNatClampNeg) * (Int32.toInt64 (xI h 60 (x6 - 1).toNatClampNeg))) / (Int32.toInt64 x1)))) h) 145 _ _)
    refine xi_lload (by decide +kernel : decode mX11_share.2.1 145 = .ok (.lload 4, 2)) rfl (?_ : XW _ _ _ _ _ _ _ 147 _ _)
    refine xi_lload (by decide +kernel : decode mX11_share.2.1 147 = .ok (.lload 7, 2)) rfl (?_ : XW _ _ _ _ _ _ _ 149 _ _)
    refine xi_lsub (by decide +kernel : decode mX11_share.2.1 149 = .ok (.lsub, 1)) (?_ : XW _ _ _ _ _ _ _ 150 _ _)
    refine xi_lstore (ls' := [some (.ref 56), some (.int x1), some (.int x2), some (.int x3), some (.long (x4 - (((xL h 81 x3.toNatClampNeg) * (Int32.toInt64 (xI h 60 (x6 - 1).toNatClampNeg))) / (Int32.toInt64 x1)))), none, some (.int x6), some (.long (((xL h 81 x3.toNatClampNeg) * (Int32.toInt64 (xI h 60 (x6 - 1).toNatClampNeg))) / (Int32.toInt64 x1))), none]) (by decide +kernel : decode mX11_share.2.1 150 = .ok (.lstore 4, 2)) (by decide) rfl (?_ : XW _ _ _ _ _ _ _ 152 _ _)
    refine xi_iinc (v := x6 + 1) (ls' := [some (.ref 56), some (.int x1), some (.int x2), some (.int x3), some (.long (x4 - (((xL h 81 x3.toNatClampNeg) * (Int32.toInt64 (xI h 60 (x6 - 1).toNatClampNeg))) / (Int32.toInt64 x1)))), none, some (.int (x6 + 1)), some (.long (((xL h 81 x3.toNatClampNeg) * (Int32.toInt64 (xI h 60 (x6 - 1).toNatClampNeg))) / (Int32.toInt64 x1))), none]) (by decide +kernel : decode mX11_share.2.1 152 = .ok (.iinc 6 1, 3)) rfl rfl (by decide) rfl (?_ : XW _ _ _ _ _ _ _ 155 _ _)
    refine xi_goto (by decide +kernel : decode mX11_share.2.1 155 = .ok (.goto (-61), 3)) (by decide) (?_ : XW _ _ _ _ _ _ _ 94 _ _)
    refine xw_drop 7 (ls' := [some (.ref 56), some (.int x1), some (.int x2), some (.int x3), some (.long (x4 - (((xL h 81 x3.toNatClampNeg) * (Int32.toInt64 (xI h 60 (x6 - 1).toNatClampNeg))) / (Int32.toInt64 x1)))), none, some (.int (x6 + 1)), none, none]) rfl ?_
    exact vc

set_option maxRecDepth 20000 in
theorem v_X11_longBy_0 {h : XH} {Q : Option Value → XH → Prop} {X : String → XH → Prop} (hM : xMod (xP h))  (sq : Int32) (k0 : Int32)
    (vc : ∃ Q1, XSpec mX11_pour 1 0 0 100 100 [.ref 56, .int sq] h Q1 xno ∧ ∀ v h1, Q1 v h1 → v = none ∧ (XW (xrm 3 0 0) mX11_longBy (xE 100 Q X 0 0) 100 0 0 h1 10 [some (.ref 56), none, some (.int k0), some (.long 0), none, some (.int 0)] [])) :
    XW (xrm 3 0 0) mX11_longBy (xE 100 Q X 0 0) 100 0 0 h 0 [some (.ref 56), some (.int sq), some (.int k0), none, none, none] [] := by
  refine xi_aload_n (by decide +kernel : decode mX11_longBy.2.1 0 = .ok (.aload_n 0, 1)) rfl rfl (?_ : XW _ _ _ _ _ _ _ 1 _ _)
  refine xi_iload_n (by decide +kernel : decode mX11_longBy.2.1 1 = .ok (.iload_n 1, 1)) rfl rfl (?_ : XW _ _ _ _ _ _ _ 2 _ _)
  obtain ⟨Q1, sp, vc⟩ := vc
  refine xi_callV (b := 0) (bs := 0) (As := [.int sq]) (st := []) (by decide +kernel : decode mX11_longBy.2.1 2 = .ok (.invokevirtual 405, 3)) kX11_405 rfl rfl (by omega) rfl sp (by decide) (by decide) (Nat.le_of_ble_eq_true rfl) (by omega) (fun v9 h1 hq9 => ?_)
  obtain ⟨e9, vc⟩ := vc v9 h1 hq9
  subst e9
  show XW _ _ _ _ _ _ _ 5 _ []
  refine xi_lconst (v := 0) (by decide +kernel : decode mX11_longBy.2.1 5 = .ok (.lconst 0, 1)) (by decide) (?_ : XW _ _ _ _ _ _ _ 6 _ _)
  refine xi_lstore_n (ls' := [some (.ref 56), some (.int sq), some (.int k0), some (.long 0), none, none]) (by decide +kernel : decode mX11_longBy.2.1 6 = .ok (.lstore_n 3, 1)) rfl (by decide) rfl (?_ : XW _ _ _ _ _ _ _ 7 _ _)
  refine xi_iconst (v := 0) (by decide +kernel : decode mX11_longBy.2.1 7 = .ok (.iconst 0, 1)) (by decide) (?_ : XW _ _ _ _ _ _ _ 8 _ _)
  refine xi_istore (ls' := [some (.ref 56), some (.int sq), some (.int k0), some (.long 0), none, some (.int 0)]) (by decide +kernel : decode mX11_longBy.2.1 8 = .ok (.istore 5, 2)) (by decide) rfl (?_ : XW _ _ _ _ _ _ _ 10 _ _)
  refine xw_drop 1 (ls' := [some (.ref 56), none, some (.int k0), some (.long 0), none, some (.int 0)]) rfl ?_
  exact vc

set_option maxRecDepth 20000 in
theorem v_X11_longBy_10 {h : XH} {Q : Option Value → XH → Prop} {X : String → XH → Prop} (hM : xMod (xP h))  (x2 : Int32) (x3 : Int64) (x5 : Int32)
    (vc : (x2 ≤ x5 → Q (some (.long x3)) h) ∧ (¬ x2 ≤ x5 → ∃ Q1, XSpec mX11_out 1 0 0 100 100 [.ref 56] h Q1 xno ∧ ∀ v h2, Q1 v h2 → ∃ r2 : Int64, v = some (.long r2) ∧ (∃ Q1, XSpec mX11_share 2 0 0 100 100 [.ref 56] h2 Q1 xno ∧ ∀ v h3, Q1 v h3 → v = none ∧ (XW (xrm 3 0 0) mX11_longBy (xE 100 Q X 0 0) 100 0 0 h3 10 [some (.ref 56), none, some (.int x2), some (.long (x3 + r2)), none, some (.int (x5 + 1))] [])))) :
    XW (xrm 3 0 0) mX11_longBy (xE 100 Q X 0 0) 100 0 0 h 10 [some (.ref 56), none, some (.int x2), some (.long x3), none, some (.int x5)] [] := by
  refine xi_iload (by decide +kernel : decode mX11_longBy.2.1 10 = .ok (.iload 5, 2)) rfl (?_ : XW _ _ _ _ _ _ _ 12 _ _)
  refine xi_iload_n (by decide +kernel : decode mX11_longBy.2.1 12 = .ok (.iload_n 2, 1)) rfl rfl (?_ : XW _ _ _ _ _ _ _ 13 _ _)
  refine xi_icmp_ge (by decide +kernel : decode mX11_longBy.2.1 13 = .ok (.if_icmp .ge 20, 3)) (by decide) (fun c => (?_ : XW _ _ _ _ _ _ _ 33 _ _)) (fun c => (?_ : XW _ _ _ _ _ _ _ 16 _ _))
  · replace vc := vc.1 c
    refine xi_lload_n (by decide +kernel : decode mX11_longBy.2.1 33 = .ok (.lload_n 3, 1)) rfl rfl (?_ : XW _ _ _ _ _ _ _ 34 _ _)
    exact xi_lret (by decide +kernel : decode mX11_longBy.2.1 34 = .ok (.lreturn, 1)) rfl vc
  · replace vc := vc.2 c
    refine xi_lload_n (by decide +kernel : decode mX11_longBy.2.1 16 = .ok (.lload_n 3, 1)) rfl rfl (?_ : XW _ _ _ _ _ _ _ 17 _ _)
    refine xi_aload_n (by decide +kernel : decode mX11_longBy.2.1 17 = .ok (.aload_n 0, 1)) rfl rfl (?_ : XW _ _ _ _ _ _ _ 18 _ _)
    obtain ⟨Q1, sp, vc⟩ := vc
    refine xi_callV (b := 0) (bs := 0) (As := []) (st := [.long x3]) (by decide +kernel : decode mX11_longBy.2.1 18 = .ok (.invokevirtual 408, 3)) kX11_408 rfl rfl (by omega) rfl sp (by decide) (by decide) (Nat.le_of_ble_eq_true rfl) (by omega) (fun v9 h2 hq9 => ?_)
    obtain ⟨r2, e9, vc⟩ := vc v9 h2 hq9
    subst e9
    show XW _ _ _ _ _ _ _ 21 _ [.long r2, .long x3]
    refine xi_ladd (by decide +kernel : decode mX11_longBy.2.1 21 = .ok (.ladd, 1)) (?_ : XW _ _ _ _ _ _ _ 22 _ _)
    refine xi_lstore_n (ls' := [some (.ref 56), none, some (.int x2), some (.long (x3 + r2)), none, some (.int x5)]) (by decide +kernel : decode mX11_longBy.2.1 22 = .ok (.lstore_n 3, 1)) rfl (by decide) rfl (?_ : XW _ _ _ _ _ _ _ 23 _ _)
    refine xi_aload_n (by decide +kernel : decode mX11_longBy.2.1 23 = .ok (.aload_n 0, 1)) rfl rfl (?_ : XW _ _ _ _ _ _ _ 24 _ _)
    obtain ⟨Q1, sp, vc⟩ := vc
    refine xi_callV (b := 0) (bs := 0) (As := []) (st := []) (by decide +kernel : decode mX11_longBy.2.1 24 = .ok (.invokevirtual 412, 3)) kX11_412 rfl rfl (by omega) rfl sp (by decide) (by decide) (Nat.le_of_ble_eq_true rfl) (by omega) (fun v9 h3 hq9 => ?_)
    obtain ⟨e9, vc⟩ := vc v9 h3 hq9
    subst e9
    show XW _ _ _ _ _ _ _ 27 _ []
    refine xi_iinc (v := x5 + 1) (ls' := [some (.ref 56), none, some (.int x2), some (.long (x3 + r2)), none, some (.int (x5 + 1))]) (by decide +kernel : decode mX11_longBy.2.1 27 = .ok (.iinc 5 1, 3)) rfl rfl (by decide) rfl (?_ : XW _ _ _ _ _ _ _ 30 _ _)
    refine xi_goto (by decide +kernel : decode mX11_longBy.2.1 30 = .ok (.goto (-20), 3)) (by decide) (?_ : XW _ _ _ _ _ _ _ 10 _ _)
    exact vc

