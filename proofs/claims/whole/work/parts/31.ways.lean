/-! WAYS: the walks -/
set_option maxRecDepth 20000 in
theorem v_X8_throwsOf_0 {h : XH} {Q : Option Value → XH → Prop} {X : String → XH → Prop} (n : Nat) (hw : xWay (xP h)) (hn : 43 ≤ n)  (q : Int32)
    (vc : (q < 0 → Q (some (.int (-1))) h) ∧ (¬ q < 0 → (101 ≤ q → Q (some (.int (-1))) h) ∧ (¬ 101 ≤ q → (vp_in q 101) ∧ (Q (some (.int (xI h 41 q.toNatClampNeg))) h)))) :
    XW (xrm 1 0 0) mX8_throwsOf (xE n Q X 0 0) n 0 0 h 0 [some (.ref 39), some (.int q)] [] := by
  refine xi_iload_n (by decide +kernel : decode mX8_throwsOf.2.1 0 = .ok (.iload_n 1, 1)) rfl rfl (?_ : XW _ _ _ _ _ _ _ 1 _ _)
  refine xi_if_lt (by decide +kernel : decode mX8_throwsOf.2.1 1 = .ok (.ifCond .lt 21, 3)) (by decide) (fun c => (?_ : XW _ _ _ _ _ _ _ 22 _ _)) (fun c => (?_ : XW _ _ _ _ _ _ _ 4 _ _))
  · replace vc := vc.1 c
    refine xi_iconst (v := (-1)) (by decide +kernel : decode mX8_throwsOf.2.1 22 = .ok (.iconst (-1), 1)) (by decide) (?_ : XW _ _ _ _ _ _ _ 23 _ _)
    exact xi_iret (by decide +kernel : decode mX8_throwsOf.2.1 23 = .ok (.ireturn, 1)) rfl rfl vc
  · replace vc := vc.2 c
    refine xi_iload_n (by decide +kernel : decode mX8_throwsOf.2.1 4 = .ok (.iload_n 1, 1)) rfl rfl (?_ : XW _ _ _ _ _ _ _ 5 _ _)
    refine xi_aload_n (by decide +kernel : decode mX8_throwsOf.2.1 5 = .ok (.aload_n 0, 1)) rfl rfl (?_ : XW _ _ _ _ _ _ _ 6 _ _)
    refine xi_getR (y := 41) (by decide +kernel : decode mX8_throwsOf.2.1 6 = .ok (.getfield 19, 3)) fX8_19 rfl (by omega) rfl hw.2.1 (?_ : XW _ _ _ _ _ _ _ 9 _ _)
    refine xi_alen (v := 101) (by decide +kernel : decode mX8_throwsOf.2.1 9 = .ok (.arraylength, 1)) rfl (by omega) (Or.inl rfl) rfl (?_ : XW _ _ _ _ _ _ _ 10 _ _)
    refine xi_icmp_ge (by decide +kernel : decode mX8_throwsOf.2.1 10 = .ok (.if_icmp .ge 12, 3)) (by decide) (fun c => (?_ : XW _ _ _ _ _ _ _ 22 _ _)) (fun c => (?_ : XW _ _ _ _ _ _ _ 13 _ _))
    · replace vc := vc.1 c
      refine xi_iconst (v := (-1)) (by decide +kernel : decode mX8_throwsOf.2.1 22 = .ok (.iconst (-1), 1)) (by decide) (?_ : XW _ _ _ _ _ _ _ 23 _ _)
      exact xi_iret (by decide +kernel : decode mX8_throwsOf.2.1 23 = .ok (.ireturn, 1)) rfl rfl vc
    · replace vc := vc.2 c
      refine xi_aload_n (by decide +kernel : decode mX8_throwsOf.2.1 13 = .ok (.aload_n 0, 1)) rfl rfl (?_ : XW _ _ _ _ _ _ _ 14 _ _)
      refine xi_getR (y := 41) (by decide +kernel : decode mX8_throwsOf.2.1 14 = .ok (.getfield 19, 3)) fX8_19 rfl (by omega) rfl hw.2.1 (?_ : XW _ _ _ _ _ _ _ 17 _ _)
      refine xi_iload_n (by decide +kernel : decode mX8_throwsOf.2.1 17 = .ok (.iload_n 1, 1)) rfl rfl (?_ : XW _ _ _ _ _ _ _ 18 _ _)
      obtain ⟨s1, vc⟩ := vc
      refine xi_iald (by decide +kernel : decode mX8_throwsOf.2.1 18 = .ok (.iaload, 1)) rfl (by omega) s1 (?_ : XW _ _ _ _ _ _ _ 19 _ _)
      refine xi_goto (by decide +kernel : decode mX8_throwsOf.2.1 19 = .ok (.goto 4, 3)) (by decide) (?_ : XW _ _ _ _ _ _ _ 23 _ _)
      exact xi_iret (by decide +kernel : decode mX8_throwsOf.2.1 23 = .ok (.ireturn, 1)) rfl rfl vc

set_option maxRecDepth 20000 in
theorem v_X8_enqueue_0 {h : XH} {Q : Option Value → XH → Prop} {X : String → XH → Prop} (n : Nat) (hw : xWay (xP h)) (hn : 43 ≤ n)  (q : Int32)
    (vc : ((xI h 39 4) < 0 → Q none h) ∧ (¬ (xI h 39 4) < 0 → (102 ≤ (xI h 39 4) → Q none h) ∧ (¬ 102 ≤ (xI h 39 4) → (vp_in (xI h 39 4) 102) ∧ (Q none (xSI 39 (va_up (xI h 39) 4 ((xI h 39 4) + 1)) (xSI 42 (va_up (xI h 42) (xI h 39 4).toNatClampNeg q) h)))))) :
    XW (xrm 1 0 0) mX8_enqueue (xE n Q X 0 0) n 0 0 h 0 [some (.ref 39), some (.int q)] [] := by
  refine xi_aload_n (by decide +kernel : decode mX8_enqueue.2.1 0 = .ok (.aload_n 0, 1)) rfl rfl (?_ : XW _ _ _ _ _ _ _ 1 _ _)
  refine xi_getI (by decide +kernel : decode mX8_enqueue.2.1 1 = .ok (.getfield 33, 3)) fX8_33 rfl (by omega) rfl (?_ : XW _ _ _ _ _ _ _ 4 _ _)
  refine xi_if_lt (by decide +kernel : decode mX8_enqueue.2.1 4 = .ok (.ifCond .lt 35, 3)) (by decide) (fun c => (?_ : XW _ _ _ _ _ _ _ 39 _ _)) (fun c => (?_ : XW _ _ _ _ _ _ _ 7 _ _))
  · replace vc := vc.1 c
    exact xi_vret (by decide +kernel : decode mX8_enqueue.2.1 39 = .ok (.return_, 1)) rfl vc
  · replace vc := vc.2 c
    refine xi_aload_n (by decide +kernel : decode mX8_enqueue.2.1 7 = .ok (.aload_n 0, 1)) rfl rfl (?_ : XW _ _ _ _ _ _ _ 8 _ _)
    refine xi_getI (by decide +kernel : decode mX8_enqueue.2.1 8 = .ok (.getfield 33, 3)) fX8_33 rfl (by omega) rfl (?_ : XW _ _ _ _ _ _ _ 11 _ _)
    refine xi_aload_n (by decide +kernel : decode mX8_enqueue.2.1 11 = .ok (.aload_n 0, 1)) rfl rfl (?_ : XW _ _ _ _ _ _ _ 12 _ _)
    refine xi_getR (y := 42) (by decide +kernel : decode mX8_enqueue.2.1 12 = .ok (.getfield 22, 3)) fX8_22 rfl (by omega) rfl hw.2.2 (?_ : XW _ _ _ _ _ _ _ 15 _ _)
    refine xi_alen (v := 102) (by decide +kernel : decode mX8_enqueue.2.1 15 = .ok (.arraylength, 1)) rfl (by omega) (Or.inl rfl) rfl (?_ : XW _ _ _ _ _ _ _ 16 _ _)
    refine xi_icmp_ge (by decide +kernel : decode mX8_enqueue.2.1 16 = .ok (.if_icmp .ge 23, 3)) (by decide) (fun c => (?_ : XW _ _ _ _ _ _ _ 39 _ _)) (fun c => (?_ : XW _ _ _ _ _ _ _ 19 _ _))
    · replace vc := vc.1 c
      exact xi_vret (by decide +kernel : decode mX8_enqueue.2.1 39 = .ok (.return_, 1)) rfl vc
    · replace vc := vc.2 c
      refine xi_aload_n (by decide +kernel : decode mX8_enqueue.2.1 19 = .ok (.aload_n 0, 1)) rfl rfl (?_ : XW _ _ _ _ _ _ _ 20 _ _)
      refine xi_getR (y := 42) (by decide +kernel : decode mX8_enqueue.2.1 20 = .ok (.getfield 22, 3)) fX8_22 rfl (by omega) rfl hw.2.2 (?_ : XW _ _ _ _ _ _ _ 23 _ _)
      refine xi_aload_n (by decide +kernel : decode mX8_enqueue.2.1 23 = .ok (.aload_n 0, 1)) rfl rfl (?_ : XW _ _ _ _ _ _ _ 24 _ _)
      refine xi_getI (by decide +kernel : decode mX8_enqueue.2.1 24 = .ok (.getfield 33, 3)) fX8_33 rfl (by omega) rfl (?_ : XW _ _ _ _ _ _ _ 27 _ _)
      refine xi_iload_n (by decide +kernel : decode mX8_enqueue.2.1 27 = .ok (.iload_n 1, 1)) rfl rfl (?_ : XW _ _ _ _ _ _ _ 28 _ _)
      obtain ⟨s1, vc⟩ := vc
      refine xi_iast (by decide +kernel : decode mX8_enqueue.2.1 28 = .ok (.iastore, 1)) rfl (by omega) s1 (?_ : XW _ _ _ _ _ _ (xSI 42 (va_up (xI h 42) (xI h 39 4).toNatClampNeg q) h) 29 _ _)
      refine xi_aload_n (by decide +kernel : decode mX8_enqueue.2.1 29 = .ok (.aload_n 0, 1)) rfl rfl (?_ : XW _ _ _ _ _ _ _ 30 _ _)
      refine xi_dup (by decide +kernel : decode mX8_enqueue.2.1 30 = .ok (.dup, 1)) rfl (?_ : XW _ _ _ _ _ _ _ 31 _ _)
      refine xi_getI (by decide +kernel : decode mX8_enqueue.2.1 31 = .ok (.getfield 33, 3)) fX8_33 rfl (by omega) rfl (?_ : XW _ _ _ _ _ _ _ 34 _ [.int (xI h 39 4), .ref 39])
      refine xi_iconst (v := 1) (by decide +kernel : decode mX8_enqueue.2.1 34 = .ok (.iconst 1, 1)) (by decide) (?_ : XW _ _ _ _ _ _ _ 35 _ _)
      refine xi_iadd (by decide +kernel : decode mX8_enqueue.2.1 35 = .ok (.iadd, 1)) (?_ : XW _ _ _ _ _ _ _ 36 _ _)
      refine xi_putI (by decide +kernel : decode mX8_enqueue.2.1 36 = .ok (.putfield 33, 3)) fX8_33 rfl (by omega) rfl rfl rfl (?_ : XW _ _ _ _ _ _ (xSI 39 (va_up (xI h 39) 4 ((xI h 39 4) + 1)) (xSI 42 (va_up (xI h 42) (xI h 39 4).toNatClampNeg q) h)) 39 _ _)
      exact xi_vret (by decide +kernel : decode mX8_enqueue.2.1 39 = .ok (.return_, 1)) rfl vc

theorem s_X8_throwsOf (n : Nat) (h : XH) (hw : xWay (xP h)) (hn : 43 ≤ n) (q : Int32) : XSpec mX8_throwsOf 1 0 0 n n [.ref 39, .int q] h (xq (some (.int (rd (xI h 41) 101 (-1) q))) h) xno := by
  refine XSpec.of rfl (by decide) (Nat.le_of_ble_eq_true rfl) rfl (v_X8_throwsOf_0 n hw hn q ?_)
  refine ⟨fun c => ⟨?_, rfl⟩, fun c => ⟨fun c2 => ⟨?_, rfl⟩, fun c2 => ⟨vp_of c c2 rfl, ?_, rfl⟩⟩⟩
  · simp only [rd, if_pos c]
  · simp only [rd, if_neg c, if_pos c2]
  · simp only [rd, if_neg c, if_neg c2]
set_option maxRecDepth 20000 in
theorem v_X8_reach_0 {h : XH} {Q : Option Value → XH → Prop} {X : String → XH → Prop} (n : Nat) (hw : xWay (xP h)) (hn : 43 ≤ n)  (q : Int32) (mn : Int32)
    (vc : (¬ (rd (xI h 41) 101 (-1) q) = (-1) → Q none h) ∧ ((rd (xI h 41) 101 (-1) q) = (-1) → (q < 0 → Q none h) ∧ (¬ q < 0 → (101 ≤ q → Q none h) ∧ (¬ 101 ≤ q → (vp_in q 101) ∧ (∃ Q1, XSpec mX8_enqueue 1 0 0 n n [.ref 39, .int q] (xSI 41 (va_up (xI h 41) q.toNatClampNeg mn) h) Q1 xno ∧ ∀ v h1, Q1 v h1 → v = none ∧ (Q none h1)))))) :
    XW (xrm 2 0 0) mX8_reach (xE n Q X 0 0) n 0 0 h 0 [some (.ref 39), some (.int q), some (.int mn)] [] := by
  refine xi_aload_n (by decide +kernel : decode mX8_reach.2.1 0 = .ok (.aload_n 0, 1)) rfl rfl (?_ : XW _ _ _ _ _ _ _ 1 _ _)
  refine xi_iload_n (by decide +kernel : decode mX8_reach.2.1 1 = .ok (.iload_n 1, 1)) rfl rfl (?_ : XW _ _ _ _ _ _ _ 2 _ _)
  refine xi_callV (b := 0) (bs := 0) (As := [.int q]) (st := []) (by decide +kernel : decode mX8_reach.2.1 2 = .ok (.invokevirtual 25, 3)) kX8_25 rfl rfl (by omega) rfl (s_X8_throwsOf n h hw (by omega) q) (by decide) (by decide) (Nat.le_of_ble_eq_true rfl) (by omega) (fun v9 h9 hq9 => ?_)
  rw [hq9.1, hq9.2]
  show XW _ _ _ _ _ _ _ 5 _ [.int (rd (xI h 41) 101 (-1) q)]
  refine xi_iconst (v := (-1)) (by decide +kernel : decode mX8_reach.2.1 5 = .ok (.iconst (-1), 1)) (by decide) (?_ : XW _ _ _ _ _ _ _ 6 _ _)
  refine xi_icmp_ne (by decide +kernel : decode mX8_reach.2.1 6 = .ok (.if_icmp .ne 28, 3)) (by decide) (fun c => (?_ : XW _ _ _ _ _ _ _ 34 _ _)) (fun c => (?_ : XW _ _ _ _ _ _ _ 9 _ _))
  · replace vc := vc.1 c
    exact xi_vret (by decide +kernel : decode mX8_reach.2.1 34 = .ok (.return_, 1)) rfl vc
  · replace vc := vc.2 c
    refine xi_iload_n (by decide +kernel : decode mX8_reach.2.1 9 = .ok (.iload_n 1, 1)) rfl rfl (?_ : XW _ _ _ _ _ _ _ 10 _ _)
    refine xi_if_lt (by decide +kernel : decode mX8_reach.2.1 10 = .ok (.ifCond .lt 24, 3)) (by decide) (fun c => (?_ : XW _ _ _ _ _ _ _ 34 _ _)) (fun c => (?_ : XW _ _ _ _ _ _ _ 13 _ _))
    · replace vc := vc.1 c
      exact xi_vret (by decide +kernel : decode mX8_reach.2.1 34 = .ok (.return_, 1)) rfl vc
    · replace vc := vc.2 c
      refine xi_iload_n (by decide +kernel : decode mX8_reach.2.1 13 = .ok (.iload_n 1, 1)) rfl rfl (?_ : XW _ _ _ _ _ _ _ 14 _ _)
      refine xi_aload_n (by decide +kernel : decode mX8_reach.2.1 14 = .ok (.aload_n 0, 1)) rfl rfl (?_ : XW _ _ _ _ _ _ _ 15 _ _)
      refine xi_getR (y := 41) (by decide +kernel : decode mX8_reach.2.1 15 = .ok (.getfield 19, 3)) fX8_19 rfl (by omega) rfl hw.2.1 (?_ : XW _ _ _ _ _ _ _ 18 _ _)
      refine xi_alen (v := 101) (by decide +kernel : decode mX8_reach.2.1 18 = .ok (.arraylength, 1)) rfl (by omega) (Or.inl rfl) rfl (?_ : XW _ _ _ _ _ _ _ 19 _ _)
      refine xi_icmp_ge (by decide +kernel : decode mX8_reach.2.1 19 = .ok (.if_icmp .ge 15, 3)) (by decide) (fun c => (?_ : XW _ _ _ _ _ _ _ 34 _ _)) (fun c => (?_ : XW _ _ _ _ _ _ _ 22 _ _))
      · replace vc := vc.1 c
        exact xi_vret (by decide +kernel : decode mX8_reach.2.1 34 = .ok (.return_, 1)) rfl vc
      · replace vc := vc.2 c
        refine xi_aload_n (by decide +kernel : decode mX8_reach.2.1 22 = .ok (.aload_n 0, 1)) rfl rfl (?_ : XW _ _ _ _ _ _ _ 23 _ _)
        refine xi_getR (y := 41) (by decide +kernel : decode mX8_reach.2.1 23 = .ok (.getfield 19, 3)) fX8_19 rfl (by omega) rfl hw.2.1 (?_ : XW _ _ _ _ _ _ _ 26 _ _)
        refine xi_iload_n (by decide +kernel : decode mX8_reach.2.1 26 = .ok (.iload_n 1, 1)) rfl rfl (?_ : XW _ _ _ _ _ _ _ 27 _ _)
        refine xi_iload_n (by decide +kernel : decode mX8_reach.2.1 27 = .ok (.iload_n 2, 1)) rfl rfl (?_ : XW _ _ _ _ _ _ _ 28 _ _)
        obtain ⟨s1, vc⟩ := vc
        refine xi_iast (by decide +kernel : decode mX8_reach.2.1 28 = .ok (.iastore, 1)) rfl (by omega) s1 (?_ : XW _ _ _ _ _ _ (xSI 41 (va_up (xI h 41) q.toNatClampNeg mn) h) 29 _ _)
        refine xi_aload_n (by decide +kernel : decode mX8_reach.2.1 29 = .ok (.aload_n 0, 1)) rfl rfl (?_ : XW _ _ _ _ _ _ _ 30 _ _)
        refine xi_iload_n (by decide +kernel : decode mX8_reach.2.1 30 = .ok (.iload_n 1, 1)) rfl rfl (?_ : XW _ _ _ _ _ _ _ 31 _ _)
        obtain ⟨Q1, sp, vc⟩ := vc
        refine xi_callV (b := 0) (bs := 0) (As := [.int q]) (st := []) (by decide +kernel : decode mX8_reach.2.1 31 = .ok (.invokevirtual 29, 3)) kX8_29 rfl rfl (by omega) rfl sp (by decide) (by decide) (Nat.le_of_ble_eq_true rfl) (by omega) (fun v9 h1 hq9 => ?_)
        obtain ⟨e9, vc⟩ := vc v9 h1 hq9
        subst e9
        show XW _ _ _ _ _ _ _ 34 _ []
        exact xi_vret (by decide +kernel : decode mX8_reach.2.1 34 = .ok (.return_, 1)) rfl vc

theorem s_X8_enqueue (n : Nat) (h : XH) (hw : xWay (xP h)) (hn : 43 ≤ n) (k : Nat) (hk : k ≤ 101) (hq : xI h 39 4 = nI k) (q : Int32) : XSpec mX8_enqueue 1 0 0 n n [.ref 39, .int q] h (xq none (xSI 39 (va_up (xI h 39) 4 (nI (k + 1))) (xSI 42 (va_up (xI h 42) k q) h))) xno := by
  refine XSpec.of rfl (by decide) (Nat.le_of_ble_eq_true rfl) rfl (v_X8_enqueue_0 n hw hn q ?_)
  rw [hq, nI_1, nI_clamp (by omega)]
  exact ⟨fun c => absurd c (nI_pos (by omega)), fun _ => ⟨fun c => absurd c (nI_ge (a := k) (b := 102) (by omega) (by omega)), fun _ => ⟨vp_in_nI (by omega) (by omega), rfl, rfl⟩⟩⟩
/-- a square that is reached for the first time: its throws, its place in the queue -/
def reached (h : XH) (s k : Nat) (m : Int32) : XH := if xI h 41 s = -1 then xSI 39 (va_up (xI h 39) 4 (nI (k + 1))) (xSI 42 (va_up (xI h 42) k (nI s)) (xSI 41 (va_up (xI h 41) s m) h)) else h
set_option maxRecDepth 20000 in
theorem v_X8_faceTo_0 {h : XH} {Q : Option Value → XH → Prop} {X : String → XH → Prop} (n r : Nat) (hr : xRul r (xP h)) (hn : r + 9 ≤ n) (a : Nat) (ha : xPth a (xP h)) (hna : a + 4 ≤ n)  (fr : Int32) (tq : Int32)
    (vc : XW (xrm 2 0 0) mX8_faceTo (xE n Q X 0 0) n 0 0 h 3 [some (.ref r), some (.ref a), some (.int fr), some (.int tq), some (.int 1)] []) :
    XW (xrm 2 0 0) mX8_faceTo (xE n Q X 0 0) n 0 0 h 0 [some (.ref r), some (.ref a), some (.int fr), some (.int tq), none] [] := by
  refine xi_iconst (v := 1) (by decide +kernel : decode mX8_faceTo.2.1 0 = .ok (.iconst 1, 1)) (by decide) (?_ : XW _ _ _ _ _ _ _ 1 _ _)
  refine xi_istore (ls' := [some (.ref r), some (.ref a), some (.int fr), some (.int tq), some (.int 1)]) (by decide +kernel : decode mX8_faceTo.2.1 1 = .ok (.istore 4, 2)) (by decide) rfl (?_ : XW _ _ _ _ _ _ _ 3 _ _)
  exact vc

set_option maxRecDepth 20000 in
theorem v_X8_faceTo_3 {h : XH} {Q : Option Value → XH → Prop} {X : String → XH → Prop} (n r : Nat) (hr : xRul r (xP h)) (hn : r + 9 ≤ n) (a : Nat) (ha : xPth a (xP h)) (hna : a + 4 ≤ n)  (x2 : Int32) (x3 : Int32) (x4 : Int32)
    (vc : (6 < x4 → Q (some (.int 0)) h) ∧ (¬ 6 < x4 → ((rd (xI h (r + 5)) 7 0 x4) ≤ 0 → XW (xrm 2 0 0) mX8_faceTo (xE n Q X 0 0) n 0 0 h 3 [some (.ref r), some (.ref a), some (.int x2), some (.int x3), some (.int (x4 + 1))] []) ∧ (¬ (rd (xI h (r + 5)) 7 0 x4) ≤ 0 → (¬ (rd (xI h (a + 3)) 707 0 (x2 * 7 + x4)) = x3 → XW (xrm 2 0 0) mX8_faceTo (xE n Q X 0 0) n 0 0 h 3 [some (.ref r), some (.ref a), some (.int x2), some (.int x3), some (.int (x4 + 1))] []) ∧ ((rd (xI h (a + 3)) 707 0 (x2 * 7 + x4)) = x3 → Q (some (.int x4)) h)))) :
    XW (xrm 2 0 0) mX8_faceTo (xE n Q X 0 0) n 0 0 h 3 [some (.ref r), some (.ref a), some (.int x2), some (.int x3), some (.int x4)] [] := by
  refine xi_iload (by decide +kernel : decode mX8_faceTo.2.1 3 = .ok (.iload 4, 2)) rfl (?_ : XW _ _ _ _ _ _ _ 5 _ _)
  refine xi_bipush (v := 6) (by decide +kernel : decode mX8_faceTo.2.1 5 = .ok (.bipush 6, 2)) (by decide) (?_ : XW _ _ _ _ _ _ _ 7 _ _)
  refine xi_icmp_gt (by decide +kernel : decode mX8_faceTo.2.1 7 = .ok (.if_icmp .gt 32, 3)) (by decide) (fun c => (?_ : XW _ _ _ _ _ _ _ 39 _ _)) (fun c => (?_ : XW _ _ _ _ _ _ _ 10 _ _))
  · replace vc := vc.1 c
    refine xi_iconst (v := 0) (by decide +kernel : decode mX8_faceTo.2.1 39 = .ok (.iconst 0, 1)) (by decide) (?_ : XW _ _ _ _ _ _ _ 40 _ _)
    exact xi_iret (by decide +kernel : decode mX8_faceTo.2.1 40 = .ok (.ireturn, 1)) rfl rfl vc
  · replace vc := vc.2 c
    refine xi_aload_n (by decide +kernel : decode mX8_faceTo.2.1 10 = .ok (.aload_n 0, 1)) rfl rfl (?_ : XW _ _ _ _ _ _ _ 11 _ _)
    refine xi_iload (by decide +kernel : decode mX8_faceTo.2.1 11 = .ok (.iload 4, 2)) rfl (?_ : XW _ _ _ _ _ _ _ 13 _ _)
    refine xi_callV (b := 0) (bs := 0) (As := [.int x4]) (st := []) (by decide +kernel : decode mX8_faceTo.2.1 13 = .ok (.invokevirtual 42, 3)) kX8_42 rfl (xRul_s0 hr) (by omega) rfl (s_X5_oddsOf n h r hr (by omega) x4) (by decide) (by decide) (Nat.le_of_ble_eq_true rfl) (by omega) (fun v9 h9 hq9 => ?_)
    rw [hq9.1, hq9.2]
    show XW _ _ _ _ _ _ _ 16 _ [.int (rd (xI h (r + 5)) 7 0 x4)]
    refine xi_if_le (by decide +kernel : decode mX8_faceTo.2.1 16 = .ok (.ifCond .le 17, 3)) (by decide) (fun c => (?_ : XW _ _ _ _ _ _ _ 33 _ _)) (fun c => (?_ : XW _ _ _ _ _ _ _ 19 _ _))
    · replace vc := vc.1 c
      refine xi_iinc (v := x4 + 1) (ls' := [some (.ref r), some (.ref a), some (.int x2), some (.int x3), some (.int (x4 + 1))]) (by decide +kernel : decode mX8_faceTo.2.1 33 = .ok (.iinc 4 1, 3)) rfl rfl (by decide) rfl (?_ : XW _ _ _ _ _ _ _ 36 _ _)
      refine xi_goto (by decide +kernel : decode mX8_faceTo.2.1 36 = .ok (.goto (-33), 3)) (by decide) (?_ : XW _ _ _ _ _ _ _ 3 _ _)
      exact vc
    · replace vc := vc.2 c
      refine xi_aload_n (by decide +kernel : decode mX8_faceTo.2.1 19 = .ok (.aload_n 1, 1)) rfl rfl (?_ : XW _ _ _ _ _ _ _ 20 _ _)
      refine xi_iload_n (by decide +kernel : decode mX8_faceTo.2.1 20 = .ok (.iload_n 2, 1)) rfl rfl (?_ : XW _ _ _ _ _ _ _ 21 _ _)
      refine xi_iload (by decide +kernel : decode mX8_faceTo.2.1 21 = .ok (.iload 4, 2)) rfl (?_ : XW _ _ _ _ _ _ _ 23 _ _)
      refine xi_callV (b := 0) (bs := 0) (As := [.int x2, .int x4]) (st := []) (by decide +kernel : decode mX8_faceTo.2.1 23 = .ok (.invokevirtual 47, 3)) kX8_47 rfl (xPth_s0 ha) (by omega) rfl (s_X3_to n h a ha (by omega) x2 x4) (by decide) (by decide) (Nat.le_of_ble_eq_true rfl) (by omega) (fun v9 h9 hq9 => ?_)
      rw [hq9.1, hq9.2]
      show XW _ _ _ _ _ _ _ 26 _ [.int (rd (xI h (a + 3)) 707 0 (x2 * 7 + x4))]
      refine xi_iload_n (by decide +kernel : decode mX8_faceTo.2.1 26 = .ok (.iload_n 3, 1)) rfl rfl (?_ : XW _ _ _ _ _ _ _ 27 _ _)
      refine xi_icmp_ne (by decide +kernel : decode mX8_faceTo.2.1 27 = .ok (.if_icmp .ne 6, 3)) (by decide) (fun c => (?_ : XW _ _ _ _ _ _ _ 33 _ _)) (fun c => (?_ : XW _ _ _ _ _ _ _ 30 _ _))
      · replace vc := vc.1 c
        refine xi_iinc (v := x4 + 1) (ls' := [some (.ref r), some (.ref a), some (.int x2), some (.int x3), some (.int (x4 + 1))]) (by decide +kernel : decode mX8_faceTo.2.1 33 = .ok (.iinc 4 1, 3)) rfl rfl (by decide) rfl (?_ : XW _ _ _ _ _ _ _ 36 _ _)
        refine xi_goto (by decide +kernel : decode mX8_faceTo.2.1 36 = .ok (.goto (-33), 3)) (by decide) (?_ : XW _ _ _ _ _ _ _ 3 _ _)
        exact vc
      · replace vc := vc.2 c
        refine xi_iload (by decide +kernel : decode mX8_faceTo.2.1 30 = .ok (.iload 4, 2)) rfl (?_ : XW _ _ _ _ _ _ _ 32 _ _)
        exact xi_iret (by decide +kernel : decode mX8_faceTo.2.1 32 = .ok (.ireturn, 1)) rfl rfl vc

set_option maxRecDepth 20000 in
theorem v_X8_faceNearer_0 {h : XH} {Q : Option Value → XH → Prop} {X : String → XH → Prop} (n : Nat) (hw : xWay (xP h)) (hn : 43 ≤ n) (a : Nat) (ha : xPth a (xP h)) (hna : a + 4 ≤ n) (r : Nat) (hr : xRul r (xP h)) (hnr : r + 9 ≤ n)  (sq : Int32)
    (vc : XW (xrm 2 0 0) mX8_faceNearer (xE n Q X 0 0) n 0 0 h 3 [some (.ref 39), some (.ref r), some (.ref a), some (.int sq), some (.int 1)] []) :
    XW (xrm 2 0 0) mX8_faceNearer (xE n Q X 0 0) n 0 0 h 0 [some (.ref 39), some (.ref r), some (.ref a), some (.int sq), none] [] := by
  refine xi_iconst (v := 1) (by decide +kernel : decode mX8_faceNearer.2.1 0 = .ok (.iconst 1, 1)) (by decide) (?_ : XW _ _ _ _ _ _ _ 1 _ _)
  refine xi_istore (ls' := [some (.ref 39), some (.ref r), some (.ref a), some (.int sq), some (.int 1)]) (by decide +kernel : decode mX8_faceNearer.2.1 1 = .ok (.istore 4, 2)) (by decide) rfl (?_ : XW _ _ _ _ _ _ _ 3 _ _)
  exact vc

set_option maxRecDepth 20000 in
theorem v_X8_faceNearer_3 {h : XH} {Q : Option Value → XH → Prop} {X : String → XH → Prop} (n : Nat) (hw : xWay (xP h)) (hn : 43 ≤ n) (a : Nat) (ha : xPth a (xP h)) (hna : a + 4 ≤ n) (r : Nat) (hr : xRul r (xP h)) (hnr : r + 9 ≤ n)  (x3 : Int32) (x4 : Int32)
    (vc : (6 < x4 → Q (some (.int 6)) h) ∧ (¬ 6 < x4 → ((rd (xI h (r + 5)) 7 0 x4) ≤ 0 → XW (xrm 2 0 0) mX8_faceNearer (xE n Q X 0 0) n 0 0 h 3 [some (.ref 39), some (.ref r), some (.ref a), some (.int x3), some (.int (x4 + 1))] []) ∧ (¬ (rd (xI h (r + 5)) 7 0 x4) ≤ 0 → (¬ (rd (xI h 41) 101 (-1) (rd (xI h (a + 3)) 707 0 (x3 * 7 + x4))) = ((rd (xI h 41) 101 (-1) x3) - 1) → XW (xrm 2 0 0) mX8_faceNearer (xE n Q X 0 0) n 0 0 h 3 [some (.ref 39), some (.ref r), some (.ref a), some (.int x3), some (.int (x4 + 1))] []) ∧ ((rd (xI h 41) 101 (-1) (rd (xI h (a + 3)) 707 0 (x3 * 7 + x4))) = ((rd (xI h 41) 101 (-1) x3) - 1) → Q (some (.int x4)) h)))) :
    XW (xrm 2 0 0) mX8_faceNearer (xE n Q X 0 0) n 0 0 h 3 [some (.ref 39), some (.ref r), some (.ref a), some (.int x3), some (.int x4)] [] := by
  refine xi_iload (by decide +kernel : decode mX8_faceNearer.2.1 3 = .ok (.iload 4, 2)) rfl (?_ : XW _ _ _ _ _ _ _ 5 _ _)
  refine xi_bipush (v := 6) (by decide +kernel : decode mX8_faceNearer.2.1 5 = .ok (.bipush 6, 2)) (by decide) (?_ : XW _ _ _ _ _ _ _ 7 _ _)
  refine xi_icmp_gt (by decide +kernel : decode mX8_faceNearer.2.1 7 = .ok (.if_icmp .gt 42, 3)) (by decide) (fun c => (?_ : XW _ _ _ _ _ _ _ 49 _ _)) (fun c => (?_ : XW _ _ _ _ _ _ _ 10 _ _))
  · replace vc := vc.1 c
    refine xi_bipush (v := 6) (by decide +kernel : decode mX8_faceNearer.2.1 49 = .ok (.bipush 6, 2)) (by decide) (?_ : XW _ _ _ _ _ _ _ 51 _ _)
    exact xi_iret (by decide +kernel : decode mX8_faceNearer.2.1 51 = .ok (.ireturn, 1)) rfl rfl vc
  · replace vc := vc.2 c
    refine xi_aload_n (by decide +kernel : decode mX8_faceNearer.2.1 10 = .ok (.aload_n 1, 1)) rfl rfl (?_ : XW _ _ _ _ _ _ _ 11 _ _)
    refine xi_iload (by decide +kernel : decode mX8_faceNearer.2.1 11 = .ok (.iload 4, 2)) rfl (?_ : XW _ _ _ _ _ _ _ 13 _ _)
    refine xi_callV (b := 0) (bs := 0) (As := [.int x4]) (st := []) (by decide +kernel : decode mX8_faceNearer.2.1 13 = .ok (.invokevirtual 42, 3)) kX8_42 rfl (xRul_s0 hr) (by omega) rfl (s_X5_oddsOf n h r hr (by omega) x4) (by decide) (by decide) (Nat.le_of_ble_eq_true rfl) (by omega) (fun v9 h9 hq9 => ?_)
    rw [hq9.1, hq9.2]
    show XW _ _ _ _ _ _ _ 16 _ [.int (rd (xI h (r + 5)) 7 0 x4)]
    refine xi_if_le (by decide +kernel : decode mX8_faceNearer.2.1 16 = .ok (.ifCond .le 27, 3)) (by decide) (fun c => (?_ : XW _ _ _ _ _ _ _ 43 _ _)) (fun c => (?_ : XW _ _ _ _ _ _ _ 19 _ _))
    · replace vc := vc.1 c
      refine xi_iinc (v := x4 + 1) (ls' := [some (.ref 39), some (.ref r), some (.ref a), some (.int x3), some (.int (x4 + 1))]) (by decide +kernel : decode mX8_faceNearer.2.1 43 = .ok (.iinc 4 1, 3)) rfl rfl (by decide) rfl (?_ : XW _ _ _ _ _ _ _ 46 _ _)
      refine xi_goto (by decide +kernel : decode mX8_faceNearer.2.1 46 = .ok (.goto (-43), 3)) (by decide) (?_ : XW _ _ _ _ _ _ _ 3 _ _)
      exact vc
    · replace vc := vc.2 c
      refine xi_aload_n (by decide +kernel : decode mX8_faceNearer.2.1 19 = .ok (.aload_n 0, 1)) rfl rfl (?_ : XW _ _ _ _ _ _ _ 20 _ _)
      refine xi_aload_n (by decide +kernel : decode mX8_faceNearer.2.1 20 = .ok (.aload_n 2, 1)) rfl rfl (?_ : XW _ _ _ _ _ _ _ 21 _ _)
      refine xi_iload_n (by decide +kernel : decode mX8_faceNearer.2.1 21 = .ok (.iload_n 3, 1)) rfl rfl (?_ : XW _ _ _ _ _ _ _ 22 _ _)
      refine xi_iload (by decide +kernel : decode mX8_faceNearer.2.1 22 = .ok (.iload 4, 2)) rfl (?_ : XW _ _ _ _ _ _ _ 24 _ _)
      refine xi_callV (b := 0) (bs := 0) (As := [.int x3, .int x4]) (st := [.ref 39]) (by decide +kernel : decode mX8_faceNearer.2.1 24 = .ok (.invokevirtual 47, 3)) kX8_47 rfl (xPth_s0 ha) (by omega) rfl (s_X3_to n h a ha (by omega) x3 x4) (by decide) (by decide) (Nat.le_of_ble_eq_true rfl) (by omega) (fun v9 h9 hq9 => ?_)
      rw [hq9.1, hq9.2]
      show XW _ _ _ _ _ _ _ 27 _ [.int (rd (xI h (a + 3)) 707 0 (x3 * 7 + x4)), .ref 39]
      refine xi_callV (b := 0) (bs := 0) (As := [.int (rd (xI h (a + 3)) 707 0 (x3 * 7 + x4))]) (st := []) (by decide +kernel : decode mX8_faceNearer.2.1 27 = .ok (.invokevirtual 25, 3)) kX8_25 rfl rfl (by omega) rfl (s_X8_throwsOf n h hw (by omega) (rd (xI h (a + 3)) 707 0 (x3 * 7 + x4))) (by decide) (by decide) (Nat.le_of_ble_eq_true rfl) (by omega) (fun v9 h9 hq9 => ?_)
      rw [hq9.1, hq9.2]
      show XW _ _ _ _ _ _ _ 30 _ [.int (rd (xI h 41) 101 (-1) (rd (xI h (a + 3)) 707 0 (x3 * 7 + x4)))]
      refine xi_aload_n (by decide +kernel : decode mX8_faceNearer.2.1 30 = .ok (.aload_n 0, 1)) rfl rfl (?_ : XW _ _ _ _ _ _ _ 31 _ _)
      refine xi_iload_n (by decide +kernel : decode mX8_faceNearer.2.1 31 = .ok (.iload_n 3, 1)) rfl rfl (?_ : XW _ _ _ _ _ _ _ 32 _ _)
      refine xi_callV (b := 0) (bs := 0) (As := [.int x3]) (st := [.int (rd (xI h 41) 101 (-1) (rd (xI h (a + 3)) 707 0 (x3 * 7 + x4)))]) (by decide +kernel : decode mX8_faceNearer.2.1 32 = .ok (.invokevirtual 25, 3)) kX8_25 rfl rfl (by omega) rfl (s_X8_throwsOf n h hw (by omega) x3) (by decide) (by decide) (Nat.le_of_ble_eq_true rfl) (by omega) (fun v9 h9 hq9 => ?_)
      rw [hq9.1, hq9.2]
      show XW _ _ _ _ _ _ _ 35 _ [.int (rd (xI h 41) 101 (-1) x3), .int (rd (xI h 41) 101 (-1) (rd (xI h (a + 3)) 707 0 (x3 * 7 + x4)))]
      refine xi_iconst (v := 1) (by decide +kernel : decode mX8_faceNearer.2.1 35 = .ok (.iconst 1, 1)) (by decide) (?_ : XW _ _ _ _ _ _ _ 36 _ _)
      refine xi_isub (by decide +kernel : decode mX8_faceNearer.2.1 36 = .ok (.isub, 1)) (?_ : XW _ _ _ _ _ _ _ 37 _ _)
      refine xi_icmp_ne (by decide +kernel : decode mX8_faceNearer.2.1 37 = .ok (.if_icmp .ne 6, 3)) (by decide) (fun c => (?_ : XW _ _ _ _ _ _ _ 43 _ _)) (fun c => (?_ : XW _ _ _ _ _ _ _ 40 _ _))
      · replace vc := vc.1 c
        refine xi_iinc (v := x4 + 1) (ls' := [some (.ref 39), some (.ref r), some (.ref a), some (.int x3), some (.int (x4 + 1))]) (by decide +kernel : decode mX8_faceNearer.2.1 43 = .ok (.iinc 4 1, 3)) rfl rfl (by decide) rfl (?_ : XW _ _ _ _ _ _ _ 46 _ _)
        refine xi_goto (by decide +kernel : decode mX8_faceNearer.2.1 46 = .ok (.goto (-43), 3)) (by decide) (?_ : XW _ _ _ _ _ _ _ 3 _ _)
        exact vc
      · replace vc := vc.2 c
        refine xi_iload (by decide +kernel : decode mX8_faceNearer.2.1 40 = .ok (.iload 4, 2)) rfl (?_ : XW _ _ _ _ _ _ _ 42 _ _)
        exact xi_iret (by decide +kernel : decode mX8_faceNearer.2.1 42 = .ok (.ireturn, 1)) rfl rfl vc

set_option maxRecDepth 20000 in
theorem v_X8_findHome_0 {h : XH} {Q : Option Value → XH → Prop} {X : String → XH → Prop} (n : Nat) (hw : xWay (xP h)) (hn : 43 ≤ n) (a : Nat) (ha : xPth a (xP h)) (hna : a + 4 ≤ n) (r : Nat) (hr : xRul r (xP h)) (hnr : r + 9 ≤ n) 
    (vc : ∃ Q1, XSpec mX8_reach 2 0 0 n n [.ref 39, .int (xI h r 0), .int 0] (xSI 39 (va_up (xI h 39) 4 0) (xSI 41 (fl 101 (-1) (xI h 41)) h)) Q1 xno ∧ ∀ v h1, Q1 v h1 → v = none ∧ (XW (xrm 3 0 0) mX8_findHome (xE n Q X 0 0) n 0 0 h1 24 [some (.ref 39), some (.ref r), some (.ref a), some (.int 0), none, none] [])) :
    XW (xrm 3 0 0) mX8_findHome (xE n Q X 0 0) n 0 0 h 0 [some (.ref 39), some (.ref r), some (.ref a), none, none, none] [] := by
  rcases hr.1 with rfl | rfl
  · refine xi_aload_n (by decide +kernel : decode mX8_findHome.2.1 0 = .ok (.aload_n 0, 1)) rfl rfl (?_ : XW _ _ _ _ _ _ _ 1 _ _)
    refine xi_getR (y := 41) (by decide +kernel : decode mX8_findHome.2.1 1 = .ok (.getfield 19, 3)) fX8_19 rfl (by omega) rfl hw.2.1 (?_ : XW _ _ _ _ _ _ _ 4 _ _)
    refine xi_iconst (v := (-1)) (by decide +kernel : decode mX8_findHome.2.1 4 = .ok (.iconst (-1), 1)) (by decide) (?_ : XW _ _ _ _ _ _ _ 5 _ _)
    refine xi_callS (b := 0) (bs := 0) (As := [.ref 41, .int (-1)]) (st := []) (by decide +kernel : decode mX8_findHome.2.1 5 = .ok (.invokestatic 36, 3)) kX8_36 rfl rfl (s_fillI n h 41 101 rfl (by omega) (by decide) (-1)) (by decide) (by decide) (Nat.le_of_ble_eq_true rfl) (by omega) (fun v9 h9 hq9 => ?_)
    rw [hq9.1, hq9.2]
    show XW _ _ _ _ _ _ _ 8 _ []
    refine xi_aload_n (by decide +kernel : decode mX8_findHome.2.1 8 = .ok (.aload_n 0, 1)) rfl rfl (?_ : XW _ _ _ _ _ _ _ 9 _ _)
    refine xi_iconst (v := 0) (by decide +kernel : decode mX8_findHome.2.1 9 = .ok (.iconst 0, 1)) (by decide) (?_ : XW _ _ _ _ _ _ _ 10 _ _)
    refine xi_putI (by decide +kernel : decode mX8_findHome.2.1 10 = .ok (.putfield 33, 3)) fX8_33 rfl (by omega) rfl rfl rfl (?_ : XW _ _ _ _ _ _ (xSI 39 (va_up (xI h 39) 4 0) (xSI 41 (fl 101 (-1) (xI h 41)) h)) 13 _ _)
    refine xi_aload_n (by decide +kernel : decode mX8_findHome.2.1 13 = .ok (.aload_n 0, 1)) rfl rfl (?_ : XW _ _ _ _ _ _ _ 14 _ _)
    refine xi_aload_n (by decide +kernel : decode mX8_findHome.2.1 14 = .ok (.aload_n 1, 1)) rfl rfl (?_ : XW _ _ _ _ _ _ _ 15 _ _)
    refine xi_getI (by decide +kernel : decode mX8_findHome.2.1 15 = .ok (.getfield 57, 3)) fX8_57 rfl (by omega) rfl (?_ : XW _ _ _ _ _ _ _ 18 _ [.int (xI h 2 0), .ref 39])
    refine xi_iconst (v := 0) (by decide +kernel : decode mX8_findHome.2.1 18 = .ok (.iconst 0, 1)) (by decide) (?_ : XW _ _ _ _ _ _ _ 19 _ _)
    obtain ⟨Q1, sp, vc⟩ := vc
    refine xi_callV (b := 0) (bs := 0) (As := [.int (xI h 2 0), .int 0]) (st := []) (by decide +kernel : decode mX8_findHome.2.1 19 = .ok (.invokevirtual 53, 3)) kX8_53 rfl rfl (by omega) rfl sp (by decide) (by decide) (Nat.le_of_ble_eq_true rfl) (by omega) (fun v9 h1 hq9 => ?_)
    obtain ⟨e9, vc⟩ := vc v9 h1 hq9
    subst e9
    show XW _ _ _ _ _ _ _ 22 _ []
    refine xi_iconst (v := 0) (by decide +kernel : decode mX8_findHome.2.1 22 = .ok (.iconst 0, 1)) (by decide) (?_ : XW _ _ _ _ _ _ _ 23 _ _)
    refine xi_istore_n (ls' := [some (.ref 39), some (.ref 2), some (.ref a), some (.int 0), none, none]) (by decide +kernel : decode mX8_findHome.2.1 23 = .ok (.istore_n 3, 1)) rfl (by decide) rfl (?_ : XW _ _ _ _ _ _ _ 24 _ _)
    exact vc
  · refine xi_aload_n (by decide +kernel : decode mX8_findHome.2.1 0 = .ok (.aload_n 0, 1)) rfl rfl (?_ : XW _ _ _ _ _ _ _ 1 _ _)
    refine xi_getR (y := 41) (by decide +kernel : decode mX8_findHome.2.1 1 = .ok (.getfield 19, 3)) fX8_19 rfl (by omega) rfl hw.2.1 (?_ : XW _ _ _ _ _ _ _ 4 _ _)
    refine xi_iconst (v := (-1)) (by decide +kernel : decode mX8_findHome.2.1 4 = .ok (.iconst (-1), 1)) (by decide) (?_ : XW _ _ _ _ _ _ _ 5 _ _)
    refine xi_callS (b := 0) (bs := 0) (As := [.ref 41, .int (-1)]) (st := []) (by decide +kernel : decode mX8_findHome.2.1 5 = .ok (.invokestatic 36, 3)) kX8_36 rfl rfl (s_fillI n h 41 101 rfl (by omega) (by decide) (-1)) (by decide) (by decide) (Nat.le_of_ble_eq_true rfl) (by omega) (fun v9 h9 hq9 => ?_)
    rw [hq9.1, hq9.2]
    show XW _ _ _ _ _ _ _ 8 _ []
    refine xi_aload_n (by decide +kernel : decode mX8_findHome.2.1 8 = .ok (.aload_n 0, 1)) rfl rfl (?_ : XW _ _ _ _ _ _ _ 9 _ _)
    refine xi_iconst (v := 0) (by decide +kernel : decode mX8_findHome.2.1 9 = .ok (.iconst 0, 1)) (by decide) (?_ : XW _ _ _ _ _ _ _ 10 _ _)
    refine xi_putI (by decide +kernel : decode mX8_findHome.2.1 10 = .ok (.putfield 33, 3)) fX8_33 rfl (by omega) rfl rfl rfl (?_ : XW _ _ _ _ _ _ (xSI 39 (va_up (xI h 39) 4 0) (xSI 41 (fl 101 (-1) (xI h 41)) h)) 13 _ _)
    refine xi_aload_n (by decide +kernel : decode mX8_findHome.2.1 13 = .ok (.aload_n 0, 1)) rfl rfl (?_ : XW _ _ _ _ _ _ _ 14 _ _)
    refine xi_aload_n (by decide +kernel : decode mX8_findHome.2.1 14 = .ok (.aload_n 1, 1)) rfl rfl (?_ : XW _ _ _ _ _ _ _ 15 _ _)
    refine xi_getI (by decide +kernel : decode mX8_findHome.2.1 15 = .ok (.getfield 57, 3)) fX8_57 rfl (by omega) rfl (?_ : XW _ _ _ _ _ _ _ 18 _ [.int (xI h 12 0), .ref 39])
    refine xi_iconst (v := 0) (by decide +kernel : decode mX8_findHome.2.1 18 = .ok (.iconst 0, 1)) (by decide) (?_ : XW _ _ _ _ _ _ _ 19 _ _)
    obtain ⟨Q1, sp, vc⟩ := vc
    refine xi_callV (b := 0) (bs := 0) (As := [.int (xI h 12 0), .int 0]) (st := []) (by decide +kernel : decode mX8_findHome.2.1 19 = .ok (.invokevirtual 53, 3)) kX8_53 rfl rfl (by omega) rfl sp (by decide) (by decide) (Nat.le_of_ble_eq_true rfl) (by omega) (fun v9 h1 hq9 => ?_)
    obtain ⟨e9, vc⟩ := vc v9 h1 hq9
    subst e9
    show XW _ _ _ _ _ _ _ 22 _ []
    refine xi_iconst (v := 0) (by decide +kernel : decode mX8_findHome.2.1 22 = .ok (.iconst 0, 1)) (by decide) (?_ : XW _ _ _ _ _ _ _ 23 _ _)
    refine xi_istore_n (ls' := [some (.ref 39), some (.ref 12), some (.ref a), some (.int 0), none, none]) (by decide +kernel : decode mX8_findHome.2.1 23 = .ok (.istore_n 3, 1)) rfl (by decide) rfl (?_ : XW _ _ _ _ _ _ _ 24 _ _)
    exact vc

set_option maxRecDepth 20000 in
theorem v_X8_findHome_24 {h : XH} {Q : Option Value → XH → Prop} {X : String → XH → Prop} (n : Nat) (hw : xWay (xP h)) (hn : 43 ≤ n) (a : Nat) (ha : xPth a (xP h)) (hna : a + 4 ≤ n) (r : Nat) (hr : xRul r (xP h)) (hnr : r + 9 ≤ n)  (x3 : Int32)
    (vc : ((xI h 39 4) ≤ x3 → Q none h) ∧ (¬ (xI h 39 4) ≤ x3 → (102 ≤ x3 → Q none h) ∧ (¬ 102 ≤ x3 → (vp_in x3 102) ∧ (XW (xrm 3 0 0) mX8_findHome (xE n Q X 0 0) n 0 0 h 52 [some (.ref 39), some (.ref r), some (.ref a), some (.int x3), some (.int (xI h 42 x3.toNatClampNeg)), some (.int 0)] [])))) :
    XW (xrm 3 0 0) mX8_findHome (xE n Q X 0 0) n 0 0 h 24 [some (.ref 39), some (.ref r), some (.ref a), some (.int x3), none, none] [] := by
  rcases hr.1 with rfl | rfl
  · refine xi_iload_n (by decide +kernel : decode mX8_findHome.2.1 24 = .ok (.iload_n 3, 1)) rfl rfl (?_ : XW _ _ _ _ _ _ _ 25 _ _)
    refine xi_aload_n (by decide +kernel : decode mX8_findHome.2.1 25 = .ok (.aload_n 0, 1)) rfl rfl (?_ : XW _ _ _ _ _ _ _ 26 _ _)
    refine xi_getI (by decide +kernel : decode mX8_findHome.2.1 26 = .ok (.getfield 33, 3)) fX8_33 rfl (by omega) rfl (?_ : XW _ _ _ _ _ _ _ 29 _ _)
    refine xi_icmp_ge (by decide +kernel : decode mX8_findHome.2.1 29 = .ok (.if_icmp .ge 80, 3)) (by decide) (fun c => (?_ : XW _ _ _ _ _ _ _ 109 _ _)) (fun c => (?_ : XW _ _ _ _ _ _ _ 32 _ _))
    · replace vc := vc.1 c
      exact xi_vret (by decide +kernel : decode mX8_findHome.2.1 109 = .ok (.return_, 1)) rfl vc
    · replace vc := vc.2 c
      refine xi_iload_n (by decide +kernel : decode mX8_findHome.2.1 32 = .ok (.iload_n 3, 1)) rfl rfl (?_ : XW _ _ _ _ _ _ _ 33 _ _)
      refine xi_aload_n (by decide +kernel : decode mX8_findHome.2.1 33 = .ok (.aload_n 0, 1)) rfl rfl (?_ : XW _ _ _ _ _ _ _ 34 _ _)
      refine xi_getR (y := 42) (by decide +kernel : decode mX8_findHome.2.1 34 = .ok (.getfield 22, 3)) fX8_22 rfl (by omega) rfl hw.2.2 (?_ : XW _ _ _ _ _ _ _ 37 _ _)
      refine xi_alen (v := 102) (by decide +kernel : decode mX8_findHome.2.1 37 = .ok (.arraylength, 1)) rfl (by omega) (Or.inl rfl) rfl (?_ : XW _ _ _ _ _ _ _ 38 _ _)
      refine xi_icmp_ge (by decide +kernel : decode mX8_findHome.2.1 38 = .ok (.if_icmp .ge 71, 3)) (by decide) (fun c => (?_ : XW _ _ _ _ _ _ _ 109 _ _)) (fun c => (?_ : XW _ _ _ _ _ _ _ 41 _ _))
      · replace vc := vc.1 c
        exact xi_vret (by decide +kernel : decode mX8_findHome.2.1 109 = .ok (.return_, 1)) rfl vc
      · replace vc := vc.2 c
        refine xi_aload_n (by decide +kernel : decode mX8_findHome.2.1 41 = .ok (.aload_n 0, 1)) rfl rfl (?_ : XW _ _ _ _ _ _ _ 42 _ _)
        refine xi_getR (y := 42) (by decide +kernel : decode mX8_findHome.2.1 42 = .ok (.getfield 22, 3)) fX8_22 rfl (by omega) rfl hw.2.2 (?_ : XW _ _ _ _ _ _ _ 45 _ _)
        refine xi_iload_n (by decide +kernel : decode mX8_findHome.2.1 45 = .ok (.iload_n 3, 1)) rfl rfl (?_ : XW _ _ _ _ _ _ _ 46 _ _)
        obtain ⟨s1, vc⟩ := vc
        refine xi_iald (by decide +kernel : decode mX8_findHome.2.1 46 = .ok (.iaload, 1)) rfl (by omega) s1 (?_ : XW _ _ _ _ _ _ _ 47 _ _)
        refine xi_istore (ls' := [some (.ref 39), some (.ref 2), some (.ref a), some (.int x3), some (.int (xI h 42 x3.toNatClampNeg)), none]) (by decide +kernel : decode mX8_findHome.2.1 47 = .ok (.istore 4, 2)) (by decide) rfl (?_ : XW _ _ _ _ _ _ _ 49 _ _)
        refine xi_iconst (v := 0) (by decide +kernel : decode mX8_findHome.2.1 49 = .ok (.iconst 0, 1)) (by decide) (?_ : XW _ _ _ _ _ _ _ 50 _ _)
        refine xi_istore (ls' := [some (.ref 39), some (.ref 2), some (.ref a), some (.int x3), some (.int (xI h 42 x3.toNatClampNeg)), some (.int 0)]) (by decide +kernel : decode mX8_findHome.2.1 50 = .ok (.istore 5, 2)) (by decide) rfl (?_ : XW _ _ _ _ _ _ _ 52 _ _)
        exact vc
  · refine xi_iload_n (by decide +kernel : decode mX8_findHome.2.1 24 = .ok (.iload_n 3, 1)) rfl rfl (?_ : XW _ _ _ _ _ _ _ 25 _ _)
    refine xi_aload_n (by decide +kernel : decode mX8_findHome.2.1 25 = .ok (.aload_n 0, 1)) rfl rfl (?_ : XW _ _ _ _ _ _ _ 26 _ _)
    refine xi_getI (by decide +kernel : decode mX8_findHome.2.1 26 = .ok (.getfield 33, 3)) fX8_33 rfl (by omega) rfl (?_ : XW _ _ _ _ _ _ _ 29 _ _)
    refine xi_icmp_ge (by decide +kernel : decode mX8_findHome.2.1 29 = .ok (.if_icmp .ge 80, 3)) (by decide) (fun c => (?_ : XW _ _ _ _ _ _ _ 109 _ _)) (fun c => (?_ : XW _ _ _ _ _ _ _ 32 _ _))
    · replace vc := vc.1 c
      exact xi_vret (by decide +kernel : decode mX8_findHome.2.1 109 = .ok (.return_, 1)) rfl vc
    · replace vc := vc.2 c
      refine xi_iload_n (by decide +kernel : decode mX8_findHome.2.1 32 = .ok (.iload_n 3, 1)) rfl rfl (?_ : XW _ _ _ _ _ _ _ 33 _ _)
      refine xi_aload_n (by decide +kernel : decode mX8_findHome.2.1 33 = .ok (.aload_n 0, 1)) rfl rfl (?_ : XW _ _ _ _ _ _ _ 34 _ _)
      refine xi_getR (y := 42) (by decide +kernel : decode mX8_findHome.2.1 34 = .ok (.getfield 22, 3)) fX8_22 rfl (by omega) rfl hw.2.2 (?_ : XW _ _ _ _ _ _ _ 37 _ _)
      refine xi_alen (v := 102) (by decide +kernel : decode mX8_findHome.2.1 37 = .ok (.arraylength, 1)) rfl (by omega) (Or.inl rfl) rfl (?_ : XW _ _ _ _ _ _ _ 38 _ _)
      refine xi_icmp_ge (by decide +kernel : decode mX8_findHome.2.1 38 = .ok (.if_icmp .ge 71, 3)) (by decide) (fun c => (?_ : XW _ _ _ _ _ _ _ 109 _ _)) (fun c => (?_ : XW _ _ _ _ _ _ _ 41 _ _))
      · replace vc := vc.1 c
        exact xi_vret (by decide +kernel : decode mX8_findHome.2.1 109 = .ok (.return_, 1)) rfl vc
      · replace vc := vc.2 c
        refine xi_aload_n (by decide +kernel : decode mX8_findHome.2.1 41 = .ok (.aload_n 0, 1)) rfl rfl (?_ : XW _ _ _ _ _ _ _ 42 _ _)
        refine xi_getR (y := 42) (by decide +kernel : decode mX8_findHome.2.1 42 = .ok (.getfield 22, 3)) fX8_22 rfl (by omega) rfl hw.2.2 (?_ : XW _ _ _ _ _ _ _ 45 _ _)
        refine xi_iload_n (by decide +kernel : decode mX8_findHome.2.1 45 = .ok (.iload_n 3, 1)) rfl rfl (?_ : XW _ _ _ _ _ _ _ 46 _ _)
        obtain ⟨s1, vc⟩ := vc
        refine xi_iald (by decide +kernel : decode mX8_findHome.2.1 46 = .ok (.iaload, 1)) rfl (by omega) s1 (?_ : XW _ _ _ _ _ _ _ 47 _ _)
        refine xi_istore (ls' := [some (.ref 39), some (.ref 12), some (.ref a), some (.int x3), some (.int (xI h 42 x3.toNatClampNeg)), none]) (by decide +kernel : decode mX8_findHome.2.1 47 = .ok (.istore 4, 2)) (by decide) rfl (?_ : XW _ _ _ _ _ _ _ 49 _ _)
        refine xi_iconst (v := 0) (by decide +kernel : decode mX8_findHome.2.1 49 = .ok (.iconst 0, 1)) (by decide) (?_ : XW _ _ _ _ _ _ _ 50 _ _)
        refine xi_istore (ls' := [some (.ref 39), some (.ref 12), some (.ref a), some (.int x3), some (.int (xI h 42 x3.toNatClampNeg)), some (.int 0)]) (by decide +kernel : decode mX8_findHome.2.1 50 = .ok (.istore 5, 2)) (by decide) rfl (?_ : XW _ _ _ _ _ _ _ 52 _ _)
        exact vc

set_option maxRecDepth 20000 in
theorem v_X8_findHome_52 {h : XH} {Q : Option Value → XH → Prop} {X : String → XH → Prop} (n : Nat) (hw : xWay (xP h)) (hn : 43 ≤ n) (a : Nat) (ha : xPth a (xP h)) (hna : a + 4 ≤ n) (r : Nat) (hr : xRul r (xP h)) (hnr : r + 9 ≤ n)  (x3 : Int32) (x4 : Int32) (x5 : Int32)
    (vc : ((xI h r 0) ≤ x5 → XW (xrm 3 0 0) mX8_findHome (xE n Q X 0 0) n 0 0 h 24 [some (.ref 39), some (.ref r), some (.ref a), some (.int (x3 + 1)), none, none] []) ∧ (¬ (xI h r 0) ≤ x5 → (¬ (rd (xI h 41) 101 (-1) x5) = (-1) → XW (xrm 3 0 0) mX8_findHome (xE n Q X 0 0) n 0 0 h 52 [some (.ref 39), some (.ref r), some (.ref a), some (.int x3), some (.int x4), some (.int (x5 + 1))] []) ∧ ((rd (xI h 41) 101 (-1) x5) = (-1) → ∃ Q1, XSpec mX8_faceTo 2 0 0 n n [.ref r, .ref a, .int x5, .int x4] h Q1 xno ∧ ∀ v h2, Q1 v h2 → ∃ r2 : Int32, v = some (.int r2) ∧ ((r2 = 0 → XW (xrm 3 0 0) mX8_findHome (xE n Q X 0 0) n 0 0 h2 52 [some (.ref 39), some (.ref r), some (.ref a), some (.int x3), some (.int x4), some (.int (x5 + 1))] []) ∧ (¬ r2 = 0 → ∃ Q1, XSpec mX8_throwsOf 1 0 0 n n [.ref 39, .int x4] h2 Q1 xno ∧ ∀ v h3, Q1 v h3 → ∃ r3 : Int32, v = some (.int r3) ∧ (∃ Q1, XSpec mX8_reach 2 0 0 n n [.ref 39, .int x5, .int (r3 + 1)] h3 Q1 xno ∧ ∀ v h4, Q1 v h4 → v = none ∧ (XW (xrm 3 0 0) mX8_findHome (xE n Q X 0 0) n 0 0 h4 52 [some (.ref 39), some (.ref r), some (.ref a), some (.int x3), some (.int x4), some (.int (x5 + 1))] []))))))) :
    XW (xrm 3 0 0) mX8_findHome (xE n Q X 0 0) n 0 0 h 52 [some (.ref 39), some (.ref r), some (.ref a), some (.int x3), some (.int x4), some (.int x5)] [] := by
  rcases hr.1 with rfl | rfl
  · refine xi_iload (by decide +kernel : decode mX8_findHome.2.1 52 = .ok (.iload 5, 2)) rfl (?_ : XW _ _ _ _ _ _ _ 54 _ _)
    refine xi_aload_n (by decide +kernel : decode mX8_findHome.2.1 54 = .ok (.aload_n 1, 1)) rfl rfl (?_ : XW _ _ _ _ _ _ _ 55 _ _)
    refine xi_getI (by decide +kernel : decode mX8_findHome.2.1 55 = .ok (.getfield 57, 3)) fX8_57 rfl (by omega) rfl (?_ : XW _ _ _ _ _ _ _ 58 _ _)
    refine xi_icmp_ge (by decide +kernel : decode mX8_findHome.2.1 58 = .ok (.if_icmp .ge 45, 3)) (by decide) (fun c => (?_ : XW _ _ _ _ _ _ _ 103 _ _)) (fun c => (?_ : XW _ _ _ _ _ _ _ 61 _ _))
    · replace vc := vc.1 c
      refine xi_iinc (v := x3 + 1) (ls' := [some (.ref 39), some (.ref 2), some (.ref a), some (.int (x3 + 1)), some (.int x4), some (.int x5)]) (by decide +kernel : decode mX8_findHome.2.1 103 = .ok (.iinc 3 1, 3)) rfl rfl (by decide) rfl (?_ : XW _ _ _ _ _ _ _ 106 _ _)
      refine xi_goto (by decide +kernel : decode mX8_findHome.2.1 106 = .ok (.goto (-82), 3)) (by decide) (?_ : XW _ _ _ _ _ _ _ 24 _ _)
      refine xw_drop 4 (ls' := [some (.ref 39), some (.ref 2), some (.ref a), some (.int (x3 + 1)), none, some (.int x5)]) rfl ?_
      refine xw_drop 5 (ls' := [some (.ref 39), some (.ref 2), some (.ref a), some (.int (x3 + 1)), none, none]) rfl ?_
      exact vc
    · replace vc := vc.2 c
      refine xi_aload_n (by decide +kernel : decode mX8_findHome.2.1 61 = .ok (.aload_n 0, 1)) rfl rfl (?_ : XW _ _ _ _ _ _ _ 62 _ _)
      refine xi_iload (by decide +kernel : decode mX8_findHome.2.1 62 = .ok (.iload 5, 2)) rfl (?_ : XW _ _ _ _ _ _ _ 64 _ _)
      refine xi_callV (b := 0) (bs := 0) (As := [.int x5]) (st := []) (by decide +kernel : decode mX8_findHome.2.1 64 = .ok (.invokevirtual 25, 3)) kX8_25 rfl rfl (by omega) rfl (s_X8_throwsOf n h hw (by omega) x5) (by decide) (by decide) (Nat.le_of_ble_eq_true rfl) (by omega) (fun v9 h9 hq9 => ?_)
      rw [hq9.1, hq9.2]
      show XW _ _ _ _ _ _ _ 67 _ [.int (rd (xI h 41) 101 (-1) x5)]
      refine xi_iconst (v := (-1)) (by decide +kernel : decode mX8_findHome.2.1 67 = .ok (.iconst (-1), 1)) (by decide) (?_ : XW _ _ _ _ _ _ _ 68 _ _)
      refine xi_icmp_ne (by decide +kernel : decode mX8_findHome.2.1 68 = .ok (.if_icmp .ne 29, 3)) (by decide) (fun c => (?_ : XW _ _ _ _ _ _ _ 97 _ _)) (fun c => (?_ : XW _ _ _ _ _ _ _ 71 _ _))
      · replace vc := vc.1 c
        refine xi_iinc (v := x5 + 1) (ls' := [some (.ref 39), some (.ref 2), some (.ref a), some (.int x3), some (.int x4), some (.int (x5 + 1))]) (by decide +kernel : decode mX8_findHome.2.1 97 = .ok (.iinc 5 1, 3)) rfl rfl (by decide) rfl (?_ : XW _ _ _ _ _ _ _ 100 _ _)
        refine xi_goto (by decide +kernel : decode mX8_findHome.2.1 100 = .ok (.goto (-48), 3)) (by decide) (?_ : XW _ _ _ _ _ _ _ 52 _ _)
        exact vc
      · replace vc := vc.2 c
        refine xi_aload_n (by decide +kernel : decode mX8_findHome.2.1 71 = .ok (.aload_n 1, 1)) rfl rfl (?_ : XW _ _ _ _ _ _ _ 72 _ _)
        refine xi_aload_n (by decide +kernel : decode mX8_findHome.2.1 72 = .ok (.aload_n 2, 1)) rfl rfl (?_ : XW _ _ _ _ _ _ _ 73 _ _)
        refine xi_iload (by decide +kernel : decode mX8_findHome.2.1 73 = .ok (.iload 5, 2)) rfl (?_ : XW _ _ _ _ _ _ _ 75 _ _)
        refine xi_iload (by decide +kernel : decode mX8_findHome.2.1 75 = .ok (.iload 4, 2)) rfl (?_ : XW _ _ _ _ _ _ _ 77 _ _)
        obtain ⟨Q1, sp, vc⟩ := vc
        refine xi_callS (b := 0) (bs := 0) (As := [.ref 2, .ref a, .int x5, .int x4]) (st := []) (by decide +kernel : decode mX8_findHome.2.1 77 = .ok (.invokestatic 60, 3)) kX8_60 rfl rfl sp (by decide) (by decide) (Nat.le_of_ble_eq_true rfl) (by omega) (fun v9 h2 hq9 => ?_)
        obtain ⟨r2, e9, vc⟩ := vc v9 h2 hq9
        subst e9
        show XW _ _ _ _ _ _ _ 80 _ [.int r2]
        refine xi_if_eq (by decide +kernel : decode mX8_findHome.2.1 80 = .ok (.ifCond .eq 17, 3)) (by decide) (fun c => (?_ : XW _ _ _ _ _ _ _ 97 _ _)) (fun c => (?_ : XW _ _ _ _ _ _ _ 83 _ _))
        · replace vc := vc.1 c
          refine xi_iinc (v := x5 + 1) (ls' := [some (.ref 39), some (.ref 2), some (.ref a), some (.int x3), some (.int x4), some (.int (x5 + 1))]) (by decide +kernel : decode mX8_findHome.2.1 97 = .ok (.iinc 5 1, 3)) rfl rfl (by decide) rfl (?_ : XW _ _ _ _ _ _ _ 100 _ _)
          refine xi_goto (by decide +kernel : decode mX8_findHome.2.1 100 = .ok (.goto (-48), 3)) (by decide) (?_ : XW _ _ _ _ _ _ _ 52 _ _)
          exact vc
        · replace vc := vc.2 c
          refine xi_aload_n (by decide +kernel : decode mX8_findHome.2.1 83 = .ok (.aload_n 0, 1)) rfl rfl (?_ : XW _ _ _ _ _ _ _ 84 _ _)
          refine xi_iload (by decide +kernel : decode mX8_findHome.2.1 84 = .ok (.iload 5, 2)) rfl (?_ : XW _ _ _ _ _ _ _ 86 _ _)
          refine xi_aload_n (by decide +kernel : decode mX8_findHome.2.1 86 = .ok (.aload_n 0, 1)) rfl rfl (?_ : XW _ _ _ _ _ _ _ 87 _ _)
          refine xi_iload (by decide +kernel : decode mX8_findHome.2.1 87 = .ok (.iload 4, 2)) rfl (?_ : XW _ _ _ _ _ _ _ 89 _ _)
          obtain ⟨Q1, sp, vc⟩ := vc
          refine xi_callV (b := 0) (bs := 0) (As := [.int x4]) (st := [.int x5, .ref 39]) (by decide +kernel : decode mX8_findHome.2.1 89 = .ok (.invokevirtual 25, 3)) kX8_25 rfl rfl (by omega) rfl sp (by decide) (by decide) (Nat.le_of_ble_eq_true rfl) (by omega) (fun v9 h3 hq9 => ?_)
          obtain ⟨r3, e9, vc⟩ := vc v9 h3 hq9
          subst e9
          show XW _ _ _ _ _ _ _ 92 _ [.int r3, .int x5, .ref 39]
          refine xi_iconst (v := 1) (by decide +kernel : decode mX8_findHome.2.1 92 = .ok (.iconst 1, 1)) (by decide) (?_ : XW _ _ _ _ _ _ _ 93 _ _)
          refine xi_iadd (by decide +kernel : decode mX8_findHome.2.1 93 = .ok (.iadd, 1)) (?_ : XW _ _ _ _ _ _ _ 94 _ _)
          obtain ⟨Q1, sp, vc⟩ := vc
          refine xi_callV (b := 0) (bs := 0) (As := [.int x5, .int (r3 + 1)]) (st := []) (by decide +kernel : decode mX8_findHome.2.1 94 = .ok (.invokevirtual 53, 3)) kX8_53 rfl rfl (by omega) rfl sp (by decide) (by decide) (Nat.le_of_ble_eq_true rfl) (by omega) (fun v9 h4 hq9 => ?_)
          obtain ⟨e9, vc⟩ := vc v9 h4 hq9
          subst e9
          show XW _ _ _ _ _ _ _ 97 _ []
          refine xi_iinc (v := x5 + 1) (ls' := [some (.ref 39), some (.ref 2), some (.ref a), some (.int x3), some (.int x4), some (.int (x5 + 1))]) (by decide +kernel : decode mX8_findHome.2.1 97 = .ok (.iinc 5 1, 3)) rfl rfl (by decide) rfl (?_ : XW _ _ _ _ _ _ _ 100 _ _)
          refine xi_goto (by decide +kernel : decode mX8_findHome.2.1 100 = .ok (.goto (-48), 3)) (by decide) (?_ : XW _ _ _ _ _ _ _ 52 _ _)
          exact vc
  · refine xi_iload (by decide +kernel : decode mX8_findHome.2.1 52 = .ok (.iload 5, 2)) rfl (?_ : XW _ _ _ _ _ _ _ 54 _ _)
    refine xi_aload_n (by decide +kernel : decode mX8_findHome.2.1 54 = .ok (.aload_n 1, 1)) rfl rfl (?_ : XW _ _ _ _ _ _ _ 55 _ _)
    refine xi_getI (by decide +kernel : decode mX8_findHome.2.1 55 = .ok (.getfield 57, 3)) fX8_57 rfl (by omega) rfl (?_ : XW _ _ _ _ _ _ _ 58 _ _)
    refine xi_icmp_ge (by decide +kernel : decode mX8_findHome.2.1 58 = .ok (.if_icmp .ge 45, 3)) (by decide) (fun c => (?_ : XW _ _ _ _ _ _ _ 103 _ _)) (fun c => (?_ : XW _ _ _ _ _ _ _ 61 _ _))
    · replace vc := vc.1 c
      refine xi_iinc (v := x3 + 1) (ls' := [some (.ref 39), some (.ref 12), some (.ref a), some (.int (x3 + 1)), some (.int x4), some (.int x5)]) (by decide +kernel : decode mX8_findHome.2.1 103 = .ok (.iinc 3 1, 3)) rfl rfl (by decide) rfl (?_ : XW _ _ _ _ _ _ _ 106 _ _)
      refine xi_goto (by decide +kernel : decode mX8_findHome.2.1 106 = .ok (.goto (-82), 3)) (by decide) (?_ : XW _ _ _ _ _ _ _ 24 _ _)
      refine xw_drop 4 (ls' := [some (.ref 39), some (.ref 12), some (.ref a), some (.int (x3 + 1)), none, some (.int x5)]) rfl ?_
      refine xw_drop 5 (ls' := [some (.ref 39), some (.ref 12), some (.ref a), some (.int (x3 + 1)), none, none]) rfl ?_
      exact vc
    · replace vc := vc.2 c
      refine xi_aload_n (by decide +kernel : decode mX8_findHome.2.1 61 = .ok (.aload_n 0, 1)) rfl rfl (?_ : XW _ _ _ _ _ _ _ 62 _ _)
      refine xi_iload (by decide +kernel : decode mX8_findHome.2.1 62 = .ok (.iload 5, 2)) rfl (?_ : XW _ _ _ _ _ _ _ 64 _ _)
      refine xi_callV (b := 0) (bs := 0) (As := [.int x5]) (st := []) (by decide +kernel : decode mX8_findHome.2.1 64 = .ok (.invokevirtual 25, 3)) kX8_25 rfl rfl (by omega) rfl (s_X8_throwsOf n h hw (by omega) x5) (by decide) (by decide) (Nat.le_of_ble_eq_true rfl) (by omega) (fun v9 h9 hq9 => ?_)
      rw [hq9.1, hq9.2]
      show XW _ _ _ _ _ _ _ 67 _ [.int (rd (xI h 41) 101 (-1) x5)]
      refine xi_iconst (v := (-1)) (by decide +kernel : decode mX8_findHome.2.1 67 = .ok (.iconst (-1), 1)) (by decide) (?_ : XW _ _ _ _ _ _ _ 68 _ _)
      refine xi_icmp_ne (by decide +kernel : decode mX8_findHome.2.1 68 = .ok (.if_icmp .ne 29, 3)) (by decide) (fun c => (?_ : XW _ _ _ _ _ _ _ 97 _ _)) (fun c => (?_ : XW _ _ _ _ _ _ _ 71 _ _))
      · replace vc := vc.1 c
        refine xi_iinc (v := x5 + 1) (ls' := [some (.ref 39), some (.ref 12), some (.ref a), some (.int x3), some (.int x4), some (.int (x5 + 1))]) (by decide +kernel : decode mX8_findHome.2.1 97 = .ok (.iinc 5 1, 3)) rfl rfl (by decide) rfl (?_ : XW _ _ _ _ _ _ _ 100 _ _)
        refine xi_goto (by decide +kernel : decode mX8_findHome.2.1 100 = .ok (.goto (-48), 3)) (by decide) (?_ : XW _ _ _ _ _ _ _ 52 _ _)
        exact vc
      · replace vc := vc.2 c
        refine xi_aload_n (by decide +kernel : decode mX8_findHome.2.1 71 = .ok (.aload_n 1, 1)) rfl rfl (?_ : XW _ _ _ _ _ _ _ 72 _ _)
        refine xi_aload_n (by decide +kernel : decode mX8_findHome.2.1 72 = .ok (.aload_n 2, 1)) rfl rfl (?_ : XW _ _ _ _ _ _ _ 73 _ _)
        refine xi_iload (by decide +kernel : decode mX8_findHome.2.1 73 = .ok (.iload 5, 2)) rfl (?_ : XW _ _ _ _ _ _ _ 75 _ _)
        refine xi_iload (by decide +kernel : decode mX8_findHome.2.1 75 = .ok (.iload 4, 2)) rfl (?_ : XW _ _ _ _ _ _ _ 77 _ _)
        obtain ⟨Q1, sp, vc⟩ := vc
        refine xi_callS (b := 0) (bs := 0) (As := [.ref 12, .ref a, .int x5, .int x4]) (st := []) (by decide +kernel : decode mX8_findHome.2.1 77 = .ok (.invokestatic 60, 3)) kX8_60 rfl rfl sp (by decide) (by decide) (Nat.le_of_ble_eq_true rfl) (by omega) (fun v9 h2 hq9 => ?_)
        obtain ⟨r2, e9, vc⟩ := vc v9 h2 hq9
        subst e9
        show XW _ _ _ _ _ _ _ 80 _ [.int r2]
        refine xi_if_eq (by decide +kernel : decode mX8_findHome.2.1 80 = .ok (.ifCond .eq 17, 3)) (by decide) (fun c => (?_ : XW _ _ _ _ _ _ _ 97 _ _)) (fun c => (?_ : XW _ _ _ _ _ _ _ 83 _ _))
        · replace vc := vc.1 c
          refine xi_iinc (v := x5 + 1) (ls' := [some (.ref 39), some (.ref 12), some (.ref a), some (.int x3), some (.int x4), some (.int (x5 + 1))]) (by decide +kernel : decode mX8_findHome.2.1 97 = .ok (.iinc 5 1, 3)) rfl rfl (by decide) rfl (?_ : XW _ _ _ _ _ _ _ 100 _ _)
          refine xi_goto (by decide +kernel : decode mX8_findHome.2.1 100 = .ok (.goto (-48), 3)) (by decide) (?_ : XW _ _ _ _ _ _ _ 52 _ _)
          exact vc
        · replace vc := vc.2 c
          refine xi_aload_n (by decide +kernel : decode mX8_findHome.2.1 83 = .ok (.aload_n 0, 1)) rfl rfl (?_ : XW _ _ _ _ _ _ _ 84 _ _)
          refine xi_iload (by decide +kernel : decode mX8_findHome.2.1 84 = .ok (.iload 5, 2)) rfl (?_ : XW _ _ _ _ _ _ _ 86 _ _)
          refine xi_aload_n (by decide +kernel : decode mX8_findHome.2.1 86 = .ok (.aload_n 0, 1)) rfl rfl (?_ : XW _ _ _ _ _ _ _ 87 _ _)
          refine xi_iload (by decide +kernel : decode mX8_findHome.2.1 87 = .ok (.iload 4, 2)) rfl (?_ : XW _ _ _ _ _ _ _ 89 _ _)
          obtain ⟨Q1, sp, vc⟩ := vc
          refine xi_callV (b := 0) (bs := 0) (As := [.int x4]) (st := [.int x5, .ref 39]) (by decide +kernel : decode mX8_findHome.2.1 89 = .ok (.invokevirtual 25, 3)) kX8_25 rfl rfl (by omega) rfl sp (by decide) (by decide) (Nat.le_of_ble_eq_true rfl) (by omega) (fun v9 h3 hq9 => ?_)
          obtain ⟨r3, e9, vc⟩ := vc v9 h3 hq9
          subst e9
          show XW _ _ _ _ _ _ _ 92 _ [.int r3, .int x5, .ref 39]
          refine xi_iconst (v := 1) (by decide +kernel : decode mX8_findHome.2.1 92 = .ok (.iconst 1, 1)) (by decide) (?_ : XW _ _ _ _ _ _ _ 93 _ _)
          refine xi_iadd (by decide +kernel : decode mX8_findHome.2.1 93 = .ok (.iadd, 1)) (?_ : XW _ _ _ _ _ _ _ 94 _ _)
          obtain ⟨Q1, sp, vc⟩ := vc
          refine xi_callV (b := 0) (bs := 0) (As := [.int x5, .int (r3 + 1)]) (st := []) (by decide +kernel : decode mX8_findHome.2.1 94 = .ok (.invokevirtual 53, 3)) kX8_53 rfl rfl (by omega) rfl sp (by decide) (by decide) (Nat.le_of_ble_eq_true rfl) (by omega) (fun v9 h4 hq9 => ?_)
          obtain ⟨e9, vc⟩ := vc v9 h4 hq9
          subst e9
          show XW _ _ _ _ _ _ _ 97 _ []
          refine xi_iinc (v := x5 + 1) (ls' := [some (.ref 39), some (.ref 12), some (.ref a), some (.int x3), some (.int x4), some (.int (x5 + 1))]) (by decide +kernel : decode mX8_findHome.2.1 97 = .ok (.iinc 5 1, 3)) rfl rfl (by decide) rfl (?_ : XW _ _ _ _ _ _ _ 100 _ _)
          refine xi_goto (by decide +kernel : decode mX8_findHome.2.1 100 = .ok (.goto (-48), 3)) (by decide) (?_ : XW _ _ _ _ _ _ _ 52 _ _)
          exact vc

set_option maxRecDepth 20000 in
theorem v_X8_findFrom_0 {h : XH} {Q : Option Value → XH → Prop} {X : String → XH → Prop} (n : Nat) (hw : xWay (xP h)) (hn : 43 ≤ n) (a : Nat) (ha : xPth a (xP h)) (hna : a + 4 ≤ n) (r : Nat) (hr : xRul r (xP h)) (hnr : r + 9 ≤ n)  (fr : Int32)
    (vc : ∃ Q1, XSpec mX8_enqueue 1 0 0 n n [.ref 39, .int fr] (xSI 39 (va_up (xI h 39) 4 0) (xSI 41 (fl 101 (-1) (xI h 41)) h)) Q1 xno ∧ ∀ v h1, Q1 v h1 → v = none ∧ (XW (xrm 3 0 0) mX8_findFrom (xE n Q X 0 0) n 0 0 h1 21 [some (.ref 39), some (.ref r), some (.ref a), none, some (.int 0), none, none, none] [])) :
    XW (xrm 3 0 0) mX8_findFrom (xE n Q X 0 0) n 0 0 h 0 [some (.ref 39), some (.ref r), some (.ref a), some (.int fr), none, none, none, none] [] := by
  refine xi_aload_n (by decide +kernel : decode mX8_findFrom.2.1 0 = .ok (.aload_n 0, 1)) rfl rfl (?_ : XW _ _ _ _ _ _ _ 1 _ _)
  refine xi_getR (y := 41) (by decide +kernel : decode mX8_findFrom.2.1 1 = .ok (.getfield 19, 3)) fX8_19 rfl (by omega) rfl hw.2.1 (?_ : XW _ _ _ _ _ _ _ 4 _ _)
  refine xi_iconst (v := (-1)) (by decide +kernel : decode mX8_findFrom.2.1 4 = .ok (.iconst (-1), 1)) (by decide) (?_ : XW _ _ _ _ _ _ _ 5 _ _)
  refine xi_callS (b := 0) (bs := 0) (As := [.ref 41, .int (-1)]) (st := []) (by decide +kernel : decode mX8_findFrom.2.1 5 = .ok (.invokestatic 36, 3)) kX8_36 rfl rfl (s_fillI n h 41 101 rfl (by omega) (by decide) (-1)) (by decide) (by decide) (Nat.le_of_ble_eq_true rfl) (by omega) (fun v9 h9 hq9 => ?_)
  rw [hq9.1, hq9.2]
  show XW _ _ _ _ _ _ _ 8 _ []
  refine xi_aload_n (by decide +kernel : decode mX8_findFrom.2.1 8 = .ok (.aload_n 0, 1)) rfl rfl (?_ : XW _ _ _ _ _ _ _ 9 _ _)
  refine xi_iconst (v := 0) (by decide +kernel : decode mX8_findFrom.2.1 9 = .ok (.iconst 0, 1)) (by decide) (?_ : XW _ _ _ _ _ _ _ 10 _ _)
  refine xi_putI (by decide +kernel : decode mX8_findFrom.2.1 10 = .ok (.putfield 33, 3)) fX8_33 rfl (by omega) rfl rfl rfl (?_ : XW _ _ _ _ _ _ (xSI 39 (va_up (xI h 39) 4 0) (xSI 41 (fl 101 (-1) (xI h 41)) h)) 13 _ _)
  refine xi_aload_n (by decide +kernel : decode mX8_findFrom.2.1 13 = .ok (.aload_n 0, 1)) rfl rfl (?_ : XW _ _ _ _ _ _ _ 14 _ _)
  refine xi_iload_n (by decide +kernel : decode mX8_findFrom.2.1 14 = .ok (.iload_n 3, 1)) rfl rfl (?_ : XW _ _ _ _ _ _ _ 15 _ _)
  obtain ⟨Q1, sp, vc⟩ := vc
  refine xi_callV (b := 0) (bs := 0) (As := [.int fr]) (st := []) (by decide +kernel : decode mX8_findFrom.2.1 15 = .ok (.invokevirtual 29, 3)) kX8_29 rfl rfl (by omega) rfl sp (by decide) (by decide) (Nat.le_of_ble_eq_true rfl) (by omega) (fun v9 h1 hq9 => ?_)
  obtain ⟨e9, vc⟩ := vc v9 h1 hq9
  subst e9
  show XW _ _ _ _ _ _ _ 18 _ []
  refine xi_iconst (v := 0) (by decide +kernel : decode mX8_findFrom.2.1 18 = .ok (.iconst 0, 1)) (by decide) (?_ : XW _ _ _ _ _ _ _ 19 _ _)
  refine xi_istore (ls' := [some (.ref 39), some (.ref r), some (.ref a), some (.int fr), some (.int 0), none, none, none]) (by decide +kernel : decode mX8_findFrom.2.1 19 = .ok (.istore 4, 2)) (by decide) rfl (?_ : XW _ _ _ _ _ _ _ 21 _ _)
  refine xw_drop 3 (ls' := [some (.ref 39), some (.ref r), some (.ref a), none, some (.int 0), none, none, none]) rfl ?_
  exact vc

set_option maxRecDepth 20000 in
theorem v_X8_findFrom_21 {h : XH} {Q : Option Value → XH → Prop} {X : String → XH → Prop} (n : Nat) (hw : xWay (xP h)) (hn : 43 ≤ n) (a : Nat) (ha : xPth a (xP h)) (hna : a + 4 ≤ n) (r : Nat) (hr : xRul r (xP h)) (hnr : r + 9 ≤ n)  (x4 : Int32)
    (vc : ((xI h 39 4) ≤ x4 → Q none h) ∧ (¬ (xI h 39 4) ≤ x4 → (102 ≤ x4 → Q none h) ∧ (¬ 102 ≤ x4 → (vp_in x4 102) ∧ ((¬ x4 = 0 → XW (xrm 3 0 0) mX8_findFrom (xE n Q X 0 0) n 0 0 h 71 [some (.ref 39), some (.ref r), some (.ref a), none, some (.int x4), some (.int (xI h 42 x4.toNatClampNeg)), some (.int ((rd (xI h 41) 101 (-1) (xI h 42 x4.toNatClampNeg)) + 1)), some (.int 1)] []) ∧ (x4 = 0 → XW (xrm 3 0 0) mX8_findFrom (xE n Q X 0 0) n 0 0 h 71 [some (.ref 39), some (.ref r), some (.ref a), none, some (.int x4), some (.int (xI h 42 x4.toNatClampNeg)), some (.int 1), some (.int 1)] []))))) :
    XW (xrm 3 0 0) mX8_findFrom (xE n Q X 0 0) n 0 0 h 21 [some (.ref 39), some (.ref r), some (.ref a), none, some (.int x4), none, none, none] [] := by
  refine xi_iload (by decide +kernel : decode mX8_findFrom.2.1 21 = .ok (.iload 4, 2)) rfl (?_ : XW _ _ _ _ _ _ _ 23 _ _)
  refine xi_aload_n (by decide +kernel : decode mX8_findFrom.2.1 23 = .ok (.aload_n 0, 1)) rfl rfl (?_ : XW _ _ _ _ _ _ _ 24 _ _)
  refine xi_getI (by decide +kernel : decode mX8_findFrom.2.1 24 = .ok (.getfield 33, 3)) fX8_33 rfl (by omega) rfl (?_ : XW _ _ _ _ _ _ _ 27 _ _)
  refine xi_icmp_ge (by decide +kernel : decode mX8_findFrom.2.1 27 = .ok (.if_icmp .ge 86, 3)) (by decide) (fun c => (?_ : XW _ _ _ _ _ _ _ 113 _ _)) (fun c => (?_ : XW _ _ _ _ _ _ _ 30 _ _))
  · replace vc := vc.1 c
    exact xi_vret (by decide +kernel : decode mX8_findFrom.2.1 113 = .ok (.return_, 1)) rfl vc
  · replace vc := vc.2 c
    refine xi_iload (by decide +kernel : decode mX8_findFrom.2.1 30 = .ok (.iload 4, 2)) rfl (?_ : XW _ _ _ _ _ _ _ 32 _ _)
    refine xi_aload_n (by decide +kernel : decode mX8_findFrom.2.1 32 = .ok (.aload_n 0, 1)) rfl rfl (?_ : XW _ _ _ _ _ _ _ 33 _ _)
    refine xi_getR (y := 42) (by decide +kernel : decode mX8_findFrom.2.1 33 = .ok (.getfield 22, 3)) fX8_22 rfl (by omega) rfl hw.2.2 (?_ : XW _ _ _ _ _ _ _ 36 _ _)
    refine xi_alen (v := 102) (by decide +kernel : decode mX8_findFrom.2.1 36 = .ok (.arraylength, 1)) rfl (by omega) (Or.inl rfl) rfl (?_ : XW _ _ _ _ _ _ _ 37 _ _)
    refine xi_icmp_ge (by decide +kernel : decode mX8_findFrom.2.1 37 = .ok (.if_icmp .ge 76, 3)) (by decide) (fun c => (?_ : XW _ _ _ _ _ _ _ 113 _ _)) (fun c => (?_ : XW _ _ _ _ _ _ _ 40 _ _))
    · replace vc := vc.1 c
      exact xi_vret (by decide +kernel : decode mX8_findFrom.2.1 113 = .ok (.return_, 1)) rfl vc
    · replace vc := vc.2 c
      refine xi_aload_n (by decide +kernel : decode mX8_findFrom.2.1 40 = .ok (.aload_n 0, 1)) rfl rfl (?_ : XW _ _ _ _ _ _ _ 41 _ _)
      refine xi_getR (y := 42) (by decide +kernel : decode mX8_findFrom.2.1 41 = .ok (.getfield 22, 3)) fX8_22 rfl (by omega) rfl hw.2.2 (?_ : XW _ _ _ _ _ _ _ 44 _ _)
      refine xi_iload (by decide +kernel : decode mX8_findFrom.2.1 44 = .ok (.iload 4, 2)) rfl (?_ : XW _ _ _ _ _ _ _ 46 _ _)
      obtain ⟨s1, vc⟩ := vc
      refine xi_iald (by decide +kernel : decode mX8_findFrom.2.1 46 = .ok (.iaload, 1)) rfl (by omega) s1 (?_ : XW _ _ _ _ _ _ _ 47 _ _)
      refine xi_istore (ls' := [some (.ref 39), some (.ref r), some (.ref a), none, some (.int x4), some (.int (xI h 42 x4.toNatClampNeg)), none, none]) (by decide +kernel : decode mX8_findFrom.2.1 47 = .ok (.istore 5, 2)) (by decide) rfl (?_ : XW _ _ _ _ _ _ _ 49 _ _)
      refine xi_iload (by decide +kernel : decode mX8_findFrom.2.1 49 = .ok (.iload 4, 2)) rfl (?_ : XW _ _ _ _ _ _ _ 51 _ _)
      refine xi_if_ne (by decide +kernel : decode mX8_findFrom.2.1 51 = .ok (.ifCond .ne 7, 3)) (by decide) (fun c => (?_ : XW _ _ _ _ _ _ _ 58 _ _)) (fun c => (?_ : XW _ _ _ _ _ _ _ 54 _ _))
      · replace vc := vc.1 c
        refine xi_aload_n (by decide +kernel : decode mX8_findFrom.2.1 58 = .ok (.aload_n 0, 1)) rfl rfl (?_ : XW _ _ _ _ _ _ _ 59 _ _)
        refine xi_iload (by decide +kernel : decode mX8_findFrom.2.1 59 = .ok (.iload 5, 2)) rfl (?_ : XW _ _ _ _ _ _ _ 61 _ _)
        refine xi_callV (b := 0) (bs := 0) (As := [.int (xI h 42 x4.toNatClampNeg)]) (st := []) (by decide +kernel : decode mX8_findFrom.2.1 61 = .ok (.invokevirtual 25, 3)) kX8_25 rfl rfl (by omega) rfl (s_X8_throwsOf n h hw (by omega) (xI h 42 x4.toNatClampNeg)) (by decide) (by decide) (Nat.le_of_ble_eq_true rfl) (by omega) (fun v9 h9 hq9 => ?_)
        rw [hq9.1, hq9.2]
        show XW _ _ _ _ _ _ _ 64 _ [.int (rd (xI h 41) 101 (-1) (xI h 42 x4.toNatClampNeg))]
        refine xi_iconst (v := 1) (by decide +kernel : decode mX8_findFrom.2.1 64 = .ok (.iconst 1, 1)) (by decide) (?_ : XW _ _ _ _ _ _ _ 65 _ _)
        refine xi_iadd (by decide +kernel : decode mX8_findFrom.2.1 65 = .ok (.iadd, 1)) (?_ : XW _ _ _ _ _ _ _ 66 _ _)
        refine xi_istore (ls' := [some (.ref 39), some (.ref r), some (.ref a), none, some (.int x4), some (.int (xI h 42 x4.toNatClampNeg)), some (.int ((rd (xI h 41) 101 (-1) (xI h 42 x4.toNatClampNeg)) + 1)), none]) (by decide +kernel : decode mX8_findFrom.2.1 66 = .ok (.istore 6, 2)) (by decide) rfl (?_ : XW _ _ _ _ _ _ _ 68 _ _)
        refine xi_iconst (v := 1) (by decide +kernel : decode mX8_findFrom.2.1 68 = .ok (.iconst 1, 1)) (by decide) (?_ : XW _ _ _ _ _ _ _ 69 _ _)
        refine xi_istore (ls' := [some (.ref 39), some (.ref r), some (.ref a), none, some (.int x4), some (.int (xI h 42 x4.toNatClampNeg)), some (.int ((rd (xI h 41) 101 (-1) (xI h 42 x4.toNatClampNeg)) + 1)), some (.int 1)]) (by decide +kernel : decode mX8_findFrom.2.1 69 = .ok (.istore 7, 2)) (by decide) rfl (?_ : XW _ _ _ _ _ _ _ 71 _ _)
        exact vc
      · replace vc := vc.2 c
        refine xi_iconst (v := 1) (by decide +kernel : decode mX8_findFrom.2.1 54 = .ok (.iconst 1, 1)) (by decide) (?_ : XW _ _ _ _ _ _ _ 55 _ _)
        refine xi_goto (by decide +kernel : decode mX8_findFrom.2.1 55 = .ok (.goto 11, 3)) (by decide) (?_ : XW _ _ _ _ _ _ _ 66 _ _)
        refine xi_istore (ls' := [some (.ref 39), some (.ref r), some (.ref a), none, some (.int x4), some (.int (xI h 42 x4.toNatClampNeg)), some (.int 1), none]) (by decide +kernel : decode mX8_findFrom.2.1 66 = .ok (.istore 6, 2)) (by decide) rfl (?_ : XW _ _ _ _ _ _ _ 68 _ _)
        refine xi_iconst (v := 1) (by decide +kernel : decode mX8_findFrom.2.1 68 = .ok (.iconst 1, 1)) (by decide) (?_ : XW _ _ _ _ _ _ _ 69 _ _)
        refine xi_istore (ls' := [some (.ref 39), some (.ref r), some (.ref a), none, some (.int x4), some (.int (xI h 42 x4.toNatClampNeg)), some (.int 1), some (.int 1)]) (by decide +kernel : decode mX8_findFrom.2.1 69 = .ok (.istore 7, 2)) (by decide) rfl (?_ : XW _ _ _ _ _ _ _ 71 _ _)
        exact vc

set_option maxRecDepth 20000 in
theorem v_X8_findFrom_71 {h : XH} {Q : Option Value → XH → Prop} {X : String → XH → Prop} (n : Nat) (hw : xWay (xP h)) (hn : 43 ≤ n) (a : Nat) (ha : xPth a (xP h)) (hna : a + 4 ≤ n) (r : Nat) (hr : xRul r (xP h)) (hnr : r + 9 ≤ n)  (x4 : Int32) (x5 : Int32) (x6 : Int32) (x7 : Int32)
    (vc : (6 < x7 → XW (xrm 3 0 0) mX8_findFrom (xE n Q X 0 0) n 0 0 h 21 [some (.ref 39), some (.ref r), some (.ref a), none, some (.int (x4 + 1)), none, none, none] []) ∧ (¬ 6 < x7 → ((rd (xI h (r + 5)) 7 0 x7) ≤ 0 → XW (xrm 3 0 0) mX8_findFrom (xE n Q X 0 0) n 0 0 h 71 [some (.ref 39), some (.ref r), some (.ref a), none, some (.int x4), some (.int x5), some (.int x6), some (.int (x7 + 1))] []) ∧ (¬ (rd (xI h (r + 5)) 7 0 x7) ≤ 0 → ∃ Q1, XSpec mX8_reach 2 0 0 n n [.ref 39, .int (rd (xI h (a + 3)) 707 0 (x5 * 7 + x7)), .int x6] h Q1 xno ∧ ∀ v h2, Q1 v h2 → v = none ∧ (XW (xrm 3 0 0) mX8_findFrom (xE n Q X 0 0) n 0 0 h2 71 [some (.ref 39), some (.ref r), some (.ref a), none, some (.int x4), some (.int x5), some (.int x6), some (.int (x7 + 1))] [])))) :
    XW (xrm 3 0 0) mX8_findFrom (xE n Q X 0 0) n 0 0 h 71 [some (.ref 39), some (.ref r), some (.ref a), none, some (.int x4), some (.int x5), some (.int x6), some (.int x7)] [] := by
  refine xi_iload (by decide +kernel : decode mX8_findFrom.2.1 71 = .ok (.iload 7, 2)) rfl (?_ : XW _ _ _ _ _ _ _ 73 _ _)
  refine xi_bipush (v := 6) (by decide +kernel : decode mX8_findFrom.2.1 73 = .ok (.bipush 6, 2)) (by decide) (?_ : XW _ _ _ _ _ _ _ 75 _ _)
  refine xi_icmp_gt (by decide +kernel : decode mX8_findFrom.2.1 75 = .ok (.if_icmp .gt 32, 3)) (by decide) (fun c => (?_ : XW _ _ _ _ _ _ _ 107 _ _)) (fun c => (?_ : XW _ _ _ _ _ _ _ 78 _ _))
  · replace vc := vc.1 c
    refine xi_iinc (v := x4 + 1) (ls' := [some (.ref 39), some (.ref r), some (.ref a), none, some (.int (x4 + 1)), some (.int x5), some (.int x6), some (.int x7)]) (by decide +kernel : decode mX8_findFrom.2.1 107 = .ok (.iinc 4 1, 3)) rfl rfl (by decide) rfl (?_ : XW _ _ _ _ _ _ _ 110 _ _)
    refine xi_goto (by decide +kernel : decode mX8_findFrom.2.1 110 = .ok (.goto (-89), 3)) (by decide) (?_ : XW _ _ _ _ _ _ _ 21 _ _)
    refine xw_drop 5 (ls' := [some (.ref 39), some (.ref r), some (.ref a), none, some (.int (x4 + 1)), none, some (.int x6), some (.int x7)]) rfl ?_
    refine xw_drop 6 (ls' := [some (.ref 39), some (.ref r), some (.ref a), none, some (.int (x4 + 1)), none, none, some (.int x7)]) rfl ?_
    refine xw_drop 7 (ls' := [some (.ref 39), some (.ref r), some (.ref a), none, some (.int (x4 + 1)), none, none, none]) rfl ?_
    exact vc
  · replace vc := vc.2 c
    refine xi_aload_n (by decide +kernel : decode mX8_findFrom.2.1 78 = .ok (.aload_n 1, 1)) rfl rfl (?_ : XW _ _ _ _ _ _ _ 79 _ _)
    refine xi_iload (by decide +kernel : decode mX8_findFrom.2.1 79 = .ok (.iload 7, 2)) rfl (?_ : XW _ _ _ _ _ _ _ 81 _ _)
    refine xi_callV (b := 0) (bs := 0) (As := [.int x7]) (st := []) (by decide +kernel : decode mX8_findFrom.2.1 81 = .ok (.invokevirtual 42, 3)) kX8_42 rfl (xRul_s0 hr) (by omega) rfl (s_X5_oddsOf n h r hr (by omega) x7) (by decide) (by decide) (Nat.le_of_ble_eq_true rfl) (by omega) (fun v9 h9 hq9 => ?_)
    rw [hq9.1, hq9.2]
    show XW _ _ _ _ _ _ _ 84 _ [.int (rd (xI h (r + 5)) 7 0 x7)]
    refine xi_if_le (by decide +kernel : decode mX8_findFrom.2.1 84 = .ok (.ifCond .le 17, 3)) (by decide) (fun c => (?_ : XW _ _ _ _ _ _ _ 101 _ _)) (fun c => (?_ : XW _ _ _ _ _ _ _ 87 _ _))
    · replace vc := vc.1 c
      refine xi_iinc (v := x7 + 1) (ls' := [some (.ref 39), some (.ref r), some (.ref a), none, some (.int x4), some (.int x5), some (.int x6), some (.int (x7 + 1))]) (by decide +kernel : decode mX8_findFrom.2.1 101 = .ok (.iinc 7 1, 3)) rfl rfl (by decide) rfl (?_ : XW _ _ _ _ _ _ _ 104 _ _)
      refine xi_goto (by decide +kernel : decode mX8_findFrom.2.1 104 = .ok (.goto (-33), 3)) (by decide) (?_ : XW _ _ _ _ _ _ _ 71 _ _)
      exact vc
    · replace vc := vc.2 c
      refine xi_aload_n (by decide +kernel : decode mX8_findFrom.2.1 87 = .ok (.aload_n 0, 1)) rfl rfl (?_ : XW _ _ _ _ _ _ _ 88 _ _)
      refine xi_aload_n (by decide +kernel : decode mX8_findFrom.2.1 88 = .ok (.aload_n 2, 1)) rfl rfl (?_ : XW _ _ _ _ _ _ _ 89 _ _)
      refine xi_iload (by decide +kernel : decode mX8_findFrom.2.1 89 = .ok (.iload 5, 2)) rfl (?_ : XW _ _ _ _ _ _ _ 91 _ _)
      refine xi_iload (by decide +kernel : decode mX8_findFrom.2.1 91 = .ok (.iload 7, 2)) rfl (?_ : XW _ _ _ _ _ _ _ 93 _ _)
      refine xi_callV (b := 0) (bs := 0) (As := [.int x5, .int x7]) (st := [.ref 39]) (by decide +kernel : decode mX8_findFrom.2.1 93 = .ok (.invokevirtual 47, 3)) kX8_47 rfl (xPth_s0 ha) (by omega) rfl (s_X3_to n h a ha (by omega) x5 x7) (by decide) (by decide) (Nat.le_of_ble_eq_true rfl) (by omega) (fun v9 h9 hq9 => ?_)
      rw [hq9.1, hq9.2]
      show XW _ _ _ _ _ _ _ 96 _ [.int (rd (xI h (a + 3)) 707 0 (x5 * 7 + x7)), .ref 39]
      refine xi_iload (by decide +kernel : decode mX8_findFrom.2.1 96 = .ok (.iload 6, 2)) rfl (?_ : XW _ _ _ _ _ _ _ 98 _ _)
      obtain ⟨Q1, sp, vc⟩ := vc
      refine xi_callV (b := 0) (bs := 0) (As := [.int (rd (xI h (a + 3)) 707 0 (x5 * 7 + x7)), .int x6]) (st := []) (by decide +kernel : decode mX8_findFrom.2.1 98 = .ok (.invokevirtual 53, 3)) kX8_53 rfl rfl (by omega) rfl sp (by decide) (by decide) (Nat.le_of_ble_eq_true rfl) (by omega) (fun v9 h2 hq9 => ?_)
      obtain ⟨e9, vc⟩ := vc v9 h2 hq9
      subst e9
      show XW _ _ _ _ _ _ _ 101 _ []
      refine xi_iinc (v := x7 + 1) (ls' := [some (.ref 39), some (.ref r), some (.ref a), none, some (.int x4), some (.int x5), some (.int x6), some (.int (x7 + 1))]) (by decide +kernel : decode mX8_findFrom.2.1 101 = .ok (.iinc 7 1, 3)) rfl rfl (by decide) rfl (?_ : XW _ _ _ _ _ _ _ 104 _ _)
      refine xi_goto (by decide +kernel : decode mX8_findFrom.2.1 104 = .ok (.goto (-33), 3)) (by decide) (?_ : XW _ _ _ _ _ _ _ 71 _ _)
      exact vc

set_option maxRecDepth 20000 in
theorem v_X8_keepFewest_0 {h : XH} {Q : Option Value → XH → Prop} {X : String → XH → Prop} (n : Nat) (hw : xWay (xP h)) (hn : 43 ≤ n) (a : Nat) (ha : xPth a (xP h)) (hna : a + 4 ≤ n) (r : Nat) (hr : xRul r (xP h)) (hnr : r + 9 ≤ n)  (fr : Int32)
    (vc : (¬ (rd (xI h 41) 101 (-1) fr) = (-1) → XW (xrm 3 0 0) mX8_keepFewest (xE n Q X 0 0) n 0 0 (xSI 39 (va_up (xI h 39) 0 (rd (xI h 41) 101 (-1) fr)) h) 27 [some (.ref 39), some (.ref r), some (.ref a), none, some (.int (rd (xI h 41) 101 (-1) fr)), some (.int fr), some (.int 0), none] []) ∧ ((rd (xI h 41) 101 (-1) fr) = (-1) → Q (some (.int (-1))) h)) :
    XW (xrm 3 0 0) mX8_keepFewest (xE n Q X 0 0) n 0 0 h 0 [some (.ref 39), some (.ref r), some (.ref a), some (.int fr), none, none, none, none] [] := by
  refine xi_aload_n (by decide +kernel : decode mX8_keepFewest.2.1 0 = .ok (.aload_n 0, 1)) rfl rfl (?_ : XW _ _ _ _ _ _ _ 1 _ _)
  refine xi_iload_n (by decide +kernel : decode mX8_keepFewest.2.1 1 = .ok (.iload_n 3, 1)) rfl rfl (?_ : XW _ _ _ _ _ _ _ 2 _ _)
  refine xi_callV (b := 0) (bs := 0) (As := [.int fr]) (st := []) (by decide +kernel : decode mX8_keepFewest.2.1 2 = .ok (.invokevirtual 25, 3)) kX8_25 rfl rfl (by omega) rfl (s_X8_throwsOf n h hw (by omega) fr) (by decide) (by decide) (Nat.le_of_ble_eq_true rfl) (by omega) (fun v9 h9 hq9 => ?_)
  rw [hq9.1, hq9.2]
  show XW _ _ _ _ _ _ _ 5 _ [.int (rd (xI h 41) 101 (-1) fr)]
  refine xi_istore (ls' := [some (.ref 39), some (.ref r), some (.ref a), some (.int fr), some (.int (rd (xI h 41) 101 (-1) fr)), none, none, none]) (by decide +kernel : decode mX8_keepFewest.2.1 5 = .ok (.istore 4, 2)) (by decide) rfl (?_ : XW _ _ _ _ _ _ _ 7 _ _)
  refine xi_iload (by decide +kernel : decode mX8_keepFewest.2.1 7 = .ok (.iload 4, 2)) rfl (?_ : XW _ _ _ _ _ _ _ 9 _ _)
  refine xi_iconst (v := (-1)) (by decide +kernel : decode mX8_keepFewest.2.1 9 = .ok (.iconst (-1), 1)) (by decide) (?_ : XW _ _ _ _ _ _ _ 10 _ _)
  refine xi_icmp_ne (by decide +kernel : decode mX8_keepFewest.2.1 10 = .ok (.if_icmp .ne 5, 3)) (by decide) (fun c => (?_ : XW _ _ _ _ _ _ _ 15 _ _)) (fun c => (?_ : XW _ _ _ _ _ _ _ 13 _ _))
  · replace vc := vc.1 c
    refine xi_aload_n (by decide +kernel : decode mX8_keepFewest.2.1 15 = .ok (.aload_n 0, 1)) rfl rfl (?_ : XW _ _ _ _ _ _ _ 16 _ _)
    refine xi_iload (by decide +kernel : decode mX8_keepFewest.2.1 16 = .ok (.iload 4, 2)) rfl (?_ : XW _ _ _ _ _ _ _ 18 _ _)
    refine xi_putI (by decide +kernel : decode mX8_keepFewest.2.1 18 = .ok (.putfield 9, 3)) fX8_9 rfl (by omega) rfl rfl rfl (?_ : XW _ _ _ _ _ _ (xSI 39 (va_up (xI h 39) 0 (rd (xI h 41) 101 (-1) fr)) h) 21 _ _)
    refine xi_iload_n (by decide +kernel : decode mX8_keepFewest.2.1 21 = .ok (.iload_n 3, 1)) rfl rfl (?_ : XW _ _ _ _ _ _ _ 22 _ _)
    refine xi_istore (ls' := [some (.ref 39), some (.ref r), some (.ref a), some (.int fr), some (.int (rd (xI h 41) 101 (-1) fr)), some (.int fr), none, none]) (by decide +kernel : decode mX8_keepFewest.2.1 22 = .ok (.istore 5, 2)) (by decide) rfl (?_ : XW _ _ _ _ _ _ _ 24 _ _)
    refine xi_iconst (v := 0) (by decide +kernel : decode mX8_keepFewest.2.1 24 = .ok (.iconst 0, 1)) (by decide) (?_ : XW _ _ _ _ _ _ _ 25 _ _)
    refine xi_istore (ls' := [some (.ref 39), some (.ref r), some (.ref a), some (.int fr), some (.int (rd (xI h 41) 101 (-1) fr)), some (.int fr), some (.int 0), none]) (by decide +kernel : decode mX8_keepFewest.2.1 25 = .ok (.istore 6, 2)) (by decide) rfl (?_ : XW _ _ _ _ _ _ _ 27 _ _)
    refine xw_drop 3 (ls' := [some (.ref 39), some (.ref r), some (.ref a), none, some (.int (rd (xI h 41) 101 (-1) fr)), some (.int fr), some (.int 0), none]) rfl ?_
    exact vc
  · replace vc := vc.2 c
    refine xi_iconst (v := (-1)) (by decide +kernel : decode mX8_keepFewest.2.1 13 = .ok (.iconst (-1), 1)) (by decide) (?_ : XW _ _ _ _ _ _ _ 14 _ _)
    exact xi_iret (by decide +kernel : decode mX8_keepFewest.2.1 14 = .ok (.ireturn, 1)) rfl rfl vc

set_option maxRecDepth 20000 in
theorem v_X8_keepFewest_27 {h : XH} {Q : Option Value → XH → Prop} {X : String → XH → Prop} (n : Nat) (hw : xWay (xP h)) (hn : 43 ≤ n) (a : Nat) (ha : xPth a (xP h)) (hna : a + 4 ≤ n) (r : Nat) (hr : xRul r (xP h)) (hnr : r + 9 ≤ n)  (x4 : Int32) (x5 : Int32) (x6 : Int32)
    (vc : (x4 ≤ x6 → Q (some (.int x4)) h) ∧ (¬ x4 ≤ x6 → (101 ≤ x6 → Q (some (.int x4)) h) ∧ (¬ 101 ≤ x6 → ∃ Q1, XSpec mX8_faceNearer 2 0 0 n n [.ref 39, .ref r, .ref a, .int x5] h Q1 xno ∧ ∀ v h1, Q1 v h1 → ∃ r1 : Int32, v = some (.int r1) ∧ ((xP h1 39 1 = some 40) ∧ ((vp_in x6 101) ∧ (∃ Q1, XSpec mX3_to 1 0 0 n n [.ref a, .int x5, .int r1] (xSI 40 (va_up (xI h1 40) x6.toNatClampNeg r1) h1) Q1 xno ∧ ∀ v h2, Q1 v h2 → ∃ r2 : Int32, v = some (.int r2) ∧ (XW (xrm 3 0 0) mX8_keepFewest (xE n Q X 0 0) n 0 0 h2 27 [some (.ref 39), some (.ref r), some (.ref a), none, some (.int x4), some (.int r2), some (.int (x6 + 1)), none] []))))))) :
    XW (xrm 3 0 0) mX8_keepFewest (xE n Q X 0 0) n 0 0 h 27 [some (.ref 39), some (.ref r), some (.ref a), none, some (.int x4), some (.int x5), some (.int x6), none] [] := by
  refine xi_iload (by decide +kernel : decode mX8_keepFewest.2.1 27 = .ok (.iload 6, 2)) rfl (?_ : XW _ _ _ _ _ _ _ 29 _ _)
  refine xi_iload (by decide +kernel : decode mX8_keepFewest.2.1 29 = .ok (.iload 4, 2)) rfl (?_ : XW _ _ _ _ _ _ _ 31 _ _)
  refine xi_icmp_ge (by decide +kernel : decode mX8_keepFewest.2.1 31 = .ok (.if_icmp .ge 48, 3)) (by decide) (fun c => (?_ : XW _ _ _ _ _ _ _ 79 _ _)) (fun c => (?_ : XW _ _ _ _ _ _ _ 34 _ _))
  · replace vc := vc.1 c
    refine xi_iload (by decide +kernel : decode mX8_keepFewest.2.1 79 = .ok (.iload 4, 2)) rfl (?_ : XW _ _ _ _ _ _ _ 81 _ _)
    exact xi_iret (by decide +kernel : decode mX8_keepFewest.2.1 81 = .ok (.ireturn, 1)) rfl rfl vc
  · replace vc := vc.2 c
    refine xi_iload (by decide +kernel : decode mX8_keepFewest.2.1 34 = .ok (.iload 6, 2)) rfl (?_ : XW _ _ _ _ _ _ _ 36 _ _)
    refine xi_aload_n (by decide +kernel : decode mX8_keepFewest.2.1 36 = .ok (.aload_n 0, 1)) rfl rfl (?_ : XW _ _ _ _ _ _ _ 37 _ _)
    refine xi_getR (y := 40) (by decide +kernel : decode mX8_keepFewest.2.1 37 = .ok (.getfield 15, 3)) fX8_15 rfl (by omega) rfl hw.1 (?_ : XW _ _ _ _ _ _ _ 40 _ _)
    refine xi_alen (v := 101) (by decide +kernel : decode mX8_keepFewest.2.1 40 = .ok (.arraylength, 1)) rfl (by omega) (Or.inl rfl) rfl (?_ : XW _ _ _ _ _ _ _ 41 _ _)
    refine xi_icmp_ge (by decide +kernel : decode mX8_keepFewest.2.1 41 = .ok (.if_icmp .ge 38, 3)) (by decide) (fun c => (?_ : XW _ _ _ _ _ _ _ 79 _ _)) (fun c => (?_ : XW _ _ _ _ _ _ _ 44 _ _))
    · replace vc := vc.1 c
      refine xi_iload (by decide +kernel : decode mX8_keepFewest.2.1 79 = .ok (.iload 4, 2)) rfl (?_ : XW _ _ _ _ _ _ _ 81 _ _)
      exact xi_iret (by decide +kernel : decode mX8_keepFewest.2.1 81 = .ok (.ireturn, 1)) rfl rfl vc
    · replace vc := vc.2 c
      refine xi_aload_n (by decide +kernel : decode mX8_keepFewest.2.1 44 = .ok (.aload_n 0, 1)) rfl rfl (?_ : XW _ _ _ _ _ _ _ 45 _ _)
      refine xi_aload_n (by decide +kernel : decode mX8_keepFewest.2.1 45 = .ok (.aload_n 1, 1)) rfl rfl (?_ : XW _ _ _ _ _ _ _ 46 _ _)
      refine xi_aload_n (by decide +kernel : decode mX8_keepFewest.2.1 46 = .ok (.aload_n 2, 1)) rfl rfl (?_ : XW _ _ _ _ _ _ _ 47 _ _)
      refine xi_iload (by decide +kernel : decode mX8_keepFewest.2.1 47 = .ok (.iload 5, 2)) rfl (?_ : XW _ _ _ _ _ _ _ 49 _ _)
      obtain ⟨Q1, sp, vc⟩ := vc
      refine xi_callV (b := 0) (bs := 0) (As := [.ref r, .ref a, .int x5]) (st := []) (by decide +kernel : decode mX8_keepFewest.2.1 49 = .ok (.invokevirtual 64, 3)) kX8_64 rfl rfl (by omega) rfl sp (by decide) (by decide) (Nat.le_of_ble_eq_true rfl) (by omega) (fun v9 h1 hq9 => ?_)
      obtain ⟨r1, e9, vc⟩ := vc v9 h1 hq9
      subst e9
      show XW _ _ _ _ _ _ _ 52 _ [.int r1]
      refine xi_istore (ls' := [some (.ref 39), some (.ref r), some (.ref a), none, some (.int x4), some (.int x5), some (.int x6), some (.int r1)]) (by decide +kernel : decode mX8_keepFewest.2.1 52 = .ok (.istore 7, 2)) (by decide) rfl (?_ : XW _ _ _ _ _ _ _ 54 _ _)
      refine xi_aload_n (by decide +kernel : decode mX8_keepFewest.2.1 54 = .ok (.aload_n 0, 1)) rfl rfl (?_ : XW _ _ _ _ _ _ _ 55 _ _)
      obtain ⟨s1, vc⟩ := vc
      refine xi_getR (y := 40) (by decide +kernel : decode mX8_keepFewest.2.1 55 = .ok (.getfield 15, 3)) fX8_15 rfl (by omega) rfl s1 (?_ : XW _ _ _ _ _ _ _ 58 _ _)
      refine xi_iload (by decide +kernel : decode mX8_keepFewest.2.1 58 = .ok (.iload 6, 2)) rfl (?_ : XW _ _ _ _ _ _ _ 60 _ _)
      refine xi_iload (by decide +kernel : decode mX8_keepFewest.2.1 60 = .ok (.iload 7, 2)) rfl (?_ : XW _ _ _ _ _ _ _ 62 _ _)
      obtain ⟨s1, vc⟩ := vc
      refine xi_iast (by decide +kernel : decode mX8_keepFewest.2.1 62 = .ok (.iastore, 1)) rfl (by omega) s1 (?_ : XW _ _ _ _ _ _ (xSI 40 (va_up (xI h1 40) x6.toNatClampNeg r1) h1) 63 _ _)
      refine xi_aload_n (by decide +kernel : decode mX8_keepFewest.2.1 63 = .ok (.aload_n 2, 1)) rfl rfl (?_ : XW _ _ _ _ _ _ _ 64 _ _)
      refine xi_iload (by decide +kernel : decode mX8_keepFewest.2.1 64 = .ok (.iload 5, 2)) rfl (?_ : XW _ _ _ _ _ _ _ 66 _ _)
      refine xi_iload (by decide +kernel : decode mX8_keepFewest.2.1 66 = .ok (.iload 7, 2)) rfl (?_ : XW _ _ _ _ _ _ _ 68 _ _)
      obtain ⟨Q1, sp, vc⟩ := vc
      refine xi_callV (b := 0) (bs := 0) (As := [.int x5, .int r1]) (st := []) (by decide +kernel : decode mX8_keepFewest.2.1 68 = .ok (.invokevirtual 47, 3)) kX8_47 rfl (xPth_s0 ha) (by omega) rfl sp (by decide) (by decide) (Nat.le_of_ble_eq_true rfl) (by omega) (fun v9 h2 hq9 => ?_)
      obtain ⟨r2, e9, vc⟩ := vc v9 h2 hq9
      subst e9
      show XW _ _ _ _ _ _ _ 71 _ [.int r2]
      refine xi_istore (ls' := [some (.ref 39), some (.ref r), some (.ref a), none, some (.int x4), some (.int r2), some (.int x6), some (.int r1)]) (by decide +kernel : decode mX8_keepFewest.2.1 71 = .ok (.istore 5, 2)) (by decide) rfl (?_ : XW _ _ _ _ _ _ _ 73 _ _)
      refine xi_iinc (v := x6 + 1) (ls' := [some (.ref 39), some (.ref r), some (.ref a), none, some (.int x4), some (.int r2), some (.int (x6 + 1)), some (.int r1)]) (by decide +kernel : decode mX8_keepFewest.2.1 73 = .ok (.iinc 6 1, 3)) rfl rfl (by decide) rfl (?_ : XW _ _ _ _ _ _ _ 76 _ _)
      refine xi_goto (by decide +kernel : decode mX8_keepFewest.2.1 76 = .ok (.goto (-49), 3)) (by decide) (?_ : XW _ _ _ _ _ _ _ 27 _ _)
      refine xw_drop 7 (ls' := [some (.ref 39), some (.ref r), some (.ref a), none, some (.int x4), some (.int r2), some (.int (x6 + 1)), none]) rfl ?_
      exact vc

theorem s_X8_reach (n : Nat) (h : XH) (hw : xWay (xP h)) (hn : 43 ≤ n) (k : Nat) (hk : k ≤ 101) (hq : xI h 39 4 = nI k) (s : Nat) (hs : s ≤ 100) (m : Int32) : XSpec mX8_reach 2 0 0 n n [.ref 39, .int (nI s), .int m] h (xq none (reached h s k m)) xno := by
  refine XSpec.of rfl (by decide) (Nat.le_of_ble_eq_true rfl) rfl (v_X8_reach_0 n hw hn (nI s) m ?_)
  have e : rd (xI h 41) 101 (-1) (nI s) = xI h 41 s := by rw [iz_nI, rd_in (by omega) (by show (s : Int) < 101; omega)]; rfl
  rw [e, nI_clamp (by omega)]
  unfold reached
  refine ⟨fun c => ⟨rfl, by rw [if_neg c]⟩, fun c => ⟨fun c2 => absurd c2 (nI_pos (by omega)), fun _ => ⟨fun c3 => absurd c3 (nI_ge (a := s) (b := 101) (by omega) (by omega)), fun _ => ⟨vp_in_nI (by omega) (by omega), _, s_X8_enqueue n (xSI 41 (va_up (xI h 41) s m) h) hw hn k hk hq (nI s), ?_⟩⟩⟩⟩
  rintro v h1 ⟨rfl, e1⟩
  exact ⟨rfl, rfl, by rw [e1, if_pos c]; rfl⟩
