/-! SAND: its small functions -/
set_option maxRecDepth 20000 in
theorem v_X6_add_0 {h : XH} {Q : Option Value → XH → Prop} {X : String → XH → Prop} (n q : Nat) (hq : SH q = .inl (.long, 101)) (hn : q < n)  (sq : Int32) (v : Int64)
    (vc : (sq < 0 → Q none h) ∧ (¬ sq < 0 → (101 ≤ sq → Q none h) ∧ (¬ 101 ≤ sq → (vp_in sq 101) ∧ ((vp_in sq 101) ∧ (Q none (xSL q (va_up (xL h q) sq.toNatClampNeg ((xL h q sq.toNatClampNeg) + v)) h)))))) :
    XW (xrm 1 0 0) mX6_add (xE n Q X 0 0) n 0 0 h 0 [some (.ref q), some (.int sq), some (.long v), none] [] := by
  refine xi_iload_n (by decide +kernel : decode mX6_add.2.1 0 = .ok (.iload_n 1, 1)) rfl rfl (?_ : XW _ _ _ _ _ _ _ 1 _ _)
  refine xi_if_lt (by decide +kernel : decode mX6_add.2.1 1 = .ok (.ifCond .lt 16, 3)) (by decide) (fun c => (?_ : XW _ _ _ _ _ _ _ 17 _ _)) (fun c => (?_ : XW _ _ _ _ _ _ _ 4 _ _))
  · replace vc := vc.1 c
    exact xi_vret (by decide +kernel : decode mX6_add.2.1 17 = .ok (.return_, 1)) rfl vc
  · replace vc := vc.2 c
    refine xi_iload_n (by decide +kernel : decode mX6_add.2.1 4 = .ok (.iload_n 1, 1)) rfl rfl (?_ : XW _ _ _ _ _ _ _ 5 _ _)
    refine xi_aload_n (by decide +kernel : decode mX6_add.2.1 5 = .ok (.aload_n 0, 1)) rfl rfl (?_ : XW _ _ _ _ _ _ _ 6 _ _)
    refine xi_alen (v := 101) (by decide +kernel : decode mX6_add.2.1 6 = .ok (.arraylength, 1)) hq (by omega) (Or.inr (Or.inl rfl)) rfl (?_ : XW _ _ _ _ _ _ _ 7 _ _)
    refine xi_icmp_ge (by decide +kernel : decode mX6_add.2.1 7 = .ok (.if_icmp .ge 10, 3)) (by decide) (fun c => (?_ : XW _ _ _ _ _ _ _ 17 _ _)) (fun c => (?_ : XW _ _ _ _ _ _ _ 10 _ _))
    · replace vc := vc.1 c
      exact xi_vret (by decide +kernel : decode mX6_add.2.1 17 = .ok (.return_, 1)) rfl vc
    · replace vc := vc.2 c
      refine xi_aload_n (by decide +kernel : decode mX6_add.2.1 10 = .ok (.aload_n 0, 1)) rfl rfl (?_ : XW _ _ _ _ _ _ _ 11 _ _)
      refine xi_iload_n (by decide +kernel : decode mX6_add.2.1 11 = .ok (.iload_n 1, 1)) rfl rfl (?_ : XW _ _ _ _ _ _ _ 12 _ _)
      refine xi_dup2 (by decide +kernel : decode mX6_add.2.1 12 = .ok (.dup2, 1)) rfl rfl (?_ : XW _ _ _ _ _ _ _ 13 _ _)
      obtain ⟨s1, vc⟩ := vc
      refine xi_lald (by decide +kernel : decode mX6_add.2.1 13 = .ok (.laload, 1)) hq (by omega) s1 (?_ : XW _ _ _ _ _ _ _ 14 _ _)
      refine xi_lload_n (by decide +kernel : decode mX6_add.2.1 14 = .ok (.lload_n 2, 1)) rfl rfl (?_ : XW _ _ _ _ _ _ _ 15 _ _)
      refine xi_ladd (by decide +kernel : decode mX6_add.2.1 15 = .ok (.ladd, 1)) (?_ : XW _ _ _ _ _ _ _ 16 _ _)
      obtain ⟨s1, vc⟩ := vc
      refine xi_last (by decide +kernel : decode mX6_add.2.1 16 = .ok (.lastore, 1)) hq (by omega) s1 (?_ : XW _ _ _ _ _ _ (xSL q (va_up (xL h q) sq.toNatClampNeg ((xL h q sq.toNatClampNeg) + v)) h) 17 _ _)
      exact xi_vret (by decide +kernel : decode mX6_add.2.1 17 = .ok (.return_, 1)) rfl vc

set_option maxRecDepth 20000 in
theorem v_X6_on_0 {h : XH} {Q : Option Value → XH → Prop} {X : String → XH → Prop} (n sn ya za : Nat) (hs : xSnd sn ya za (xP h)) (hn : sn + 3 ≤ n)  (sq : Int32)
    (vc : (sq < 0 → Q (some (.long 0)) h) ∧ (¬ sq < 0 → (101 ≤ sq → Q (some (.long 0)) h) ∧ (¬ 101 ≤ sq → (vp_in sq 101) ∧ (Q (some (.long (xL h ya sq.toNatClampNeg))) h)))) :
    XW (xrm 1 0 0) mX6_on (xE n Q X 0 0) n 0 0 h 0 [some (.ref sn), some (.int sq)] [] := by
  rcases hs.1 with ⟨rfl, rfl, rfl⟩ | ⟨rfl, rfl, rfl⟩ | ⟨rfl, rfl, rfl⟩ | ⟨rfl, rfl, rfl⟩
  · refine xi_iload_n (by decide +kernel : decode mX6_on.2.1 0 = .ok (.iload_n 1, 1)) rfl rfl (?_ : XW _ _ _ _ _ _ _ 1 _ _)
    refine xi_if_lt (by decide +kernel : decode mX6_on.2.1 1 = .ok (.ifCond .lt 21, 3)) (by decide) (fun c => (?_ : XW _ _ _ _ _ _ _ 22 _ _)) (fun c => (?_ : XW _ _ _ _ _ _ _ 4 _ _))
    · replace vc := vc.1 c
      refine xi_lconst (v := 0) (by decide +kernel : decode mX6_on.2.1 22 = .ok (.lconst 0, 1)) (by decide) (?_ : XW _ _ _ _ _ _ _ 23 _ _)
      exact xi_lret (by decide +kernel : decode mX6_on.2.1 23 = .ok (.lreturn, 1)) rfl vc
    · replace vc := vc.2 c
      refine xi_iload_n (by decide +kernel : decode mX6_on.2.1 4 = .ok (.iload_n 1, 1)) rfl rfl (?_ : XW _ _ _ _ _ _ _ 5 _ _)
      refine xi_aload_n (by decide +kernel : decode mX6_on.2.1 5 = .ok (.aload_n 0, 1)) rfl rfl (?_ : XW _ _ _ _ _ _ _ 6 _ _)
      refine xi_getR (y := 44) (by decide +kernel : decode mX6_on.2.1 6 = .ok (.getfield 9, 3)) fX6_9 rfl (by omega) rfl hs.2.1 (?_ : XW _ _ _ _ _ _ _ 9 _ _)
      refine xi_alen (v := 101) (by decide +kernel : decode mX6_on.2.1 9 = .ok (.arraylength, 1)) rfl (by omega) (Or.inr (Or.inl rfl)) rfl (?_ : XW _ _ _ _ _ _ _ 10 _ _)
      refine xi_icmp_ge (by decide +kernel : decode mX6_on.2.1 10 = .ok (.if_icmp .ge 12, 3)) (by decide) (fun c => (?_ : XW _ _ _ _ _ _ _ 22 _ _)) (fun c => (?_ : XW _ _ _ _ _ _ _ 13 _ _))
      · replace vc := vc.1 c
        refine xi_lconst (v := 0) (by decide +kernel : decode mX6_on.2.1 22 = .ok (.lconst 0, 1)) (by decide) (?_ : XW _ _ _ _ _ _ _ 23 _ _)
        exact xi_lret (by decide +kernel : decode mX6_on.2.1 23 = .ok (.lreturn, 1)) rfl vc
      · replace vc := vc.2 c
        refine xi_aload_n (by decide +kernel : decode mX6_on.2.1 13 = .ok (.aload_n 0, 1)) rfl rfl (?_ : XW _ _ _ _ _ _ _ 14 _ _)
        refine xi_getR (y := 44) (by decide +kernel : decode mX6_on.2.1 14 = .ok (.getfield 9, 3)) fX6_9 rfl (by omega) rfl hs.2.1 (?_ : XW _ _ _ _ _ _ _ 17 _ _)
        refine xi_iload_n (by decide +kernel : decode mX6_on.2.1 17 = .ok (.iload_n 1, 1)) rfl rfl (?_ : XW _ _ _ _ _ _ _ 18 _ _)
        obtain ⟨s1, vc⟩ := vc
        refine xi_lald (by decide +kernel : decode mX6_on.2.1 18 = .ok (.laload, 1)) rfl (by omega) s1 (?_ : XW _ _ _ _ _ _ _ 19 _ _)
        refine xi_goto (by decide +kernel : decode mX6_on.2.1 19 = .ok (.goto 4, 3)) (by decide) (?_ : XW _ _ _ _ _ _ _ 23 _ _)
        exact xi_lret (by decide +kernel : decode mX6_on.2.1 23 = .ok (.lreturn, 1)) rfl vc
  · refine xi_iload_n (by decide +kernel : decode mX6_on.2.1 0 = .ok (.iload_n 1, 1)) rfl rfl (?_ : XW _ _ _ _ _ _ _ 1 _ _)
    refine xi_if_lt (by decide +kernel : decode mX6_on.2.1 1 = .ok (.ifCond .lt 21, 3)) (by decide) (fun c => (?_ : XW _ _ _ _ _ _ _ 22 _ _)) (fun c => (?_ : XW _ _ _ _ _ _ _ 4 _ _))
    · replace vc := vc.1 c
      refine xi_lconst (v := 0) (by decide +kernel : decode mX6_on.2.1 22 = .ok (.lconst 0, 1)) (by decide) (?_ : XW _ _ _ _ _ _ _ 23 _ _)
      exact xi_lret (by decide +kernel : decode mX6_on.2.1 23 = .ok (.lreturn, 1)) rfl vc
    · replace vc := vc.2 c
      refine xi_iload_n (by decide +kernel : decode mX6_on.2.1 4 = .ok (.iload_n 1, 1)) rfl rfl (?_ : XW _ _ _ _ _ _ _ 5 _ _)
      refine xi_aload_n (by decide +kernel : decode mX6_on.2.1 5 = .ok (.aload_n 0, 1)) rfl rfl (?_ : XW _ _ _ _ _ _ _ 6 _ _)
      refine xi_getR (y := 45) (by decide +kernel : decode mX6_on.2.1 6 = .ok (.getfield 9, 3)) fX6_9 rfl (by omega) rfl hs.2.1 (?_ : XW _ _ _ _ _ _ _ 9 _ _)
      refine xi_alen (v := 101) (by decide +kernel : decode mX6_on.2.1 9 = .ok (.arraylength, 1)) rfl (by omega) (Or.inr (Or.inl rfl)) rfl (?_ : XW _ _ _ _ _ _ _ 10 _ _)
      refine xi_icmp_ge (by decide +kernel : decode mX6_on.2.1 10 = .ok (.if_icmp .ge 12, 3)) (by decide) (fun c => (?_ : XW _ _ _ _ _ _ _ 22 _ _)) (fun c => (?_ : XW _ _ _ _ _ _ _ 13 _ _))
      · replace vc := vc.1 c
        refine xi_lconst (v := 0) (by decide +kernel : decode mX6_on.2.1 22 = .ok (.lconst 0, 1)) (by decide) (?_ : XW _ _ _ _ _ _ _ 23 _ _)
        exact xi_lret (by decide +kernel : decode mX6_on.2.1 23 = .ok (.lreturn, 1)) rfl vc
      · replace vc := vc.2 c
        refine xi_aload_n (by decide +kernel : decode mX6_on.2.1 13 = .ok (.aload_n 0, 1)) rfl rfl (?_ : XW _ _ _ _ _ _ _ 14 _ _)
        refine xi_getR (y := 45) (by decide +kernel : decode mX6_on.2.1 14 = .ok (.getfield 9, 3)) fX6_9 rfl (by omega) rfl hs.2.1 (?_ : XW _ _ _ _ _ _ _ 17 _ _)
        refine xi_iload_n (by decide +kernel : decode mX6_on.2.1 17 = .ok (.iload_n 1, 1)) rfl rfl (?_ : XW _ _ _ _ _ _ _ 18 _ _)
        obtain ⟨s1, vc⟩ := vc
        refine xi_lald (by decide +kernel : decode mX6_on.2.1 18 = .ok (.laload, 1)) rfl (by omega) s1 (?_ : XW _ _ _ _ _ _ _ 19 _ _)
        refine xi_goto (by decide +kernel : decode mX6_on.2.1 19 = .ok (.goto 4, 3)) (by decide) (?_ : XW _ _ _ _ _ _ _ 23 _ _)
        exact xi_lret (by decide +kernel : decode mX6_on.2.1 23 = .ok (.lreturn, 1)) rfl vc
  · refine xi_iload_n (by decide +kernel : decode mX6_on.2.1 0 = .ok (.iload_n 1, 1)) rfl rfl (?_ : XW _ _ _ _ _ _ _ 1 _ _)
    refine xi_if_lt (by decide +kernel : decode mX6_on.2.1 1 = .ok (.ifCond .lt 21, 3)) (by decide) (fun c => (?_ : XW _ _ _ _ _ _ _ 22 _ _)) (fun c => (?_ : XW _ _ _ _ _ _ _ 4 _ _))
    · replace vc := vc.1 c
      refine xi_lconst (v := 0) (by decide +kernel : decode mX6_on.2.1 22 = .ok (.lconst 0, 1)) (by decide) (?_ : XW _ _ _ _ _ _ _ 23 _ _)
      exact xi_lret (by decide +kernel : decode mX6_on.2.1 23 = .ok (.lreturn, 1)) rfl vc
    · replace vc := vc.2 c
      refine xi_iload_n (by decide +kernel : decode mX6_on.2.1 4 = .ok (.iload_n 1, 1)) rfl rfl (?_ : XW _ _ _ _ _ _ _ 5 _ _)
      refine xi_aload_n (by decide +kernel : decode mX6_on.2.1 5 = .ok (.aload_n 0, 1)) rfl rfl (?_ : XW _ _ _ _ _ _ _ 6 _ _)
      refine xi_getR (y := 47) (by decide +kernel : decode mX6_on.2.1 6 = .ok (.getfield 9, 3)) fX6_9 rfl (by omega) rfl hs.2.1 (?_ : XW _ _ _ _ _ _ _ 9 _ _)
      refine xi_alen (v := 101) (by decide +kernel : decode mX6_on.2.1 9 = .ok (.arraylength, 1)) rfl (by omega) (Or.inr (Or.inl rfl)) rfl (?_ : XW _ _ _ _ _ _ _ 10 _ _)
      refine xi_icmp_ge (by decide +kernel : decode mX6_on.2.1 10 = .ok (.if_icmp .ge 12, 3)) (by decide) (fun c => (?_ : XW _ _ _ _ _ _ _ 22 _ _)) (fun c => (?_ : XW _ _ _ _ _ _ _ 13 _ _))
      · replace vc := vc.1 c
        refine xi_lconst (v := 0) (by decide +kernel : decode mX6_on.2.1 22 = .ok (.lconst 0, 1)) (by decide) (?_ : XW _ _ _ _ _ _ _ 23 _ _)
        exact xi_lret (by decide +kernel : decode mX6_on.2.1 23 = .ok (.lreturn, 1)) rfl vc
      · replace vc := vc.2 c
        refine xi_aload_n (by decide +kernel : decode mX6_on.2.1 13 = .ok (.aload_n 0, 1)) rfl rfl (?_ : XW _ _ _ _ _ _ _ 14 _ _)
        refine xi_getR (y := 47) (by decide +kernel : decode mX6_on.2.1 14 = .ok (.getfield 9, 3)) fX6_9 rfl (by omega) rfl hs.2.1 (?_ : XW _ _ _ _ _ _ _ 17 _ _)
        refine xi_iload_n (by decide +kernel : decode mX6_on.2.1 17 = .ok (.iload_n 1, 1)) rfl rfl (?_ : XW _ _ _ _ _ _ _ 18 _ _)
        obtain ⟨s1, vc⟩ := vc
        refine xi_lald (by decide +kernel : decode mX6_on.2.1 18 = .ok (.laload, 1)) rfl (by omega) s1 (?_ : XW _ _ _ _ _ _ _ 19 _ _)
        refine xi_goto (by decide +kernel : decode mX6_on.2.1 19 = .ok (.goto 4, 3)) (by decide) (?_ : XW _ _ _ _ _ _ _ 23 _ _)
        exact xi_lret (by decide +kernel : decode mX6_on.2.1 23 = .ok (.lreturn, 1)) rfl vc
  · refine xi_iload_n (by decide +kernel : decode mX6_on.2.1 0 = .ok (.iload_n 1, 1)) rfl rfl (?_ : XW _ _ _ _ _ _ _ 1 _ _)
    refine xi_if_lt (by decide +kernel : decode mX6_on.2.1 1 = .ok (.ifCond .lt 21, 3)) (by decide) (fun c => (?_ : XW _ _ _ _ _ _ _ 22 _ _)) (fun c => (?_ : XW _ _ _ _ _ _ _ 4 _ _))
    · replace vc := vc.1 c
      refine xi_lconst (v := 0) (by decide +kernel : decode mX6_on.2.1 22 = .ok (.lconst 0, 1)) (by decide) (?_ : XW _ _ _ _ _ _ _ 23 _ _)
      exact xi_lret (by decide +kernel : decode mX6_on.2.1 23 = .ok (.lreturn, 1)) rfl vc
    · replace vc := vc.2 c
      refine xi_iload_n (by decide +kernel : decode mX6_on.2.1 4 = .ok (.iload_n 1, 1)) rfl rfl (?_ : XW _ _ _ _ _ _ _ 5 _ _)
      refine xi_aload_n (by decide +kernel : decode mX6_on.2.1 5 = .ok (.aload_n 0, 1)) rfl rfl (?_ : XW _ _ _ _ _ _ _ 6 _ _)
      refine xi_getR (y := 48) (by decide +kernel : decode mX6_on.2.1 6 = .ok (.getfield 9, 3)) fX6_9 rfl (by omega) rfl hs.2.1 (?_ : XW _ _ _ _ _ _ _ 9 _ _)
      refine xi_alen (v := 101) (by decide +kernel : decode mX6_on.2.1 9 = .ok (.arraylength, 1)) rfl (by omega) (Or.inr (Or.inl rfl)) rfl (?_ : XW _ _ _ _ _ _ _ 10 _ _)
      refine xi_icmp_ge (by decide +kernel : decode mX6_on.2.1 10 = .ok (.if_icmp .ge 12, 3)) (by decide) (fun c => (?_ : XW _ _ _ _ _ _ _ 22 _ _)) (fun c => (?_ : XW _ _ _ _ _ _ _ 13 _ _))
      · replace vc := vc.1 c
        refine xi_lconst (v := 0) (by decide +kernel : decode mX6_on.2.1 22 = .ok (.lconst 0, 1)) (by decide) (?_ : XW _ _ _ _ _ _ _ 23 _ _)
        exact xi_lret (by decide +kernel : decode mX6_on.2.1 23 = .ok (.lreturn, 1)) rfl vc
      · replace vc := vc.2 c
        refine xi_aload_n (by decide +kernel : decode mX6_on.2.1 13 = .ok (.aload_n 0, 1)) rfl rfl (?_ : XW _ _ _ _ _ _ _ 14 _ _)
        refine xi_getR (y := 48) (by decide +kernel : decode mX6_on.2.1 14 = .ok (.getfield 9, 3)) fX6_9 rfl (by omega) rfl hs.2.1 (?_ : XW _ _ _ _ _ _ _ 17 _ _)
        refine xi_iload_n (by decide +kernel : decode mX6_on.2.1 17 = .ok (.iload_n 1, 1)) rfl rfl (?_ : XW _ _ _ _ _ _ _ 18 _ _)
        obtain ⟨s1, vc⟩ := vc
        refine xi_lald (by decide +kernel : decode mX6_on.2.1 18 = .ok (.laload, 1)) rfl (by omega) s1 (?_ : XW _ _ _ _ _ _ _ 19 _ _)
        refine xi_goto (by decide +kernel : decode mX6_on.2.1 19 = .ok (.goto 4, 3)) (by decide) (?_ : XW _ _ _ _ _ _ _ 23 _ _)
        exact xi_lret (by decide +kernel : decode mX6_on.2.1 23 = .ok (.lreturn, 1)) rfl vc

theorem s_X6_add (n : Nat) (h : XH) (q : Nat) (hq : SH q = .inl (.long, 101)) (hn : q < n) (sq : Int32) (v : Int64) : XSpec mX6_add 1 0 0 n n [.ref q, .int sq, .long v] h (xq none (xSL q (wr (xL h q) 101 sq (xL h q sq.toNatClampNeg + v)) h)) xno := by
  refine XSpec.of rfl (by decide) (Nat.le_of_ble_eq_true rfl) rfl (v_X6_add_0 n q hq hn sq v ?_)
  refine ⟨fun c => ⟨rfl, ?_⟩, fun c => ⟨fun c2 => ⟨rfl, ?_⟩, fun c2 => ⟨vp_of c c2 rfl, vp_of c c2 rfl, rfl, ?_⟩⟩⟩
  · simp only [wr, if_pos c, xSL_self]
  · simp only [wr, if_neg c, if_pos c2, xSL_self]
  · simp only [wr, if_neg c, if_neg c2]
theorem s_X6_on (n : Nat) (h : XH) (sn ya za : Nat) (hs : xSnd sn ya za (xP h)) (hn : sn + 3 ≤ n) (sq : Int32) : XSpec mX6_on 1 0 0 n n [.ref sn, .int sq] h (xq (some (.long (rd (xL h ya) 101 0 sq))) h) xno := by
  refine XSpec.of rfl (by decide) (Nat.le_of_ble_eq_true rfl) rfl (v_X6_on_0 n sn ya za hs hn sq ?_)
  refine ⟨fun c => ⟨?_, rfl⟩, fun c => ⟨fun c2 => ⟨?_, rfl⟩, fun c2 => ⟨vp_of c c2 rfl, ?_, rfl⟩⟩⟩
  · simp only [rd, if_pos c]
  · simp only [rd, if_neg c, if_pos c2]
  · simp only [rd, if_neg c, if_neg c2]
set_option maxRecDepth 20000 in
theorem v_X6_out_0 {h : XH} {Q : Option Value → XH → Prop} {X : String → XH → Prop} (n sn ya za : Nat) (hs : xSnd sn ya za (xP h)) (hn : sn + 3 ≤ n) 
    (vc : Q (some (.long (1000000000 - (rd (xL h ya) 101 0 (xI h sn 0))))) h) :
    XW (xrm 2 0 0) mX6_out (xE n Q X 0 0) n 0 0 h 0 [some (.ref sn)] [] := by
  rcases hs.1 with ⟨rfl, rfl, rfl⟩ | ⟨rfl, rfl, rfl⟩ | ⟨rfl, rfl, rfl⟩ | ⟨rfl, rfl, rfl⟩
  · refine xi_ldc2 (v := 1000000000) (by decide +kernel : decode mX6_out.2.1 0 = .ok (.ldc2_w 33, 3)) cK_X6_33 (?_ : XW _ _ _ _ _ _ _ 3 _ _)
    refine xi_aload_n (by decide +kernel : decode mX6_out.2.1 3 = .ok (.aload_n 0, 1)) rfl rfl (?_ : XW _ _ _ _ _ _ _ 4 _ _)
    refine xi_aload_n (by decide +kernel : decode mX6_out.2.1 4 = .ok (.aload_n 0, 1)) rfl rfl (?_ : XW _ _ _ _ _ _ _ 5 _ _)
    refine xi_getI (by decide +kernel : decode mX6_out.2.1 5 = .ok (.getfield 24, 3)) fX6_24 rfl (by omega) rfl (?_ : XW _ _ _ _ _ _ _ 8 _ _)
    refine xi_callV (b := 0) (bs := 0) (As := [.int (xI h 43 0)]) (st := [.long 1000000000]) (by decide +kernel : decode mX6_out.2.1 8 = .ok (.invokevirtual 39, 3)) kX6_39 rfl rfl (by omega) rfl (s_X6_on n h 43 44 45 hs (by omega) (xI h 43 0)) (by decide) (by decide) (Nat.le_of_ble_eq_true rfl) (by omega) (fun v9 h9 hq9 => ?_)
    rw [hq9.1, hq9.2]
    show XW _ _ _ _ _ _ _ 11 _ [.long (rd (xL h 44) 101 0 (xI h 43 0)), .long 1000000000]
    refine xi_lsub (by decide +kernel : decode mX6_out.2.1 11 = .ok (.lsub, 1)) (?_ : XW _ _ _ _ _ _ _ 12 _ _)
    exact xi_lret (by decide +kernel : decode mX6_out.2.1 12 = .ok (.lreturn, 1)) rfl vc
  · refine xi_ldc2 (v := 1000000000) (by decide +kernel : decode mX6_out.2.1 0 = .ok (.ldc2_w 33, 3)) cK_X6_33 (?_ : XW _ _ _ _ _ _ _ 3 _ _)
    refine xi_aload_n (by decide +kernel : decode mX6_out.2.1 3 = .ok (.aload_n 0, 1)) rfl rfl (?_ : XW _ _ _ _ _ _ _ 4 _ _)
    refine xi_aload_n (by decide +kernel : decode mX6_out.2.1 4 = .ok (.aload_n 0, 1)) rfl rfl (?_ : XW _ _ _ _ _ _ _ 5 _ _)
    refine xi_getI (by decide +kernel : decode mX6_out.2.1 5 = .ok (.getfield 24, 3)) fX6_24 rfl (by omega) rfl (?_ : XW _ _ _ _ _ _ _ 8 _ _)
    refine xi_callV (b := 0) (bs := 0) (As := [.int (xI h 43 0)]) (st := [.long 1000000000]) (by decide +kernel : decode mX6_out.2.1 8 = .ok (.invokevirtual 39, 3)) kX6_39 rfl rfl (by omega) rfl (s_X6_on n h 43 45 44 hs (by omega) (xI h 43 0)) (by decide) (by decide) (Nat.le_of_ble_eq_true rfl) (by omega) (fun v9 h9 hq9 => ?_)
    rw [hq9.1, hq9.2]
    show XW _ _ _ _ _ _ _ 11 _ [.long (rd (xL h 45) 101 0 (xI h 43 0)), .long 1000000000]
    refine xi_lsub (by decide +kernel : decode mX6_out.2.1 11 = .ok (.lsub, 1)) (?_ : XW _ _ _ _ _ _ _ 12 _ _)
    exact xi_lret (by decide +kernel : decode mX6_out.2.1 12 = .ok (.lreturn, 1)) rfl vc
  · refine xi_ldc2 (v := 1000000000) (by decide +kernel : decode mX6_out.2.1 0 = .ok (.ldc2_w 33, 3)) cK_X6_33 (?_ : XW _ _ _ _ _ _ _ 3 _ _)
    refine xi_aload_n (by decide +kernel : decode mX6_out.2.1 3 = .ok (.aload_n 0, 1)) rfl rfl (?_ : XW _ _ _ _ _ _ _ 4 _ _)
    refine xi_aload_n (by decide +kernel : decode mX6_out.2.1 4 = .ok (.aload_n 0, 1)) rfl rfl (?_ : XW _ _ _ _ _ _ _ 5 _ _)
    refine xi_getI (by decide +kernel : decode mX6_out.2.1 5 = .ok (.getfield 24, 3)) fX6_24 rfl (by omega) rfl (?_ : XW _ _ _ _ _ _ _ 8 _ _)
    refine xi_callV (b := 0) (bs := 0) (As := [.int (xI h 46 0)]) (st := [.long 1000000000]) (by decide +kernel : decode mX6_out.2.1 8 = .ok (.invokevirtual 39, 3)) kX6_39 rfl rfl (by omega) rfl (s_X6_on n h 46 47 48 hs (by omega) (xI h 46 0)) (by decide) (by decide) (Nat.le_of_ble_eq_true rfl) (by omega) (fun v9 h9 hq9 => ?_)
    rw [hq9.1, hq9.2]
    show XW _ _ _ _ _ _ _ 11 _ [.long (rd (xL h 47) 101 0 (xI h 46 0)), .long 1000000000]
    refine xi_lsub (by decide +kernel : decode mX6_out.2.1 11 = .ok (.lsub, 1)) (?_ : XW _ _ _ _ _ _ _ 12 _ _)
    exact xi_lret (by decide +kernel : decode mX6_out.2.1 12 = .ok (.lreturn, 1)) rfl vc
  · refine xi_ldc2 (v := 1000000000) (by decide +kernel : decode mX6_out.2.1 0 = .ok (.ldc2_w 33, 3)) cK_X6_33 (?_ : XW _ _ _ _ _ _ _ 3 _ _)
    refine xi_aload_n (by decide +kernel : decode mX6_out.2.1 3 = .ok (.aload_n 0, 1)) rfl rfl (?_ : XW _ _ _ _ _ _ _ 4 _ _)
    refine xi_aload_n (by decide +kernel : decode mX6_out.2.1 4 = .ok (.aload_n 0, 1)) rfl rfl (?_ : XW _ _ _ _ _ _ _ 5 _ _)
    refine xi_getI (by decide +kernel : decode mX6_out.2.1 5 = .ok (.getfield 24, 3)) fX6_24 rfl (by omega) rfl (?_ : XW _ _ _ _ _ _ _ 8 _ _)
    refine xi_callV (b := 0) (bs := 0) (As := [.int (xI h 46 0)]) (st := [.long 1000000000]) (by decide +kernel : decode mX6_out.2.1 8 = .ok (.invokevirtual 39, 3)) kX6_39 rfl rfl (by omega) rfl (s_X6_on n h 46 48 47 hs (by omega) (xI h 46 0)) (by decide) (by decide) (Nat.le_of_ble_eq_true rfl) (by omega) (fun v9 h9 hq9 => ?_)
    rw [hq9.1, hq9.2]
    show XW _ _ _ _ _ _ _ 11 _ [.long (rd (xL h 48) 101 0 (xI h 46 0)), .long 1000000000]
    refine xi_lsub (by decide +kernel : decode mX6_out.2.1 11 = .ok (.lsub, 1)) (?_ : XW _ _ _ _ _ _ _ 12 _ _)
    exact xi_lret (by decide +kernel : decode mX6_out.2.1 12 = .ok (.lreturn, 1)) rfl vc

set_option maxRecDepth 20000 in
theorem v_X6_pour_0 {h : XH} {Q : Option Value → XH → Prop} {X : String → XH → Prop} (n sn ya za : Nat) (hs : xSnd sn ya za (xP h)) (hn : sn + 3 ≤ n) (r : Nat) (hr : xRul r (xP h)) (hnr : r + 9 ≤ n)  (sq : Int32)
    (vc : Q none (xSL ya (wr (fl 101 0 (xL h ya)) 101 sq ((fl 101 0 (xL h ya)) sq.toNatClampNeg + 1000000000)) (xSL ya (fl 101 0 (xL h ya)) (xSI sn (va_up (xI h sn) 0 (xI h r 0)) h)))) :
    XW (xrm 2 0 0) mX6_pour (xE n Q X 0 0) n 0 0 h 0 [some (.ref sn), some (.ref r), some (.int sq)] [] := by
  rcases hs.1 with ⟨rfl, rfl, rfl⟩ | ⟨rfl, rfl, rfl⟩ | ⟨rfl, rfl, rfl⟩ | ⟨rfl, rfl, rfl⟩
  · refine xi_aload_n (by decide +kernel : decode mX6_pour.2.1 0 = .ok (.aload_n 0, 1)) rfl rfl (?_ : XW _ _ _ _ _ _ _ 1 _ _)
    refine xi_aload_n (by decide +kernel : decode mX6_pour.2.1 1 = .ok (.aload_n 1, 1)) rfl rfl (?_ : XW _ _ _ _ _ _ _ 2 _ _)
    refine xi_getI (by decide +kernel : decode mX6_pour.2.1 2 = .ok (.getfield 18, 3)) fX6_18 (xRul_s0 hr) (by omega) rfl (?_ : XW _ _ _ _ _ _ _ 5 _ _)
    refine xi_putI (by decide +kernel : decode mX6_pour.2.1 5 = .ok (.putfield 24, 3)) fX6_24 rfl (by omega) rfl rfl rfl (?_ : XW _ _ _ _ _ _ (xSI 43 (va_up (xI h 43) 0 (xI h r 0)) h) 8 _ _)
    refine xi_aload_n (by decide +kernel : decode mX6_pour.2.1 8 = .ok (.aload_n 0, 1)) rfl rfl (?_ : XW _ _ _ _ _ _ _ 9 _ _)
    refine xi_getR (y := 44) (by decide +kernel : decode mX6_pour.2.1 9 = .ok (.getfield 9, 3)) fX6_9 rfl (by omega) rfl hs.2.1 (?_ : XW _ _ _ _ _ _ _ 12 _ _)
    refine xi_lconst (v := 0) (by decide +kernel : decode mX6_pour.2.1 12 = .ok (.lconst 0, 1)) (by decide) (?_ : XW _ _ _ _ _ _ _ 13 _ _)
    refine xi_callS (b := 0) (bs := 0) (As := [.ref 44, .long 0]) (st := []) (by decide +kernel : decode mX6_pour.2.1 13 = .ok (.invokestatic 27, 3)) kX6_27 rfl rfl (s_fillJ n (xSI 43 (va_up (xI h 43) 0 (xI h r 0)) h) 44 101 rfl (by omega) (by decide) 0) (by decide) (by decide) (Nat.le_of_ble_eq_true rfl) (by omega) (fun v9 h9 hq9 => ?_)
    rw [hq9.1, hq9.2]
    show XW _ _ _ _ _ _ _ 16 _ []
    refine xi_aload_n (by decide +kernel : decode mX6_pour.2.1 16 = .ok (.aload_n 0, 1)) rfl rfl (?_ : XW _ _ _ _ _ _ _ 17 _ _)
    refine xi_getR (y := 44) (by decide +kernel : decode mX6_pour.2.1 17 = .ok (.getfield 9, 3)) fX6_9 rfl (by omega) rfl hs.2.1 (?_ : XW _ _ _ _ _ _ _ 20 _ _)
    refine xi_iload_n (by decide +kernel : decode mX6_pour.2.1 20 = .ok (.iload_n 2, 1)) rfl rfl (?_ : XW _ _ _ _ _ _ _ 21 _ _)
    refine xi_ldc2 (v := 1000000000) (by decide +kernel : decode mX6_pour.2.1 21 = .ok (.ldc2_w 33, 3)) cK_X6_33 (?_ : XW _ _ _ _ _ _ _ 24 _ _)
    refine xi_callS (b := 0) (bs := 0) (As := [.ref 44, .int sq, .long 1000000000]) (st := []) (by decide +kernel : decode mX6_pour.2.1 24 = .ok (.invokestatic 35, 3)) kX6_35 rfl rfl (s_X6_add n (xSL 44 (fl 101 0 (xL h 44)) (xSI 43 (va_up (xI h 43) 0 (xI h r 0)) h)) 44 rfl (by omega) sq 1000000000) (by decide) (by decide) (Nat.le_of_ble_eq_true rfl) (by omega) (fun v9 h9 hq9 => ?_)
    rw [hq9.1, hq9.2]
    show XW _ _ _ _ _ _ _ 27 _ []
    exact xi_vret (by decide +kernel : decode mX6_pour.2.1 27 = .ok (.return_, 1)) rfl vc
  · refine xi_aload_n (by decide +kernel : decode mX6_pour.2.1 0 = .ok (.aload_n 0, 1)) rfl rfl (?_ : XW _ _ _ _ _ _ _ 1 _ _)
    refine xi_aload_n (by decide +kernel : decode mX6_pour.2.1 1 = .ok (.aload_n 1, 1)) rfl rfl (?_ : XW _ _ _ _ _ _ _ 2 _ _)
    refine xi_getI (by decide +kernel : decode mX6_pour.2.1 2 = .ok (.getfield 18, 3)) fX6_18 (xRul_s0 hr) (by omega) rfl (?_ : XW _ _ _ _ _ _ _ 5 _ _)
    refine xi_putI (by decide +kernel : decode mX6_pour.2.1 5 = .ok (.putfield 24, 3)) fX6_24 rfl (by omega) rfl rfl rfl (?_ : XW _ _ _ _ _ _ (xSI 43 (va_up (xI h 43) 0 (xI h r 0)) h) 8 _ _)
    refine xi_aload_n (by decide +kernel : decode mX6_pour.2.1 8 = .ok (.aload_n 0, 1)) rfl rfl (?_ : XW _ _ _ _ _ _ _ 9 _ _)
    refine xi_getR (y := 45) (by decide +kernel : decode mX6_pour.2.1 9 = .ok (.getfield 9, 3)) fX6_9 rfl (by omega) rfl hs.2.1 (?_ : XW _ _ _ _ _ _ _ 12 _ _)
    refine xi_lconst (v := 0) (by decide +kernel : decode mX6_pour.2.1 12 = .ok (.lconst 0, 1)) (by decide) (?_ : XW _ _ _ _ _ _ _ 13 _ _)
    refine xi_callS (b := 0) (bs := 0) (As := [.ref 45, .long 0]) (st := []) (by decide +kernel : decode mX6_pour.2.1 13 = .ok (.invokestatic 27, 3)) kX6_27 rfl rfl (s_fillJ n (xSI 43 (va_up (xI h 43) 0 (xI h r 0)) h) 45 101 rfl (by omega) (by decide) 0) (by decide) (by decide) (Nat.le_of_ble_eq_true rfl) (by omega) (fun v9 h9 hq9 => ?_)
    rw [hq9.1, hq9.2]
    show XW _ _ _ _ _ _ _ 16 _ []
    refine xi_aload_n (by decide +kernel : decode mX6_pour.2.1 16 = .ok (.aload_n 0, 1)) rfl rfl (?_ : XW _ _ _ _ _ _ _ 17 _ _)
    refine xi_getR (y := 45) (by decide +kernel : decode mX6_pour.2.1 17 = .ok (.getfield 9, 3)) fX6_9 rfl (by omega) rfl hs.2.1 (?_ : XW _ _ _ _ _ _ _ 20 _ _)
    refine xi_iload_n (by decide +kernel : decode mX6_pour.2.1 20 = .ok (.iload_n 2, 1)) rfl rfl (?_ : XW _ _ _ _ _ _ _ 21 _ _)
    refine xi_ldc2 (v := 1000000000) (by decide +kernel : decode mX6_pour.2.1 21 = .ok (.ldc2_w 33, 3)) cK_X6_33 (?_ : XW _ _ _ _ _ _ _ 24 _ _)
    refine xi_callS (b := 0) (bs := 0) (As := [.ref 45, .int sq, .long 1000000000]) (st := []) (by decide +kernel : decode mX6_pour.2.1 24 = .ok (.invokestatic 35, 3)) kX6_35 rfl rfl (s_X6_add n (xSL 45 (fl 101 0 (xL h 45)) (xSI 43 (va_up (xI h 43) 0 (xI h r 0)) h)) 45 rfl (by omega) sq 1000000000) (by decide) (by decide) (Nat.le_of_ble_eq_true rfl) (by omega) (fun v9 h9 hq9 => ?_)
    rw [hq9.1, hq9.2]
    show XW _ _ _ _ _ _ _ 27 _ []
    exact xi_vret (by decide +kernel : decode mX6_pour.2.1 27 = .ok (.return_, 1)) rfl vc
  · refine xi_aload_n (by decide +kernel : decode mX6_pour.2.1 0 = .ok (.aload_n 0, 1)) rfl rfl (?_ : XW _ _ _ _ _ _ _ 1 _ _)
    refine xi_aload_n (by decide +kernel : decode mX6_pour.2.1 1 = .ok (.aload_n 1, 1)) rfl rfl (?_ : XW _ _ _ _ _ _ _ 2 _ _)
    refine xi_getI (by decide +kernel : decode mX6_pour.2.1 2 = .ok (.getfield 18, 3)) fX6_18 (xRul_s0 hr) (by omega) rfl (?_ : XW _ _ _ _ _ _ _ 5 _ _)
    refine xi_putI (by decide +kernel : decode mX6_pour.2.1 5 = .ok (.putfield 24, 3)) fX6_24 rfl (by omega) rfl rfl rfl (?_ : XW _ _ _ _ _ _ (xSI 46 (va_up (xI h 46) 0 (xI h r 0)) h) 8 _ _)
    refine xi_aload_n (by decide +kernel : decode mX6_pour.2.1 8 = .ok (.aload_n 0, 1)) rfl rfl (?_ : XW _ _ _ _ _ _ _ 9 _ _)
    refine xi_getR (y := 47) (by decide +kernel : decode mX6_pour.2.1 9 = .ok (.getfield 9, 3)) fX6_9 rfl (by omega) rfl hs.2.1 (?_ : XW _ _ _ _ _ _ _ 12 _ _)
    refine xi_lconst (v := 0) (by decide +kernel : decode mX6_pour.2.1 12 = .ok (.lconst 0, 1)) (by decide) (?_ : XW _ _ _ _ _ _ _ 13 _ _)
    refine xi_callS (b := 0) (bs := 0) (As := [.ref 47, .long 0]) (st := []) (by decide +kernel : decode mX6_pour.2.1 13 = .ok (.invokestatic 27, 3)) kX6_27 rfl rfl (s_fillJ n (xSI 46 (va_up (xI h 46) 0 (xI h r 0)) h) 47 101 rfl (by omega) (by decide) 0) (by decide) (by decide) (Nat.le_of_ble_eq_true rfl) (by omega) (fun v9 h9 hq9 => ?_)
    rw [hq9.1, hq9.2]
    show XW _ _ _ _ _ _ _ 16 _ []
    refine xi_aload_n (by decide +kernel : decode mX6_pour.2.1 16 = .ok (.aload_n 0, 1)) rfl rfl (?_ : XW _ _ _ _ _ _ _ 17 _ _)
    refine xi_getR (y := 47) (by decide +kernel : decode mX6_pour.2.1 17 = .ok (.getfield 9, 3)) fX6_9 rfl (by omega) rfl hs.2.1 (?_ : XW _ _ _ _ _ _ _ 20 _ _)
    refine xi_iload_n (by decide +kernel : decode mX6_pour.2.1 20 = .ok (.iload_n 2, 1)) rfl rfl (?_ : XW _ _ _ _ _ _ _ 21 _ _)
    refine xi_ldc2 (v := 1000000000) (by decide +kernel : decode mX6_pour.2.1 21 = .ok (.ldc2_w 33, 3)) cK_X6_33 (?_ : XW _ _ _ _ _ _ _ 24 _ _)
    refine xi_callS (b := 0) (bs := 0) (As := [.ref 47, .int sq, .long 1000000000]) (st := []) (by decide +kernel : decode mX6_pour.2.1 24 = .ok (.invokestatic 35, 3)) kX6_35 rfl rfl (s_X6_add n (xSL 47 (fl 101 0 (xL h 47)) (xSI 46 (va_up (xI h 46) 0 (xI h r 0)) h)) 47 rfl (by omega) sq 1000000000) (by decide) (by decide) (Nat.le_of_ble_eq_true rfl) (by omega) (fun v9 h9 hq9 => ?_)
    rw [hq9.1, hq9.2]
    show XW _ _ _ _ _ _ _ 27 _ []
    exact xi_vret (by decide +kernel : decode mX6_pour.2.1 27 = .ok (.return_, 1)) rfl vc
  · refine xi_aload_n (by decide +kernel : decode mX6_pour.2.1 0 = .ok (.aload_n 0, 1)) rfl rfl (?_ : XW _ _ _ _ _ _ _ 1 _ _)
    refine xi_aload_n (by decide +kernel : decode mX6_pour.2.1 1 = .ok (.aload_n 1, 1)) rfl rfl (?_ : XW _ _ _ _ _ _ _ 2 _ _)
    refine xi_getI (by decide +kernel : decode mX6_pour.2.1 2 = .ok (.getfield 18, 3)) fX6_18 (xRul_s0 hr) (by omega) rfl (?_ : XW _ _ _ _ _ _ _ 5 _ _)
    refine xi_putI (by decide +kernel : decode mX6_pour.2.1 5 = .ok (.putfield 24, 3)) fX6_24 rfl (by omega) rfl rfl rfl (?_ : XW _ _ _ _ _ _ (xSI 46 (va_up (xI h 46) 0 (xI h r 0)) h) 8 _ _)
    refine xi_aload_n (by decide +kernel : decode mX6_pour.2.1 8 = .ok (.aload_n 0, 1)) rfl rfl (?_ : XW _ _ _ _ _ _ _ 9 _ _)
    refine xi_getR (y := 48) (by decide +kernel : decode mX6_pour.2.1 9 = .ok (.getfield 9, 3)) fX6_9 rfl (by omega) rfl hs.2.1 (?_ : XW _ _ _ _ _ _ _ 12 _ _)
    refine xi_lconst (v := 0) (by decide +kernel : decode mX6_pour.2.1 12 = .ok (.lconst 0, 1)) (by decide) (?_ : XW _ _ _ _ _ _ _ 13 _ _)
    refine xi_callS (b := 0) (bs := 0) (As := [.ref 48, .long 0]) (st := []) (by decide +kernel : decode mX6_pour.2.1 13 = .ok (.invokestatic 27, 3)) kX6_27 rfl rfl (s_fillJ n (xSI 46 (va_up (xI h 46) 0 (xI h r 0)) h) 48 101 rfl (by omega) (by decide) 0) (by decide) (by decide) (Nat.le_of_ble_eq_true rfl) (by omega) (fun v9 h9 hq9 => ?_)
    rw [hq9.1, hq9.2]
    show XW _ _ _ _ _ _ _ 16 _ []
    refine xi_aload_n (by decide +kernel : decode mX6_pour.2.1 16 = .ok (.aload_n 0, 1)) rfl rfl (?_ : XW _ _ _ _ _ _ _ 17 _ _)
    refine xi_getR (y := 48) (by decide +kernel : decode mX6_pour.2.1 17 = .ok (.getfield 9, 3)) fX6_9 rfl (by omega) rfl hs.2.1 (?_ : XW _ _ _ _ _ _ _ 20 _ _)
    refine xi_iload_n (by decide +kernel : decode mX6_pour.2.1 20 = .ok (.iload_n 2, 1)) rfl rfl (?_ : XW _ _ _ _ _ _ _ 21 _ _)
    refine xi_ldc2 (v := 1000000000) (by decide +kernel : decode mX6_pour.2.1 21 = .ok (.ldc2_w 33, 3)) cK_X6_33 (?_ : XW _ _ _ _ _ _ _ 24 _ _)
    refine xi_callS (b := 0) (bs := 0) (As := [.ref 48, .int sq, .long 1000000000]) (st := []) (by decide +kernel : decode mX6_pour.2.1 24 = .ok (.invokestatic 35, 3)) kX6_35 rfl rfl (s_X6_add n (xSL 48 (fl 101 0 (xL h 48)) (xSI 46 (va_up (xI h 46) 0 (xI h r 0)) h)) 48 rfl (by omega) sq 1000000000) (by decide) (by decide) (Nat.le_of_ble_eq_true rfl) (by omega) (fun v9 h9 hq9 => ?_)
    rw [hq9.1, hq9.2]
    show XW _ _ _ _ _ _ _ 27 _ []
    exact xi_vret (by decide +kernel : decode mX6_pour.2.1 27 = .ok (.return_, 1)) rfl vc

