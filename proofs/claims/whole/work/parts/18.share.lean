/-! SAND: sharing out -/
def pourL (sq : Int32) (F : Nat → Int64) : Nat → Int64 := wr (fl 101 0 F) 101 sq (fl 101 0 F sq.toNatClampNeg + 1000000000)
theorem s_X6_out (n : Nat) (h : XH) (sn ya za : Nat) (hs : xSnd sn ya za (xP h)) (hn : sn + 3 ≤ n) : XSpec mX6_out 2 0 0 n n [.ref sn] h (xq (some (.long (1000000000 - rd (xL h ya) 101 0 (xI h sn 0)))) h) xno :=
  XSpec.of rfl (by decide) (Nat.le_of_ble_eq_true rfl) rfl (v_X6_out_0 n sn ya za hs hn ⟨rfl, rfl⟩)
theorem s_X6_pour (n : Nat) (h : XH) (sn ya za : Nat) (hs : xSnd sn ya za (xP h)) (hn : sn + 3 ≤ n) (r : Nat) (hr : xRul r (xP h)) (hnr : r + 9 ≤ n) (sq : Int32) : XSpec mX6_pour 2 0 0 n n [.ref sn, .ref r, .int sq] h (xq none (xSL ya (pourL sq (xL h ya)) (xSI sn (va_up (xI h sn) 0 (xI h r 0)) h))) xno := by
  refine XSpec.of rfl (by decide) (Nat.le_of_ble_eq_true rfl) rfl (v_X6_pour_0 n sn ya za hs hn r hr hnr sq ⟨rfl, ?_⟩)
  rw [xSL_SL]
  rfl
set_option maxRecDepth 20000 in
theorem v_X6_shareOut_0 {h : XH} {Q : Option Value → XH → Prop} {X : String → XH → Prop} (n sn ya za : Nat) (hs : xSnd sn ya za (xP h)) (hn : sn + 3 ≤ n) (r : Nat) (hr : xRul r (xP h)) (hnr : r + 9 ≤ n) (a : Nat) (ha : xPth a (xP h)) (hna : a + 4 ≤ n)  (sq : Int32) (here : Int64)
    (vc : ((xI h r 1) ≤ 0 → Q none h) ∧ (¬ (xI h r 1) ≤ 0 → ((xI h r 2) ≤ 0 → Q none h) ∧ (¬ (xI h r 2) ≤ 0 → ((sq * 7) < 0 → Q none h) ∧ (¬ (sq * 7) < 0 → (((sq * 7) + 6) < 707 → XW (xrm 2 0 0) mX6_shareOut (xE n Q X 0 0) n 0 0 h 67 [some (.ref sn), none, some (.ref a), some (.int sq), some (.long here), none, some (.ref (r + 5)), some (.ref (a + 3)), some (.int (sq * 7)), some (.int (xI h r 1)), some (.int (xI h r 2)), some (.long here), none, some (.int ((xI h r 2) + 1)), none, none, none] []) ∧ (¬ ((sq * 7) + 6) < 707 → Q none h))))) :
    XW (xrm 2 0 0) mX6_shareOut (xE n Q X 0 0) n 0 0 h 0 [some (.ref sn), some (.ref r), some (.ref a), some (.int sq), some (.long here), none, none, none, none, none, none, none, none, none, none, none, none] [] := by
  rcases hs.1 with ⟨rfl, rfl, rfl⟩ | ⟨rfl, rfl, rfl⟩ | ⟨rfl, rfl, rfl⟩ | ⟨rfl, rfl, rfl⟩
  · refine xi_aload_n (by decide +kernel : decode mX6_shareOut.2.1 0 = .ok (.aload_n 1, 1)) rfl rfl (?_ : XW _ _ _ _ _ _ _ 1 _ _)
    refine xi_getR (y := r + 5) (by decide +kernel : decode mX6_shareOut.2.1 1 = .ok (.getfield 47, 3)) fX6_47 (xRul_s0 hr) (by omega) rfl hr.2.2.1 (?_ : XW _ _ _ _ _ _ _ 4 _ _)
    refine xi_astore (ls' := [some (.ref 43), some (.ref r), some (.ref a), some (.int sq), some (.long here), none, some (.ref (r + 5)), none, none, none, none, none, none, none, none, none, none]) (by decide +kernel : decode mX6_shareOut.2.1 4 = .ok (.astore 6, 2)) (by decide) rfl (?_ : XW _ _ _ _ _ _ _ 6 _ _)
    refine xi_aload_n (by decide +kernel : decode mX6_shareOut.2.1 6 = .ok (.aload_n 2, 1)) rfl rfl (?_ : XW _ _ _ _ _ _ _ 7 _ _)
    refine xi_getR (y := a + 3) (by decide +kernel : decode mX6_shareOut.2.1 7 = .ok (.getfield 51, 3)) fX6_51 (xPth_s0 ha) (by omega) rfl ha.2.2.2 (?_ : XW _ _ _ _ _ _ _ 10 _ _)
    refine xi_astore (ls' := [some (.ref 43), some (.ref r), some (.ref a), some (.int sq), some (.long here), none, some (.ref (r + 5)), some (.ref (a + 3)), none, none, none, none, none, none, none, none, none]) (by decide +kernel : decode mX6_shareOut.2.1 10 = .ok (.astore 7, 2)) (by decide) rfl (?_ : XW _ _ _ _ _ _ _ 12 _ _)
    refine xi_iload_n (by decide +kernel : decode mX6_shareOut.2.1 12 = .ok (.iload_n 3, 1)) rfl rfl (?_ : XW _ _ _ _ _ _ _ 13 _ _)
    refine xi_bipush (v := 7) (by decide +kernel : decode mX6_shareOut.2.1 13 = .ok (.bipush 7, 2)) (by decide) (?_ : XW _ _ _ _ _ _ _ 15 _ _)
    refine xi_imul (by decide +kernel : decode mX6_shareOut.2.1 15 = .ok (.imul, 1)) (?_ : XW _ _ _ _ _ _ _ 16 _ _)
    refine xi_istore (ls' := [some (.ref 43), some (.ref r), some (.ref a), some (.int sq), some (.long here), none, some (.ref (r + 5)), some (.ref (a + 3)), some (.int (sq * 7)), none, none, none, none, none, none, none, none]) (by decide +kernel : decode mX6_shareOut.2.1 16 = .ok (.istore 8, 2)) (by decide) rfl (?_ : XW _ _ _ _ _ _ _ 18 _ _)
    refine xi_aload_n (by decide +kernel : decode mX6_shareOut.2.1 18 = .ok (.aload_n 1, 1)) rfl rfl (?_ : XW _ _ _ _ _ _ _ 19 _ _)
    refine xi_getI (by decide +kernel : decode mX6_shareOut.2.1 19 = .ok (.getfield 56, 3)) fX6_56 (xRul_s0 hr) (by omega) rfl (?_ : XW _ _ _ _ _ _ _ 22 _ _)
    refine xi_istore (ls' := [some (.ref 43), some (.ref r), some (.ref a), some (.int sq), some (.long here), none, some (.ref (r + 5)), some (.ref (a + 3)), some (.int (sq * 7)), some (.int (xI h r 1)), none, none, none, none, none, none, none]) (by decide +kernel : decode mX6_shareOut.2.1 22 = .ok (.istore 9, 2)) (by decide) rfl (?_ : XW _ _ _ _ _ _ _ 24 _ _)
    refine xi_aload_n (by decide +kernel : decode mX6_shareOut.2.1 24 = .ok (.aload_n 1, 1)) rfl rfl (?_ : XW _ _ _ _ _ _ _ 25 _ _)
    refine xi_getI (by decide +kernel : decode mX6_shareOut.2.1 25 = .ok (.getfield 59, 3)) fX6_59 (xRul_s0 hr) (by omega) rfl (?_ : XW _ _ _ _ _ _ _ 28 _ _)
    refine xi_istore (ls' := [some (.ref 43), some (.ref r), some (.ref a), some (.int sq), some (.long here), none, some (.ref (r + 5)), some (.ref (a + 3)), some (.int (sq * 7)), some (.int (xI h r 1)), some (.int (xI h r 2)), none, none, none, none, none, none]) (by decide +kernel : decode mX6_shareOut.2.1 28 = .ok (.istore 10, 2)) (by decide) rfl (?_ : XW _ _ _ _ _ _ _ 30 _ _)
    refine xi_iload (by decide +kernel : decode mX6_shareOut.2.1 30 = .ok (.iload 9, 2)) rfl (?_ : XW _ _ _ _ _ _ _ 32 _ _)
    refine xi_if_le (by decide +kernel : decode mX6_shareOut.2.1 32 = .ok (.ifCond .le 24, 3)) (by decide) (fun c => (?_ : XW _ _ _ _ _ _ _ 56 _ _)) (fun c => (?_ : XW _ _ _ _ _ _ _ 35 _ _))
    · replace vc := vc.1 c
      exact xi_vret (by decide +kernel : decode mX6_shareOut.2.1 56 = .ok (.return_, 1)) rfl vc
    · replace vc := vc.2 c
      refine xi_iload (by decide +kernel : decode mX6_shareOut.2.1 35 = .ok (.iload 10, 2)) rfl (?_ : XW _ _ _ _ _ _ _ 37 _ _)
      refine xi_if_le (by decide +kernel : decode mX6_shareOut.2.1 37 = .ok (.ifCond .le 19, 3)) (by decide) (fun c => (?_ : XW _ _ _ _ _ _ _ 56 _ _)) (fun c => (?_ : XW _ _ _ _ _ _ _ 40 _ _))
      · replace vc := vc.1 c
        exact xi_vret (by decide +kernel : decode mX6_shareOut.2.1 56 = .ok (.return_, 1)) rfl vc
      · replace vc := vc.2 c
        refine xi_iload (by decide +kernel : decode mX6_shareOut.2.1 40 = .ok (.iload 8, 2)) rfl (?_ : XW _ _ _ _ _ _ _ 42 _ _)
        refine xi_if_lt (by decide +kernel : decode mX6_shareOut.2.1 42 = .ok (.ifCond .lt 14, 3)) (by decide) (fun c => (?_ : XW _ _ _ _ _ _ _ 56 _ _)) (fun c => (?_ : XW _ _ _ _ _ _ _ 45 _ _))
        · replace vc := vc.1 c
          exact xi_vret (by decide +kernel : decode mX6_shareOut.2.1 56 = .ok (.return_, 1)) rfl vc
        · replace vc := vc.2 c
          refine xi_iload (by decide +kernel : decode mX6_shareOut.2.1 45 = .ok (.iload 8, 2)) rfl (?_ : XW _ _ _ _ _ _ _ 47 _ _)
          refine xi_bipush (v := 6) (by decide +kernel : decode mX6_shareOut.2.1 47 = .ok (.bipush 6, 2)) (by decide) (?_ : XW _ _ _ _ _ _ _ 49 _ _)
          refine xi_iadd (by decide +kernel : decode mX6_shareOut.2.1 49 = .ok (.iadd, 1)) (?_ : XW _ _ _ _ _ _ _ 50 _ _)
          refine xi_aload (by decide +kernel : decode mX6_shareOut.2.1 50 = .ok (.aload 7, 2)) rfl (?_ : XW _ _ _ _ _ _ _ 52 _ _)
          refine xi_alen (v := 707) (by decide +kernel : decode mX6_shareOut.2.1 52 = .ok (.arraylength, 1)) (xPth_s3 ha) (by omega) (Or.inl rfl) rfl (?_ : XW _ _ _ _ _ _ _ 53 _ _)
          refine xi_icmp_lt (by decide +kernel : decode mX6_shareOut.2.1 53 = .ok (.if_icmp .lt 4, 3)) (by decide) (fun c => (?_ : XW _ _ _ _ _ _ _ 57 _ _)) (fun c => (?_ : XW _ _ _ _ _ _ _ 56 _ _))
          · replace vc := vc.1 c
            refine xi_lload (by decide +kernel : decode mX6_shareOut.2.1 57 = .ok (.lload 4, 2)) rfl (?_ : XW _ _ _ _ _ _ _ 59 _ _)
            refine xi_lstore (ls' := [some (.ref 43), some (.ref r), some (.ref a), some (.int sq), some (.long here), none, some (.ref (r + 5)), some (.ref (a + 3)), some (.int (sq * 7)), some (.int (xI h r 1)), some (.int (xI h r 2)), some (.long here), none, none, none, none, none]) (by decide +kernel : decode mX6_shareOut.2.1 59 = .ok (.lstore 11, 2)) (by decide) rfl (?_ : XW _ _ _ _ _ _ _ 61 _ _)
            refine xi_iload (by decide +kernel : decode mX6_shareOut.2.1 61 = .ok (.iload 10, 2)) rfl (?_ : XW _ _ _ _ _ _ _ 63 _ _)
            refine xi_iconst (v := 1) (by decide +kernel : decode mX6_shareOut.2.1 63 = .ok (.iconst 1, 1)) (by decide) (?_ : XW _ _ _ _ _ _ _ 64 _ _)
            refine xi_iadd (by decide +kernel : decode mX6_shareOut.2.1 64 = .ok (.iadd, 1)) (?_ : XW _ _ _ _ _ _ _ 65 _ _)
            refine xi_istore (ls' := [some (.ref 43), some (.ref r), some (.ref a), some (.int sq), some (.long here), none, some (.ref (r + 5)), some (.ref (a + 3)), some (.int (sq * 7)), some (.int (xI h r 1)), some (.int (xI h r 2)), some (.long here), none, some (.int ((xI h r 2) + 1)), none, none, none]) (by decide +kernel : decode mX6_shareOut.2.1 65 = .ok (.istore 13, 2)) (by decide) rfl (?_ : XW _ _ _ _ _ _ _ 67 _ _)
            refine xw_drop 1 (ls' := [some (.ref 43), none, some (.ref a), some (.int sq), some (.long here), none, some (.ref (r + 5)), some (.ref (a + 3)), some (.int (sq * 7)), some (.int (xI h r 1)), some (.int (xI h r 2)), some (.long here), none, some (.int ((xI h r 2) + 1)), none, none, none]) rfl ?_
            exact vc
          · replace vc := vc.2 c
            exact xi_vret (by decide +kernel : decode mX6_shareOut.2.1 56 = .ok (.return_, 1)) rfl vc
  · refine xi_aload_n (by decide +kernel : decode mX6_shareOut.2.1 0 = .ok (.aload_n 1, 1)) rfl rfl (?_ : XW _ _ _ _ _ _ _ 1 _ _)
    refine xi_getR (y := r + 5) (by decide +kernel : decode mX6_shareOut.2.1 1 = .ok (.getfield 47, 3)) fX6_47 (xRul_s0 hr) (by omega) rfl hr.2.2.1 (?_ : XW _ _ _ _ _ _ _ 4 _ _)
    refine xi_astore (ls' := [some (.ref 43), some (.ref r), some (.ref a), some (.int sq), some (.long here), none, some (.ref (r + 5)), none, none, none, none, none, none, none, none, none, none]) (by decide +kernel : decode mX6_shareOut.2.1 4 = .ok (.astore 6, 2)) (by decide) rfl (?_ : XW _ _ _ _ _ _ _ 6 _ _)
    refine xi_aload_n (by decide +kernel : decode mX6_shareOut.2.1 6 = .ok (.aload_n 2, 1)) rfl rfl (?_ : XW _ _ _ _ _ _ _ 7 _ _)
    refine xi_getR (y := a + 3) (by decide +kernel : decode mX6_shareOut.2.1 7 = .ok (.getfield 51, 3)) fX6_51 (xPth_s0 ha) (by omega) rfl ha.2.2.2 (?_ : XW _ _ _ _ _ _ _ 10 _ _)
    refine xi_astore (ls' := [some (.ref 43), some (.ref r), some (.ref a), some (.int sq), some (.long here), none, some (.ref (r + 5)), some (.ref (a + 3)), none, none, none, none, none, none, none, none, none]) (by decide +kernel : decode mX6_shareOut.2.1 10 = .ok (.astore 7, 2)) (by decide) rfl (?_ : XW _ _ _ _ _ _ _ 12 _ _)
    refine xi_iload_n (by decide +kernel : decode mX6_shareOut.2.1 12 = .ok (.iload_n 3, 1)) rfl rfl (?_ : XW _ _ _ _ _ _ _ 13 _ _)
    refine xi_bipush (v := 7) (by decide +kernel : decode mX6_shareOut.2.1 13 = .ok (.bipush 7, 2)) (by decide) (?_ : XW _ _ _ _ _ _ _ 15 _ _)
    refine xi_imul (by decide +kernel : decode mX6_shareOut.2.1 15 = .ok (.imul, 1)) (?_ : XW _ _ _ _ _ _ _ 16 _ _)
    refine xi_istore (ls' := [some (.ref 43), some (.ref r), some (.ref a), some (.int sq), some (.long here), none, some (.ref (r + 5)), some (.ref (a + 3)), some (.int (sq * 7)), none, none, none, none, none, none, none, none]) (by decide +kernel : decode mX6_shareOut.2.1 16 = .ok (.istore 8, 2)) (by decide) rfl (?_ : XW _ _ _ _ _ _ _ 18 _ _)
    refine xi_aload_n (by decide +kernel : decode mX6_shareOut.2.1 18 = .ok (.aload_n 1, 1)) rfl rfl (?_ : XW _ _ _ _ _ _ _ 19 _ _)
    refine xi_getI (by decide +kernel : decode mX6_shareOut.2.1 19 = .ok (.getfield 56, 3)) fX6_56 (xRul_s0 hr) (by omega) rfl (?_ : XW _ _ _ _ _ _ _ 22 _ _)
    refine xi_istore (ls' := [some (.ref 43), some (.ref r), some (.ref a), some (.int sq), some (.long here), none, some (.ref (r + 5)), some (.ref (a + 3)), some (.int (sq * 7)), some (.int (xI h r 1)), none, none, none, none, none, none, none]) (by decide +kernel : decode mX6_shareOut.2.1 22 = .ok (.istore 9, 2)) (by decide) rfl (?_ : XW _ _ _ _ _ _ _ 24 _ _)
    refine xi_aload_n (by decide +kernel : decode mX6_shareOut.2.1 24 = .ok (.aload_n 1, 1)) rfl rfl (?_ : XW _ _ _ _ _ _ _ 25 _ _)
    refine xi_getI (by decide +kernel : decode mX6_shareOut.2.1 25 = .ok (.getfield 59, 3)) fX6_59 (xRul_s0 hr) (by omega) rfl (?_ : XW _ _ _ _ _ _ _ 28 _ _)
    refine xi_istore (ls' := [some (.ref 43), some (.ref r), some (.ref a), some (.int sq), some (.long here), none, some (.ref (r + 5)), some (.ref (a + 3)), some (.int (sq * 7)), some (.int (xI h r 1)), some (.int (xI h r 2)), none, none, none, none, none, none]) (by decide +kernel : decode mX6_shareOut.2.1 28 = .ok (.istore 10, 2)) (by decide) rfl (?_ : XW _ _ _ _ _ _ _ 30 _ _)
    refine xi_iload (by decide +kernel : decode mX6_shareOut.2.1 30 = .ok (.iload 9, 2)) rfl (?_ : XW _ _ _ _ _ _ _ 32 _ _)
    refine xi_if_le (by decide +kernel : decode mX6_shareOut.2.1 32 = .ok (.ifCond .le 24, 3)) (by decide) (fun c => (?_ : XW _ _ _ _ _ _ _ 56 _ _)) (fun c => (?_ : XW _ _ _ _ _ _ _ 35 _ _))
    · replace vc := vc.1 c
      exact xi_vret (by decide +kernel : decode mX6_shareOut.2.1 56 = .ok (.return_, 1)) rfl vc
    · replace vc := vc.2 c
      refine xi_iload (by decide +kernel : decode mX6_shareOut.2.1 35 = .ok (.iload 10, 2)) rfl (?_ : XW _ _ _ _ _ _ _ 37 _ _)
      refine xi_if_le (by decide +kernel : decode mX6_shareOut.2.1 37 = .ok (.ifCond .le 19, 3)) (by decide) (fun c => (?_ : XW _ _ _ _ _ _ _ 56 _ _)) (fun c => (?_ : XW _ _ _ _ _ _ _ 40 _ _))
      · replace vc := vc.1 c
        exact xi_vret (by decide +kernel : decode mX6_shareOut.2.1 56 = .ok (.return_, 1)) rfl vc
      · replace vc := vc.2 c
        refine xi_iload (by decide +kernel : decode mX6_shareOut.2.1 40 = .ok (.iload 8, 2)) rfl (?_ : XW _ _ _ _ _ _ _ 42 _ _)
        refine xi_if_lt (by decide +kernel : decode mX6_shareOut.2.1 42 = .ok (.ifCond .lt 14, 3)) (by decide) (fun c => (?_ : XW _ _ _ _ _ _ _ 56 _ _)) (fun c => (?_ : XW _ _ _ _ _ _ _ 45 _ _))
        · replace vc := vc.1 c
          exact xi_vret (by decide +kernel : decode mX6_shareOut.2.1 56 = .ok (.return_, 1)) rfl vc
        · replace vc := vc.2 c
          refine xi_iload (by decide +kernel : decode mX6_shareOut.2.1 45 = .ok (.iload 8, 2)) rfl (?_ : XW _ _ _ _ _ _ _ 47 _ _)
          refine xi_bipush (v := 6) (by decide +kernel : decode mX6_shareOut.2.1 47 = .ok (.bipush 6, 2)) (by decide) (?_ : XW _ _ _ _ _ _ _ 49 _ _)
          refine xi_iadd (by decide +kernel : decode mX6_shareOut.2.1 49 = .ok (.iadd, 1)) (?_ : XW _ _ _ _ _ _ _ 50 _ _)
          refine xi_aload (by decide +kernel : decode mX6_shareOut.2.1 50 = .ok (.aload 7, 2)) rfl (?_ : XW _ _ _ _ _ _ _ 52 _ _)
          refine xi_alen (v := 707) (by decide +kernel : decode mX6_shareOut.2.1 52 = .ok (.arraylength, 1)) (xPth_s3 ha) (by omega) (Or.inl rfl) rfl (?_ : XW _ _ _ _ _ _ _ 53 _ _)
          refine xi_icmp_lt (by decide +kernel : decode mX6_shareOut.2.1 53 = .ok (.if_icmp .lt 4, 3)) (by decide) (fun c => (?_ : XW _ _ _ _ _ _ _ 57 _ _)) (fun c => (?_ : XW _ _ _ _ _ _ _ 56 _ _))
          · replace vc := vc.1 c
            refine xi_lload (by decide +kernel : decode mX6_shareOut.2.1 57 = .ok (.lload 4, 2)) rfl (?_ : XW _ _ _ _ _ _ _ 59 _ _)
            refine xi_lstore (ls' := [some (.ref 43), some (.ref r), some (.ref a), some (.int sq), some (.long here), none, some (.ref (r + 5)), some (.ref (a + 3)), some (.int (sq * 7)), some (.int (xI h r 1)), some (.int (xI h r 2)), some (.long here), none, none, none, none, none]) (by decide +kernel : decode mX6_shareOut.2.1 59 = .ok (.lstore 11, 2)) (by decide) rfl (?_ : XW _ _ _ _ _ _ _ 61 _ _)
            refine xi_iload (by decide +kernel : decode mX6_shareOut.2.1 61 = .ok (.iload 10, 2)) rfl (?_ : XW _ _ _ _ _ _ _ 63 _ _)
            refine xi_iconst (v := 1) (by decide +kernel : decode mX6_shareOut.2.1 63 = .ok (.iconst 1, 1)) (by decide) (?_ : XW _ _ _ _ _ _ _ 64 _ _)
            refine xi_iadd (by decide +kernel : decode mX6_shareOut.2.1 64 = .ok (.iadd, 1)) (?_ : XW _ _ _ _ _ _ _ 65 _ _)
            refine xi_istore (ls' := [some (.ref 43), some (.ref r), some (.ref a), some (.int sq), some (.long here), none, some (.ref (r + 5)), some (.ref (a + 3)), some (.int (sq * 7)), some (.int (xI h r 1)), some (.int (xI h r 2)), some (.long here), none, some (.int ((xI h r 2) + 1)), none, none, none]) (by decide +kernel : decode mX6_shareOut.2.1 65 = .ok (.istore 13, 2)) (by decide) rfl (?_ : XW _ _ _ _ _ _ _ 67 _ _)
            refine xw_drop 1 (ls' := [some (.ref 43), none, some (.ref a), some (.int sq), some (.long here), none, some (.ref (r + 5)), some (.ref (a + 3)), some (.int (sq * 7)), some (.int (xI h r 1)), some (.int (xI h r 2)), some (.long here), none, some (.int ((xI h r 2) + 1)), none, none, none]) rfl ?_
            exact vc
          · replace vc := vc.2 c
            exact xi_vret (by decide +kernel : decode mX6_shareOut.2.1 56 = .ok (.return_, 1)) rfl vc
  · refine xi_aload_n (by decide +kernel : decode mX6_shareOut.2.1 0 = .ok (.aload_n 1, 1)) rfl rfl (?_ : XW _ _ _ _ _ _ _ 1 _ _)
    refine xi_getR (y := r + 5) (by decide +kernel : decode mX6_shareOut.2.1 1 = .ok (.getfield 47, 3)) fX6_47 (xRul_s0 hr) (by omega) rfl hr.2.2.1 (?_ : XW _ _ _ _ _ _ _ 4 _ _)
    refine xi_astore (ls' := [some (.ref 46), some (.ref r), some (.ref a), some (.int sq), some (.long here), none, some (.ref (r + 5)), none, none, none, none, none, none, none, none, none, none]) (by decide +kernel : decode mX6_shareOut.2.1 4 = .ok (.astore 6, 2)) (by decide) rfl (?_ : XW _ _ _ _ _ _ _ 6 _ _)
    refine xi_aload_n (by decide +kernel : decode mX6_shareOut.2.1 6 = .ok (.aload_n 2, 1)) rfl rfl (?_ : XW _ _ _ _ _ _ _ 7 _ _)
    refine xi_getR (y := a + 3) (by decide +kernel : decode mX6_shareOut.2.1 7 = .ok (.getfield 51, 3)) fX6_51 (xPth_s0 ha) (by omega) rfl ha.2.2.2 (?_ : XW _ _ _ _ _ _ _ 10 _ _)
    refine xi_astore (ls' := [some (.ref 46), some (.ref r), some (.ref a), some (.int sq), some (.long here), none, some (.ref (r + 5)), some (.ref (a + 3)), none, none, none, none, none, none, none, none, none]) (by decide +kernel : decode mX6_shareOut.2.1 10 = .ok (.astore 7, 2)) (by decide) rfl (?_ : XW _ _ _ _ _ _ _ 12 _ _)
    refine xi_iload_n (by decide +kernel : decode mX6_shareOut.2.1 12 = .ok (.iload_n 3, 1)) rfl rfl (?_ : XW _ _ _ _ _ _ _ 13 _ _)
    refine xi_bipush (v := 7) (by decide +kernel : decode mX6_shareOut.2.1 13 = .ok (.bipush 7, 2)) (by decide) (?_ : XW _ _ _ _ _ _ _ 15 _ _)
    refine xi_imul (by decide +kernel : decode mX6_shareOut.2.1 15 = .ok (.imul, 1)) (?_ : XW _ _ _ _ _ _ _ 16 _ _)
    refine xi_istore (ls' := [some (.ref 46), some (.ref r), some (.ref a), some (.int sq), some (.long here), none, some (.ref (r + 5)), some (.ref (a + 3)), some (.int (sq * 7)), none, none, none, none, none, none, none, none]) (by decide +kernel : decode mX6_shareOut.2.1 16 = .ok (.istore 8, 2)) (by decide) rfl (?_ : XW _ _ _ _ _ _ _ 18 _ _)
    refine xi_aload_n (by decide +kernel : decode mX6_shareOut.2.1 18 = .ok (.aload_n 1, 1)) rfl rfl (?_ : XW _ _ _ _ _ _ _ 19 _ _)
    refine xi_getI (by decide +kernel : decode mX6_shareOut.2.1 19 = .ok (.getfield 56, 3)) fX6_56 (xRul_s0 hr) (by omega) rfl (?_ : XW _ _ _ _ _ _ _ 22 _ _)
    refine xi_istore (ls' := [some (.ref 46), some (.ref r), some (.ref a), some (.int sq), some (.long here), none, some (.ref (r + 5)), some (.ref (a + 3)), some (.int (sq * 7)), some (.int (xI h r 1)), none, none, none, none, none, none, none]) (by decide +kernel : decode mX6_shareOut.2.1 22 = .ok (.istore 9, 2)) (by decide) rfl (?_ : XW _ _ _ _ _ _ _ 24 _ _)
    refine xi_aload_n (by decide +kernel : decode mX6_shareOut.2.1 24 = .ok (.aload_n 1, 1)) rfl rfl (?_ : XW _ _ _ _ _ _ _ 25 _ _)
    refine xi_getI (by decide +kernel : decode mX6_shareOut.2.1 25 = .ok (.getfield 59, 3)) fX6_59 (xRul_s0 hr) (by omega) rfl (?_ : XW _ _ _ _ _ _ _ 28 _ _)
    refine xi_istore (ls' := [some (.ref 46), some (.ref r), some (.ref a), some (.int sq), some (.long here), none, some (.ref (r + 5)), some (.ref (a + 3)), some (.int (sq * 7)), some (.int (xI h r 1)), some (.int (xI h r 2)), none, none, none, none, none, none]) (by decide +kernel : decode mX6_shareOut.2.1 28 = .ok (.istore 10, 2)) (by decide) rfl (?_ : XW _ _ _ _ _ _ _ 30 _ _)
    refine xi_iload (by decide +kernel : decode mX6_shareOut.2.1 30 = .ok (.iload 9, 2)) rfl (?_ : XW _ _ _ _ _ _ _ 32 _ _)
    refine xi_if_le (by decide +kernel : decode mX6_shareOut.2.1 32 = .ok (.ifCond .le 24, 3)) (by decide) (fun c => (?_ : XW _ _ _ _ _ _ _ 56 _ _)) (fun c => (?_ : XW _ _ _ _ _ _ _ 35 _ _))
    · replace vc := vc.1 c
      exact xi_vret (by decide +kernel : decode mX6_shareOut.2.1 56 = .ok (.return_, 1)) rfl vc
    · replace vc := vc.2 c
      refine xi_iload (by decide +kernel : decode mX6_shareOut.2.1 35 = .ok (.iload 10, 2)) rfl (?_ : XW _ _ _ _ _ _ _ 37 _ _)
      refine xi_if_le (by decide +kernel : decode mX6_shareOut.2.1 37 = .ok (.ifCond .le 19, 3)) (by decide) (fun c => (?_ : XW _ _ _ _ _ _ _ 56 _ _)) (fun c => (?_ : XW _ _ _ _ _ _ _ 40 _ _))
      · replace vc := vc.1 c
        exact xi_vret (by decide +kernel : decode mX6_shareOut.2.1 56 = .ok (.return_, 1)) rfl vc
      · replace vc := vc.2 c
        refine xi_iload (by decide +kernel : decode mX6_shareOut.2.1 40 = .ok (.iload 8, 2)) rfl (?_ : XW _ _ _ _ _ _ _ 42 _ _)
        refine xi_if_lt (by decide +kernel : decode mX6_shareOut.2.1 42 = .ok (.ifCond .lt 14, 3)) (by decide) (fun c => (?_ : XW _ _ _ _ _ _ _ 56 _ _)) (fun c => (?_ : XW _ _ _ _ _ _ _ 45 _ _))
        · replace vc := vc.1 c
          exact xi_vret (by decide +kernel : decode mX6_shareOut.2.1 56 = .ok (.return_, 1)) rfl vc
        · replace vc := vc.2 c
          refine xi_iload (by decide +kernel : decode mX6_shareOut.2.1 45 = .ok (.iload 8, 2)) rfl (?_ : XW _ _ _ _ _ _ _ 47 _ _)
          refine xi_bipush (v := 6) (by decide +kernel : decode mX6_shareOut.2.1 47 = .ok (.bipush 6, 2)) (by decide) (?_ : XW _ _ _ _ _ _ _ 49 _ _)
          refine xi_iadd (by decide +kernel : decode mX6_shareOut.2.1 49 = .ok (.iadd, 1)) (?_ : XW _ _ _ _ _ _ _ 50 _ _)
          refine xi_aload (by decide +kernel : decode mX6_shareOut.2.1 50 = .ok (.aload 7, 2)) rfl (?_ : XW _ _ _ _ _ _ _ 52 _ _)
          refine xi_alen (v := 707) (by decide +kernel : decode mX6_shareOut.2.1 52 = .ok (.arraylength, 1)) (xPth_s3 ha) (by omega) (Or.inl rfl) rfl (?_ : XW _ _ _ _ _ _ _ 53 _ _)
          refine xi_icmp_lt (by decide +kernel : decode mX6_shareOut.2.1 53 = .ok (.if_icmp .lt 4, 3)) (by decide) (fun c => (?_ : XW _ _ _ _ _ _ _ 57 _ _)) (fun c => (?_ : XW _ _ _ _ _ _ _ 56 _ _))
          · replace vc := vc.1 c
            refine xi_lload (by decide +kernel : decode mX6_shareOut.2.1 57 = .ok (.lload 4, 2)) rfl (?_ : XW _ _ _ _ _ _ _ 59 _ _)
            refine xi_lstore (ls' := [some (.ref 46), some (.ref r), some (.ref a), some (.int sq), some (.long here), none, some (.ref (r + 5)), some (.ref (a + 3)), some (.int (sq * 7)), some (.int (xI h r 1)), some (.int (xI h r 2)), some (.long here), none, none, none, none, none]) (by decide +kernel : decode mX6_shareOut.2.1 59 = .ok (.lstore 11, 2)) (by decide) rfl (?_ : XW _ _ _ _ _ _ _ 61 _ _)
            refine xi_iload (by decide +kernel : decode mX6_shareOut.2.1 61 = .ok (.iload 10, 2)) rfl (?_ : XW _ _ _ _ _ _ _ 63 _ _)
            refine xi_iconst (v := 1) (by decide +kernel : decode mX6_shareOut.2.1 63 = .ok (.iconst 1, 1)) (by decide) (?_ : XW _ _ _ _ _ _ _ 64 _ _)
            refine xi_iadd (by decide +kernel : decode mX6_shareOut.2.1 64 = .ok (.iadd, 1)) (?_ : XW _ _ _ _ _ _ _ 65 _ _)
            refine xi_istore (ls' := [some (.ref 46), some (.ref r), some (.ref a), some (.int sq), some (.long here), none, some (.ref (r + 5)), some (.ref (a + 3)), some (.int (sq * 7)), some (.int (xI h r 1)), some (.int (xI h r 2)), some (.long here), none, some (.int ((xI h r 2) + 1)), none, none, none]) (by decide +kernel : decode mX6_shareOut.2.1 65 = .ok (.istore 13, 2)) (by decide) rfl (?_ : XW _ _ _ _ _ _ _ 67 _ _)
            refine xw_drop 1 (ls' := [some (.ref 46), none, some (.ref a), some (.int sq), some (.long here), none, some (.ref (r + 5)), some (.ref (a + 3)), some (.int (sq * 7)), some (.int (xI h r 1)), some (.int (xI h r 2)), some (.long here), none, some (.int ((xI h r 2) + 1)), none, none, none]) rfl ?_
            exact vc
          · replace vc := vc.2 c
            exact xi_vret (by decide +kernel : decode mX6_shareOut.2.1 56 = .ok (.return_, 1)) rfl vc
  · refine xi_aload_n (by decide +kernel : decode mX6_shareOut.2.1 0 = .ok (.aload_n 1, 1)) rfl rfl (?_ : XW _ _ _ _ _ _ _ 1 _ _)
    refine xi_getR (y := r + 5) (by decide +kernel : decode mX6_shareOut.2.1 1 = .ok (.getfield 47, 3)) fX6_47 (xRul_s0 hr) (by omega) rfl hr.2.2.1 (?_ : XW _ _ _ _ _ _ _ 4 _ _)
    refine xi_astore (ls' := [some (.ref 46), some (.ref r), some (.ref a), some (.int sq), some (.long here), none, some (.ref (r + 5)), none, none, none, none, none, none, none, none, none, none]) (by decide +kernel : decode mX6_shareOut.2.1 4 = .ok (.astore 6, 2)) (by decide) rfl (?_ : XW _ _ _ _ _ _ _ 6 _ _)
    refine xi_aload_n (by decide +kernel : decode mX6_shareOut.2.1 6 = .ok (.aload_n 2, 1)) rfl rfl (?_ : XW _ _ _ _ _ _ _ 7 _ _)
    refine xi_getR (y := a + 3) (by decide +kernel : decode mX6_shareOut.2.1 7 = .ok (.getfield 51, 3)) fX6_51 (xPth_s0 ha) (by omega) rfl ha.2.2.2 (?_ : XW _ _ _ _ _ _ _ 10 _ _)
    refine xi_astore (ls' := [some (.ref 46), some (.ref r), some (.ref a), some (.int sq), some (.long here), none, some (.ref (r + 5)), some (.ref (a + 3)), none, none, none, none, none, none, none, none, none]) (by decide +kernel : decode mX6_shareOut.2.1 10 = .ok (.astore 7, 2)) (by decide) rfl (?_ : XW _ _ _ _ _ _ _ 12 _ _)
    refine xi_iload_n (by decide +kernel : decode mX6_shareOut.2.1 12 = .ok (.iload_n 3, 1)) rfl rfl (?_ : XW _ _ _ _ _ _ _ 13 _ _)
    refine xi_bipush (v := 7) (by decide +kernel : decode mX6_shareOut.2.1 13 = .ok (.bipush 7, 2)) (by decide) (?_ : XW _ _ _ _ _ _ _ 15 _ _)
    refine xi_imul (by decide +kernel : decode mX6_shareOut.2.1 15 = .ok (.imul, 1)) (?_ : XW _ _ _ _ _ _ _ 16 _ _)
    refine xi_istore (ls' := [some (.ref 46), some (.ref r), some (.ref a), some (.int sq), some (.long here), none, some (.ref (r + 5)), some (.ref (a + 3)), some (.int (sq * 7)), none, none, none, none, none, none, none, none]) (by decide +kernel : decode mX6_shareOut.2.1 16 = .ok (.istore 8, 2)) (by decide) rfl (?_ : XW _ _ _ _ _ _ _ 18 _ _)
    refine xi_aload_n (by decide +kernel : decode mX6_shareOut.2.1 18 = .ok (.aload_n 1, 1)) rfl rfl (?_ : XW _ _ _ _ _ _ _ 19 _ _)
    refine xi_getI (by decide +kernel : decode mX6_shareOut.2.1 19 = .ok (.getfield 56, 3)) fX6_56 (xRul_s0 hr) (by omega) rfl (?_ : XW _ _ _ _ _ _ _ 22 _ _)
    refine xi_istore (ls' := [some (.ref 46), some (.ref r), some (.ref a), some (.int sq), some (.long here), none, some (.ref (r + 5)), some (.ref (a + 3)), some (.int (sq * 7)), some (.int (xI h r 1)), none, none, none, none, none, none, none]) (by decide +kernel : decode mX6_shareOut.2.1 22 = .ok (.istore 9, 2)) (by decide) rfl (?_ : XW _ _ _ _ _ _ _ 24 _ _)
    refine xi_aload_n (by decide +kernel : decode mX6_shareOut.2.1 24 = .ok (.aload_n 1, 1)) rfl rfl (?_ : XW _ _ _ _ _ _ _ 25 _ _)
    refine xi_getI (by decide +kernel : decode mX6_shareOut.2.1 25 = .ok (.getfield 59, 3)) fX6_59 (xRul_s0 hr) (by omega) rfl (?_ : XW _ _ _ _ _ _ _ 28 _ _)
    refine xi_istore (ls' := [some (.ref 46), some (.ref r), some (.ref a), some (.int sq), some (.long here), none, some (.ref (r + 5)), some (.ref (a + 3)), some (.int (sq * 7)), some (.int (xI h r 1)), some (.int (xI h r 2)), none, none, none, none, none, none]) (by decide +kernel : decode mX6_shareOut.2.1 28 = .ok (.istore 10, 2)) (by decide) rfl (?_ : XW _ _ _ _ _ _ _ 30 _ _)
    refine xi_iload (by decide +kernel : decode mX6_shareOut.2.1 30 = .ok (.iload 9, 2)) rfl (?_ : XW _ _ _ _ _ _ _ 32 _ _)
    refine xi_if_le (by decide +kernel : decode mX6_shareOut.2.1 32 = .ok (.ifCond .le 24, 3)) (by decide) (fun c => (?_ : XW _ _ _ _ _ _ _ 56 _ _)) (fun c => (?_ : XW _ _ _ _ _ _ _ 35 _ _))
    · replace vc := vc.1 c
      exact xi_vret (by decide +kernel : decode mX6_shareOut.2.1 56 = .ok (.return_, 1)) rfl vc
    · replace vc := vc.2 c
      refine xi_iload (by decide +kernel : decode mX6_shareOut.2.1 35 = .ok (.iload 10, 2)) rfl (?_ : XW _ _ _ _ _ _ _ 37 _ _)
      refine xi_if_le (by decide +kernel : decode mX6_shareOut.2.1 37 = .ok (.ifCond .le 19, 3)) (by decide) (fun c => (?_ : XW _ _ _ _ _ _ _ 56 _ _)) (fun c => (?_ : XW _ _ _ _ _ _ _ 40 _ _))
      · replace vc := vc.1 c
        exact xi_vret (by decide +kernel : decode mX6_shareOut.2.1 56 = .ok (.return_, 1)) rfl vc
      · replace vc := vc.2 c
        refine xi_iload (by decide +kernel : decode mX6_shareOut.2.1 40 = .ok (.iload 8, 2)) rfl (?_ : XW _ _ _ _ _ _ _ 42 _ _)
        refine xi_if_lt (by decide +kernel : decode mX6_shareOut.2.1 42 = .ok (.ifCond .lt 14, 3)) (by decide) (fun c => (?_ : XW _ _ _ _ _ _ _ 56 _ _)) (fun c => (?_ : XW _ _ _ _ _ _ _ 45 _ _))
        · replace vc := vc.1 c
          exact xi_vret (by decide +kernel : decode mX6_shareOut.2.1 56 = .ok (.return_, 1)) rfl vc
        · replace vc := vc.2 c
          refine xi_iload (by decide +kernel : decode mX6_shareOut.2.1 45 = .ok (.iload 8, 2)) rfl (?_ : XW _ _ _ _ _ _ _ 47 _ _)
          refine xi_bipush (v := 6) (by decide +kernel : decode mX6_shareOut.2.1 47 = .ok (.bipush 6, 2)) (by decide) (?_ : XW _ _ _ _ _ _ _ 49 _ _)
          refine xi_iadd (by decide +kernel : decode mX6_shareOut.2.1 49 = .ok (.iadd, 1)) (?_ : XW _ _ _ _ _ _ _ 50 _ _)
          refine xi_aload (by decide +kernel : decode mX6_shareOut.2.1 50 = .ok (.aload 7, 2)) rfl (?_ : XW _ _ _ _ _ _ _ 52 _ _)
          refine xi_alen (v := 707) (by decide +kernel : decode mX6_shareOut.2.1 52 = .ok (.arraylength, 1)) (xPth_s3 ha) (by omega) (Or.inl rfl) rfl (?_ : XW _ _ _ _ _ _ _ 53 _ _)
          refine xi_icmp_lt (by decide +kernel : decode mX6_shareOut.2.1 53 = .ok (.if_icmp .lt 4, 3)) (by decide) (fun c => (?_ : XW _ _ _ _ _ _ _ 57 _ _)) (fun c => (?_ : XW _ _ _ _ _ _ _ 56 _ _))
          · replace vc := vc.1 c
            refine xi_lload (by decide +kernel : decode mX6_shareOut.2.1 57 = .ok (.lload 4, 2)) rfl (?_ : XW _ _ _ _ _ _ _ 59 _ _)
            refine xi_lstore (ls' := [some (.ref 46), some (.ref r), some (.ref a), some (.int sq), some (.long here), none, some (.ref (r + 5)), some (.ref (a + 3)), some (.int (sq * 7)), some (.int (xI h r 1)), some (.int (xI h r 2)), some (.long here), none, none, none, none, none]) (by decide +kernel : decode mX6_shareOut.2.1 59 = .ok (.lstore 11, 2)) (by decide) rfl (?_ : XW _ _ _ _ _ _ _ 61 _ _)
            refine xi_iload (by decide +kernel : decode mX6_shareOut.2.1 61 = .ok (.iload 10, 2)) rfl (?_ : XW _ _ _ _ _ _ _ 63 _ _)
            refine xi_iconst (v := 1) (by decide +kernel : decode mX6_shareOut.2.1 63 = .ok (.iconst 1, 1)) (by decide) (?_ : XW _ _ _ _ _ _ _ 64 _ _)
            refine xi_iadd (by decide +kernel : decode mX6_shareOut.2.1 64 = .ok (.iadd, 1)) (?_ : XW _ _ _ _ _ _ _ 65 _ _)
            refine xi_istore (ls' := [some (.ref 46), some (.ref r), some (.ref a), some (.int sq), some (.long here), none, some (.ref (r + 5)), some (.ref (a + 3)), some (.int (sq * 7)), some (.int (xI h r 1)), some (.int (xI h r 2)), some (.long here), none, some (.int ((xI h r 2) + 1)), none, none, none]) (by decide +kernel : decode mX6_shareOut.2.1 65 = .ok (.istore 13, 2)) (by decide) rfl (?_ : XW _ _ _ _ _ _ _ 67 _ _)
            refine xw_drop 1 (ls' := [some (.ref 46), none, some (.ref a), some (.int sq), some (.long here), none, some (.ref (r + 5)), some (.ref (a + 3)), some (.int (sq * 7)), some (.int (xI h r 1)), some (.int (xI h r 2)), some (.long here), none, some (.int ((xI h r 2) + 1)), none, none, none]) rfl ?_
            exact vc
          · replace vc := vc.2 c
            exact xi_vret (by decide +kernel : decode mX6_shareOut.2.1 56 = .ok (.return_, 1)) rfl vc

set_option maxRecDepth 20000 in
theorem v_X6_shareOut_67 {h : XH} {Q : Option Value → XH → Prop} {X : String → XH → Prop} (n sn ya za : Nat) (hs : xSnd sn ya za (xP h)) (hn : sn + 3 ≤ n) (r : Nat) (hr : xRul r (xP h)) (hnr : r + 9 ≤ n) (a : Nat) (ha : xPth a (xP h)) (hna : a + 4 ≤ n)  (x3 : Int32) (x4 : Int64) (x8 : Int32) (x9 : Int32) (x10 : Int32) (x11 : Int64) (x13 : Int32)
    (vc : (6 < x13 → Q none (xSL za (wr (xL h za) 101 (rd (xI h (a + 3)) 707 0 (x3 * 7 + x10)) ((xL h za) (rd (xI h (a + 3)) 707 0 (x3 * 7 + x10)).toNatClampNeg + x11)) h)) ∧ (¬ 6 < x13 → (7 ≤ x13 → Q none (xSL za (wr (xL h za) 101 (rd (xI h (a + 3)) 707 0 (x3 * 7 + x10)) ((xL h za) (rd (xI h (a + 3)) 707 0 (x3 * 7 + x10)).toNatClampNeg + x11)) h)) ∧ (¬ 7 ≤ x13 → (vp_in (x8 + x13) 707) ∧ ((vp_in x13 7) ∧ (((xI h (r + 5) x13.toNatClampNeg) = 0 → XW (xrm 2 0 0) mX6_shareOut (xE n Q X 0 0) n 0 0 h 67 [some (.ref sn), none, some (.ref a), some (.int x3), some (.long x4), none, some (.ref (r + 5)), some (.ref (a + 3)), some (.int x8), some (.int x9), some (.int x10), some (.long x11), none, some (.int (x13 + 1)), none, none, none] []) ∧ (¬ (xI h (r + 5) x13.toNatClampNeg) = 0 → ((xI h (a + 3) (x8 + x13).toNatClampNeg) < 0 → XW (xrm 2 0 0) mX6_shareOut (xE n Q X 0 0) n 0 0 h 67 [some (.ref sn), none, some (.ref a), some (.int x3), some (.long x4), none, some (.ref (r + 5)), some (.ref (a + 3)), some (.int x8), some (.int x9), some (.int x10), some (.long x11), none, some (.int (x13 + 1)), none, none, none] []) ∧ (¬ (xI h (a + 3) (x8 + x13).toNatClampNeg) < 0 → (101 ≤ (xI h (a + 3) (x8 + x13).toNatClampNeg) → XW (xrm 2 0 0) mX6_shareOut (xE n Q X 0 0) n 0 0 h 67 [some (.ref sn), none, some (.ref a), some (.int x3), some (.long x4), none, some (.ref (r + 5)), some (.ref (a + 3)), some (.int x8), some (.int x9), some (.int x10), some (.long x11), none, some (.int (x13 + 1)), none, none, none] []) ∧ (¬ 101 ≤ (xI h (a + 3) (x8 + x13).toNatClampNeg) → (vp_in x13 7) ∧ ((¬ (Int32.toInt64 x9) = 0) ∧ ((vp_in (xI h (a + 3) (x8 + x13).toNatClampNeg) 101) ∧ ((vp_in (xI h (a + 3) (x8 + x13).toNatClampNeg) 101) ∧ (XW (xrm 2 0 0) mX6_shareOut (xE n Q X 0 0) n 0 0 (xSL za (va_up (xL h za) (xI h (a + 3) (x8 + x13).toNatClampNeg).toNatClampNeg ((xL h za (xI h (a + 3) (x8 + x13).toNatClampNeg).toNatClampNeg) + ((x4 * (Int32.toInt64 (xI h (r + 5) x13.toNatClampNeg))) / (Int32.toInt64 x9)))) h) 67 [some (.ref sn), none, some (.ref a), some (.int x3), some (.long x4), none, some (.ref (r + 5)), some (.ref (a + 3)), some (.int x8), some (.int x9), some (.int x10), some (.long (x11 - ((x4 * (Int32.toInt64 (xI h (r + 5) x13.toNatClampNeg))) / (Int32.toInt64 x9)))), none, some (.int (x13 + 1)), none, none, none] [])))))))))))) :
    XW (xrm 2 0 0) mX6_shareOut (xE n Q X 0 0) n 0 0 h 67 [some (.ref sn), none, some (.ref a), some (.int x3), some (.long x4), none, some (.ref (r + 5)), some (.ref (a + 3)), some (.int x8), some (.int x9), some (.int x10), some (.long x11), none, some (.int x13), none, none, none] [] := by
  rcases hs.1 with ⟨rfl, rfl, rfl⟩ | ⟨rfl, rfl, rfl⟩ | ⟨rfl, rfl, rfl⟩ | ⟨rfl, rfl, rfl⟩
  · refine xi_iload (by decide +kernel : decode mX6_shareOut.2.1 67 = .ok (.iload 13, 2)) rfl (?_ : XW _ _ _ _ _ _ _ 69 _ _)
    refine xi_bipush (v := 6) (by decide +kernel : decode mX6_shareOut.2.1 69 = .ok (.bipush 6, 2)) (by decide) (?_ : XW _ _ _ _ _ _ _ 71 _ _)
    refine xi_icmp_gt (by decide +kernel : decode mX6_shareOut.2.1 71 = .ok (.if_icmp .gt 84, 3)) (by decide) (fun c => (?_ : XW _ _ _ _ _ _ _ 155 _ _)) (fun c => (?_ : XW _ _ _ _ _ _ _ 74 _ _))
    · replace vc := vc.1 c
      refine xi_aload_n (by decide +kernel : decode mX6_shareOut.2.1 155 = .ok (.aload_n 0, 1)) rfl rfl (?_ : XW _ _ _ _ _ _ _ 156 _ _)
      refine xi_getR (y := 45) (by decide +kernel : decode mX6_shareOut.2.1 156 = .ok (.getfield 15, 3)) fX6_15 rfl (by omega) rfl hs.2.2 (?_ : XW _ _ _ _ _ _ _ 159 _ _)
      refine xi_aload_n (by decide +kernel : decode mX6_shareOut.2.1 159 = .ok (.aload_n 2, 1)) rfl rfl (?_ : XW _ _ _ _ _ _ _ 160 _ _)
      refine xi_iload_n (by decide +kernel : decode mX6_shareOut.2.1 160 = .ok (.iload_n 3, 1)) rfl rfl (?_ : XW _ _ _ _ _ _ _ 161 _ _)
      refine xi_iload (by decide +kernel : decode mX6_shareOut.2.1 161 = .ok (.iload 10, 2)) rfl (?_ : XW _ _ _ _ _ _ _ 163 _ _)
      refine xi_callV (b := 0) (bs := 0) (As := [.int x3, .int x10]) (st := [.ref 45]) (by decide +kernel : decode mX6_shareOut.2.1 163 = .ok (.invokevirtual 62, 3)) kX6_62 rfl (xPth_s0 ha) (by omega) rfl (s_X3_to n h a ha (by omega) x3 x10) (by decide) (by decide) (Nat.le_of_ble_eq_true rfl) (by omega) (fun v9 h9 hq9 => ?_)
      rw [hq9.1, hq9.2]
      show XW _ _ _ _ _ _ _ 166 _ [.int (rd (xI h (a + 3)) 707 0 (x3 * 7 + x10)), .ref 45]
      refine xi_lload (by decide +kernel : decode mX6_shareOut.2.1 166 = .ok (.lload 11, 2)) rfl (?_ : XW _ _ _ _ _ _ _ 168 _ _)
      refine xi_callS (b := 0) (bs := 0) (As := [.ref 45, .int (rd (xI h (a + 3)) 707 0 (x3 * 7 + x10)), .long x11]) (st := []) (by decide +kernel : decode mX6_shareOut.2.1 168 = .ok (.invokestatic 35, 3)) kX6_35 rfl rfl (s_X6_add n h 45 rfl (by omega) (rd (xI h (a + 3)) 707 0 (x3 * 7 + x10)) x11) (by decide) (by decide) (Nat.le_of_ble_eq_true rfl) (by omega) (fun v9 h9 hq9 => ?_)
      rw [hq9.1, hq9.2]
      show XW _ _ _ _ _ _ _ 171 _ []
      exact xi_vret (by decide +kernel : decode mX6_shareOut.2.1 171 = .ok (.return_, 1)) rfl vc
    · replace vc := vc.2 c
      refine xi_iload (by decide +kernel : decode mX6_shareOut.2.1 74 = .ok (.iload 13, 2)) rfl (?_ : XW _ _ _ _ _ _ _ 76 _ _)
      refine xi_aload (by decide +kernel : decode mX6_shareOut.2.1 76 = .ok (.aload 6, 2)) rfl (?_ : XW _ _ _ _ _ _ _ 78 _ _)
      refine xi_alen (v := 7) (by decide +kernel : decode mX6_shareOut.2.1 78 = .ok (.arraylength, 1)) (xRul_s5 hr) (by omega) (Or.inl rfl) rfl (?_ : XW _ _ _ _ _ _ _ 79 _ _)
      refine xi_icmp_ge (by decide +kernel : decode mX6_shareOut.2.1 79 = .ok (.if_icmp .ge 76, 3)) (by decide) (fun c => (?_ : XW _ _ _ _ _ _ _ 155 _ _)) (fun c => (?_ : XW _ _ _ _ _ _ _ 82 _ _))
      · replace vc := vc.1 c
        refine xi_aload_n (by decide +kernel : decode mX6_shareOut.2.1 155 = .ok (.aload_n 0, 1)) rfl rfl (?_ : XW _ _ _ _ _ _ _ 156 _ _)
        refine xi_getR (y := 45) (by decide +kernel : decode mX6_shareOut.2.1 156 = .ok (.getfield 15, 3)) fX6_15 rfl (by omega) rfl hs.2.2 (?_ : XW _ _ _ _ _ _ _ 159 _ _)
        refine xi_aload_n (by decide +kernel : decode mX6_shareOut.2.1 159 = .ok (.aload_n 2, 1)) rfl rfl (?_ : XW _ _ _ _ _ _ _ 160 _ _)
        refine xi_iload_n (by decide +kernel : decode mX6_shareOut.2.1 160 = .ok (.iload_n 3, 1)) rfl rfl (?_ : XW _ _ _ _ _ _ _ 161 _ _)
        refine xi_iload (by decide +kernel : decode mX6_shareOut.2.1 161 = .ok (.iload 10, 2)) rfl (?_ : XW _ _ _ _ _ _ _ 163 _ _)
        refine xi_callV (b := 0) (bs := 0) (As := [.int x3, .int x10]) (st := [.ref 45]) (by decide +kernel : decode mX6_shareOut.2.1 163 = .ok (.invokevirtual 62, 3)) kX6_62 rfl (xPth_s0 ha) (by omega) rfl (s_X3_to n h a ha (by omega) x3 x10) (by decide) (by decide) (Nat.le_of_ble_eq_true rfl) (by omega) (fun v9 h9 hq9 => ?_)
        rw [hq9.1, hq9.2]
        show XW _ _ _ _ _ _ _ 166 _ [.int (rd (xI h (a + 3)) 707 0 (x3 * 7 + x10)), .ref 45]
        refine xi_lload (by decide +kernel : decode mX6_shareOut.2.1 166 = .ok (.lload 11, 2)) rfl (?_ : XW _ _ _ _ _ _ _ 168 _ _)
        refine xi_callS (b := 0) (bs := 0) (As := [.ref 45, .int (rd (xI h (a + 3)) 707 0 (x3 * 7 + x10)), .long x11]) (st := []) (by decide +kernel : decode mX6_shareOut.2.1 168 = .ok (.invokestatic 35, 3)) kX6_35 rfl rfl (s_X6_add n h 45 rfl (by omega) (rd (xI h (a + 3)) 707 0 (x3 * 7 + x10)) x11) (by decide) (by decide) (Nat.le_of_ble_eq_true rfl) (by omega) (fun v9 h9 hq9 => ?_)
        rw [hq9.1, hq9.2]
        show XW _ _ _ _ _ _ _ 171 _ []
        exact xi_vret (by decide +kernel : decode mX6_shareOut.2.1 171 = .ok (.return_, 1)) rfl vc
      · replace vc := vc.2 c
        refine xi_aload (by decide +kernel : decode mX6_shareOut.2.1 82 = .ok (.aload 7, 2)) rfl (?_ : XW _ _ _ _ _ _ _ 84 _ _)
        refine xi_iload (by decide +kernel : decode mX6_shareOut.2.1 84 = .ok (.iload 8, 2)) rfl (?_ : XW _ _ _ _ _ _ _ 86 _ _)
        refine xi_iload (by decide +kernel : decode mX6_shareOut.2.1 86 = .ok (.iload 13, 2)) rfl (?_ : XW _ _ _ _ _ _ _ 88 _ _)
        refine xi_iadd (by decide +kernel : decode mX6_shareOut.2.1 88 = .ok (.iadd, 1)) (?_ : XW _ _ _ _ _ _ _ 89 _ _)
        obtain ⟨s1, vc⟩ := vc
        refine xi_iald (by decide +kernel : decode mX6_shareOut.2.1 89 = .ok (.iaload, 1)) (xPth_s3 ha) (by omega) s1 (?_ : XW _ _ _ _ _ _ _ 90 _ _)
        refine xi_istore (ls' := [some (.ref 43), none, some (.ref a), some (.int x3), some (.long x4), none, some (.ref (r + 5)), some (.ref (a + 3)), some (.int x8), some (.int x9), some (.int x10), some (.long x11), none, some (.int x13), some (.int (xI h (a + 3) (x8 + x13).toNatClampNeg)), none, none]) (by decide +kernel : decode mX6_shareOut.2.1 90 = .ok (.istore 14, 2)) (by decide) rfl (?_ : XW _ _ _ _ _ _ _ 92 _ _)
        refine xi_aload (by decide +kernel : decode mX6_shareOut.2.1 92 = .ok (.aload 6, 2)) rfl (?_ : XW _ _ _ _ _ _ _ 94 _ _)
        refine xi_iload (by decide +kernel : decode mX6_shareOut.2.1 94 = .ok (.iload 13, 2)) rfl (?_ : XW _ _ _ _ _ _ _ 96 _ _)
        obtain ⟨s1, vc⟩ := vc
        refine xi_iald (by decide +kernel : decode mX6_shareOut.2.1 96 = .ok (.iaload, 1)) (xRul_s5 hr) (by omega) s1 (?_ : XW _ _ _ _ _ _ _ 97 _ _)
        refine xi_if_eq (by decide +kernel : decode mX6_shareOut.2.1 97 = .ok (.ifCond .eq 52, 3)) (by decide) (fun c => (?_ : XW _ _ _ _ _ _ _ 149 _ _)) (fun c => (?_ : XW _ _ _ _ _ _ _ 100 _ _))
        · replace vc := vc.1 c
          refine xi_iinc (v := x13 + 1) (ls' := [some (.ref 43), none, some (.ref a), some (.int x3), some (.long x4), none, some (.ref (r + 5)), some (.ref (a + 3)), some (.int x8), some (.int x9), some (.int x10), some (.long x11), none, some (.int (x13 + 1)), some (.int (xI h (a + 3) (x8 + x13).toNatClampNeg)), none, none]) (by decide +kernel : decode mX6_shareOut.2.1 149 = .ok (.iinc 13 1, 3)) rfl rfl (by decide) rfl (?_ : XW _ _ _ _ _ _ _ 152 _ _)
          refine xi_goto (by decide +kernel : decode mX6_shareOut.2.1 152 = .ok (.goto (-85), 3)) (by decide) (?_ : XW _ _ _ _ _ _ _ 67 _ _)
          refine xw_drop 14 (ls' := [some (.ref 43), none, some (.ref a), some (.int x3), some (.long x4), none, some (.ref (r + 5)), some (.ref (a + 3)), some (.int x8), some (.int x9), some (.int x10), some (.long x11), none, some (.int (x13 + 1)), none, none, none]) rfl ?_
          exact vc
        · replace vc := vc.2 c
          refine xi_iload (by decide +kernel : decode mX6_shareOut.2.1 100 = .ok (.iload 14, 2)) rfl (?_ : XW _ _ _ _ _ _ _ 102 _ _)
          refine xi_if_lt (by decide +kernel : decode mX6_shareOut.2.1 102 = .ok (.ifCond .lt 47, 3)) (by decide) (fun c => (?_ : XW _ _ _ _ _ _ _ 149 _ _)) (fun c => (?_ : XW _ _ _ _ _ _ _ 105 _ _))
          · replace vc := vc.1 c
            refine xi_iinc (v := x13 + 1) (ls' := [some (.ref 43), none, some (.ref a), some (.int x3), some (.long x4), none, some (.ref (r + 5)), some (.ref (a + 3)), some (.int x8), some (.int x9), some (.int x10), some (.long x11), none, some (.int (x13 + 1)), some (.int (xI h (a + 3) (x8 + x13).toNatClampNeg)), none, none]) (by decide +kernel : decode mX6_shareOut.2.1 149 = .ok (.iinc 13 1, 3)) rfl rfl (by decide) rfl (?_ : XW _ _ _ _ _ _ _ 152 _ _)
            refine xi_goto (by decide +kernel : decode mX6_shareOut.2.1 152 = .ok (.goto (-85), 3)) (by decide) (?_ : XW _ _ _ _ _ _ _ 67 _ _)
            refine xw_drop 14 (ls' := [some (.ref 43), none, some (.ref a), some (.int x3), some (.long x4), none, some (.ref (r + 5)), some (.ref (a + 3)), some (.int x8), some (.int x9), some (.int x10), some (.long x11), none, some (.int (x13 + 1)), none, none, none]) rfl ?_
            exact vc
          · replace vc := vc.2 c
            refine xi_iload (by decide +kernel : decode mX6_shareOut.2.1 105 = .ok (.iload 14, 2)) rfl (?_ : XW _ _ _ _ _ _ _ 107 _ _)
            refine xi_aload_n (by decide +kernel : decode mX6_shareOut.2.1 107 = .ok (.aload_n 0, 1)) rfl rfl (?_ : XW _ _ _ _ _ _ _ 108 _ _)
            refine xi_getR (y := 45) (by decide +kernel : decode mX6_shareOut.2.1 108 = .ok (.getfield 15, 3)) fX6_15 rfl (by omega) rfl hs.2.2 (?_ : XW _ _ _ _ _ _ _ 111 _ _)
            refine xi_alen (v := 101) (by decide +kernel : decode mX6_shareOut.2.1 111 = .ok (.arraylength, 1)) rfl (by omega) (Or.inr (Or.inl rfl)) rfl (?_ : XW _ _ _ _ _ _ _ 112 _ _)
            refine xi_icmp_ge (by decide +kernel : decode mX6_shareOut.2.1 112 = .ok (.if_icmp .ge 37, 3)) (by decide) (fun c => (?_ : XW _ _ _ _ _ _ _ 149 _ _)) (fun c => (?_ : XW _ _ _ _ _ _ _ 115 _ _))
            · replace vc := vc.1 c
              refine xi_iinc (v := x13 + 1) (ls' := [some (.ref 43), none, some (.ref a), some (.int x3), some (.long x4), none, some (.ref (r + 5)), some (.ref (a + 3)), some (.int x8), some (.int x9), some (.int x10), some (.long x11), none, some (.int (x13 + 1)), some (.int (xI h (a + 3) (x8 + x13).toNatClampNeg)), none, none]) (by decide +kernel : decode mX6_shareOut.2.1 149 = .ok (.iinc 13 1, 3)) rfl rfl (by decide) rfl (?_ : XW _ _ _ _ _ _ _ 152 _ _)
              refine xi_goto (by decide +kernel : decode mX6_shareOut.2.1 152 = .ok (.goto (-85), 3)) (by decide) (?_ : XW _ _ _ _ _ _ _ 67 _ _)
              refine xw_drop 14 (ls' := [some (.ref 43), none, some (.ref a), some (.int x3), some (.long x4), none, some (.ref (r + 5)), some (.ref (a + 3)), some (.int x8), some (.int x9), some (.int x10), some (.long x11), none, some (.int (x13 + 1)), none, none, none]) rfl ?_
              exact vc
            · replace vc := vc.2 c
              refine xi_lload (by decide +kernel : decode mX6_shareOut.2.1 115 = .ok (.lload 4, 2)) rfl (?_ : XW _ _ _ _ _ _ _ 117 _ _)
              refine xi_aload (by decide +kernel : decode mX6_shareOut.2.1 117 = .ok (.aload 6, 2)) rfl (?_ : XW _ _ _ _ _ _ _ 119 _ _)
              refine xi_iload (by decide +kernel : decode mX6_shareOut.2.1 119 = .ok (.iload 13, 2)) rfl (?_ : XW _ _ _ _ _ _ _ 121 _ _)
              obtain ⟨s1, vc⟩ := vc
              refine xi_iald (by decide +kernel : decode mX6_shareOut.2.1 121 = .ok (.iaload, 1)) (xRul_s5 hr) (by omega) s1 (?_ : XW _ _ _ _ _ _ _ 122 _ _)
              refine xi_i2l (by decide +kernel : decode mX6_shareOut.2.1 122 = .ok (.i2l, 1)) (?_ : XW _ _ _ _ _ _ _ 123 _ _)
              refine xi_lmul (by decide +kernel : decode mX6_shareOut.2.1 123 = .ok (.lmul, 1)) (?_ : XW _ _ _ _ _ _ _ 124 _ _)
              refine xi_iload (by decide +kernel : decode mX6_shareOut.2.1 124 = .ok (.iload 9, 2)) rfl (?_ : XW _ _ _ _ _ _ _ 126 _ _)
              refine xi_i2l (by decide +kernel : decode mX6_shareOut.2.1 126 = .ok (.i2l, 1)) (?_ : XW _ _ _ _ _ _ _ 127 _ _)
              obtain ⟨s1, vc⟩ := vc
              refine xi_ldiv (by decide +kernel : decode mX6_shareOut.2.1 127 = .ok (.ldiv, 1)) s1 (?_ : XW _ _ _ _ _ _ _ 128 _ _)
              refine xi_lstore (ls' := [some (.ref 43), none, some (.ref a), some (.int x3), some (.long x4), none, some (.ref (r + 5)), some (.ref (a + 3)), some (.int x8), some (.int x9), some (.int x10), some (.long x11), none, some (.int x13), some (.int (xI h (a + 3) (x8 + x13).toNatClampNeg)), some (.long ((x4 * (Int32.toInt64 (xI h (r + 5) x13.toNatClampNeg))) / (Int32.toInt64 x9))), none]) (by decide +kernel : decode mX6_shareOut.2.1 128 = .ok (.lstore 15, 2)) (by decide) rfl (?_ : XW _ _ _ _ _ _ _ 130 _ _)
              refine xi_lload (by decide +kernel : decode mX6_shareOut.2.1 130 = .ok (.lload 11, 2)) rfl (?_ : XW _ _ _ _ _ _ _ 132 _ _)
              refine xi_lload (by decide +kernel : decode mX6_shareOut.2.1 132 = .ok (.lload 15, 2)) rfl (?_ : XW _ _ _ _ _ _ _ 134 _ _)
              refine xi_lsub (by decide +kernel : decode mX6_shareOut.2.1 134 = .ok (.lsub, 1)) (?_ : XW _ _ _ _ _ _ _ 135 _ _)
              refine xi_lstore (ls' := [some (.ref 43), none, some (.ref a), some (.int x3), some (.long x4), none, some (.ref (r + 5)), some (.ref (a + 3)), some (.int x8), some (.int x9), some (.int x10), some (.long (x11 - ((x4 * (Int32.toInt64 (xI h (r + 5) x13.toNatClampNeg))) / (Int32.toInt64 x9)))), none, some (.int x13), some (.int (xI h (a + 3) (x8 + x13).toNatClampNeg)), some (.long ((x4 * (Int32.toInt64 (xI h (r + 5) x13.toNatClampNeg))) / (Int32.toInt64 x9))), none]) (by decide +kernel : decode mX6_shareOut.2.1 135 = .ok (.lstore 11, 2)) (by decide) rfl (?_ : XW _ _ _ _ _ _ _ 137 _ _)
              refine xi_aload_n (by decide +kernel : decode mX6_shareOut.2.1 137 = .ok (.aload_n 0, 1)) rfl rfl (?_ : XW _ _ _ _ _ _ _ 138 _ _)
              refine xi_getR (y := 45) (by decide +kernel : decode mX6_shareOut.2.1 138 = .ok (.getfield 15, 3)) fX6_15 rfl (by omega) rfl hs.2.2 (?_ : XW _ _ _ _ _ _ _ 141 _ _)
              refine xi_iload (by decide +kernel : decode mX6_shareOut.2.1 141 = .ok (.iload 14, 2)) rfl (?_ : XW _ _ _ _ _ _ _ 143 _ _)
              refine xi_dup2 (by decide +kernel : decode mX6_shareOut.2.1 143 = .ok (.dup2, 1)) rfl rfl (?_ : XW _ _ _ _ _ _ _ 144 _ _)
              obtain ⟨s1, vc⟩ := vc
              refine xi_lald (by decide +kernel : decode mX6_shareOut.2.1 144 = .ok (.laload, 1)) rfl (by omega) s1 (?_ : XW _ _ _ _ _ _ _ 145 _ _)
              refine xi_lload (by decide +kernel : decode mX6_shareOut.2.1 145 = .ok (.lload 15, 2)) rfl (?_ : XW _ _ _ _ _ _ _ 147 _ _)
              refine xi_ladd (by decide +kernel : decode mX6_shareOut.2.1 147 = .ok (.ladd, 1)) (?_ : XW _ _ _ _ _ _ _ 148 _ _)
              obtain ⟨s1, vc⟩ := vc
              refine xi_last (by decide +kernel : decode mX6_shareOut.2.1 148 = .ok (.lastore, 1)) rfl (by omega) s1 (?_ : XW _ _ _ _ _ _ (xSL 45 (va_up (xL h 45) (xI h (a + 3) (x8 + x13).toNatClampNeg).toNatClampNeg ((xL h 45 (xI h (a + 3) (x8 + x13).toNatClampNeg).toNatClampNeg) + ((x4 * (Int32.toInt64 (xI h (r + 5) x13.toNatClampNeg))) / (Int32.toInt64 x9)))) h) 149 _ _)
              refine xi_iinc (v := x13 + 1) (ls' := [some (.ref 43), none, some (.ref a), some (.int x3), some (.long x4), none, some (.ref (r + 5)), some (.ref (a + 3)), some (.int x8), some (.int x9), some (.int x10), some (.long (x11 - ((x4 * (Int32.toInt64 (xI h (r + 5) x13.toNatClampNeg))) / (Int32.toInt64 x9)))), none, some (.int (x13 + 1)), some (.int (xI h (a + 3) (x8 + x13).toNatClampNeg)), some (.long ((x4 * (Int32.toInt64 (xI h (r + 5) x13.toNatClampNeg))) / (Int32.toInt64 x9))), none]) (by decide +kernel : decode mX6_shareOut.2.1 149 = .ok (.iinc 13 1, 3)) rfl rfl (by decide) rfl (?_ : XW _ _ _ _ _ _ _ 152 _ _)
              refine xi_goto (by decide +kernel : decode mX6_shareOut.2.1 152 = .ok (.goto (-85), 3)) (by decide) (?_ : XW _ _ _ _ _ _ _ 67 _ _)
              refine xw_drop 14 (ls' := [some (.ref 43), none, some (.ref a), some (.int x3), some (.long x4), none, some (.ref (r + 5)), some (.ref (a + 3)), some (.int x8), some (.int x9), some (.int x10), some (.long (x11 - ((x4 * (Int32.toInt64 (xI h (r + 5) x13.toNatClampNeg))) / (Int32.toInt64 x9)))), none, some (.int (x13 + 1)), none, some (.long ((x4 * (Int32.toInt64 (xI h (r + 5) x13.toNatClampNeg))) / (Int32.toInt64 x9))), none]) rfl ?_
              refine xw_drop 15 (ls' := [some (.ref 43), none, some (.ref a), some (.int x3), some (.long x4), none, some (.ref (r + 5)), some (.ref (a + 3)), some (.int x8), some (.int x9), some (.int x10), some (.long (x11 - ((x4 * (Int32.toInt64 (xI h (r + 5) x13.toNatClampNeg))) / (Int32.toInt64 x9)))), none, some (.int (x13 + 1)), none, none, none]) rfl ?_
              exact vc
  · refine xi_iload (by decide +kernel : decode mX6_shareOut.2.1 67 = .ok (.iload 13, 2)) rfl (?_ : XW _ _ _ _ _ _ _ 69 _ _)
    refine xi_bipush (v := 6) (by decide +kernel : decode mX6_shareOut.2.1 69 = .ok (.bipush 6, 2)) (by decide) (?_ : XW _ _ _ _ _ _ _ 71 _ _)
    refine xi_icmp_gt (by decide +kernel : decode mX6_shareOut.2.1 71 = .ok (.if_icmp .gt 84, 3)) (by decide) (fun c => (?_ : XW _ _ _ _ _ _ _ 155 _ _)) (fun c => (?_ : XW _ _ _ _ _ _ _ 74 _ _))
    · replace vc := vc.1 c
      refine xi_aload_n (by decide +kernel : decode mX6_shareOut.2.1 155 = .ok (.aload_n 0, 1)) rfl rfl (?_ : XW _ _ _ _ _ _ _ 156 _ _)
      refine xi_getR (y := 44) (by decide +kernel : decode mX6_shareOut.2.1 156 = .ok (.getfield 15, 3)) fX6_15 rfl (by omega) rfl hs.2.2 (?_ : XW _ _ _ _ _ _ _ 159 _ _)
      refine xi_aload_n (by decide +kernel : decode mX6_shareOut.2.1 159 = .ok (.aload_n 2, 1)) rfl rfl (?_ : XW _ _ _ _ _ _ _ 160 _ _)
      refine xi_iload_n (by decide +kernel : decode mX6_shareOut.2.1 160 = .ok (.iload_n 3, 1)) rfl rfl (?_ : XW _ _ _ _ _ _ _ 161 _ _)
      refine xi_iload (by decide +kernel : decode mX6_shareOut.2.1 161 = .ok (.iload 10, 2)) rfl (?_ : XW _ _ _ _ _ _ _ 163 _ _)
      refine xi_callV (b := 0) (bs := 0) (As := [.int x3, .int x10]) (st := [.ref 44]) (by decide +kernel : decode mX6_shareOut.2.1 163 = .ok (.invokevirtual 62, 3)) kX6_62 rfl (xPth_s0 ha) (by omega) rfl (s_X3_to n h a ha (by omega) x3 x10) (by decide) (by decide) (Nat.le_of_ble_eq_true rfl) (by omega) (fun v9 h9 hq9 => ?_)
      rw [hq9.1, hq9.2]
      show XW _ _ _ _ _ _ _ 166 _ [.int (rd (xI h (a + 3)) 707 0 (x3 * 7 + x10)), .ref 44]
      refine xi_lload (by decide +kernel : decode mX6_shareOut.2.1 166 = .ok (.lload 11, 2)) rfl (?_ : XW _ _ _ _ _ _ _ 168 _ _)
      refine xi_callS (b := 0) (bs := 0) (As := [.ref 44, .int (rd (xI h (a + 3)) 707 0 (x3 * 7 + x10)), .long x11]) (st := []) (by decide +kernel : decode mX6_shareOut.2.1 168 = .ok (.invokestatic 35, 3)) kX6_35 rfl rfl (s_X6_add n h 44 rfl (by omega) (rd (xI h (a + 3)) 707 0 (x3 * 7 + x10)) x11) (by decide) (by decide) (Nat.le_of_ble_eq_true rfl) (by omega) (fun v9 h9 hq9 => ?_)
      rw [hq9.1, hq9.2]
      show XW _ _ _ _ _ _ _ 171 _ []
      exact xi_vret (by decide +kernel : decode mX6_shareOut.2.1 171 = .ok (.return_, 1)) rfl vc
    · replace vc := vc.2 c
      refine xi_iload (by decide +kernel : decode mX6_shareOut.2.1 74 = .ok (.iload 13, 2)) rfl (?_ : XW _ _ _ _ _ _ _ 76 _ _)
      refine xi_aload (by decide +kernel : decode mX6_shareOut.2.1 76 = .ok (.aload 6, 2)) rfl (?_ : XW _ _ _ _ _ _ _ 78 _ _)
      refine xi_alen (v := 7) (by decide +kernel : decode mX6_shareOut.2.1 78 = .ok (.arraylength, 1)) (xRul_s5 hr) (by omega) (Or.inl rfl) rfl (?_ : XW _ _ _ _ _ _ _ 79 _ _)
      refine xi_icmp_ge (by decide +kernel : decode mX6_shareOut.2.1 79 = .ok (.if_icmp .ge 76, 3)) (by decide) (fun c => (?_ : XW _ _ _ _ _ _ _ 155 _ _)) (fun c => (?_ : XW _ _ _ _ _ _ _ 82 _ _))
      · replace vc := vc.1 c
        refine xi_aload_n (by decide +kernel : decode mX6_shareOut.2.1 155 = .ok (.aload_n 0, 1)) rfl rfl (?_ : XW _ _ _ _ _ _ _ 156 _ _)
        refine xi_getR (y := 44) (by decide +kernel : decode mX6_shareOut.2.1 156 = .ok (.getfield 15, 3)) fX6_15 rfl (by omega) rfl hs.2.2 (?_ : XW _ _ _ _ _ _ _ 159 _ _)
        refine xi_aload_n (by decide +kernel : decode mX6_shareOut.2.1 159 = .ok (.aload_n 2, 1)) rfl rfl (?_ : XW _ _ _ _ _ _ _ 160 _ _)
        refine xi_iload_n (by decide +kernel : decode mX6_shareOut.2.1 160 = .ok (.iload_n 3, 1)) rfl rfl (?_ : XW _ _ _ _ _ _ _ 161 _ _)
        refine xi_iload (by decide +kernel : decode mX6_shareOut.2.1 161 = .ok (.iload 10, 2)) rfl (?_ : XW _ _ _ _ _ _ _ 163 _ _)
        refine xi_callV (b := 0) (bs := 0) (As := [.int x3, .int x10]) (st := [.ref 44]) (by decide +kernel : decode mX6_shareOut.2.1 163 = .ok (.invokevirtual 62, 3)) kX6_62 rfl (xPth_s0 ha) (by omega) rfl (s_X3_to n h a ha (by omega) x3 x10) (by decide) (by decide) (Nat.le_of_ble_eq_true rfl) (by omega) (fun v9 h9 hq9 => ?_)
        rw [hq9.1, hq9.2]
        show XW _ _ _ _ _ _ _ 166 _ [.int (rd (xI h (a + 3)) 707 0 (x3 * 7 + x10)), .ref 44]
        refine xi_lload (by decide +kernel : decode mX6_shareOut.2.1 166 = .ok (.lload 11, 2)) rfl (?_ : XW _ _ _ _ _ _ _ 168 _ _)
        refine xi_callS (b := 0) (bs := 0) (As := [.ref 44, .int (rd (xI h (a + 3)) 707 0 (x3 * 7 + x10)), .long x11]) (st := []) (by decide +kernel : decode mX6_shareOut.2.1 168 = .ok (.invokestatic 35, 3)) kX6_35 rfl rfl (s_X6_add n h 44 rfl (by omega) (rd (xI h (a + 3)) 707 0 (x3 * 7 + x10)) x11) (by decide) (by decide) (Nat.le_of_ble_eq_true rfl) (by omega) (fun v9 h9 hq9 => ?_)
        rw [hq9.1, hq9.2]
        show XW _ _ _ _ _ _ _ 171 _ []
        exact xi_vret (by decide +kernel : decode mX6_shareOut.2.1 171 = .ok (.return_, 1)) rfl vc
      · replace vc := vc.2 c
        refine xi_aload (by decide +kernel : decode mX6_shareOut.2.1 82 = .ok (.aload 7, 2)) rfl (?_ : XW _ _ _ _ _ _ _ 84 _ _)
        refine xi_iload (by decide +kernel : decode mX6_shareOut.2.1 84 = .ok (.iload 8, 2)) rfl (?_ : XW _ _ _ _ _ _ _ 86 _ _)
        refine xi_iload (by decide +kernel : decode mX6_shareOut.2.1 86 = .ok (.iload 13, 2)) rfl (?_ : XW _ _ _ _ _ _ _ 88 _ _)
        refine xi_iadd (by decide +kernel : decode mX6_shareOut.2.1 88 = .ok (.iadd, 1)) (?_ : XW _ _ _ _ _ _ _ 89 _ _)
        obtain ⟨s1, vc⟩ := vc
        refine xi_iald (by decide +kernel : decode mX6_shareOut.2.1 89 = .ok (.iaload, 1)) (xPth_s3 ha) (by omega) s1 (?_ : XW _ _ _ _ _ _ _ 90 _ _)
        refine xi_istore (ls' := [some (.ref 43), none, some (.ref a), some (.int x3), some (.long x4), none, some (.ref (r + 5)), some (.ref (a + 3)), some (.int x8), some (.int x9), some (.int x10), some (.long x11), none, some (.int x13), some (.int (xI h (a + 3) (x8 + x13).toNatClampNeg)), none, none]) (by decide +kernel : decode mX6_shareOut.2.1 90 = .ok (.istore 14, 2)) (by decide) rfl (?_ : XW _ _ _ _ _ _ _ 92 _ _)
        refine xi_aload (by decide +kernel : decode mX6_shareOut.2.1 92 = .ok (.aload 6, 2)) rfl (?_ : XW _ _ _ _ _ _ _ 94 _ _)
        refine xi_iload (by decide +kernel : decode mX6_shareOut.2.1 94 = .ok (.iload 13, 2)) rfl (?_ : XW _ _ _ _ _ _ _ 96 _ _)
        obtain ⟨s1, vc⟩ := vc
        refine xi_iald (by decide +kernel : decode mX6_shareOut.2.1 96 = .ok (.iaload, 1)) (xRul_s5 hr) (by omega) s1 (?_ : XW _ _ _ _ _ _ _ 97 _ _)
        refine xi_if_eq (by decide +kernel : decode mX6_shareOut.2.1 97 = .ok (.ifCond .eq 52, 3)) (by decide) (fun c => (?_ : XW _ _ _ _ _ _ _ 149 _ _)) (fun c => (?_ : XW _ _ _ _ _ _ _ 100 _ _))
        · replace vc := vc.1 c
          refine xi_iinc (v := x13 + 1) (ls' := [some (.ref 43), none, some (.ref a), some (.int x3), some (.long x4), none, some (.ref (r + 5)), some (.ref (a + 3)), some (.int x8), some (.int x9), some (.int x10), some (.long x11), none, some (.int (x13 + 1)), some (.int (xI h (a + 3) (x8 + x13).toNatClampNeg)), none, none]) (by decide +kernel : decode mX6_shareOut.2.1 149 = .ok (.iinc 13 1, 3)) rfl rfl (by decide) rfl (?_ : XW _ _ _ _ _ _ _ 152 _ _)
          refine xi_goto (by decide +kernel : decode mX6_shareOut.2.1 152 = .ok (.goto (-85), 3)) (by decide) (?_ : XW _ _ _ _ _ _ _ 67 _ _)
          refine xw_drop 14 (ls' := [some (.ref 43), none, some (.ref a), some (.int x3), some (.long x4), none, some (.ref (r + 5)), some (.ref (a + 3)), some (.int x8), some (.int x9), some (.int x10), some (.long x11), none, some (.int (x13 + 1)), none, none, none]) rfl ?_
          exact vc
        · replace vc := vc.2 c
          refine xi_iload (by decide +kernel : decode mX6_shareOut.2.1 100 = .ok (.iload 14, 2)) rfl (?_ : XW _ _ _ _ _ _ _ 102 _ _)
          refine xi_if_lt (by decide +kernel : decode mX6_shareOut.2.1 102 = .ok (.ifCond .lt 47, 3)) (by decide) (fun c => (?_ : XW _ _ _ _ _ _ _ 149 _ _)) (fun c => (?_ : XW _ _ _ _ _ _ _ 105 _ _))
          · replace vc := vc.1 c
            refine xi_iinc (v := x13 + 1) (ls' := [some (.ref 43), none, some (.ref a), some (.int x3), some (.long x4), none, some (.ref (r + 5)), some (.ref (a + 3)), some (.int x8), some (.int x9), some (.int x10), some (.long x11), none, some (.int (x13 + 1)), some (.int (xI h (a + 3) (x8 + x13).toNatClampNeg)), none, none]) (by decide +kernel : decode mX6_shareOut.2.1 149 = .ok (.iinc 13 1, 3)) rfl rfl (by decide) rfl (?_ : XW _ _ _ _ _ _ _ 152 _ _)
            refine xi_goto (by decide +kernel : decode mX6_shareOut.2.1 152 = .ok (.goto (-85), 3)) (by decide) (?_ : XW _ _ _ _ _ _ _ 67 _ _)
            refine xw_drop 14 (ls' := [some (.ref 43), none, some (.ref a), some (.int x3), some (.long x4), none, some (.ref (r + 5)), some (.ref (a + 3)), some (.int x8), some (.int x9), some (.int x10), some (.long x11), none, some (.int (x13 + 1)), none, none, none]) rfl ?_
            exact vc
          · replace vc := vc.2 c
            refine xi_iload (by decide +kernel : decode mX6_shareOut.2.1 105 = .ok (.iload 14, 2)) rfl (?_ : XW _ _ _ _ _ _ _ 107 _ _)
            refine xi_aload_n (by decide +kernel : decode mX6_shareOut.2.1 107 = .ok (.aload_n 0, 1)) rfl rfl (?_ : XW _ _ _ _ _ _ _ 108 _ _)
            refine xi_getR (y := 44) (by decide +kernel : decode mX6_shareOut.2.1 108 = .ok (.getfield 15, 3)) fX6_15 rfl (by omega) rfl hs.2.2 (?_ : XW _ _ _ _ _ _ _ 111 _ _)
            refine xi_alen (v := 101) (by decide +kernel : decode mX6_shareOut.2.1 111 = .ok (.arraylength, 1)) rfl (by omega) (Or.inr (Or.inl rfl)) rfl (?_ : XW _ _ _ _ _ _ _ 112 _ _)
            refine xi_icmp_ge (by decide +kernel : decode mX6_shareOut.2.1 112 = .ok (.if_icmp .ge 37, 3)) (by decide) (fun c => (?_ : XW _ _ _ _ _ _ _ 149 _ _)) (fun c => (?_ : XW _ _ _ _ _ _ _ 115 _ _))
            · replace vc := vc.1 c
              refine xi_iinc (v := x13 + 1) (ls' := [some (.ref 43), none, some (.ref a), some (.int x3), some (.long x4), none, some (.ref (r + 5)), some (.ref (a + 3)), some (.int x8), some (.int x9), some (.int x10), some (.long x11), none, some (.int (x13 + 1)), some (.int (xI h (a + 3) (x8 + x13).toNatClampNeg)), none, none]) (by decide +kernel : decode mX6_shareOut.2.1 149 = .ok (.iinc 13 1, 3)) rfl rfl (by decide) rfl (?_ : XW _ _ _ _ _ _ _ 152 _ _)
              refine xi_goto (by decide +kernel : decode mX6_shareOut.2.1 152 = .ok (.goto (-85), 3)) (by decide) (?_ : XW _ _ _ _ _ _ _ 67 _ _)
              refine xw_drop 14 (ls' := [some (.ref 43), none, some (.ref a), some (.int x3), some (.long x4), none, some (.ref (r + 5)), some (.ref (a + 3)), some (.int x8), some (.int x9), some (.int x10), some (.long x11), none, some (.int (x13 + 1)), none, none, none]) rfl ?_
              exact vc
            · replace vc := vc.2 c
              refine xi_lload (by decide +kernel : decode mX6_shareOut.2.1 115 = .ok (.lload 4, 2)) rfl (?_ : XW _ _ _ _ _ _ _ 117 _ _)
              refine xi_aload (by decide +kernel : decode mX6_shareOut.2.1 117 = .ok (.aload 6, 2)) rfl (?_ : XW _ _ _ _ _ _ _ 119 _ _)
              refine xi_iload (by decide +kernel : decode mX6_shareOut.2.1 119 = .ok (.iload 13, 2)) rfl (?_ : XW _ _ _ _ _ _ _ 121 _ _)
              obtain ⟨s1, vc⟩ := vc
              refine xi_iald (by decide +kernel : decode mX6_shareOut.2.1 121 = .ok (.iaload, 1)) (xRul_s5 hr) (by omega) s1 (?_ : XW _ _ _ _ _ _ _ 122 _ _)
              refine xi_i2l (by decide +kernel : decode mX6_shareOut.2.1 122 = .ok (.i2l, 1)) (?_ : XW _ _ _ _ _ _ _ 123 _ _)
              refine xi_lmul (by decide +kernel : decode mX6_shareOut.2.1 123 = .ok (.lmul, 1)) (?_ : XW _ _ _ _ _ _ _ 124 _ _)
              refine xi_iload (by decide +kernel : decode mX6_shareOut.2.1 124 = .ok (.iload 9, 2)) rfl (?_ : XW _ _ _ _ _ _ _ 126 _ _)
              refine xi_i2l (by decide +kernel : decode mX6_shareOut.2.1 126 = .ok (.i2l, 1)) (?_ : XW _ _ _ _ _ _ _ 127 _ _)
              obtain ⟨s1, vc⟩ := vc
              refine xi_ldiv (by decide +kernel : decode mX6_shareOut.2.1 127 = .ok (.ldiv, 1)) s1 (?_ : XW _ _ _ _ _ _ _ 128 _ _)
              refine xi_lstore (ls' := [some (.ref 43), none, some (.ref a), some (.int x3), some (.long x4), none, some (.ref (r + 5)), some (.ref (a + 3)), some (.int x8), some (.int x9), some (.int x10), some (.long x11), none, some (.int x13), some (.int (xI h (a + 3) (x8 + x13).toNatClampNeg)), some (.long ((x4 * (Int32.toInt64 (xI h (r + 5) x13.toNatClampNeg))) / (Int32.toInt64 x9))), none]) (by decide +kernel : decode mX6_shareOut.2.1 128 = .ok (.lstore 15, 2)) (by decide) rfl (?_ : XW _ _ _ _ _ _ _ 130 _ _)
              refine xi_lload (by decide +kernel : decode mX6_shareOut.2.1 130 = .ok (.lload 11, 2)) rfl (?_ : XW _ _ _ _ _ _ _ 132 _ _)
              refine xi_lload (by decide +kernel : decode mX6_shareOut.2.1 132 = .ok (.lload 15, 2)) rfl (?_ : XW _ _ _ _ _ _ _ 134 _ _)
              refine xi_lsub (by decide +kernel : decode mX6_shareOut.2.1 134 = .ok (.lsub, 1)) (?_ : XW _ _ _ _ _ _ _ 135 _ _)
              refine xi_lstore (ls' := [some (.ref 43), none, some (.ref a), some (.int x3), some (.long x4), none, some (.ref (r + 5)), some (.ref (a + 3)), some (.int x8), some (.int x9), some (.int x10), some (.long (x11 - ((x4 * (Int32.toInt64 (xI h (r + 5) x13.toNatClampNeg))) / (Int32.toInt64 x9)))), none, some (.int x13), some (.int (xI h (a + 3) (x8 + x13).toNatClampNeg)), some (.long ((x4 * (Int32.toInt64 (xI h (r + 5) x13.toNatClampNeg))) / (Int32.toInt64 x9))), none]) (by decide +kernel : decode mX6_shareOut.2.1 135 = .ok (.lstore 11, 2)) (by decide) rfl (?_ : XW _ _ _ _ _ _ _ 137 _ _)
              refine xi_aload_n (by decide +kernel : decode mX6_shareOut.2.1 137 = .ok (.aload_n 0, 1)) rfl rfl (?_ : XW _ _ _ _ _ _ _ 138 _ _)
              refine xi_getR (y := 44) (by decide +kernel : decode mX6_shareOut.2.1 138 = .ok (.getfield 15, 3)) fX6_15 rfl (by omega) rfl hs.2.2 (?_ : XW _ _ _ _ _ _ _ 141 _ _)
              refine xi_iload (by decide +kernel : decode mX6_shareOut.2.1 141 = .ok (.iload 14, 2)) rfl (?_ : XW _ _ _ _ _ _ _ 143 _ _)
              refine xi_dup2 (by decide +kernel : decode mX6_shareOut.2.1 143 = .ok (.dup2, 1)) rfl rfl (?_ : XW _ _ _ _ _ _ _ 144 _ _)
              obtain ⟨s1, vc⟩ := vc
              refine xi_lald (by decide +kernel : decode mX6_shareOut.2.1 144 = .ok (.laload, 1)) rfl (by omega) s1 (?_ : XW _ _ _ _ _ _ _ 145 _ _)
              refine xi_lload (by decide +kernel : decode mX6_shareOut.2.1 145 = .ok (.lload 15, 2)) rfl (?_ : XW _ _ _ _ _ _ _ 147 _ _)
              refine xi_ladd (by decide +kernel : decode mX6_shareOut.2.1 147 = .ok (.ladd, 1)) (?_ : XW _ _ _ _ _ _ _ 148 _ _)
              obtain ⟨s1, vc⟩ := vc
              refine xi_last (by decide +kernel : decode mX6_shareOut.2.1 148 = .ok (.lastore, 1)) rfl (by omega) s1 (?_ : XW _ _ _ _ _ _ (xSL 44 (va_up (xL h 44) (xI h (a + 3) (x8 + x13).toNatClampNeg).toNatClampNeg ((xL h 44 (xI h (a + 3) (x8 + x13).toNatClampNeg).toNatClampNeg) + ((x4 * (Int32.toInt64 (xI h (r + 5) x13.toNatClampNeg))) / (Int32.toInt64 x9)))) h) 149 _ _)
              refine xi_iinc (v := x13 + 1) (ls' := [some (.ref 43), none, some (.ref a), some (.int x3), some (.long x4), none, some (.ref (r + 5)), some (.ref (a + 3)), some (.int x8), some (.int x9), some (.int x10), some (.long (x11 - ((x4 * (Int32.toInt64 (xI h (r + 5) x13.toNatClampNeg))) / (Int32.toInt64 x9)))), none, some (.int (x13 + 1)), some (.int (xI h (a + 3) (x8 + x13).toNatClampNeg)), some (.long ((x4 * (Int32.toInt64 (xI h (r + 5) x13.toNatClampNeg))) / (Int32.toInt64 x9))), none]) (by decide +kernel : decode mX6_shareOut.2.1 149 = .ok (.iinc 13 1, 3)) rfl rfl (by decide) rfl (?_ : XW _ _ _ _ _ _ _ 152 _ _)
              refine xi_goto (by decide +kernel : decode mX6_shareOut.2.1 152 = .ok (.goto (-85), 3)) (by decide) (?_ : XW _ _ _ _ _ _ _ 67 _ _)
              refine xw_drop 14 (ls' := [some (.ref 43), none, some (.ref a), some (.int x3), some (.long x4), none, some (.ref (r + 5)), some (.ref (a + 3)), some (.int x8), some (.int x9), some (.int x10), some (.long (x11 - ((x4 * (Int32.toInt64 (xI h (r + 5) x13.toNatClampNeg))) / (Int32.toInt64 x9)))), none, some (.int (x13 + 1)), none, some (.long ((x4 * (Int32.toInt64 (xI h (r + 5) x13.toNatClampNeg))) / (Int32.toInt64 x9))), none]) rfl ?_
              refine xw_drop 15 (ls' := [some (.ref 43), none, some (.ref a), some (.int x3), some (.long x4), none, some (.ref (r + 5)), some (.ref (a + 3)), some (.int x8), some (.int x9), some (.int x10), some (.long (x11 - ((x4 * (Int32.toInt64 (xI h (r + 5) x13.toNatClampNeg))) / (Int32.toInt64 x9)))), none, some (.int (x13 + 1)), none, none, none]) rfl ?_
              exact vc
  · refine xi_iload (by decide +kernel : decode mX6_shareOut.2.1 67 = .ok (.iload 13, 2)) rfl (?_ : XW _ _ _ _ _ _ _ 69 _ _)
    refine xi_bipush (v := 6) (by decide +kernel : decode mX6_shareOut.2.1 69 = .ok (.bipush 6, 2)) (by decide) (?_ : XW _ _ _ _ _ _ _ 71 _ _)
    refine xi_icmp_gt (by decide +kernel : decode mX6_shareOut.2.1 71 = .ok (.if_icmp .gt 84, 3)) (by decide) (fun c => (?_ : XW _ _ _ _ _ _ _ 155 _ _)) (fun c => (?_ : XW _ _ _ _ _ _ _ 74 _ _))
    · replace vc := vc.1 c
      refine xi_aload_n (by decide +kernel : decode mX6_shareOut.2.1 155 = .ok (.aload_n 0, 1)) rfl rfl (?_ : XW _ _ _ _ _ _ _ 156 _ _)
      refine xi_getR (y := 48) (by decide +kernel : decode mX6_shareOut.2.1 156 = .ok (.getfield 15, 3)) fX6_15 rfl (by omega) rfl hs.2.2 (?_ : XW _ _ _ _ _ _ _ 159 _ _)
      refine xi_aload_n (by decide +kernel : decode mX6_shareOut.2.1 159 = .ok (.aload_n 2, 1)) rfl rfl (?_ : XW _ _ _ _ _ _ _ 160 _ _)
      refine xi_iload_n (by decide +kernel : decode mX6_shareOut.2.1 160 = .ok (.iload_n 3, 1)) rfl rfl (?_ : XW _ _ _ _ _ _ _ 161 _ _)
      refine xi_iload (by decide +kernel : decode mX6_shareOut.2.1 161 = .ok (.iload 10, 2)) rfl (?_ : XW _ _ _ _ _ _ _ 163 _ _)
      refine xi_callV (b := 0) (bs := 0) (As := [.int x3, .int x10]) (st := [.ref 48]) (by decide +kernel : decode mX6_shareOut.2.1 163 = .ok (.invokevirtual 62, 3)) kX6_62 rfl (xPth_s0 ha) (by omega) rfl (s_X3_to n h a ha (by omega) x3 x10) (by decide) (by decide) (Nat.le_of_ble_eq_true rfl) (by omega) (fun v9 h9 hq9 => ?_)
      rw [hq9.1, hq9.2]
      show XW _ _ _ _ _ _ _ 166 _ [.int (rd (xI h (a + 3)) 707 0 (x3 * 7 + x10)), .ref 48]
      refine xi_lload (by decide +kernel : decode mX6_shareOut.2.1 166 = .ok (.lload 11, 2)) rfl (?_ : XW _ _ _ _ _ _ _ 168 _ _)
      refine xi_callS (b := 0) (bs := 0) (As := [.ref 48, .int (rd (xI h (a + 3)) 707 0 (x3 * 7 + x10)), .long x11]) (st := []) (by decide +kernel : decode mX6_shareOut.2.1 168 = .ok (.invokestatic 35, 3)) kX6_35 rfl rfl (s_X6_add n h 48 rfl (by omega) (rd (xI h (a + 3)) 707 0 (x3 * 7 + x10)) x11) (by decide) (by decide) (Nat.le_of_ble_eq_true rfl) (by omega) (fun v9 h9 hq9 => ?_)
      rw [hq9.1, hq9.2]
      show XW _ _ _ _ _ _ _ 171 _ []
      exact xi_vret (by decide +kernel : decode mX6_shareOut.2.1 171 = .ok (.return_, 1)) rfl vc
    · replace vc := vc.2 c
      refine xi_iload (by decide +kernel : decode mX6_shareOut.2.1 74 = .ok (.iload 13, 2)) rfl (?_ : XW _ _ _ _ _ _ _ 76 _ _)
      refine xi_aload (by decide +kernel : decode mX6_shareOut.2.1 76 = .ok (.aload 6, 2)) rfl (?_ : XW _ _ _ _ _ _ _ 78 _ _)
      refine xi_alen (v := 7) (by decide +kernel : decode mX6_shareOut.2.1 78 = .ok (.arraylength, 1)) (xRul_s5 hr) (by omega) (Or.inl rfl) rfl (?_ : XW _ _ _ _ _ _ _ 79 _ _)
      refine xi_icmp_ge (by decide +kernel : decode mX6_shareOut.2.1 79 = .ok (.if_icmp .ge 76, 3)) (by decide) (fun c => (?_ : XW _ _ _ _ _ _ _ 155 _ _)) (fun c => (?_ : XW _ _ _ _ _ _ _ 82 _ _))
      · replace vc := vc.1 c
        refine xi_aload_n (by decide +kernel : decode mX6_shareOut.2.1 155 = .ok (.aload_n 0, 1)) rfl rfl (?_ : XW _ _ _ _ _ _ _ 156 _ _)
        refine xi_getR (y := 48) (by decide +kernel : decode mX6_shareOut.2.1 156 = .ok (.getfield 15, 3)) fX6_15 rfl (by omega) rfl hs.2.2 (?_ : XW _ _ _ _ _ _ _ 159 _ _)
        refine xi_aload_n (by decide +kernel : decode mX6_shareOut.2.1 159 = .ok (.aload_n 2, 1)) rfl rfl (?_ : XW _ _ _ _ _ _ _ 160 _ _)
        refine xi_iload_n (by decide +kernel : decode mX6_shareOut.2.1 160 = .ok (.iload_n 3, 1)) rfl rfl (?_ : XW _ _ _ _ _ _ _ 161 _ _)
        refine xi_iload (by decide +kernel : decode mX6_shareOut.2.1 161 = .ok (.iload 10, 2)) rfl (?_ : XW _ _ _ _ _ _ _ 163 _ _)
        refine xi_callV (b := 0) (bs := 0) (As := [.int x3, .int x10]) (st := [.ref 48]) (by decide +kernel : decode mX6_shareOut.2.1 163 = .ok (.invokevirtual 62, 3)) kX6_62 rfl (xPth_s0 ha) (by omega) rfl (s_X3_to n h a ha (by omega) x3 x10) (by decide) (by decide) (Nat.le_of_ble_eq_true rfl) (by omega) (fun v9 h9 hq9 => ?_)
        rw [hq9.1, hq9.2]
        show XW _ _ _ _ _ _ _ 166 _ [.int (rd (xI h (a + 3)) 707 0 (x3 * 7 + x10)), .ref 48]
        refine xi_lload (by decide +kernel : decode mX6_shareOut.2.1 166 = .ok (.lload 11, 2)) rfl (?_ : XW _ _ _ _ _ _ _ 168 _ _)
        refine xi_callS (b := 0) (bs := 0) (As := [.ref 48, .int (rd (xI h (a + 3)) 707 0 (x3 * 7 + x10)), .long x11]) (st := []) (by decide +kernel : decode mX6_shareOut.2.1 168 = .ok (.invokestatic 35, 3)) kX6_35 rfl rfl (s_X6_add n h 48 rfl (by omega) (rd (xI h (a + 3)) 707 0 (x3 * 7 + x10)) x11) (by decide) (by decide) (Nat.le_of_ble_eq_true rfl) (by omega) (fun v9 h9 hq9 => ?_)
        rw [hq9.1, hq9.2]
        show XW _ _ _ _ _ _ _ 171 _ []
        exact xi_vret (by decide +kernel : decode mX6_shareOut.2.1 171 = .ok (.return_, 1)) rfl vc
      · replace vc := vc.2 c
        refine xi_aload (by decide +kernel : decode mX6_shareOut.2.1 82 = .ok (.aload 7, 2)) rfl (?_ : XW _ _ _ _ _ _ _ 84 _ _)
        refine xi_iload (by decide +kernel : decode mX6_shareOut.2.1 84 = .ok (.iload 8, 2)) rfl (?_ : XW _ _ _ _ _ _ _ 86 _ _)
        refine xi_iload (by decide +kernel : decode mX6_shareOut.2.1 86 = .ok (.iload 13, 2)) rfl (?_ : XW _ _ _ _ _ _ _ 88 _ _)
        refine xi_iadd (by decide +kernel : decode mX6_shareOut.2.1 88 = .ok (.iadd, 1)) (?_ : XW _ _ _ _ _ _ _ 89 _ _)
        obtain ⟨s1, vc⟩ := vc
        refine xi_iald (by decide +kernel : decode mX6_shareOut.2.1 89 = .ok (.iaload, 1)) (xPth_s3 ha) (by omega) s1 (?_ : XW _ _ _ _ _ _ _ 90 _ _)
        refine xi_istore (ls' := [some (.ref 46), none, some (.ref a), some (.int x3), some (.long x4), none, some (.ref (r + 5)), some (.ref (a + 3)), some (.int x8), some (.int x9), some (.int x10), some (.long x11), none, some (.int x13), some (.int (xI h (a + 3) (x8 + x13).toNatClampNeg)), none, none]) (by decide +kernel : decode mX6_shareOut.2.1 90 = .ok (.istore 14, 2)) (by decide) rfl (?_ : XW _ _ _ _ _ _ _ 92 _ _)
        refine xi_aload (by decide +kernel : decode mX6_shareOut.2.1 92 = .ok (.aload 6, 2)) rfl (?_ : XW _ _ _ _ _ _ _ 94 _ _)
        refine xi_iload (by decide +kernel : decode mX6_shareOut.2.1 94 = .ok (.iload 13, 2)) rfl (?_ : XW _ _ _ _ _ _ _ 96 _ _)
        obtain ⟨s1, vc⟩ := vc
        refine xi_iald (by decide +kernel : decode mX6_shareOut.2.1 96 = .ok (.iaload, 1)) (xRul_s5 hr) (by omega) s1 (?_ : XW _ _ _ _ _ _ _ 97 _ _)
        refine xi_if_eq (by decide +kernel : decode mX6_shareOut.2.1 97 = .ok (.ifCond .eq 52, 3)) (by decide) (fun c => (?_ : XW _ _ _ _ _ _ _ 149 _ _)) (fun c => (?_ : XW _ _ _ _ _ _ _ 100 _ _))
        · replace vc := vc.1 c
          refine xi_iinc (v := x13 + 1) (ls' := [some (.ref 46), none, some (.ref a), some (.int x3), some (.long x4), none, some (.ref (r + 5)), some (.ref (a + 3)), some (.int x8), some (.int x9), some (.int x10), some (.long x11), none, some (.int (x13 + 1)), some (.int (xI h (a + 3) (x8 + x13).toNatClampNeg)), none, none]) (by decide +kernel : decode mX6_shareOut.2.1 149 = .ok (.iinc 13 1, 3)) rfl rfl (by decide) rfl (?_ : XW _ _ _ _ _ _ _ 152 _ _)
          refine xi_goto (by decide +kernel : decode mX6_shareOut.2.1 152 = .ok (.goto (-85), 3)) (by decide) (?_ : XW _ _ _ _ _ _ _ 67 _ _)
          refine xw_drop 14 (ls' := [some (.ref 46), none, some (.ref a), some (.int x3), some (.long x4), none, some (.ref (r + 5)), some (.ref (a + 3)), some (.int x8), some (.int x9), some (.int x10), some (.long x11), none, some (.int (x13 + 1)), none, none, none]) rfl ?_
          exact vc
        · replace vc := vc.2 c
          refine xi_iload (by decide +kernel : decode mX6_shareOut.2.1 100 = .ok (.iload 14, 2)) rfl (?_ : XW _ _ _ _ _ _ _ 102 _ _)
          refine xi_if_lt (by decide +kernel : decode mX6_shareOut.2.1 102 = .ok (.ifCond .lt 47, 3)) (by decide) (fun c => (?_ : XW _ _ _ _ _ _ _ 149 _ _)) (fun c => (?_ : XW _ _ _ _ _ _ _ 105 _ _))
          · replace vc := vc.1 c
            refine xi_iinc (v := x13 + 1) (ls' := [some (.ref 46), none, some (.ref a), some (.int x3), some (.long x4), none, some (.ref (r + 5)), some (.ref (a + 3)), some (.int x8), some (.int x9), some (.int x10), some (.long x11), none, some (.int (x13 + 1)), some (.int (xI h (a + 3) (x8 + x13).toNatClampNeg)), none, none]) (by decide +kernel : decode mX6_shareOut.2.1 149 = .ok (.iinc 13 1, 3)) rfl rfl (by decide) rfl (?_ : XW _ _ _ _ _ _ _ 152 _ _)
            refine xi_goto (by decide +kernel : decode mX6_shareOut.2.1 152 = .ok (.goto (-85), 3)) (by decide) (?_ : XW _ _ _ _ _ _ _ 67 _ _)
            refine xw_drop 14 (ls' := [some (.ref 46), none, some (.ref a), some (.int x3), some (.long x4), none, some (.ref (r + 5)), some (.ref (a + 3)), some (.int x8), some (.int x9), some (.int x10), some (.long x11), none, some (.int (x13 + 1)), none, none, none]) rfl ?_
            exact vc
          · replace vc := vc.2 c
            refine xi_iload (by decide +kernel : decode mX6_shareOut.2.1 105 = .ok (.iload 14, 2)) rfl (?_ : XW _ _ _ _ _ _ _ 107 _ _)
            refine xi_aload_n (by decide +kernel : decode mX6_shareOut.2.1 107 = .ok (.aload_n 0, 1)) rfl rfl (?_ : XW _ _ _ _ _ _ _ 108 _ _)
            refine xi_getR (y := 48) (by decide +kernel : decode mX6_shareOut.2.1 108 = .ok (.getfield 15, 3)) fX6_15 rfl (by omega) rfl hs.2.2 (?_ : XW _ _ _ _ _ _ _ 111 _ _)
            refine xi_alen (v := 101) (by decide +kernel : decode mX6_shareOut.2.1 111 = .ok (.arraylength, 1)) rfl (by omega) (Or.inr (Or.inl rfl)) rfl (?_ : XW _ _ _ _ _ _ _ 112 _ _)
            refine xi_icmp_ge (by decide +kernel : decode mX6_shareOut.2.1 112 = .ok (.if_icmp .ge 37, 3)) (by decide) (fun c => (?_ : XW _ _ _ _ _ _ _ 149 _ _)) (fun c => (?_ : XW _ _ _ _ _ _ _ 115 _ _))
            · replace vc := vc.1 c
              refine xi_iinc (v := x13 + 1) (ls' := [some (.ref 46), none, some (.ref a), some (.int x3), some (.long x4), none, some (.ref (r + 5)), some (.ref (a + 3)), some (.int x8), some (.int x9), some (.int x10), some (.long x11), none, some (.int (x13 + 1)), some (.int (xI h (a + 3) (x8 + x13).toNatClampNeg)), none, none]) (by decide +kernel : decode mX6_shareOut.2.1 149 = .ok (.iinc 13 1, 3)) rfl rfl (by decide) rfl (?_ : XW _ _ _ _ _ _ _ 152 _ _)
              refine xi_goto (by decide +kernel : decode mX6_shareOut.2.1 152 = .ok (.goto (-85), 3)) (by decide) (?_ : XW _ _ _ _ _ _ _ 67 _ _)
              refine xw_drop 14 (ls' := [some (.ref 46), none, some (.ref a), some (.int x3), some (.long x4), none, some (.ref (r + 5)), some (.ref (a + 3)), some (.int x8), some (.int x9), some (.int x10), some (.long x11), none, some (.int (x13 + 1)), none, none, none]) rfl ?_
              exact vc
            · replace vc := vc.2 c
              refine xi_lload (by decide +kernel : decode mX6_shareOut.2.1 115 = .ok (.lload 4, 2)) rfl (?_ : XW _ _ _ _ _ _ _ 117 _ _)
              refine xi_aload (by decide +kernel : decode mX6_shareOut.2.1 117 = .ok (.aload 6, 2)) rfl (?_ : XW _ _ _ _ _ _ _ 119 _ _)
              refine xi_iload (by decide +kernel : decode mX6_shareOut.2.1 119 = .ok (.iload 13, 2)) rfl (?_ : XW _ _ _ _ _ _ _ 121 _ _)
              obtain ⟨s1, vc⟩ := vc
              refine xi_iald (by decide +kernel : decode mX6_shareOut.2.1 121 = .ok (.iaload, 1)) (xRul_s5 hr) (by omega) s1 (?_ : XW _ _ _ _ _ _ _ 122 _ _)
              refine xi_i2l (by decide +kernel : decode mX6_shareOut.2.1 122 = .ok (.i2l, 1)) (?_ : XW _ _ _ _ _ _ _ 123 _ _)
              refine xi_lmul (by decide +kernel : decode mX6_shareOut.2.1 123 = .ok (.lmul, 1)) (?_ : XW _ _ _ _ _ _ _ 124 _ _)
              refine xi_iload (by decide +kernel : decode mX6_shareOut.2.1 124 = .ok (.iload 9, 2)) rfl (?_ : XW _ _ _ _ _ _ _ 126 _ _)
              refine xi_i2l (by decide +kernel : decode mX6_shareOut.2.1 126 = .ok (.i2l, 1)) (?_ : XW _ _ _ _ _ _ _ 127 _ _)
              obtain ⟨s1, vc⟩ := vc
              refine xi_ldiv (by decide +kernel : decode mX6_shareOut.2.1 127 = .ok (.ldiv, 1)) s1 (?_ : XW _ _ _ _ _ _ _ 128 _ _)
              refine xi_lstore (ls' := [some (.ref 46), none, some (.ref a), some (.int x3), some (.long x4), none, some (.ref (r + 5)), some (.ref (a + 3)), some (.int x8), some (.int x9), some (.int x10), some (.long x11), none, some (.int x13), some (.int (xI h (a + 3) (x8 + x13).toNatClampNeg)), some (.long ((x4 * (Int32.toInt64 (xI h (r + 5) x13.toNatClampNeg))) / (Int32.toInt64 x9))), none]) (by decide +kernel : decode mX6_shareOut.2.1 128 = .ok (.lstore 15, 2)) (by decide) rfl (?_ : XW _ _ _ _ _ _ _ 130 _ _)
              refine xi_lload (by decide +kernel : decode mX6_shareOut.2.1 130 = .ok (.lload 11, 2)) rfl (?_ : XW _ _ _ _ _ _ _ 132 _ _)
              refine xi_lload (by decide +kernel : decode mX6_shareOut.2.1 132 = .ok (.lload 15, 2)) rfl (?_ : XW _ _ _ _ _ _ _ 134 _ _)
              refine xi_lsub (by decide +kernel : decode mX6_shareOut.2.1 134 = .ok (.lsub, 1)) (?_ : XW _ _ _ _ _ _ _ 135 _ _)
              refine xi_lstore (ls' := [some (.ref 46), none, some (.ref a), some (.int x3), some (.long x4), none, some (.ref (r + 5)), some (.ref (a + 3)), some (.int x8), some (.int x9), some (.int x10), some (.long (x11 - ((x4 * (Int32.toInt64 (xI h (r + 5) x13.toNatClampNeg))) / (Int32.toInt64 x9)))), none, some (.int x13), some (.int (xI h (a + 3) (x8 + x13).toNatClampNeg)), some (.long ((x4 * (Int32.toInt64 (xI h (r + 5) x13.toNatClampNeg))) / (Int32.toInt64 x9))), none]) (by decide +kernel : decode mX6_shareOut.2.1 135 = .ok (.lstore 11, 2)) (by decide) rfl (?_ : XW _ _ _ _ _ _ _ 137 _ _)
              refine xi_aload_n (by decide +kernel : decode mX6_shareOut.2.1 137 = .ok (.aload_n 0, 1)) rfl rfl (?_ : XW _ _ _ _ _ _ _ 138 _ _)
              refine xi_getR (y := 48) (by decide +kernel : decode mX6_shareOut.2.1 138 = .ok (.getfield 15, 3)) fX6_15 rfl (by omega) rfl hs.2.2 (?_ : XW _ _ _ _ _ _ _ 141 _ _)
              refine xi_iload (by decide +kernel : decode mX6_shareOut.2.1 141 = .ok (.iload 14, 2)) rfl (?_ : XW _ _ _ _ _ _ _ 143 _ _)
              refine xi_dup2 (by decide +kernel : decode mX6_shareOut.2.1 143 = .ok (.dup2, 1)) rfl rfl (?_ : XW _ _ _ _ _ _ _ 144 _ _)
              obtain ⟨s1, vc⟩ := vc
              refine xi_lald (by decide +kernel : decode mX6_shareOut.2.1 144 = .ok (.laload, 1)) rfl (by omega) s1 (?_ : XW _ _ _ _ _ _ _ 145 _ _)
              refine xi_lload (by decide +kernel : decode mX6_shareOut.2.1 145 = .ok (.lload 15, 2)) rfl (?_ : XW _ _ _ _ _ _ _ 147 _ _)
              refine xi_ladd (by decide +kernel : decode mX6_shareOut.2.1 147 = .ok (.ladd, 1)) (?_ : XW _ _ _ _ _ _ _ 148 _ _)
              obtain ⟨s1, vc⟩ := vc
              refine xi_last (by decide +kernel : decode mX6_shareOut.2.1 148 = .ok (.lastore, 1)) rfl (by omega) s1 (?_ : XW _ _ _ _ _ _ (xSL 48 (va_up (xL h 48) (xI h (a + 3) (x8 + x13).toNatClampNeg).toNatClampNeg ((xL h 48 (xI h (a + 3) (x8 + x13).toNatClampNeg).toNatClampNeg) + ((x4 * (Int32.toInt64 (xI h (r + 5) x13.toNatClampNeg))) / (Int32.toInt64 x9)))) h) 149 _ _)
              refine xi_iinc (v := x13 + 1) (ls' := [some (.ref 46), none, some (.ref a), some (.int x3), some (.long x4), none, some (.ref (r + 5)), some (.ref (a + 3)), some (.int x8), some (.int x9), some (.int x10), some (.long (x11 - ((x4 * (Int32.toInt64 (xI h (r + 5) x13.toNatClampNeg))) / (Int32.toInt64 x9)))), none, some (.int (x13 + 1)), some (.int (xI h (a + 3) (x8 + x13).toNatClampNeg)), some (.long ((x4 * (Int32.toInt64 (xI h (r + 5) x13.toNatClampNeg))) / (Int32.toInt64 x9))), none]) (by decide +kernel : decode mX6_shareOut.2.1 149 = .ok (.iinc 13 1, 3)) rfl rfl (by decide) rfl (?_ : XW _ _ _ _ _ _ _ 152 _ _)
              refine xi_goto (by decide +kernel : decode mX6_shareOut.2.1 152 = .ok (.goto (-85), 3)) (by decide) (?_ : XW _ _ _ _ _ _ _ 67 _ _)
              refine xw_drop 14 (ls' := [some (.ref 46), none, some (.ref a), some (.int x3), some (.long x4), none, some (.ref (r + 5)), some (.ref (a + 3)), some (.int x8), some (.int x9), some (.int x10), some (.long (x11 - ((x4 * (Int32.toInt64 (xI h (r + 5) x13.toNatClampNeg))) / (Int32.toInt64 x9)))), none, some (.int (x13 + 1)), none, some (.long ((x4 * (Int32.toInt64 (xI h (r + 5) x13.toNatClampNeg))) / (Int32.toInt64 x9))), none]) rfl ?_
              refine xw_drop 15 (ls' := [some (.ref 46), none, some (.ref a), some (.int x3), some (.long x4), none, some (.ref (r + 5)), some (.ref (a + 3)), some (.int x8), some (.int x9), some (.int x10), some (.long (x11 - ((x4 * (Int32.toInt64 (xI h (r + 5) x13.toNatClampNeg))) / (Int32.toInt64 x9)))), none, some (.int (x13 + 1)), none, none, none]) rfl ?_
              exact vc
  · refine xi_iload (by decide +kernel : decode mX6_shareOut.2.1 67 = .ok (.iload 13, 2)) rfl (?_ : XW _ _ _ _ _ _ _ 69 _ _)
    refine xi_bipush (v := 6) (by decide +kernel : decode mX6_shareOut.2.1 69 = .ok (.bipush 6, 2)) (by decide) (?_ : XW _ _ _ _ _ _ _ 71 _ _)
    refine xi_icmp_gt (by decide +kernel : decode mX6_shareOut.2.1 71 = .ok (.if_icmp .gt 84, 3)) (by decide) (fun c => (?_ : XW _ _ _ _ _ _ _ 155 _ _)) (fun c => (?_ : XW _ _ _ _ _ _ _ 74 _ _))
    · replace vc := vc.1 c
      refine xi_aload_n (by decide +kernel : decode mX6_shareOut.2.1 155 = .ok (.aload_n 0, 1)) rfl rfl (?_ : XW _ _ _ _ _ _ _ 156 _ _)
      refine xi_getR (y := 47) (by decide +kernel : decode mX6_shareOut.2.1 156 = .ok (.getfield 15, 3)) fX6_15 rfl (by omega) rfl hs.2.2 (?_ : XW _ _ _ _ _ _ _ 159 _ _)
      refine xi_aload_n (by decide +kernel : decode mX6_shareOut.2.1 159 = .ok (.aload_n 2, 1)) rfl rfl (?_ : XW _ _ _ _ _ _ _ 160 _ _)
      refine xi_iload_n (by decide +kernel : decode mX6_shareOut.2.1 160 = .ok (.iload_n 3, 1)) rfl rfl (?_ : XW _ _ _ _ _ _ _ 161 _ _)
      refine xi_iload (by decide +kernel : decode mX6_shareOut.2.1 161 = .ok (.iload 10, 2)) rfl (?_ : XW _ _ _ _ _ _ _ 163 _ _)
      refine xi_callV (b := 0) (bs := 0) (As := [.int x3, .int x10]) (st := [.ref 47]) (by decide +kernel : decode mX6_shareOut.2.1 163 = .ok (.invokevirtual 62, 3)) kX6_62 rfl (xPth_s0 ha) (by omega) rfl (s_X3_to n h a ha (by omega) x3 x10) (by decide) (by decide) (Nat.le_of_ble_eq_true rfl) (by omega) (fun v9 h9 hq9 => ?_)
      rw [hq9.1, hq9.2]
      show XW _ _ _ _ _ _ _ 166 _ [.int (rd (xI h (a + 3)) 707 0 (x3 * 7 + x10)), .ref 47]
      refine xi_lload (by decide +kernel : decode mX6_shareOut.2.1 166 = .ok (.lload 11, 2)) rfl (?_ : XW _ _ _ _ _ _ _ 168 _ _)
      refine xi_callS (b := 0) (bs := 0) (As := [.ref 47, .int (rd (xI h (a + 3)) 707 0 (x3 * 7 + x10)), .long x11]) (st := []) (by decide +kernel : decode mX6_shareOut.2.1 168 = .ok (.invokestatic 35, 3)) kX6_35 rfl rfl (s_X6_add n h 47 rfl (by omega) (rd (xI h (a + 3)) 707 0 (x3 * 7 + x10)) x11) (by decide) (by decide) (Nat.le_of_ble_eq_true rfl) (by omega) (fun v9 h9 hq9 => ?_)
      rw [hq9.1, hq9.2]
      show XW _ _ _ _ _ _ _ 171 _ []
      exact xi_vret (by decide +kernel : decode mX6_shareOut.2.1 171 = .ok (.return_, 1)) rfl vc
    · replace vc := vc.2 c
      refine xi_iload (by decide +kernel : decode mX6_shareOut.2.1 74 = .ok (.iload 13, 2)) rfl (?_ : XW _ _ _ _ _ _ _ 76 _ _)
      refine xi_aload (by decide +kernel : decode mX6_shareOut.2.1 76 = .ok (.aload 6, 2)) rfl (?_ : XW _ _ _ _ _ _ _ 78 _ _)
      refine xi_alen (v := 7) (by decide +kernel : decode mX6_shareOut.2.1 78 = .ok (.arraylength, 1)) (xRul_s5 hr) (by omega) (Or.inl rfl) rfl (?_ : XW _ _ _ _ _ _ _ 79 _ _)
      refine xi_icmp_ge (by decide +kernel : decode mX6_shareOut.2.1 79 = .ok (.if_icmp .ge 76, 3)) (by decide) (fun c => (?_ : XW _ _ _ _ _ _ _ 155 _ _)) (fun c => (?_ : XW _ _ _ _ _ _ _ 82 _ _))
      · replace vc := vc.1 c
        refine xi_aload_n (by decide +kernel : decode mX6_shareOut.2.1 155 = .ok (.aload_n 0, 1)) rfl rfl (?_ : XW _ _ _ _ _ _ _ 156 _ _)
        refine xi_getR (y := 47) (by decide +kernel : decode mX6_shareOut.2.1 156 = .ok (.getfield 15, 3)) fX6_15 rfl (by omega) rfl hs.2.2 (?_ : XW _ _ _ _ _ _ _ 159 _ _)
        refine xi_aload_n (by decide +kernel : decode mX6_shareOut.2.1 159 = .ok (.aload_n 2, 1)) rfl rfl (?_ : XW _ _ _ _ _ _ _ 160 _ _)
        refine xi_iload_n (by decide +kernel : decode mX6_shareOut.2.1 160 = .ok (.iload_n 3, 1)) rfl rfl (?_ : XW _ _ _ _ _ _ _ 161 _ _)
        refine xi_iload (by decide +kernel : decode mX6_shareOut.2.1 161 = .ok (.iload 10, 2)) rfl (?_ : XW _ _ _ _ _ _ _ 163 _ _)
        refine xi_callV (b := 0) (bs := 0) (As := [.int x3, .int x10]) (st := [.ref 47]) (by decide +kernel : decode mX6_shareOut.2.1 163 = .ok (.invokevirtual 62, 3)) kX6_62 rfl (xPth_s0 ha) (by omega) rfl (s_X3_to n h a ha (by omega) x3 x10) (by decide) (by decide) (Nat.le_of_ble_eq_true rfl) (by omega) (fun v9 h9 hq9 => ?_)
        rw [hq9.1, hq9.2]
        show XW _ _ _ _ _ _ _ 166 _ [.int (rd (xI h (a + 3)) 707 0 (x3 * 7 + x10)), .ref 47]
        refine xi_lload (by decide +kernel : decode mX6_shareOut.2.1 166 = .ok (.lload 11, 2)) rfl (?_ : XW _ _ _ _ _ _ _ 168 _ _)
        refine xi_callS (b := 0) (bs := 0) (As := [.ref 47, .int (rd (xI h (a + 3)) 707 0 (x3 * 7 + x10)), .long x11]) (st := []) (by decide +kernel : decode mX6_shareOut.2.1 168 = .ok (.invokestatic 35, 3)) kX6_35 rfl rfl (s_X6_add n h 47 rfl (by omega) (rd (xI h (a + 3)) 707 0 (x3 * 7 + x10)) x11) (by decide) (by decide) (Nat.le_of_ble_eq_true rfl) (by omega) (fun v9 h9 hq9 => ?_)
        rw [hq9.1, hq9.2]
        show XW _ _ _ _ _ _ _ 171 _ []
        exact xi_vret (by decide +kernel : decode mX6_shareOut.2.1 171 = .ok (.return_, 1)) rfl vc
      · replace vc := vc.2 c
        refine xi_aload (by decide +kernel : decode mX6_shareOut.2.1 82 = .ok (.aload 7, 2)) rfl (?_ : XW _ _ _ _ _ _ _ 84 _ _)
        refine xi_iload (by decide +kernel : decode mX6_shareOut.2.1 84 = .ok (.iload 8, 2)) rfl (?_ : XW _ _ _ _ _ _ _ 86 _ _)
        refine xi_iload (by decide +kernel : decode mX6_shareOut.2.1 86 = .ok (.iload 13, 2)) rfl (?_ : XW _ _ _ _ _ _ _ 88 _ _)
        refine xi_iadd (by decide +kernel : decode mX6_shareOut.2.1 88 = .ok (.iadd, 1)) (?_ : XW _ _ _ _ _ _ _ 89 _ _)
        obtain ⟨s1, vc⟩ := vc
        refine xi_iald (by decide +kernel : decode mX6_shareOut.2.1 89 = .ok (.iaload, 1)) (xPth_s3 ha) (by omega) s1 (?_ : XW _ _ _ _ _ _ _ 90 _ _)
        refine xi_istore (ls' := [some (.ref 46), none, some (.ref a), some (.int x3), some (.long x4), none, some (.ref (r + 5)), some (.ref (a + 3)), some (.int x8), some (.int x9), some (.int x10), some (.long x11), none, some (.int x13), some (.int (xI h (a + 3) (x8 + x13).toNatClampNeg)), none, none]) (by decide +kernel : decode mX6_shareOut.2.1 90 = .ok (.istore 14, 2)) (by decide) rfl (?_ : XW _ _ _ _ _ _ _ 92 _ _)
        refine xi_aload (by decide +kernel : decode mX6_shareOut.2.1 92 = .ok (.aload 6, 2)) rfl (?_ : XW _ _ _ _ _ _ _ 94 _ _)
        refine xi_iload (by decide +kernel : decode mX6_shareOut.2.1 94 = .ok (.iload 13, 2)) rfl (?_ : XW _ _ _ _ _ _ _ 96 _ _)
        obtain ⟨s1, vc⟩ := vc
        refine xi_iald (by decide +kernel : decode mX6_shareOut.2.1 96 = .ok (.iaload, 1)) (xRul_s5 hr) (by omega) s1 (?_ : XW _ _ _ _ _ _ _ 97 _ _)
        refine xi_if_eq (by decide +kernel : decode mX6_shareOut.2.1 97 = .ok (.ifCond .eq 52, 3)) (by decide) (fun c => (?_ : XW _ _ _ _ _ _ _ 149 _ _)) (fun c => (?_ : XW _ _ _ _ _ _ _ 100 _ _))
        · replace vc := vc.1 c
          refine xi_iinc (v := x13 + 1) (ls' := [some (.ref 46), none, some (.ref a), some (.int x3), some (.long x4), none, some (.ref (r + 5)), some (.ref (a + 3)), some (.int x8), some (.int x9), some (.int x10), some (.long x11), none, some (.int (x13 + 1)), some (.int (xI h (a + 3) (x8 + x13).toNatClampNeg)), none, none]) (by decide +kernel : decode mX6_shareOut.2.1 149 = .ok (.iinc 13 1, 3)) rfl rfl (by decide) rfl (?_ : XW _ _ _ _ _ _ _ 152 _ _)
          refine xi_goto (by decide +kernel : decode mX6_shareOut.2.1 152 = .ok (.goto (-85), 3)) (by decide) (?_ : XW _ _ _ _ _ _ _ 67 _ _)
          refine xw_drop 14 (ls' := [some (.ref 46), none, some (.ref a), some (.int x3), some (.long x4), none, some (.ref (r + 5)), some (.ref (a + 3)), some (.int x8), some (.int x9), some (.int x10), some (.long x11), none, some (.int (x13 + 1)), none, none, none]) rfl ?_
          exact vc
        · replace vc := vc.2 c
          refine xi_iload (by decide +kernel : decode mX6_shareOut.2.1 100 = .ok (.iload 14, 2)) rfl (?_ : XW _ _ _ _ _ _ _ 102 _ _)
          refine xi_if_lt (by decide +kernel : decode mX6_shareOut.2.1 102 = .ok (.ifCond .lt 47, 3)) (by decide) (fun c => (?_ : XW _ _ _ _ _ _ _ 149 _ _)) (fun c => (?_ : XW _ _ _ _ _ _ _ 105 _ _))
          · replace vc := vc.1 c
            refine xi_iinc (v := x13 + 1) (ls' := [some (.ref 46), none, some (.ref a), some (.int x3), some (.long x4), none, some (.ref (r + 5)), some (.ref (a + 3)), some (.int x8), some (.int x9), some (.int x10), some (.long x11), none, some (.int (x13 + 1)), some (.int (xI h (a + 3) (x8 + x13).toNatClampNeg)), none, none]) (by decide +kernel : decode mX6_shareOut.2.1 149 = .ok (.iinc 13 1, 3)) rfl rfl (by decide) rfl (?_ : XW _ _ _ _ _ _ _ 152 _ _)
            refine xi_goto (by decide +kernel : decode mX6_shareOut.2.1 152 = .ok (.goto (-85), 3)) (by decide) (?_ : XW _ _ _ _ _ _ _ 67 _ _)
            refine xw_drop 14 (ls' := [some (.ref 46), none, some (.ref a), some (.int x3), some (.long x4), none, some (.ref (r + 5)), some (.ref (a + 3)), some (.int x8), some (.int x9), some (.int x10), some (.long x11), none, some (.int (x13 + 1)), none, none, none]) rfl ?_
            exact vc
          · replace vc := vc.2 c
            refine xi_iload (by decide +kernel : decode mX6_shareOut.2.1 105 = .ok (.iload 14, 2)) rfl (?_ : XW _ _ _ _ _ _ _ 107 _ _)
            refine xi_aload_n (by decide +kernel : decode mX6_shareOut.2.1 107 = .ok (.aload_n 0, 1)) rfl rfl (?_ : XW _ _ _ _ _ _ _ 108 _ _)
            refine xi_getR (y := 47) (by decide +kernel : decode mX6_shareOut.2.1 108 = .ok (.getfield 15, 3)) fX6_15 rfl (by omega) rfl hs.2.2 (?_ : XW _ _ _ _ _ _ _ 111 _ _)
            refine xi_alen (v := 101) (by decide +kernel : decode mX6_shareOut.2.1 111 = .ok (.arraylength, 1)) rfl (by omega) (Or.inr (Or.inl rfl)) rfl (?_ : XW _ _ _ _ _ _ _ 112 _ _)
            refine xi_icmp_ge (by decide +kernel : decode mX6_shareOut.2.1 112 = .ok (.if_icmp .ge 37, 3)) (by decide) (fun c => (?_ : XW _ _ _ _ _ _ _ 149 _ _)) (fun c => (?_ : XW _ _ _ _ _ _ _ 115 _ _))
            · replace vc := vc.1 c
              refine xi_iinc (v := x13 + 1) (ls' := [some (.ref 46), none, some (.ref a), some (.int x3), some (.long x4), none, some (.ref (r + 5)), some (.ref (a + 3)), some (.int x8), some (.int x9), some (.int x10), some (.long x11), none, some (.int (x13 + 1)), some (.int (xI h (a + 3) (x8 + x13).toNatClampNeg)), none, none]) (by decide +kernel : decode mX6_shareOut.2.1 149 = .ok (.iinc 13 1, 3)) rfl rfl (by decide) rfl (?_ : XW _ _ _ _ _ _ _ 152 _ _)
              refine xi_goto (by decide +kernel : decode mX6_shareOut.2.1 152 = .ok (.goto (-85), 3)) (by decide) (?_ : XW _ _ _ _ _ _ _ 67 _ _)
              refine xw_drop 14 (ls' := [some (.ref 46), none, some (.ref a), some (.int x3), some (.long x4), none, some (.ref (r + 5)), some (.ref (a + 3)), some (.int x8), some (.int x9), some (.int x10), some (.long x11), none, some (.int (x13 + 1)), none, none, none]) rfl ?_
              exact vc
            · replace vc := vc.2 c
              refine xi_lload (by decide +kernel : decode mX6_shareOut.2.1 115 = .ok (.lload 4, 2)) rfl (?_ : XW _ _ _ _ _ _ _ 117 _ _)
              refine xi_aload (by decide +kernel : decode mX6_shareOut.2.1 117 = .ok (.aload 6, 2)) rfl (?_ : XW _ _ _ _ _ _ _ 119 _ _)
              refine xi_iload (by decide +kernel : decode mX6_shareOut.2.1 119 = .ok (.iload 13, 2)) rfl (?_ : XW _ _ _ _ _ _ _ 121 _ _)
              obtain ⟨s1, vc⟩ := vc
              refine xi_iald (by decide +kernel : decode mX6_shareOut.2.1 121 = .ok (.iaload, 1)) (xRul_s5 hr) (by omega) s1 (?_ : XW _ _ _ _ _ _ _ 122 _ _)
              refine xi_i2l (by decide +kernel : decode mX6_shareOut.2.1 122 = .ok (.i2l, 1)) (?_ : XW _ _ _ _ _ _ _ 123 _ _)
              refine xi_lmul (by decide +kernel : decode mX6_shareOut.2.1 123 = .ok (.lmul, 1)) (?_ : XW _ _ _ _ _ _ _ 124 _ _)
              refine xi_iload (by decide +kernel : decode mX6_shareOut.2.1 124 = .ok (.iload 9, 2)) rfl (?_ : XW _ _ _ _ _ _ _ 126 _ _)
              refine xi_i2l (by decide +kernel : decode mX6_shareOut.2.1 126 = .ok (.i2l, 1)) (?_ : XW _ _ _ _ _ _ _ 127 _ _)
              obtain ⟨s1, vc⟩ := vc
              refine xi_ldiv (by decide +kernel : decode mX6_shareOut.2.1 127 = .ok (.ldiv, 1)) s1 (?_ : XW _ _ _ _ _ _ _ 128 _ _)
              refine xi_lstore (ls' := [some (.ref 46), none, some (.ref a), some (.int x3), some (.long x4), none, some (.ref (r + 5)), some (.ref (a + 3)), some (.int x8), some (.int x9), some (.int x10), some (.long x11), none, some (.int x13), some (.int (xI h (a + 3) (x8 + x13).toNatClampNeg)), some (.long ((x4 * (Int32.toInt64 (xI h (r + 5) x13.toNatClampNeg))) / (Int32.toInt64 x9))), none]) (by decide +kernel : decode mX6_shareOut.2.1 128 = .ok (.lstore 15, 2)) (by decide) rfl (?_ : XW _ _ _ _ _ _ _ 130 _ _)
              refine xi_lload (by decide +kernel : decode mX6_shareOut.2.1 130 = .ok (.lload 11, 2)) rfl (?_ : XW _ _ _ _ _ _ _ 132 _ _)
              refine xi_lload (by decide +kernel : decode mX6_shareOut.2.1 132 = .ok (.lload 15, 2)) rfl (?_ : XW _ _ _ _ _ _ _ 134 _ _)
              refine xi_lsub (by decide +kernel : decode mX6_shareOut.2.1 134 = .ok (.lsub, 1)) (?_ : XW _ _ _ _ _ _ _ 135 _ _)
              refine xi_lstore (ls' := [some (.ref 46), none, some (.ref a), some (.int x3), some (.long x4), none, some (.ref (r + 5)), some (.ref (a + 3)), some (.int x8), some (.int x9), some (.int x10), some (.long (x11 - ((x4 * (Int32.toInt64 (xI h (r + 5) x13.toNatClampNeg))) / (Int32.toInt64 x9)))), none, some (.int x13), some (.int (xI h (a + 3) (x8 + x13).toNatClampNeg)), some (.long ((x4 * (Int32.toInt64 (xI h (r + 5) x13.toNatClampNeg))) / (Int32.toInt64 x9))), none]) (by decide +kernel : decode mX6_shareOut.2.1 135 = .ok (.lstore 11, 2)) (by decide) rfl (?_ : XW _ _ _ _ _ _ _ 137 _ _)
              refine xi_aload_n (by decide +kernel : decode mX6_shareOut.2.1 137 = .ok (.aload_n 0, 1)) rfl rfl (?_ : XW _ _ _ _ _ _ _ 138 _ _)
              refine xi_getR (y := 47) (by decide +kernel : decode mX6_shareOut.2.1 138 = .ok (.getfield 15, 3)) fX6_15 rfl (by omega) rfl hs.2.2 (?_ : XW _ _ _ _ _ _ _ 141 _ _)
              refine xi_iload (by decide +kernel : decode mX6_shareOut.2.1 141 = .ok (.iload 14, 2)) rfl (?_ : XW _ _ _ _ _ _ _ 143 _ _)
              refine xi_dup2 (by decide +kernel : decode mX6_shareOut.2.1 143 = .ok (.dup2, 1)) rfl rfl (?_ : XW _ _ _ _ _ _ _ 144 _ _)
              obtain ⟨s1, vc⟩ := vc
              refine xi_lald (by decide +kernel : decode mX6_shareOut.2.1 144 = .ok (.laload, 1)) rfl (by omega) s1 (?_ : XW _ _ _ _ _ _ _ 145 _ _)
              refine xi_lload (by decide +kernel : decode mX6_shareOut.2.1 145 = .ok (.lload 15, 2)) rfl (?_ : XW _ _ _ _ _ _ _ 147 _ _)
              refine xi_ladd (by decide +kernel : decode mX6_shareOut.2.1 147 = .ok (.ladd, 1)) (?_ : XW _ _ _ _ _ _ _ 148 _ _)
              obtain ⟨s1, vc⟩ := vc
              refine xi_last (by decide +kernel : decode mX6_shareOut.2.1 148 = .ok (.lastore, 1)) rfl (by omega) s1 (?_ : XW _ _ _ _ _ _ (xSL 47 (va_up (xL h 47) (xI h (a + 3) (x8 + x13).toNatClampNeg).toNatClampNeg ((xL h 47 (xI h (a + 3) (x8 + x13).toNatClampNeg).toNatClampNeg) + ((x4 * (Int32.toInt64 (xI h (r + 5) x13.toNatClampNeg))) / (Int32.toInt64 x9)))) h) 149 _ _)
              refine xi_iinc (v := x13 + 1) (ls' := [some (.ref 46), none, some (.ref a), some (.int x3), some (.long x4), none, some (.ref (r + 5)), some (.ref (a + 3)), some (.int x8), some (.int x9), some (.int x10), some (.long (x11 - ((x4 * (Int32.toInt64 (xI h (r + 5) x13.toNatClampNeg))) / (Int32.toInt64 x9)))), none, some (.int (x13 + 1)), some (.int (xI h (a + 3) (x8 + x13).toNatClampNeg)), some (.long ((x4 * (Int32.toInt64 (xI h (r + 5) x13.toNatClampNeg))) / (Int32.toInt64 x9))), none]) (by decide +kernel : decode mX6_shareOut.2.1 149 = .ok (.iinc 13 1, 3)) rfl rfl (by decide) rfl (?_ : XW _ _ _ _ _ _ _ 152 _ _)
              refine xi_goto (by decide +kernel : decode mX6_shareOut.2.1 152 = .ok (.goto (-85), 3)) (by decide) (?_ : XW _ _ _ _ _ _ _ 67 _ _)
              refine xw_drop 14 (ls' := [some (.ref 46), none, some (.ref a), some (.int x3), some (.long x4), none, some (.ref (r + 5)), some (.ref (a + 3)), some (.int x8), some (.int x9), some (.int x10), some (.long (x11 - ((x4 * (Int32.toInt64 (xI h (r + 5) x13.toNatClampNeg))) / (Int32.toInt64 x9)))), none, some (.int (x13 + 1)), none, some (.long ((x4 * (Int32.toInt64 (xI h (r + 5) x13.toNatClampNeg))) / (Int32.toInt64 x9))), none]) rfl ?_
              refine xw_drop 15 (ls' := [some (.ref 46), none, some (.ref a), some (.int x3), some (.long x4), none, some (.ref (r + 5)), some (.ref (a + 3)), some (.int x8), some (.int x9), some (.int x10), some (.long (x11 - ((x4 * (Int32.toInt64 (xI h (r + 5) x13.toNatClampNeg))) / (Int32.toInt64 x9)))), none, some (.int (x13 + 1)), none, none, none]) rfl ?_
              exact vc

/-- sums of longs, from x on, k of them -/
def sR (f : Nat → Int64) : Nat → Nat → Int64
  | _, 0 => 0
  | x, k + 1 => f x + sR f (x + 1) k
/-- what a square gives to square j: by each face beyond the least its part, by the least what is left -/
def shc (T : Nat → Nat) (p : Nat → Int64) (lst : Nat) (here : Int64) (j : Nat) : Int64 := sR (fun g => if T g = j then p g else 0) (lst + 1) (6 - lst) + (if T lst = j then here - sR p (lst + 1) (6 - lst) else 0)
theorem iz_rd {α : Type} {f : Nat → α} {N : Int32} {M : Nat} {d : α} {k : Nat} (hN : N.toInt = M) (h1 : k < M) : rd f N d (nI k) = f k := by
  rw [iz_nI, rd_in (by omega) (by omega)]
  rfl
theorem iz_wr {α : Type} {f : Nat → α} {N : Int32} {M : Nat} {v : α} {k : Nat} (hN : N.toInt = M) (h1 : k < M) : wr f N (nI k) v = va_up f k v := by
  rw [iz_nI, wr_in (by omega) (by omega)]
  rfl
theorem l_shareOut (n sn ya za r a s lst : Nat) {Q : Option Value → XH → Prop} {X : String → XH → Prop} (hn : sn + 3 ≤ n) (hnr : r + 9 ≤ n) (hna : a + 4 ≤ n) (T : Nat → Nat) (here : Int64) (allz : Int32) (hs0 : s ≤ 100) (hl0 : 1 ≤ lst) (hl1 : lst ≤ 6) (hall : 0 < allz) (p : Nat → Int64) :
    ∀ (k x : Nat) (h : XH) (left : Int64), x + k = 7 → lst < x → xSnd sn ya za (xP h) → xRul r (xP h) → xPth a (xP h) → (∀ f, 1 ≤ f → f ≤ 6 → xI h (a + 3) (s * 7 + f) = nI (T f) ∧ T f ≤ 100) → (∀ f, 1 ≤ f → f ≤ 6 → p f = here * Int32.toInt64 (xI h (r + 5) f) / Int32.toInt64 allz) →
      (∀ F' : Nat → Int64, (∀ j, j < 101 → F' j = xL h za j + (sR (fun g => if T g = j then p g else 0) x k + (if T lst = j then left - sR p x k else 0))) → Q none (xSL za F' h)) →
      XW (xrm 2 0 0) mX6_shareOut (xE n Q X 0 0) n 0 0 h 67 [some (.ref sn), none, some (.ref a), some (.int (nI s)), some (.long here), none, some (.ref (r + 5)), some (.ref (a + 3)), some (.int (nI s * 7)), some (.int allz), some (.int (nI lst)), some (.long left), none, some (.int (nI x)), none, none, none] [] := by
  have e7 : nI s * 7 = nI (s * 7) := pk_mul s 7
  intro k
  induction k with
  | zero =>
    intro x h left hx hlx hs hr ha hT hp hQ
    have hx7 : x = 7 := by omega
    subst hx7
    refine v_X6_shareOut_67 n sn ya za hs hn r hr hnr a ha hna (nI s) here (nI s * 7) allz (nI lst) left (nI 7) ⟨fun _ => ?_, fun c => absurd (show (6 : Int32) < nI 7 by decide) c⟩
    rw [e7, nI_add]
    obtain ⟨h1, h2⟩ := hT lst hl0 hl1
    rw [iz_rd (M := 707) rfl (by omega), h1, iz_wr (M := 101) rfl (by omega), nI_clamp (by omega)]
    refine hQ _ (fun j hj => ?_)
    unfold va_up
    by_cases c : j = T lst
    · subst c
      rw [if_pos rfl, if_pos rfl]
      simp [sR]
    · rw [if_neg c, if_neg (Ne.symm c)]
      simp [sR]
  | succ k ih =>
    intro x h left hx hlx hs hr ha hT hp hQ
    obtain ⟨h1, h2⟩ := hT x (by omega) (by omega)
    have hpx := hp x (by omega) (by omega)
    refine v_X6_shareOut_67 n sn ya za hs hn r hr hnr a ha hna (nI s) here (nI s * 7) allz (nI lst) left (nI x) ⟨fun c => absurd c (nI_nlt (a := 6) (b := x) (by omega) (by omega)), fun _ => ⟨fun c => absurd c (nI_ge (a := x) (b := 7) (by omega) (by omega)), fun _ => ?_⟩⟩
    rw [e7, nI_add]
    have q1 : vp_in (nI (s * 7 + x)) 707 := vp_in_nI (by omega) (by omega)
    have q2 : vp_in (nI x) 7 := vp_in_nI (by omega) (by omega)
    rw [nI_clamp (n := s * 7 + x) (by omega), nI_clamp (n := x) (by omega), nI_1, h1]
    have hne : ¬ (Int32.toInt64 allz) = 0 := by
      intro q
      have q3 : (Int32.toInt64 allz).toInt = 0 := by rw [q]; rfl
      rw [Int32.toInt_toInt64] at q3
      rw [Int32.lt_iff_toInt_lt] at hall
      have : (0 : Int32).toInt = 0 := by decide
      omega
    have cont : ∀ (h' : XH) (left' : Int64), xP h' = xP h → xI h' = xI h → (∀ F' : Nat → Int64, (∀ j, j < 101 → F' j = xL h' za j + (sR (fun g => if T g = j then p g else 0) (x + 1) k + (if T lst = j then left' - sR p (x + 1) k else 0))) → Q none (xSL za F' h')) → XW (xrm 2 0 0) mX6_shareOut (xE n Q X 0 0) n 0 0 h' 67 [some (.ref sn), none, some (.ref a), some (.int (nI s)), some (.long here), none, some (.ref (r + 5)), some (.ref (a + 3)), some (.int (nI s * 7)), some (.int allz), some (.int (nI lst)), some (.long left'), none, some (.int (nI (x + 1))), none, none, none] [] := by
      intro h' left' e1 e2 hQ'
      exact ih (x + 1) h' left' (by omega) (by omega) (by rw [e1]; exact hs) (by rw [e1]; exact hr) (by rw [e1]; exact ha) (by rw [e2]; exact hT) (by rw [e2]; exact hp) hQ'
    rw [e7] at cont
    refine ⟨q1, q2, fun c0 => ?_, fun c0 => ⟨fun c => absurd c (nI_pos (by omega)), fun _ => ⟨fun c => absurd c (nI_ge (a := T x) (b := 101) (by omega) (by omega)), fun _ => ⟨q2, hne, vp_in_nI (by omega) (by omega), vp_in_nI (by omega) (by omega), ?_⟩⟩⟩⟩
    · have p0 : p x = 0 := by
        rw [hpx, c0]
        show here * 0 / _ = 0
        rw [Int64.mul_zero, Int64.zero_div]
      refine cont h left rfl rfl (fun F' hF' => hQ F' (fun j hj => ?_))
      rw [hF' j hj]
      simp only [sR, p0]
      have e0 : (if T x = j then (0 : Int64) else 0) = 0 := by split <;> rfl
      rw [e0, Int64.zero_add, Int64.zero_add]
    · rw [nI_clamp (n := T x) (by omega), ← hpx]
      refine cont _ _ rfl rfl (fun F' hF' => ?_)
      rw [xSL_SL]
      refine hQ F' (fun j hj => ?_)
      rw [hF' j hj, xL_SL, if_pos rfl]
      simp only [sR]
      unfold va_up
      by_cases c1 : j = T x
      · subst c1
        rw [if_pos rfl, if_pos rfl]
        split <;> grind
      · rw [if_neg c1, if_neg (Ne.symm c1)]
        split <;> grind
