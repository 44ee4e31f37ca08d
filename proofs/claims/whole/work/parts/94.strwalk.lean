/-! THE STRING'S OWN FUNCTIONS: walks -/
set_option maxRecDepth 20000 in
theorem v_J0_coder_7d493_0 {h : XH} {Q : Option Value → XH → Prop} {X : String → XH → Prop} (n i : Nat) (hi : i < jsN) 
    (vc : Q (some (.int 0)) h) :
    XW (xrm 1 0 0) mJ0_coder_7d493 (xE n Q X 0 0) n 0 0 h 0 [some (.ref (1000 + i))] [] := by
  refine xi_scst (by decide +kernel : decode mJ0_coder_7d493.2.1 0 = .ok (.getstatic 38, 3)) (gt_4 1 rfl rfl) (?_ : XW _ _ _ _ _ _ _ 3 _ _)
  refine xi_if_eq (by decide +kernel : decode mJ0_coder_7d493.2.1 3 = .ok (.ifCond .eq 10, 3)) (by decide)  (fun c => (absurd c (by decide) : XW _ _ _ _ _ _ _ 13 _ _)) (fun _ => (?_ : XW _ _ _ _ _ _ _ 6 _ _))
  refine xi_aload_n (by decide +kernel : decode mJ0_coder_7d493.2.1 6 = .ok (.aload_n 0, 1)) rfl rfl (?_ : XW _ _ _ _ _ _ _ 7 _ _)
  refine xi_scod (by decide +kernel : decode mJ0_coder_7d493.2.1 7 = .ok (.getfield 15, 3)) (gt_9 175 rfl rfl) hi (?_ : XW _ _ _ _ _ _ _ 10 _ _)
  refine xi_goto (by decide +kernel : decode mJ0_coder_7d493.2.1 10 = .ok (.goto 4, 3)) (by decide) (?_ : XW _ _ _ _ _ _ _ 14 _ _)
  exact xi_iret (by decide +kernel : decode mJ0_coder_7d493.2.1 14 = .ok (.ireturn, 1)) rfl rfl vc

set_option maxRecDepth 20000 in
theorem v_J0_isLatin1_aae02_0 {h : XH} {Q : Option Value → XH → Prop} {X : String → XH → Prop} (n i : Nat) (hi : i < jsN) 
    (vc : Q (some (.int 1)) h) :
    XW (xrm 1 0 0) mJ0_isLatin1_aae02 (xE n Q X 0 0) n 0 0 h 0 [some (.ref (1000 + i))] [] := by
  refine xi_scst (by decide +kernel : decode mJ0_isLatin1_aae02.2.1 0 = .ok (.getstatic 38, 3)) (gt_4 1 rfl rfl) (?_ : XW _ _ _ _ _ _ _ 3 _ _)
  refine xi_if_eq (by decide +kernel : decode mJ0_isLatin1_aae02.2.1 3 = .ok (.ifCond .eq 14, 3)) (by decide)  (fun c => (absurd c (by decide) : XW _ _ _ _ _ _ _ 17 _ _)) (fun _ => (?_ : XW _ _ _ _ _ _ _ 6 _ _))
  refine xi_aload_n (by decide +kernel : decode mJ0_isLatin1_aae02.2.1 6 = .ok (.aload_n 0, 1)) rfl rfl (?_ : XW _ _ _ _ _ _ _ 7 _ _)
  refine xi_scod (by decide +kernel : decode mJ0_isLatin1_aae02.2.1 7 = .ok (.getfield 15, 3)) (gt_9 175 rfl rfl) hi (?_ : XW _ _ _ _ _ _ _ 10 _ _)
  refine xi_if_ne (by decide +kernel : decode mJ0_isLatin1_aae02.2.1 10 = .ok (.ifCond .ne 7, 3)) (by decide)  (fun c => (absurd c (by decide) : XW _ _ _ _ _ _ _ 17 _ _)) (fun _ => (?_ : XW _ _ _ _ _ _ _ 13 _ _))
  refine xi_iconst (v := 1) (by decide +kernel : decode mJ0_isLatin1_aae02.2.1 13 = .ok (.iconst 1, 1)) (by decide) (?_ : XW _ _ _ _ _ _ _ 14 _ _)
  refine xi_goto (by decide +kernel : decode mJ0_isLatin1_aae02.2.1 14 = .ok (.goto 4, 3)) (by decide) (?_ : XW _ _ _ _ _ _ _ 18 _ _)
  exact xi_iret (by decide +kernel : decode mJ0_isLatin1_aae02.2.1 18 = .ok (.ireturn, 1)) rfl rfl vc

set_option maxRecDepth 20000 in
theorem v_J0_length_8abf5_0 {h : XH} {Q : Option Value → XH → Prop} {X : String → XH → Prop} (n i : Nat) (hi : i < jsN) 
    (vc : ∃ Q1, XSpec mJ0_coder_7d493 1 0 0 n n [.ref (1000 + i)] h Q1 xno ∧ ∀ v h1, Q1 v h1 → ∃ r1 : Int32, v = some (.int r1) ∧ (Q (some (.int ((nI (jsL i)) >>> ((r1 : Int32) &&& 31)))) h1)) :
    XW (xrm 2 0 0) mJ0_length_8abf5 (xE n Q X 0 0) n 0 0 h 0 [some (.ref (1000 + i))] [] := by
  refine xi_aload_n (by decide +kernel : decode mJ0_length_8abf5.2.1 0 = .ok (.aload_n 0, 1)) rfl rfl (?_ : XW _ _ _ _ _ _ _ 1 _ _)
  refine xi_sval (by decide +kernel : decode mJ0_length_8abf5.2.1 1 = .ok (.getfield 9, 3)) (gt_9 176 rfl rfl) hi (?_ : XW _ _ _ _ _ _ _ 4 _ _)
  refine xi_slen (v := nI (jsL i)) (by decide +kernel : decode mJ0_length_8abf5.2.1 4 = .ok (.arraylength, 1)) hi rfl (?_ : XW _ _ _ _ _ _ _ 5 _ _)
  refine xi_aload_n (by decide +kernel : decode mJ0_length_8abf5.2.1 5 = .ok (.aload_n 0, 1)) rfl rfl (?_ : XW _ _ _ _ _ _ _ 6 _ _)
  obtain ⟨Q1, sp, vc⟩ := vc
  refine xi_callVs (b := 0) (bs := 0) (As := []) (st := [.int (nI (jsL i))]) (by decide +kernel : decode mJ0_length_8abf5.2.1 6 = .ok (.invokevirtual 335, 3)) (xVs.of (own := RJ0) (y := mJ0_coder_7d493) cM_J0_335 cI_J0_coder_7d493 cE_J0_coder_7d493 cN_J0 cC_J0_coder_7d493 cD_J0_coder_7d493) rfl hi rfl sp (by decide) (by decide) (Nat.le_of_ble_eq_true rfl) (by omega) (fun v9 h1 hq9 => ?_)
  obtain ⟨r1, e9, vc⟩ := vc v9 h1 hq9
  subst e9
  show XW _ _ _ _ _ _ _ 9 _ [.int r1, .int (nI (jsL i))]
  refine xi_ishr (by decide +kernel : decode mJ0_length_8abf5.2.1 9 = .ok (.ishr, 1)) (?_ : XW _ _ _ _ _ _ _ 10 _ _)
  exact xi_iret (by decide +kernel : decode mJ0_length_8abf5.2.1 10 = .ok (.ireturn, 1)) rfl rfl vc

set_option maxRecDepth 20000 in
theorem v_J3_checkIndex_8e157_0 {h : XH} {Q : Option Value → XH → Prop} {X : String → XH → Prop} (n : Nat)  (j : Int32) (l : Int32) (w : Value)
    (vc : (j < 0 → False) ∧ (¬ j < 0 → (j < l → Q (some (.int j)) h) ∧ (¬ j < l → False))) :
    XW (xrm 1 0 0) mJ3_checkIndex_8e157 (xE n Q X 0 0) n 0 0 h 0 [some (.int j), some (.int l), some w] [] := by
  refine xi_iload_n (by decide +kernel : decode mJ3_checkIndex_8e157.2.1 0 = .ok (.iload_n 0, 1)) rfl rfl (?_ : XW _ _ _ _ _ _ _ 1 _ _)
  refine xi_if_lt (by decide +kernel : decode mJ3_checkIndex_8e157.2.1 1 = .ok (.ifCond .lt 8, 3)) (by decide) (fun c => (?_ : XW _ _ _ _ _ _ _ 9 _ _)) (fun c => (?_ : XW _ _ _ _ _ _ _ 4 _ _))
  · replace vc := vc.1 c
    exact vc.elim
  · replace vc := vc.2 c
    refine xi_iload_n (by decide +kernel : decode mJ3_checkIndex_8e157.2.1 4 = .ok (.iload_n 0, 1)) rfl rfl (?_ : XW _ _ _ _ _ _ _ 5 _ _)
    refine xi_iload_n (by decide +kernel : decode mJ3_checkIndex_8e157.2.1 5 = .ok (.iload_n 1, 1)) rfl rfl (?_ : XW _ _ _ _ _ _ _ 6 _ _)
    refine xi_icmp_lt (by decide +kernel : decode mJ3_checkIndex_8e157.2.1 6 = .ok (.if_icmp .lt 10, 3)) (by decide) (fun c => (?_ : XW _ _ _ _ _ _ _ 16 _ _)) (fun c => (?_ : XW _ _ _ _ _ _ _ 9 _ _))
    · replace vc := vc.1 c
      refine xi_iload_n (by decide +kernel : decode mJ3_checkIndex_8e157.2.1 16 = .ok (.iload_n 0, 1)) rfl rfl (?_ : XW _ _ _ _ _ _ _ 17 _ _)
      exact xi_iret (by decide +kernel : decode mJ3_checkIndex_8e157.2.1 17 = .ok (.ireturn, 1)) rfl rfl vc
    · replace vc := vc.2 c
      exact vc.elim

set_option maxRecDepth 20000 in
theorem v_J0_checkIndex_df160_0 {h : XH} {Q : Option Value → XH → Prop} {X : String → XH → Prop} (n : Nat)  (j : Int32) (l : Int32)
    (vc : ∀ w : Value, (w = .ref 2900 ∨ w = .null) → ∃ Q1, XSpec mJ3_checkIndex_8e157 1 0 0 n n [.int j, .int l, w] h Q1 xno ∧ ∀ v h1, Q1 v h1 → ∃ r1 : Int32, v = some (.int r1) ∧ (Q none h1)) :
    XW (xrm 2 0 0) mJ0_checkIndex_df160 (xE n Q X 0 0) n 0 0 h 0 [some (.int j), some (.int l)] [] := by
  refine xi_iload_n (by decide +kernel : decode mJ0_checkIndex_df160.2.1 0 = .ok (.iload_n 0, 1)) rfl rfl (?_ : XW _ _ _ _ _ _ _ 1 _ _)
  refine xi_iload_n (by decide +kernel : decode mJ0_checkIndex_df160.2.1 1 = .ok (.iload_n 1, 1)) rfl rfl (?_ : XW _ _ _ _ _ _ _ 2 _ _)
  refine xi_sfmt (by decide +kernel : decode mJ0_checkIndex_df160.2.1 2 = .ok (.getstatic 1053, 3)) (gt_4 40 rfl rfl) (fun w hw => (?_ : XW _ _ _ _ _ _ _ 5 _ _))
  rcases hw with rfl | rfl
  · obtain ⟨Q1, sp, vc⟩ := vc _ (Or.inl rfl)
    refine xi_callS (b := 0) (bs := 0) (As := [.int j, .int l, .ref 2900]) (st := []) (by decide +kernel : decode mJ0_checkIndex_df160.2.1 5 = .ok (.invokestatic 1059, 3)) kJ0_1059 rfl rfl sp (by decide) (by decide) (Nat.le_of_ble_eq_true rfl) (by omega) (fun v9 h1 hq9 => ?_)
    obtain ⟨r1, e9, vc⟩ := vc v9 h1 hq9
    subst e9
    show XW _ _ _ _ _ _ _ 8 _ [.int r1]
    refine xi_pop (by decide +kernel : decode mJ0_checkIndex_df160.2.1 8 = .ok (.pop, 1)) rfl (?_ : XW _ _ _ _ _ _ _ 9 _ _)
    exact xi_vret (by decide +kernel : decode mJ0_checkIndex_df160.2.1 9 = .ok (.return_, 1)) rfl vc
  · obtain ⟨Q1, sp, vc⟩ := vc _ (Or.inr rfl)
    refine xi_callS (b := 0) (bs := 0) (As := [.int j, .int l, .null]) (st := []) (by decide +kernel : decode mJ0_checkIndex_df160.2.1 5 = .ok (.invokestatic 1059, 3)) kJ0_1059 rfl rfl sp (by decide) (by decide) (Nat.le_of_ble_eq_true rfl) (by omega) (fun v9 h1 hq9 => ?_)
    obtain ⟨r1, e9, vc⟩ := vc v9 h1 hq9
    subst e9
    show XW _ _ _ _ _ _ _ 8 _ [.int r1]
    refine xi_pop (by decide +kernel : decode mJ0_checkIndex_df160.2.1 8 = .ok (.pop, 1)) rfl (?_ : XW _ _ _ _ _ _ _ 9 _ _)
    exact xi_vret (by decide +kernel : decode mJ0_checkIndex_df160.2.1 9 = .ok (.return_, 1)) rfl vc

set_option maxRecDepth 20000 in
theorem v_J1_charAt_3b067_0 {h : XH} {Q : Option Value → XH → Prop} {X : String → XH → Prop} (n i : Nat) (hi : i < jsN)  (j : Int32)
    (vc : ∃ Q1, XSpec mJ0_checkIndex_df160 2 0 0 n n [.int j, .int (nI (jsL i))] h Q1 xno ∧ ∀ v h1, Q1 v h1 → v = none ∧ ((vp_in j (jsL i)) ∧ ((narrow .char (.int ((((jsC i j.toNatClampNeg) &&& 255).toUInt32 % 65536).toInt32)) = .int ((((jsC i j.toNatClampNeg) &&& 255).toUInt32 % 65536).toInt32)) ∧ (Q (some (.int ((((jsC i j.toNatClampNeg) &&& 255).toUInt32 % 65536).toInt32))) h1)))) :
    XW (xrm 3 0 0) mJ1_charAt_3b067 (xE n Q X 0 0) n 0 0 h 0 [some (.ref (2000 + i)), some (.int j)] [] := by
  refine xi_iload_n (by decide +kernel : decode mJ1_charAt_3b067.2.1 0 = .ok (.iload_n 1, 1)) rfl rfl (?_ : XW _ _ _ _ _ _ _ 1 _ _)
  refine xi_aload_n (by decide +kernel : decode mJ1_charAt_3b067.2.1 1 = .ok (.aload_n 0, 1)) rfl rfl (?_ : XW _ _ _ _ _ _ _ 2 _ _)
  refine xi_slen (v := nI (jsL i)) (by decide +kernel : decode mJ1_charAt_3b067.2.1 2 = .ok (.arraylength, 1)) hi rfl (?_ : XW _ _ _ _ _ _ _ 3 _ _)
  obtain ⟨Q1, sp, vc⟩ := vc
  refine xi_callS (b := 0) (bs := 0) (As := [.int j, .int (nI (jsL i))]) (st := []) (by decide +kernel : decode mJ1_charAt_3b067.2.1 3 = .ok (.invokestatic 9, 3)) kJ1_9 rfl rfl sp (by decide) (by decide) (Nat.le_of_ble_eq_true rfl) (by omega) (fun v9 h1 hq9 => ?_)
  obtain ⟨e9, vc⟩ := vc v9 h1 hq9
  subst e9
  show XW _ _ _ _ _ _ _ 6 _ []
  refine xi_aload_n (by decide +kernel : decode mJ1_charAt_3b067.2.1 6 = .ok (.aload_n 0, 1)) rfl rfl (?_ : XW _ _ _ _ _ _ _ 7 _ _)
  refine xi_iload_n (by decide +kernel : decode mJ1_charAt_3b067.2.1 7 = .ok (.iload_n 1, 1)) rfl rfl (?_ : XW _ _ _ _ _ _ _ 8 _ _)
  obtain ⟨s1, vc⟩ := vc
  refine xi_sbyt (by decide +kernel : decode mJ1_charAt_3b067.2.1 8 = .ok (.baload, 1)) hi s1 (?_ : XW _ _ _ _ _ _ _ 9 _ _)
  refine xi_sipush (v := 255) (by decide +kernel : decode mJ1_charAt_3b067.2.1 9 = .ok (.sipush 255, 3)) (by decide) (?_ : XW _ _ _ _ _ _ _ 12 _ _)
  refine xi_iand (by decide +kernel : decode mJ1_charAt_3b067.2.1 12 = .ok (.iand, 1)) (?_ : XW _ _ _ _ _ _ _ 13 _ _)
  refine xi_i2c (by decide +kernel : decode mJ1_charAt_3b067.2.1 13 = .ok (.i2c, 1)) (?_ : XW _ _ _ _ _ _ _ 14 _ _)
  obtain ⟨s1, vc⟩ := vc
  exact xi_iret (by decide +kernel : decode mJ1_charAt_3b067.2.1 14 = .ok (.ireturn, 1)) rfl s1 vc

set_option maxRecDepth 20000 in
theorem v_J0_charAt_5068e_0 {h : XH} {Q : Option Value → XH → Prop} {X : String → XH → Prop} (n i : Nat) (hi : i < jsN)  (j : Int32)
    (vc : ∃ Q1, XSpec mJ0_isLatin1_aae02 1 0 0 n n [.ref (1000 + i)] h Q1 xno ∧ ∀ v h1, Q1 v h1 → ∃ r1 : Int32, v = some (.int r1) ∧ ((r1 = 0 → ∃ Q1, XSpec mJ2_charAt_3b067 1 0 0 n n [.ref (2000 + i), .int j] h1 Q1 xno ∧ ∀ v h2, Q1 v h2 → ∃ r2 : Int32, v = some (.int r2) ∧ ((narrow .char (.int r2) = .int r2) ∧ (Q (some (.int r2)) h2))) ∧ (¬ r1 = 0 → ∃ Q1, XSpec mJ1_charAt_3b067 3 0 0 n n [.ref (2000 + i), .int j] h1 Q1 xno ∧ ∀ v h3, Q1 v h3 → ∃ r3 : Int32, v = some (.int r3) ∧ ((narrow .char (.int r3) = .int r3) ∧ (Q (some (.int r3)) h3))))) :
    XW (xrm 4 0 0) mJ0_charAt_5068e (xE n Q X 0 0) n 0 0 h 0 [some (.ref (1000 + i)), some (.int j)] [] := by
  refine xi_aload_n (by decide +kernel : decode mJ0_charAt_5068e.2.1 0 = .ok (.aload_n 0, 1)) rfl rfl (?_ : XW _ _ _ _ _ _ _ 1 _ _)
  obtain ⟨Q1, sp, vc⟩ := vc
  refine xi_callVs (b := 0) (bs := 0) (As := []) (st := []) (by decide +kernel : decode mJ0_charAt_5068e.2.1 1 = .ok (.invokevirtual 492, 3)) (xVs.of (own := RJ0) (y := mJ0_isLatin1_aae02) cM_J0_492 cI_J0_isLatin1_aae02 cE_J0_isLatin1_aae02 cN_J0 cC_J0_isLatin1_aae02 cD_J0_isLatin1_aae02) rfl hi rfl sp (by decide) (by decide) (Nat.le_of_ble_eq_true rfl) (by omega) (fun v9 h1 hq9 => ?_)
  obtain ⟨r1, e9, vc⟩ := vc v9 h1 hq9
  subst e9
  show XW _ _ _ _ _ _ _ 4 _ [.int r1]
  refine xi_if_eq (by decide +kernel : decode mJ0_charAt_5068e.2.1 4 = .ok (.ifCond .eq 12, 3)) (by decide) (fun c => (?_ : XW _ _ _ _ _ _ _ 16 _ _)) (fun c => (?_ : XW _ _ _ _ _ _ _ 7 _ _))
  · replace vc := vc.1 c
    refine xi_aload_n (by decide +kernel : decode mJ0_charAt_5068e.2.1 16 = .ok (.aload_n 0, 1)) rfl rfl (?_ : XW _ _ _ _ _ _ _ 17 _ _)
    refine xi_sval (by decide +kernel : decode mJ0_charAt_5068e.2.1 17 = .ok (.getfield 9, 3)) (gt_9 176 rfl rfl) hi (?_ : XW _ _ _ _ _ _ _ 20 _ _)
    refine xi_iload_n (by decide +kernel : decode mJ0_charAt_5068e.2.1 20 = .ok (.iload_n 1, 1)) rfl rfl (?_ : XW _ _ _ _ _ _ _ 21 _ _)
    obtain ⟨Q1, sp, vc⟩ := vc
    refine xi_callS (b := 0) (bs := 0) (As := [.ref (2000 + i), .int j]) (st := []) (by decide +kernel : decode mJ0_charAt_5068e.2.1 21 = .ok (.invokestatic 498, 3)) kJ0_498 rfl rfl sp (by decide) (by decide) (Nat.le_of_ble_eq_true rfl) (by omega) (fun v9 h2 hq9 => ?_)
    obtain ⟨r2, e9, vc⟩ := vc v9 h2 hq9
    subst e9
    show XW _ _ _ _ _ _ _ 24 _ [.int r2]
    obtain ⟨s1, vc⟩ := vc
    exact xi_iret (by decide +kernel : decode mJ0_charAt_5068e.2.1 24 = .ok (.ireturn, 1)) rfl s1 vc
  · replace vc := vc.2 c
    refine xi_aload_n (by decide +kernel : decode mJ0_charAt_5068e.2.1 7 = .ok (.aload_n 0, 1)) rfl rfl (?_ : XW _ _ _ _ _ _ _ 8 _ _)
    refine xi_sval (by decide +kernel : decode mJ0_charAt_5068e.2.1 8 = .ok (.getfield 9, 3)) (gt_9 176 rfl rfl) hi (?_ : XW _ _ _ _ _ _ _ 11 _ _)
    refine xi_iload_n (by decide +kernel : decode mJ0_charAt_5068e.2.1 11 = .ok (.iload_n 1, 1)) rfl rfl (?_ : XW _ _ _ _ _ _ _ 12 _ _)
    obtain ⟨Q1, sp, vc⟩ := vc
    refine xi_callS (b := 0) (bs := 0) (As := [.ref (2000 + i), .int j]) (st := []) (by decide +kernel : decode mJ0_charAt_5068e.2.1 12 = .ok (.invokestatic 495, 3)) kJ0_495 rfl rfl sp (by decide) (by decide) (Nat.le_of_ble_eq_true rfl) (by omega) (fun v9 h3 hq9 => ?_)
    obtain ⟨r3, e9, vc⟩ := vc v9 h3 hq9
    subst e9
    show XW _ _ _ _ _ _ _ 15 _ [.int r3]
    obtain ⟨s1, vc⟩ := vc
    exact xi_iret (by decide +kernel : decode mJ0_charAt_5068e.2.1 15 = .ok (.ireturn, 1)) rfl s1 vc

set_option maxRecDepth 20000 in
theorem v_J1_canEncode_9a6ad_0 {h : XH} {Q : Option Value → XH → Prop} {X : String → XH → Prop} (n : Nat)  (j : Int32)
    (vc : (j < 0 → Q (some (.int 0)) h) ∧ (¬ j < 0 → (255 < j → Q (some (.int 0)) h) ∧ (¬ 255 < j → Q (some (.int 1)) h))) :
    XW (xrm 1 0 0) mJ1_canEncode_9a6ad (xE n Q X 0 0) n 0 0 h 0 [some (.int j)] [] := by
  refine xi_iload_n (by decide +kernel : decode mJ1_canEncode_9a6ad.2.1 0 = .ok (.iload_n 0, 1)) rfl rfl (?_ : XW _ _ _ _ _ _ _ 1 _ _)
  refine xi_if_lt (by decide +kernel : decode mJ1_canEncode_9a6ad.2.1 1 = .ok (.ifCond .lt 14, 3)) (by decide) (fun c => (?_ : XW _ _ _ _ _ _ _ 15 _ _)) (fun c => (?_ : XW _ _ _ _ _ _ _ 4 _ _))
  · replace vc := vc.1 c
    refine xi_iconst (v := 0) (by decide +kernel : decode mJ1_canEncode_9a6ad.2.1 15 = .ok (.iconst 0, 1)) (by decide) (?_ : XW _ _ _ _ _ _ _ 16 _ _)
    exact xi_iret (by decide +kernel : decode mJ1_canEncode_9a6ad.2.1 16 = .ok (.ireturn, 1)) rfl rfl vc
  · replace vc := vc.2 c
    refine xi_iload_n (by decide +kernel : decode mJ1_canEncode_9a6ad.2.1 4 = .ok (.iload_n 0, 1)) rfl rfl (?_ : XW _ _ _ _ _ _ _ 5 _ _)
    refine xi_sipush (v := 255) (by decide +kernel : decode mJ1_canEncode_9a6ad.2.1 5 = .ok (.sipush 255, 3)) (by decide) (?_ : XW _ _ _ _ _ _ _ 8 _ _)
    refine xi_icmp_gt (by decide +kernel : decode mJ1_canEncode_9a6ad.2.1 8 = .ok (.if_icmp .gt 7, 3)) (by decide) (fun c => (?_ : XW _ _ _ _ _ _ _ 15 _ _)) (fun c => (?_ : XW _ _ _ _ _ _ _ 11 _ _))
    · replace vc := vc.1 c
      refine xi_iconst (v := 0) (by decide +kernel : decode mJ1_canEncode_9a6ad.2.1 15 = .ok (.iconst 0, 1)) (by decide) (?_ : XW _ _ _ _ _ _ _ 16 _ _)
      exact xi_iret (by decide +kernel : decode mJ1_canEncode_9a6ad.2.1 16 = .ok (.ireturn, 1)) rfl rfl vc
    · replace vc := vc.2 c
      refine xi_iconst (v := 1) (by decide +kernel : decode mJ1_canEncode_9a6ad.2.1 11 = .ok (.iconst 1, 1)) (by decide) (?_ : XW _ _ _ _ _ _ _ 12 _ _)
      refine xi_goto (by decide +kernel : decode mJ1_canEncode_9a6ad.2.1 12 = .ok (.goto 4, 3)) (by decide) (?_ : XW _ _ _ _ _ _ _ 16 _ _)
      exact xi_iret (by decide +kernel : decode mJ1_canEncode_9a6ad.2.1 16 = .ok (.ireturn, 1)) rfl rfl vc

set_option maxRecDepth 20000 in
theorem v_J1_indexOfChar_4cfef_0 {h : XH} {Q : Option Value → XH → Prop} {X : String → XH → Prop} (n i : Nat) (hi : i < jsN)  (j : Int32) (fm : Int32) (to : Int32)
    (vc : XW (xrm 1 0 0) mJ1_indexOfChar_4cfef (xE n Q X 0 0) n 0 0 h 7 [some (.ref (2000 + i)), none, none, some (.int to), some (.int j.toInt8.toInt32), some (.int fm)] []) :
    XW (xrm 1 0 0) mJ1_indexOfChar_4cfef (xE n Q X 0 0) n 0 0 h 0 [some (.ref (2000 + i)), some (.int j), some (.int fm), some (.int to), none, none] [] := by
  refine xi_iload_n (by decide +kernel : decode mJ1_indexOfChar_4cfef.2.1 0 = .ok (.iload_n 1, 1)) rfl rfl (?_ : XW _ _ _ _ _ _ _ 1 _ _)
  refine xi_i2b (by decide +kernel : decode mJ1_indexOfChar_4cfef.2.1 1 = .ok (.i2b, 1)) (?_ : XW _ _ _ _ _ _ _ 2 _ _)
  refine xi_istore (ls' := [some (.ref (2000 + i)), some (.int j), some (.int fm), some (.int to), some (.int j.toInt8.toInt32), none]) (by decide +kernel : decode mJ1_indexOfChar_4cfef.2.1 2 = .ok (.istore 4, 2)) (by decide) rfl (?_ : XW _ _ _ _ _ _ _ 4 _ _)
  refine xi_iload_n (by decide +kernel : decode mJ1_indexOfChar_4cfef.2.1 4 = .ok (.iload_n 2, 1)) rfl rfl (?_ : XW _ _ _ _ _ _ _ 5 _ _)
  refine xi_istore (ls' := [some (.ref (2000 + i)), some (.int j), some (.int fm), some (.int to), some (.int j.toInt8.toInt32), some (.int fm)]) (by decide +kernel : decode mJ1_indexOfChar_4cfef.2.1 5 = .ok (.istore 5, 2)) (by decide) rfl (?_ : XW _ _ _ _ _ _ _ 7 _ _)
  refine xw_drop 1 (ls' := [some (.ref (2000 + i)), none, some (.int fm), some (.int to), some (.int j.toInt8.toInt32), some (.int fm)]) rfl ?_
  refine xw_drop 2 (ls' := [some (.ref (2000 + i)), none, none, some (.int to), some (.int j.toInt8.toInt32), some (.int fm)]) rfl ?_
  exact vc

set_option maxRecDepth 20000 in
theorem v_J1_indexOfChar_4cfef_7 {h : XH} {Q : Option Value → XH → Prop} {X : String → XH → Prop} (n i : Nat) (hi : i < jsN)  (x3 : Int32) (x4 : Int32) (x5 : Int32)
    (vc : (x3 ≤ x5 → Q (some (.int (-1))) h) ∧ (¬ x3 ≤ x5 → (vp_in x5 (jsL i)) ∧ ((¬ (jsC i x5.toNatClampNeg) = x4 → XW (xrm 1 0 0) mJ1_indexOfChar_4cfef (xE n Q X 0 0) n 0 0 h 7 [some (.ref (2000 + i)), none, none, some (.int x3), some (.int x4), some (.int (x5 + 1))] []) ∧ ((jsC i x5.toNatClampNeg) = x4 → Q (some (.int x5)) h)))) :
    XW (xrm 1 0 0) mJ1_indexOfChar_4cfef (xE n Q X 0 0) n 0 0 h 7 [some (.ref (2000 + i)), none, none, some (.int x3), some (.int x4), some (.int x5)] [] := by
  refine xi_iload (by decide +kernel : decode mJ1_indexOfChar_4cfef.2.1 7 = .ok (.iload 5, 2)) rfl (?_ : XW _ _ _ _ _ _ _ 9 _ _)
  refine xi_iload_n (by decide +kernel : decode mJ1_indexOfChar_4cfef.2.1 9 = .ok (.iload_n 3, 1)) rfl rfl (?_ : XW _ _ _ _ _ _ _ 10 _ _)
  refine xi_icmp_ge (by decide +kernel : decode mJ1_indexOfChar_4cfef.2.1 10 = .ok (.if_icmp .ge 21, 3)) (by decide) (fun c => (?_ : XW _ _ _ _ _ _ _ 31 _ _)) (fun c => (?_ : XW _ _ _ _ _ _ _ 13 _ _))
  · replace vc := vc.1 c
    refine xi_iconst (v := (-1)) (by decide +kernel : decode mJ1_indexOfChar_4cfef.2.1 31 = .ok (.iconst (-1), 1)) (by decide) (?_ : XW _ _ _ _ _ _ _ 32 _ _)
    exact xi_iret (by decide +kernel : decode mJ1_indexOfChar_4cfef.2.1 32 = .ok (.ireturn, 1)) rfl rfl vc
  · replace vc := vc.2 c
    refine xi_aload_n (by decide +kernel : decode mJ1_indexOfChar_4cfef.2.1 13 = .ok (.aload_n 0, 1)) rfl rfl (?_ : XW _ _ _ _ _ _ _ 14 _ _)
    refine xi_iload (by decide +kernel : decode mJ1_indexOfChar_4cfef.2.1 14 = .ok (.iload 5, 2)) rfl (?_ : XW _ _ _ _ _ _ _ 16 _ _)
    obtain ⟨s1, vc⟩ := vc
    refine xi_sbyt (by decide +kernel : decode mJ1_indexOfChar_4cfef.2.1 16 = .ok (.baload, 1)) hi s1 (?_ : XW _ _ _ _ _ _ _ 17 _ _)
    refine xi_iload (by decide +kernel : decode mJ1_indexOfChar_4cfef.2.1 17 = .ok (.iload 4, 2)) rfl (?_ : XW _ _ _ _ _ _ _ 19 _ _)
    refine xi_icmp_ne (by decide +kernel : decode mJ1_indexOfChar_4cfef.2.1 19 = .ok (.if_icmp .ne 6, 3)) (by decide) (fun c => (?_ : XW _ _ _ _ _ _ _ 25 _ _)) (fun c => (?_ : XW _ _ _ _ _ _ _ 22 _ _))
    · replace vc := vc.1 c
      refine xi_iinc (v := x5 + 1) (ls' := [some (.ref (2000 + i)), none, none, some (.int x3), some (.int x4), some (.int (x5 + 1))]) (by decide +kernel : decode mJ1_indexOfChar_4cfef.2.1 25 = .ok (.iinc 5 1, 3)) rfl rfl (by decide) rfl (?_ : XW _ _ _ _ _ _ _ 28 _ _)
      refine xi_goto (by decide +kernel : decode mJ1_indexOfChar_4cfef.2.1 28 = .ok (.goto (-21), 3)) (by decide) (?_ : XW _ _ _ _ _ _ _ 7 _ _)
      exact vc
    · replace vc := vc.2 c
      refine xi_iload (by decide +kernel : decode mJ1_indexOfChar_4cfef.2.1 22 = .ok (.iload 5, 2)) rfl (?_ : XW _ _ _ _ _ _ _ 24 _ _)
      exact xi_iret (by decide +kernel : decode mJ1_indexOfChar_4cfef.2.1 24 = .ok (.ireturn, 1)) rfl rfl vc

set_option maxRecDepth 20000 in
theorem v_J1_indexOf_4cfef_0 {h : XH} {Q : Option Value → XH → Prop} {X : String → XH → Prop} (n i : Nat) (hi : i < jsN)  (j : Int32) (fm : Int32) (to : Int32)
    (vc : ∃ Q1, XSpec mJ1_canEncode_9a6ad 1 0 0 n n [.int j] h Q1 xno ∧ ∀ v h1, Q1 v h1 → ∃ r1 : Int32, v = some (.int r1) ∧ ((¬ r1 = 0 → ((if fm < 0 then 0 else fm) < (if (nI (jsL i)) < to then (nI (jsL i)) else to) → ∃ Q1, XSpec mJ1_indexOfChar_4cfef 1 0 0 n n [.ref (2000 + i), .int j, .int (if fm < 0 then 0 else fm), .int (if (nI (jsL i)) < to then (nI (jsL i)) else to)] h1 Q1 xno ∧ ∀ v h2, Q1 v h2 → ∃ r2 : Int32, v = some (.int r2) ∧ (Q (some (.int r2)) h2)) ∧ (¬ (if fm < 0 then 0 else fm) < (if (nI (jsL i)) < to then (nI (jsL i)) else to) → Q (some (.int (-1))) h1)) ∧ (r1 = 0 → Q (some (.int (-1))) h1))) :
    XW (xrm 2 0 0) mJ1_indexOf_4cfef (xE n Q X 0 0) n 0 0 h 0 [some (.ref (2000 + i)), some (.int j), some (.int fm), some (.int to)] [] := by
  refine xi_iload_n (by decide +kernel : decode mJ1_indexOf_4cfef.2.1 0 = .ok (.iload_n 1, 1)) rfl rfl (?_ : XW _ _ _ _ _ _ _ 1 _ _)
  obtain ⟨Q1, sp, vc⟩ := vc
  refine xi_callS (b := 0) (bs := 0) (As := [.int j]) (st := []) (by decide +kernel : decode mJ1_indexOf_4cfef.2.1 1 = .ok (.invokestatic 88, 3)) kJ1_88 rfl rfl sp (by decide) (by decide) (Nat.le_of_ble_eq_true rfl) (by omega) (fun v9 h1 hq9 => ?_)
  obtain ⟨r1, e9, vc⟩ := vc v9 h1 hq9
  subst e9
  show XW _ _ _ _ _ _ _ 4 _ [.int r1]
  refine xi_if_ne (by decide +kernel : decode mJ1_indexOf_4cfef.2.1 4 = .ok (.ifCond .ne 5, 3)) (by decide) (fun c => (?_ : XW _ _ _ _ _ _ _ 9 _ _)) (fun c => (?_ : XW _ _ _ _ _ _ _ 7 _ _))
  · replace vc := vc.1 c
    refine xi_iload_n (by decide +kernel : decode mJ1_indexOf_4cfef.2.1 9 = .ok (.iload_n 2, 1)) rfl rfl (?_ : XW _ _ _ _ _ _ _ 10 _ _)
    refine xi_iconst (v := 0) (by decide +kernel : decode mJ1_indexOf_4cfef.2.1 10 = .ok (.iconst 0, 1)) (by decide) (?_ : XW _ _ _ _ _ _ _ 11 _ _)
    refine xi_mmax (by decide +kernel : decode mJ1_indexOf_4cfef.2.1 11 = .ok (.invokestatic 92, 3)) kJ1_92.2.1 (by decide) (Nat.le_of_ble_eq_true rfl) (?_ : XW _ _ _ _ _ _ _ 14 _ _)
    refine xi_istore_n (ls' := [some (.ref (2000 + i)), some (.int j), some (.int (if fm < 0 then 0 else fm)), some (.int to)]) (by decide +kernel : decode mJ1_indexOf_4cfef.2.1 14 = .ok (.istore_n 2, 1)) rfl (by decide) rfl (?_ : XW _ _ _ _ _ _ _ 15 _ _)
    refine xi_iload_n (by decide +kernel : decode mJ1_indexOf_4cfef.2.1 15 = .ok (.iload_n 3, 1)) rfl rfl (?_ : XW _ _ _ _ _ _ _ 16 _ _)
    refine xi_aload_n (by decide +kernel : decode mJ1_indexOf_4cfef.2.1 16 = .ok (.aload_n 0, 1)) rfl rfl (?_ : XW _ _ _ _ _ _ _ 17 _ _)
    refine xi_slen (v := nI (jsL i)) (by decide +kernel : decode mJ1_indexOf_4cfef.2.1 17 = .ok (.arraylength, 1)) hi rfl (?_ : XW _ _ _ _ _ _ _ 18 _ _)
    refine xi_mmin (by decide +kernel : decode mJ1_indexOf_4cfef.2.1 18 = .ok (.invokestatic 38, 3)) kJ1_38.2.1 (by decide) (Nat.le_of_ble_eq_true rfl) (?_ : XW _ _ _ _ _ _ _ 21 _ _)
    refine xi_istore_n (ls' := [some (.ref (2000 + i)), some (.int j), some (.int (if fm < 0 then 0 else fm)), some (.int (if (nI (jsL i)) < to then (nI (jsL i)) else to))]) (by decide +kernel : decode mJ1_indexOf_4cfef.2.1 21 = .ok (.istore_n 3, 1)) rfl (by decide) rfl (?_ : XW _ _ _ _ _ _ _ 22 _ _)
    refine xi_iload_n (by decide +kernel : decode mJ1_indexOf_4cfef.2.1 22 = .ok (.iload_n 2, 1)) rfl rfl (?_ : XW _ _ _ _ _ _ _ 23 _ _)
    refine xi_iload_n (by decide +kernel : decode mJ1_indexOf_4cfef.2.1 23 = .ok (.iload_n 3, 1)) rfl rfl (?_ : XW _ _ _ _ _ _ _ 24 _ _)
    refine xi_icmp_lt (by decide +kernel : decode mJ1_indexOf_4cfef.2.1 24 = .ok (.if_icmp .lt 5, 3)) (by decide) (fun c => (?_ : XW _ _ _ _ _ _ _ 29 _ _)) (fun c => (?_ : XW _ _ _ _ _ _ _ 27 _ _))
    · replace vc := vc.1 c
      refine xi_aload_n (by decide +kernel : decode mJ1_indexOf_4cfef.2.1 29 = .ok (.aload_n 0, 1)) rfl rfl (?_ : XW _ _ _ _ _ _ _ 30 _ _)
      refine xi_iload_n (by decide +kernel : decode mJ1_indexOf_4cfef.2.1 30 = .ok (.iload_n 1, 1)) rfl rfl (?_ : XW _ _ _ _ _ _ _ 31 _ _)
      refine xi_iload_n (by decide +kernel : decode mJ1_indexOf_4cfef.2.1 31 = .ok (.iload_n 2, 1)) rfl rfl (?_ : XW _ _ _ _ _ _ _ 32 _ _)
      refine xi_iload_n (by decide +kernel : decode mJ1_indexOf_4cfef.2.1 32 = .ok (.iload_n 3, 1)) rfl rfl (?_ : XW _ _ _ _ _ _ _ 33 _ _)
      obtain ⟨Q1, sp, vc⟩ := vc
      refine xi_callS (b := 0) (bs := 0) (As := [.ref (2000 + i), .int j, .int (if fm < 0 then 0 else fm), .int (if (nI (jsL i)) < to then (nI (jsL i)) else to)]) (st := []) (by decide +kernel : decode mJ1_indexOf_4cfef.2.1 33 = .ok (.invokestatic 95, 3)) kJ1_95 rfl rfl sp (by decide) (by decide) (Nat.le_of_ble_eq_true rfl) (by omega) (fun v9 h2 hq9 => ?_)
      obtain ⟨r2, e9, vc⟩ := vc v9 h2 hq9
      subst e9
      show XW _ _ _ _ _ _ _ 36 _ [.int r2]
      exact xi_iret (by decide +kernel : decode mJ1_indexOf_4cfef.2.1 36 = .ok (.ireturn, 1)) rfl rfl vc
    · replace vc := vc.2 c
      refine xi_iconst (v := (-1)) (by decide +kernel : decode mJ1_indexOf_4cfef.2.1 27 = .ok (.iconst (-1), 1)) (by decide) (?_ : XW _ _ _ _ _ _ _ 28 _ _)
      exact xi_iret (by decide +kernel : decode mJ1_indexOf_4cfef.2.1 28 = .ok (.ireturn, 1)) rfl rfl vc
  · replace vc := vc.2 c
    refine xi_iconst (v := (-1)) (by decide +kernel : decode mJ1_indexOf_4cfef.2.1 7 = .ok (.iconst (-1), 1)) (by decide) (?_ : XW _ _ _ _ _ _ _ 8 _ _)
    exact xi_iret (by decide +kernel : decode mJ1_indexOf_4cfef.2.1 8 = .ok (.ireturn, 1)) rfl rfl vc

set_option maxRecDepth 20000 in
theorem v_J0_indexOf_7cf53_0 {h : XH} {Q : Option Value → XH → Prop} {X : String → XH → Prop} (n i : Nat) (hi : i < jsN)  (j : Int32) (fm : Int32)
    (vc : ∃ Q1, XSpec mJ0_isLatin1_aae02 1 0 0 n n [.ref (1000 + i)] h Q1 xno ∧ ∀ v h1, Q1 v h1 → ∃ r1 : Int32, v = some (.int r1) ∧ ((r1 = 0 → ∃ Q1, XSpec mJ0_length_8abf5 2 0 0 n n [.ref (1000 + i)] h1 Q1 xno ∧ ∀ v h2, Q1 v h2 → ∃ r2 : Int32, v = some (.int r2) ∧ (∃ Q1, XSpec mJ2_indexOf_4cfef 1 0 0 n n [.ref (2000 + i), .int j, .int fm, .int r2] h2 Q1 xno ∧ ∀ v h3, Q1 v h3 → ∃ r3 : Int32, v = some (.int r3) ∧ (Q (some (.int r3)) h3))) ∧ (¬ r1 = 0 → ∃ Q1, XSpec mJ0_length_8abf5 2 0 0 n n [.ref (1000 + i)] h1 Q1 xno ∧ ∀ v h4, Q1 v h4 → ∃ r4 : Int32, v = some (.int r4) ∧ (∃ Q1, XSpec mJ1_indexOf_4cfef 2 0 0 n n [.ref (2000 + i), .int j, .int fm, .int r4] h4 Q1 xno ∧ ∀ v h5, Q1 v h5 → ∃ r5 : Int32, v = some (.int r5) ∧ (Q (some (.int r5)) h5))))) :
    XW (xrm 3 0 0) mJ0_indexOf_7cf53 (xE n Q X 0 0) n 0 0 h 0 [some (.ref (1000 + i)), some (.int j), some (.int fm)] [] := by
  refine xi_aload_n (by decide +kernel : decode mJ0_indexOf_7cf53.2.1 0 = .ok (.aload_n 0, 1)) rfl rfl (?_ : XW _ _ _ _ _ _ _ 1 _ _)
  obtain ⟨Q1, sp, vc⟩ := vc
  refine xi_callVs (b := 0) (bs := 0) (As := []) (st := []) (by decide +kernel : decode mJ0_indexOf_7cf53.2.1 1 = .ok (.invokevirtual 492, 3)) (xVs.of (own := RJ0) (y := mJ0_isLatin1_aae02) cM_J0_492 cI_J0_isLatin1_aae02 cE_J0_isLatin1_aae02 cN_J0 cC_J0_isLatin1_aae02 cD_J0_isLatin1_aae02) rfl hi rfl sp (by decide) (by decide) (Nat.le_of_ble_eq_true rfl) (by omega) (fun v9 h1 hq9 => ?_)
  obtain ⟨r1, e9, vc⟩ := vc v9 h1 hq9
  subst e9
  show XW _ _ _ _ _ _ _ 4 _ [.int r1]
  refine xi_if_eq (by decide +kernel : decode mJ0_indexOf_7cf53.2.1 4 = .ok (.ifCond .eq 19, 3)) (by decide) (fun c => (?_ : XW _ _ _ _ _ _ _ 23 _ _)) (fun c => (?_ : XW _ _ _ _ _ _ _ 7 _ _))
  · replace vc := vc.1 c
    refine xi_aload_n (by decide +kernel : decode mJ0_indexOf_7cf53.2.1 23 = .ok (.aload_n 0, 1)) rfl rfl (?_ : XW _ _ _ _ _ _ _ 24 _ _)
    refine xi_sval (by decide +kernel : decode mJ0_indexOf_7cf53.2.1 24 = .ok (.getfield 9, 3)) (gt_9 176 rfl rfl) hi (?_ : XW _ _ _ _ _ _ _ 27 _ _)
    refine xi_iload_n (by decide +kernel : decode mJ0_indexOf_7cf53.2.1 27 = .ok (.iload_n 1, 1)) rfl rfl (?_ : XW _ _ _ _ _ _ _ 28 _ _)
    refine xi_iload_n (by decide +kernel : decode mJ0_indexOf_7cf53.2.1 28 = .ok (.iload_n 2, 1)) rfl rfl (?_ : XW _ _ _ _ _ _ _ 29 _ _)
    refine xi_aload_n (by decide +kernel : decode mJ0_indexOf_7cf53.2.1 29 = .ok (.aload_n 0, 1)) rfl rfl (?_ : XW _ _ _ _ _ _ _ 30 _ _)
    obtain ⟨Q1, sp, vc⟩ := vc
    refine xi_callVs (b := 0) (bs := 0) (As := []) (st := [.int fm, .int j, .ref (2000 + i)]) (by decide +kernel : decode mJ0_indexOf_7cf53.2.1 30 = .ok (.invokevirtual 505, 3)) (xVs.of (own := RJ0) (y := mJ0_length_8abf5) cM_J0_505 cI_J0_length_8abf5 cE_J0_length_8abf5 cN_J0 cC_J0_length_8abf5 cD_J0_length_8abf5) rfl hi rfl sp (by decide) (by decide) (Nat.le_of_ble_eq_true rfl) (by omega) (fun v9 h2 hq9 => ?_)
    obtain ⟨r2, e9, vc⟩ := vc v9 h2 hq9
    subst e9
    show XW _ _ _ _ _ _ _ 33 _ [.int r2, .int fm, .int j, .ref (2000 + i)]
    obtain ⟨Q1, sp, vc⟩ := vc
    refine xi_callS (b := 0) (bs := 0) (As := [.ref (2000 + i), .int j, .int fm, .int r2]) (st := []) (by decide +kernel : decode mJ0_indexOf_7cf53.2.1 33 = .ok (.invokestatic 640, 3)) kJ0_640 rfl rfl sp (by decide) (by decide) (Nat.le_of_ble_eq_true rfl) (by omega) (fun v9 h3 hq9 => ?_)
    obtain ⟨r3, e9, vc⟩ := vc v9 h3 hq9
    subst e9
    show XW _ _ _ _ _ _ _ 36 _ [.int r3]
    exact xi_iret (by decide +kernel : decode mJ0_indexOf_7cf53.2.1 36 = .ok (.ireturn, 1)) rfl rfl vc
  · replace vc := vc.2 c
    refine xi_aload_n (by decide +kernel : decode mJ0_indexOf_7cf53.2.1 7 = .ok (.aload_n 0, 1)) rfl rfl (?_ : XW _ _ _ _ _ _ _ 8 _ _)
    refine xi_sval (by decide +kernel : decode mJ0_indexOf_7cf53.2.1 8 = .ok (.getfield 9, 3)) (gt_9 176 rfl rfl) hi (?_ : XW _ _ _ _ _ _ _ 11 _ _)
    refine xi_iload_n (by decide +kernel : decode mJ0_indexOf_7cf53.2.1 11 = .ok (.iload_n 1, 1)) rfl rfl (?_ : XW _ _ _ _ _ _ _ 12 _ _)
    refine xi_iload_n (by decide +kernel : decode mJ0_indexOf_7cf53.2.1 12 = .ok (.iload_n 2, 1)) rfl rfl (?_ : XW _ _ _ _ _ _ _ 13 _ _)
    refine xi_aload_n (by decide +kernel : decode mJ0_indexOf_7cf53.2.1 13 = .ok (.aload_n 0, 1)) rfl rfl (?_ : XW _ _ _ _ _ _ _ 14 _ _)
    obtain ⟨Q1, sp, vc⟩ := vc
    refine xi_callVs (b := 0) (bs := 0) (As := []) (st := [.int fm, .int j, .ref (2000 + i)]) (by decide +kernel : decode mJ0_indexOf_7cf53.2.1 14 = .ok (.invokevirtual 505, 3)) (xVs.of (own := RJ0) (y := mJ0_length_8abf5) cM_J0_505 cI_J0_length_8abf5 cE_J0_length_8abf5 cN_J0 cC_J0_length_8abf5 cD_J0_length_8abf5) rfl hi rfl sp (by decide) (by decide) (Nat.le_of_ble_eq_true rfl) (by omega) (fun v9 h4 hq9 => ?_)
    obtain ⟨r4, e9, vc⟩ := vc v9 h4 hq9
    subst e9
    show XW _ _ _ _ _ _ _ 17 _ [.int r4, .int fm, .int j, .ref (2000 + i)]
    obtain ⟨Q1, sp, vc⟩ := vc
    refine xi_callS (b := 0) (bs := 0) (As := [.ref (2000 + i), .int j, .int fm, .int r4]) (st := []) (by decide +kernel : decode mJ0_indexOf_7cf53.2.1 17 = .ok (.invokestatic 637, 3)) kJ0_637 rfl rfl sp (by decide) (by decide) (Nat.le_of_ble_eq_true rfl) (by omega) (fun v9 h5 hq9 => ?_)
    obtain ⟨r5, e9, vc⟩ := vc v9 h5 hq9
    subst e9
    show XW _ _ _ _ _ _ _ 20 _ [.int r5]
    refine xi_goto (by decide +kernel : decode mJ0_indexOf_7cf53.2.1 20 = .ok (.goto 16, 3)) (by decide) (?_ : XW _ _ _ _ _ _ _ 36 _ _)
    exact xi_iret (by decide +kernel : decode mJ0_indexOf_7cf53.2.1 36 = .ok (.ireturn, 1)) rfl rfl vc

set_option maxRecDepth 20000 in
theorem v_J0_indexOf_0f7a4_0 {h : XH} {Q : Option Value → XH → Prop} {X : String → XH → Prop} (n i : Nat) (hi : i < jsN)  (j : Int32)
    (vc : ∃ Q1, XSpec mJ0_indexOf_7cf53 3 0 0 n n [.ref (1000 + i), .int j, .int 0] h Q1 xno ∧ ∀ v h1, Q1 v h1 → ∃ r1 : Int32, v = some (.int r1) ∧ (Q (some (.int r1)) h1)) :
    XW (xrm 4 0 0) mJ0_indexOf_0f7a4 (xE n Q X 0 0) n 0 0 h 0 [some (.ref (1000 + i)), some (.int j)] [] := by
  refine xi_aload_n (by decide +kernel : decode mJ0_indexOf_0f7a4.2.1 0 = .ok (.aload_n 0, 1)) rfl rfl (?_ : XW _ _ _ _ _ _ _ 1 _ _)
  refine xi_iload_n (by decide +kernel : decode mJ0_indexOf_0f7a4.2.1 1 = .ok (.iload_n 1, 1)) rfl rfl (?_ : XW _ _ _ _ _ _ _ 2 _ _)
  refine xi_iconst (v := 0) (by decide +kernel : decode mJ0_indexOf_0f7a4.2.1 2 = .ok (.iconst 0, 1)) (by decide) (?_ : XW _ _ _ _ _ _ _ 3 _ _)
  obtain ⟨Q1, sp, vc⟩ := vc
  refine xi_callVs (b := 0) (bs := 0) (As := [.int j, .int 0]) (st := []) (by decide +kernel : decode mJ0_indexOf_0f7a4.2.1 3 = .ok (.invokevirtual 633, 3)) (xVs.of (own := RJ0) (y := mJ0_indexOf_7cf53) cM_J0_633 cI_J0_indexOf_7cf53 cE_J0_indexOf_7cf53 cN_J0 cC_J0_indexOf_7cf53 cD_J0_indexOf_7cf53) rfl hi rfl sp (by decide) (by decide) (Nat.le_of_ble_eq_true rfl) (by omega) (fun v9 h1 hq9 => ?_)
  obtain ⟨r1, e9, vc⟩ := vc v9 h1 hq9
  subst e9
  show XW _ _ _ _ _ _ _ 6 _ [.int r1]
  exact xi_iret (by decide +kernel : decode mJ0_indexOf_0f7a4.2.1 6 = .ok (.ireturn, 1)) rfl rfl vc

