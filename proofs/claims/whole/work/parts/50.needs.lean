/-! WHAT IS ASKED OF THE ARGUMENTS -/
abbrev eN : String := "java/util/NoSuchElementException"
abbrev eA : String := "java/lang/IllegalArgumentException"
def inR (x : Int32) (a b : Int) : Bool := decide (a ≤ x.toInt ∧ x.toInt ≤ b)
def bI (b : Bool) : Int32 := if b = true then 1 else 0
theorem inR_t {x : Int32} {a b : Int} : inR x a b = true ↔ a ≤ x.toInt ∧ x.toInt ≤ b := by unfold inR; exact decide_eq_true_iff
theorem inR_f {x : Int32} {a b : Int} : inR x a b = false ↔ ¬ (a ≤ x.toInt ∧ x.toInt ≤ b) := by unfold inR; exact decide_eq_false_iff_not
theorem inR_nI {x : Int32} {n : Nat} (h : inR x 0 n = true) : ∃ q, q ≤ n ∧ x = nI q := by
  obtain ⟨h1, h2⟩ := inR_t.1 h
  refine ⟨x.toInt.toNat, by omega, ?_⟩
  rw [iz_nI, show ((x.toInt.toNat : Nat) : Int) = x.toInt by omega]
  exact iz_of x
theorem inR_1 {x : Int32} {n : Nat} (h : inR x 1 n = true) : ∃ q, 1 ≤ q ∧ q ≤ n ∧ x = nI q := by
  obtain ⟨h1, h2⟩ := inR_t.1 h
  refine ⟨x.toInt.toNat, by omega, by omega, ?_⟩
  rw [iz_nI, show ((x.toInt.toNat : Nat) : Int) = x.toInt by omega]
  exact iz_of x
theorem bI_t : bI true = 1 := rfl
theorem bI_f : bI false = 0 := rfl
theorem bI_0 {b : Bool} : bI b = 0 ↔ b = false := by cases b <;> decide
theorem bI_1 {b : Bool} : bI b = 1 ↔ b = true := by cases b <;> decide
theorem bI_nar {b : Bool} : narrow .boolean (.int (bI b)) = .int (bI b) := by cases b <;> rfl
theorem inI_bI (x lo hi : Int32) : inI x lo hi = bI (inR x lo.toInt hi.toInt) := by
  unfold inI
  by_cases c : x < lo
  · rw [if_pos c]
    rw [Int32.lt_iff_toInt_lt] at c
    rw [inR_f.2 (by omega)]; rfl
  · rw [if_neg c]
    rw [Int32.lt_iff_toInt_lt] at c
    by_cases d : hi < x
    · rw [if_pos d]
      rw [Int32.lt_iff_toInt_lt] at d
      rw [inR_f.2 (by omega)]; rfl
    · rw [if_neg d]
      rw [Int32.lt_iff_toInt_lt] at d
      rw [inR_t.2 (by omega)]; rfl
set_option maxRecDepth 20000 in
theorem v_X10_needSquare_0 {h : XH} {Q : Option Value → XH → Prop} {X : String → XH → Prop} (r : Nat) (hbp : BP r h)  (q : Int32)
    (vc : (q < 0 → X "java/util/NoSuchElementException" h) ∧ (¬ q < 0 → (q ≤ (xI h r 0) → Q none h) ∧ (¬ q ≤ (xI h r 0) → X "java/util/NoSuchElementException" h))) :
    XW (xrm 7 1 6) mX10_needSquare (xE 100 Q X 1 6) 100 1 6 h 0 [some (.ref 0), some (.int q)] [] := by
  obtain ⟨hb, hr, hnr, ha21, ha25, hu29, hu34, hw, hnt, hwr⟩ := hbp
  refine xi_iload_n (by decide +kernel : decode mX10_needSquare.2.1 0 = .ok (.iload_n 1, 1)) rfl rfl (?_ : XW _ _ _ _ _ _ _ 1 _ _)
  refine xi_if_lt (by decide +kernel : decode mX10_needSquare.2.1 1 = .ok (.ifCond .lt 14, 3)) (by decide) (fun c => (?_ : XW _ _ _ _ _ _ _ 15 _ _)) (fun c => (?_ : XW _ _ _ _ _ _ _ 4 _ _))
  · replace vc := vc.1 c
    exact xi_throw (b := 0) (bs := 0) xT_174 (by decide +kernel : decode mX10_needSquare.2.1 15 = .ok (.new 172, 3)) (by decide +kernel : decode mX10_needSquare.2.1 18 = .ok (.dup, 1)) (by decide +kernel : decode mX10_needSquare.2.1 19 = .ok (.invokespecial 174, 3)) (by decide +kernel : decode mX10_needSquare.2.1 22 = .ok (.athrow, 1)) rfl (by decide) (Nat.le_of_ble_eq_true rfl) vc
  · replace vc := vc.2 c
    refine xi_iload_n (by decide +kernel : decode mX10_needSquare.2.1 4 = .ok (.iload_n 1, 1)) rfl rfl (?_ : XW _ _ _ _ _ _ _ 5 _ _)
    refine xi_aload_n (by decide +kernel : decode mX10_needSquare.2.1 5 = .ok (.aload_n 0, 1)) rfl rfl (?_ : XW _ _ _ _ _ _ _ 6 _ _)
    refine xi_getR (y := r) (by decide +kernel : decode mX10_needSquare.2.1 6 = .ok (.getfield 23, 3)) fX10_23 rfl (by omega) rfl hb.2.1 (?_ : XW _ _ _ _ _ _ _ 9 _ _)
    refine xi_getI (by decide +kernel : decode mX10_needSquare.2.1 9 = .ok (.getfield 148, 3)) fX10_148 (xRul_s0 hr) (by omega) rfl (?_ : XW _ _ _ _ _ _ _ 12 _ _)
    refine xi_icmp_le (by decide +kernel : decode mX10_needSquare.2.1 12 = .ok (.if_icmp .le 11, 3)) (by decide) (fun c => (?_ : XW _ _ _ _ _ _ _ 23 _ _)) (fun c => (?_ : XW _ _ _ _ _ _ _ 15 _ _))
    · replace vc := vc.1 c
      exact xi_vret (by decide +kernel : decode mX10_needSquare.2.1 23 = .ok (.return_, 1)) rfl vc
    · replace vc := vc.2 c
      exact xi_throw (b := 0) (bs := 0) xT_174 (by decide +kernel : decode mX10_needSquare.2.1 15 = .ok (.new 172, 3)) (by decide +kernel : decode mX10_needSquare.2.1 18 = .ok (.dup, 1)) (by decide +kernel : decode mX10_needSquare.2.1 19 = .ok (.invokespecial 174, 3)) (by decide +kernel : decode mX10_needSquare.2.1 22 = .ok (.athrow, 1)) rfl (by decide) (Nat.le_of_ble_eq_true rfl) vc

set_option maxRecDepth 20000 in
theorem v_X10_needFace_0 {h : XH} {Q : Option Value → XH → Prop} {X : String → XH → Prop} (r : Nat) (hbp : BP r h)  (q : Int32)
    (vc : (q < 1 → X "java/util/NoSuchElementException" h) ∧ (¬ q < 1 → (q ≤ 6 → Q none h) ∧ (¬ q ≤ 6 → X "java/util/NoSuchElementException" h))) :
    XW (xrm 7 1 6) mX10_needFace (xE 100 Q X 1 6) 100 1 6 h 0 [some (.ref 0), some (.int q)] [] := by
  obtain ⟨hb, hr, hnr, ha21, ha25, hu29, hu34, hw, hnt, hwr⟩ := hbp
  refine xi_iload_n (by decide +kernel : decode mX10_needFace.2.1 0 = .ok (.iload_n 1, 1)) rfl rfl (?_ : XW _ _ _ _ _ _ _ 1 _ _)
  refine xi_iconst (v := 1) (by decide +kernel : decode mX10_needFace.2.1 1 = .ok (.iconst 1, 1)) (by decide) (?_ : XW _ _ _ _ _ _ _ 2 _ _)
  refine xi_icmp_lt (by decide +kernel : decode mX10_needFace.2.1 2 = .ok (.if_icmp .lt 9, 3)) (by decide) (fun c => (?_ : XW _ _ _ _ _ _ _ 11 _ _)) (fun c => (?_ : XW _ _ _ _ _ _ _ 5 _ _))
  · replace vc := vc.1 c
    exact xi_throw (b := 0) (bs := 0) xT_174 (by decide +kernel : decode mX10_needFace.2.1 11 = .ok (.new 172, 3)) (by decide +kernel : decode mX10_needFace.2.1 14 = .ok (.dup, 1)) (by decide +kernel : decode mX10_needFace.2.1 15 = .ok (.invokespecial 174, 3)) (by decide +kernel : decode mX10_needFace.2.1 18 = .ok (.athrow, 1)) rfl (by decide) (Nat.le_of_ble_eq_true rfl) vc
  · replace vc := vc.2 c
    refine xi_iload_n (by decide +kernel : decode mX10_needFace.2.1 5 = .ok (.iload_n 1, 1)) rfl rfl (?_ : XW _ _ _ _ _ _ _ 6 _ _)
    refine xi_bipush (v := 6) (by decide +kernel : decode mX10_needFace.2.1 6 = .ok (.bipush 6, 2)) (by decide) (?_ : XW _ _ _ _ _ _ _ 8 _ _)
    refine xi_icmp_le (by decide +kernel : decode mX10_needFace.2.1 8 = .ok (.if_icmp .le 11, 3)) (by decide) (fun c => (?_ : XW _ _ _ _ _ _ _ 19 _ _)) (fun c => (?_ : XW _ _ _ _ _ _ _ 11 _ _))
    · replace vc := vc.1 c
      exact xi_vret (by decide +kernel : decode mX10_needFace.2.1 19 = .ok (.return_, 1)) rfl vc
    · replace vc := vc.2 c
      exact xi_throw (b := 0) (bs := 0) xT_174 (by decide +kernel : decode mX10_needFace.2.1 11 = .ok (.new 172, 3)) (by decide +kernel : decode mX10_needFace.2.1 14 = .ok (.dup, 1)) (by decide +kernel : decode mX10_needFace.2.1 15 = .ok (.invokespecial 174, 3)) (by decide +kernel : decode mX10_needFace.2.1 18 = .ok (.athrow, 1)) rfl (by decide) (Nat.le_of_ble_eq_true rfl) vc

set_option maxRecDepth 20000 in
theorem v_X10_needExit_0 {h : XH} {Q : Option Value → XH → Prop} {X : String → XH → Prop} (r : Nat) (hbp : BP r h)  (q : Int32)
    (vc : (q < 0 → X "java/util/NoSuchElementException" h) ∧ (¬ q < 0 → (q < (xI h r 7) → Q none h) ∧ (¬ q < (xI h r 7) → X "java/util/NoSuchElementException" h))) :
    XW (xrm 7 1 6) mX10_needExit (xE 100 Q X 1 6) 100 1 6 h 0 [some (.ref 0), some (.int q)] [] := by
  obtain ⟨hb, hr, hnr, ha21, ha25, hu29, hu34, hw, hnt, hwr⟩ := hbp
  refine xi_iload_n (by decide +kernel : decode mX10_needExit.2.1 0 = .ok (.iload_n 1, 1)) rfl rfl (?_ : XW _ _ _ _ _ _ _ 1 _ _)
  refine xi_if_lt (by decide +kernel : decode mX10_needExit.2.1 1 = .ok (.ifCond .lt 14, 3)) (by decide) (fun c => (?_ : XW _ _ _ _ _ _ _ 15 _ _)) (fun c => (?_ : XW _ _ _ _ _ _ _ 4 _ _))
  · replace vc := vc.1 c
    exact xi_throw (b := 0) (bs := 0) xT_174 (by decide +kernel : decode mX10_needExit.2.1 15 = .ok (.new 172, 3)) (by decide +kernel : decode mX10_needExit.2.1 18 = .ok (.dup, 1)) (by decide +kernel : decode mX10_needExit.2.1 19 = .ok (.invokespecial 174, 3)) (by decide +kernel : decode mX10_needExit.2.1 22 = .ok (.athrow, 1)) rfl (by decide) (Nat.le_of_ble_eq_true rfl) vc
  · replace vc := vc.2 c
    refine xi_iload_n (by decide +kernel : decode mX10_needExit.2.1 4 = .ok (.iload_n 1, 1)) rfl rfl (?_ : XW _ _ _ _ _ _ _ 5 _ _)
    refine xi_aload_n (by decide +kernel : decode mX10_needExit.2.1 5 = .ok (.aload_n 0, 1)) rfl rfl (?_ : XW _ _ _ _ _ _ _ 6 _ _)
    refine xi_getR (y := r) (by decide +kernel : decode mX10_needExit.2.1 6 = .ok (.getfield 23, 3)) fX10_23 rfl (by omega) rfl hb.2.1 (?_ : XW _ _ _ _ _ _ _ 9 _ _)
    refine xi_getI (by decide +kernel : decode mX10_needExit.2.1 9 = .ok (.getfield 151, 3)) fX10_151 (xRul_s0 hr) (by omega) rfl (?_ : XW _ _ _ _ _ _ _ 12 _ _)
    refine xi_icmp_lt (by decide +kernel : decode mX10_needExit.2.1 12 = .ok (.if_icmp .lt 11, 3)) (by decide) (fun c => (?_ : XW _ _ _ _ _ _ _ 23 _ _)) (fun c => (?_ : XW _ _ _ _ _ _ _ 15 _ _))
    · replace vc := vc.1 c
      exact xi_vret (by decide +kernel : decode mX10_needExit.2.1 23 = .ok (.return_, 1)) rfl vc
    · replace vc := vc.2 c
      exact xi_throw (b := 0) (bs := 0) xT_174 (by decide +kernel : decode mX10_needExit.2.1 15 = .ok (.new 172, 3)) (by decide +kernel : decode mX10_needExit.2.1 18 = .ok (.dup, 1)) (by decide +kernel : decode mX10_needExit.2.1 19 = .ok (.invokespecial 174, 3)) (by decide +kernel : decode mX10_needExit.2.1 22 = .ok (.athrow, 1)) rfl (by decide) (Nat.le_of_ble_eq_true rfl) vc

set_option maxRecDepth 20000 in
theorem v_X10_needWhat_0 {h : XH} {Q : Option Value → XH → Prop} {X : String → XH → Prop} (r : Nat) (hbp : BP r h)  (w : Int32) (m : Int32)
    (vc : (w < 0 → X "java/util/NoSuchElementException" h) ∧ (¬ w < 0 → (w ≤ m → Q none h) ∧ (¬ w ≤ m → X "java/util/NoSuchElementException" h))) :
    XW (xrm 7 1 6) mX10_needWhat (xE 100 Q X 1 6) 100 1 6 h 0 [some (.ref 0), some (.int w), some (.int m)] [] := by
  obtain ⟨hb, hr, hnr, ha21, ha25, hu29, hu34, hw, hnt, hwr⟩ := hbp
  refine xi_iload_n (by decide +kernel : decode mX10_needWhat.2.1 0 = .ok (.iload_n 1, 1)) rfl rfl (?_ : XW _ _ _ _ _ _ _ 1 _ _)
  refine xi_if_lt (by decide +kernel : decode mX10_needWhat.2.1 1 = .ok (.ifCond .lt 8, 3)) (by decide) (fun c => (?_ : XW _ _ _ _ _ _ _ 9 _ _)) (fun c => (?_ : XW _ _ _ _ _ _ _ 4 _ _))
  · replace vc := vc.1 c
    exact xi_throw (b := 0) (bs := 0) xT_174 (by decide +kernel : decode mX10_needWhat.2.1 9 = .ok (.new 172, 3)) (by decide +kernel : decode mX10_needWhat.2.1 12 = .ok (.dup, 1)) (by decide +kernel : decode mX10_needWhat.2.1 13 = .ok (.invokespecial 174, 3)) (by decide +kernel : decode mX10_needWhat.2.1 16 = .ok (.athrow, 1)) rfl (by decide) (Nat.le_of_ble_eq_true rfl) vc
  · replace vc := vc.2 c
    refine xi_iload_n (by decide +kernel : decode mX10_needWhat.2.1 4 = .ok (.iload_n 1, 1)) rfl rfl (?_ : XW _ _ _ _ _ _ _ 5 _ _)
    refine xi_iload_n (by decide +kernel : decode mX10_needWhat.2.1 5 = .ok (.iload_n 2, 1)) rfl rfl (?_ : XW _ _ _ _ _ _ _ 6 _ _)
    refine xi_icmp_le (by decide +kernel : decode mX10_needWhat.2.1 6 = .ok (.if_icmp .le 11, 3)) (by decide) (fun c => (?_ : XW _ _ _ _ _ _ _ 17 _ _)) (fun c => (?_ : XW _ _ _ _ _ _ _ 9 _ _))
    · replace vc := vc.1 c
      exact xi_vret (by decide +kernel : decode mX10_needWhat.2.1 17 = .ok (.return_, 1)) rfl vc
    · replace vc := vc.2 c
      exact xi_throw (b := 0) (bs := 0) xT_174 (by decide +kernel : decode mX10_needWhat.2.1 9 = .ok (.new 172, 3)) (by decide +kernel : decode mX10_needWhat.2.1 12 = .ok (.dup, 1)) (by decide +kernel : decode mX10_needWhat.2.1 13 = .ok (.invokespecial 174, 3)) (by decide +kernel : decode mX10_needWhat.2.1 16 = .ok (.athrow, 1)) rfl (by decide) (Nat.le_of_ble_eq_true rfl) vc

set_option maxRecDepth 20000 in
theorem v_X10_needThrows_0 {h : XH} {Q : Option Value → XH → Prop} {X : String → XH → Prop} (r : Nat) (hbp : BP r h)  (q : Int32)
    (vc : (q < 0 → X "java/lang/IllegalArgumentException" h) ∧ (¬ q < 0 → (q ≤ 400 → Q none h) ∧ (¬ q ≤ 400 → X "java/lang/IllegalArgumentException" h))) :
    XW (xrm 7 1 6) mX10_needThrows (xE 100 Q X 1 6) 100 1 6 h 0 [some (.ref 0), some (.int q)] [] := by
  obtain ⟨hb, hr, hnr, ha21, ha25, hu29, hu34, hw, hnt, hwr⟩ := hbp
  refine xi_iload_n (by decide +kernel : decode mX10_needThrows.2.1 0 = .ok (.iload_n 1, 1)) rfl rfl (?_ : XW _ _ _ _ _ _ _ 1 _ _)
  refine xi_if_lt (by decide +kernel : decode mX10_needThrows.2.1 1 = .ok (.ifCond .lt 10, 3)) (by decide) (fun c => (?_ : XW _ _ _ _ _ _ _ 11 _ _)) (fun c => (?_ : XW _ _ _ _ _ _ _ 4 _ _))
  · replace vc := vc.1 c
    exact xi_throw (b := 0) (bs := 0) xT_107 (by decide +kernel : decode mX10_needThrows.2.1 11 = .ok (.new 105, 3)) (by decide +kernel : decode mX10_needThrows.2.1 14 = .ok (.dup, 1)) (by decide +kernel : decode mX10_needThrows.2.1 15 = .ok (.invokespecial 107, 3)) (by decide +kernel : decode mX10_needThrows.2.1 18 = .ok (.athrow, 1)) rfl (by decide) (Nat.le_of_ble_eq_true rfl) vc
  · replace vc := vc.2 c
    refine xi_iload_n (by decide +kernel : decode mX10_needThrows.2.1 4 = .ok (.iload_n 1, 1)) rfl rfl (?_ : XW _ _ _ _ _ _ _ 5 _ _)
    refine xi_sipush (v := 400) (by decide +kernel : decode mX10_needThrows.2.1 5 = .ok (.sipush 400, 3)) (by decide) (?_ : XW _ _ _ _ _ _ _ 8 _ _)
    refine xi_icmp_le (by decide +kernel : decode mX10_needThrows.2.1 8 = .ok (.if_icmp .le 11, 3)) (by decide) (fun c => (?_ : XW _ _ _ _ _ _ _ 19 _ _)) (fun c => (?_ : XW _ _ _ _ _ _ _ 11 _ _))
    · replace vc := vc.1 c
      exact xi_vret (by decide +kernel : decode mX10_needThrows.2.1 19 = .ok (.return_, 1)) rfl vc
    · replace vc := vc.2 c
      exact xi_throw (b := 0) (bs := 0) xT_107 (by decide +kernel : decode mX10_needThrows.2.1 11 = .ok (.new 105, 3)) (by decide +kernel : decode mX10_needThrows.2.1 14 = .ok (.dup, 1)) (by decide +kernel : decode mX10_needThrows.2.1 15 = .ok (.invokespecial 107, 3)) (by decide +kernel : decode mX10_needThrows.2.1 18 = .ok (.athrow, 1)) rfl (by decide) (Nat.le_of_ble_eq_true rfl) vc

set_option maxRecDepth 20000 in
theorem v_X10_needToCome_0 {h : XH} {Q : Option Value → XH → Prop} {X : String → XH → Prop} (r : Nat) (hbp : BP r h)  (q : Int32) (m : Int32)
    (vc : (q < m → X "java/lang/IllegalArgumentException" h) ∧ (¬ q < m → (q ≤ 100 → Q none h) ∧ (¬ q ≤ 100 → X "java/lang/IllegalArgumentException" h))) :
    XW (xrm 7 1 6) mX10_needToCome (xE 100 Q X 1 6) 100 1 6 h 0 [some (.ref 0), some (.int q), some (.int m)] [] := by
  obtain ⟨hb, hr, hnr, ha21, ha25, hu29, hu34, hw, hnt, hwr⟩ := hbp
  refine xi_iload_n (by decide +kernel : decode mX10_needToCome.2.1 0 = .ok (.iload_n 1, 1)) rfl rfl (?_ : XW _ _ _ _ _ _ _ 1 _ _)
  refine xi_iload_n (by decide +kernel : decode mX10_needToCome.2.1 1 = .ok (.iload_n 2, 1)) rfl rfl (?_ : XW _ _ _ _ _ _ _ 2 _ _)
  refine xi_icmp_lt (by decide +kernel : decode mX10_needToCome.2.1 2 = .ok (.if_icmp .lt 9, 3)) (by decide) (fun c => (?_ : XW _ _ _ _ _ _ _ 11 _ _)) (fun c => (?_ : XW _ _ _ _ _ _ _ 5 _ _))
  · replace vc := vc.1 c
    exact xi_throw (b := 0) (bs := 0) xT_107 (by decide +kernel : decode mX10_needToCome.2.1 11 = .ok (.new 105, 3)) (by decide +kernel : decode mX10_needToCome.2.1 14 = .ok (.dup, 1)) (by decide +kernel : decode mX10_needToCome.2.1 15 = .ok (.invokespecial 107, 3)) (by decide +kernel : decode mX10_needToCome.2.1 18 = .ok (.athrow, 1)) rfl (by decide) (Nat.le_of_ble_eq_true rfl) vc
  · replace vc := vc.2 c
    refine xi_iload_n (by decide +kernel : decode mX10_needToCome.2.1 5 = .ok (.iload_n 1, 1)) rfl rfl (?_ : XW _ _ _ _ _ _ _ 6 _ _)
    refine xi_bipush (v := 100) (by decide +kernel : decode mX10_needToCome.2.1 6 = .ok (.bipush 100, 2)) (by decide) (?_ : XW _ _ _ _ _ _ _ 8 _ _)
    refine xi_icmp_le (by decide +kernel : decode mX10_needToCome.2.1 8 = .ok (.if_icmp .le 11, 3)) (by decide) (fun c => (?_ : XW _ _ _ _ _ _ _ 19 _ _)) (fun c => (?_ : XW _ _ _ _ _ _ _ 11 _ _))
    · replace vc := vc.1 c
      exact xi_vret (by decide +kernel : decode mX10_needToCome.2.1 19 = .ok (.return_, 1)) rfl vc
    · replace vc := vc.2 c
      exact xi_throw (b := 0) (bs := 0) xT_107 (by decide +kernel : decode mX10_needToCome.2.1 11 = .ok (.new 105, 3)) (by decide +kernel : decode mX10_needToCome.2.1 14 = .ok (.dup, 1)) (by decide +kernel : decode mX10_needToCome.2.1 15 = .ok (.invokespecial 107, 3)) (by decide +kernel : decode mX10_needToCome.2.1 18 = .ok (.athrow, 1)) rfl (by decide) (Nat.le_of_ble_eq_true rfl) vc

theorem i32_lt0 (x : Int32) : x < 0 ↔ x.toInt < 0 := by rw [Int32.lt_iff_toInt_lt]; exact Iff.rfl
theorem i32_le (x y : Int32) : x ≤ y ↔ x.toInt ≤ y.toInt := Int32.le_iff_toInt_le
theorem i32_lt (x y : Int32) : x < y ↔ x.toInt < y.toInt := Int32.lt_iff_toInt_lt
abbrev okQ (h : XH) (b : Bool) : Option Value → XH → Prop := fun v h' => v = none ∧ h' = h ∧ b = true
abbrev noX (h : XH) (E : String) (b : Bool) : String → XH → Prop := fun E' h' => h' = h ∧ E' = E ∧ b = false
theorem s_needSquare {h : XH} {r : Nat} {s : SG} (hC : CI h r s) (hl : bLast (sB s) ≤ 100) (q : Int32) : XSpec mX10_needSquare 7 1 6 100 100 [.ref 0, .int q] h (okQ h (inR q 0 (bLast (sB s)))) (noX h eN (inR q 0 (bLast (sB s)))) := by
  have e := nI_toInt (show bLast (sB s) < 2 ^ 31 by omega)
  refine XSpec.of rfl (by decide) (Nat.le_of_ble_eq_true rfl) rfl (v_X10_needSquare_0 r hC.bp q ?_)
  rw [hC.last, i32_lt0, i32_le, e]
  refine ⟨fun c => ⟨rfl, rfl, inR_f.2 (by omega)⟩, fun c => ⟨fun c2 => ⟨rfl, rfl, inR_t.2 (by omega)⟩, fun c2 => ⟨rfl, rfl, inR_f.2 (by omega)⟩⟩⟩
theorem s_needFace {h : XH} {r : Nat} {s : SG} (hC : CI h r s) (q : Int32) : XSpec mX10_needFace 7 1 6 100 100 [.ref 0, .int q] h (okQ h (inR q 1 6)) (noX h eN (inR q 1 6)) := by
  refine XSpec.of rfl (by decide) (Nat.le_of_ble_eq_true rfl) rfl (v_X10_needFace_0 r hC.bp q ?_)
  have e1 : (1 : Int32).toInt = 1 := by decide
  have e6 : (6 : Int32).toInt = 6 := by decide
  rw [i32_lt, i32_le, e1, e6]
  refine ⟨fun c => ⟨rfl, rfl, inR_f.2 (by omega)⟩, fun c => ⟨fun c2 => ⟨rfl, rfl, inR_t.2 (by omega)⟩, fun c2 => ⟨rfl, rfl, inR_f.2 (by omega)⟩⟩⟩
theorem s_needExit {h : XH} {r : Nat} {s : SG} (hC : CI h r s) (hl : bKx (sB s) ≤ 24) (q : Int32) : XSpec mX10_needExit 7 1 6 100 100 [.ref 0, .int q] h (okQ h (inR q 0 ((bKx (sB s) : Int) - 1))) (noX h eN (inR q 0 ((bKx (sB s) : Int) - 1))) := by
  have e := nI_toInt (show bKx (sB s) < 2 ^ 31 by omega)
  refine XSpec.of rfl (by decide) (Nat.le_of_ble_eq_true rfl) rfl (v_X10_needExit_0 r hC.bp q ?_)
  rw [hC.2.1.2.2.2.2.2.1, i32_lt0]
  simp only [i32_le, i32_lt, e]
  refine ⟨fun c => ⟨rfl, rfl, inR_f.2 (by omega)⟩, fun c => ⟨fun c2 => ⟨rfl, rfl, inR_t.2 (by omega)⟩, fun c2 => ⟨rfl, rfl, inR_f.2 (by omega)⟩⟩⟩
theorem s_needWhat {h : XH} {r : Nat} {s : SG} (hC : CI h r s) (q m : Int32) (M : Nat) (hm : m.toInt = M) : XSpec mX10_needWhat 7 1 6 100 100 [.ref 0, .int q, .int m] h (okQ h (inR q 0 M)) (noX h eN (inR q 0 M)) := by
  refine XSpec.of rfl (by decide) (Nat.le_of_ble_eq_true rfl) rfl (v_X10_needWhat_0 r hC.bp q m ?_)
  rw [i32_lt0, i32_le, hm]
  refine ⟨fun c => ⟨rfl, rfl, inR_f.2 (by omega)⟩, fun c => ⟨fun c2 => ⟨rfl, rfl, inR_t.2 (by omega)⟩, fun c2 => ⟨rfl, rfl, inR_f.2 (by omega)⟩⟩⟩
theorem s_needThrows {h : XH} {r : Nat} {s : SG} (hC : CI h r s) (q : Int32) : XSpec mX10_needThrows 7 1 6 100 100 [.ref 0, .int q] h (okQ h (inR q 0 400)) (noX h eA (inR q 0 400)) := by
  refine XSpec.of rfl (by decide) (Nat.le_of_ble_eq_true rfl) rfl (v_X10_needThrows_0 r hC.bp q ?_)
  have e6 : (400 : Int32).toInt = 400 := by decide
  rw [i32_lt0, i32_le, e6]
  refine ⟨fun c => ⟨rfl, rfl, inR_f.2 (by omega)⟩, fun c => ⟨fun c2 => ⟨rfl, rfl, inR_t.2 (by omega)⟩, fun c2 => ⟨rfl, rfl, inR_f.2 (by omega)⟩⟩⟩
theorem s_needToCome {h : XH} {r : Nat} {s : SG} (hC : CI h r s) (q m : Int32) (M : Nat) (hm : m.toInt = M) : XSpec mX10_needToCome 7 1 6 100 100 [.ref 0, .int q, .int m] h (okQ h (inR q M 100)) (noX h eA (inR q M 100)) := by
  refine XSpec.of rfl (by decide) (Nat.le_of_ble_eq_true rfl) rfl (v_X10_needToCome_0 r hC.bp q m ?_)
  have e6 : (100 : Int32).toInt = 100 := by decide
  rw [i32_lt, i32_le, hm, e6]
  refine ⟨fun c => ⟨rfl, rfl, inR_f.2 (by omega)⟩, fun c => ⟨fun c2 => ⟨rfl, rfl, inR_t.2 (by omega)⟩, fun c2 => ⟨rfl, rfl, inR_f.2 (by omega)⟩⟩⟩
/-! the reference asks -/
set_option maxRecDepth 20000 in
theorem v_X11_isLong_0 {h : XH} {Q : Option Value → XH → Prop} {X : String → XH → Prop} (n : Nat)  (q : Int32)
    (vc : ∃ Q1, XSpec mX11_isIn 1 0 0 n n [.long (Int32.toInt64 q), .long 0, .long 400] h Q1 xno ∧ ∀ v h1, Q1 v h1 → ∃ r1 : Int32, v = some (.int r1) ∧ ((narrow .boolean (.int r1) = .int r1) ∧ (Q (some (.int r1)) h1))) :
    XW (xrm 2 0 0) mX11_isLong (xE n Q X 0 0) n 0 0 h 0 [some (.int q)] [] := by
  refine xi_iload_n (by decide +kernel : decode mX11_isLong.2.1 0 = .ok (.iload_n 0, 1)) rfl rfl (?_ : XW _ _ _ _ _ _ _ 1 _ _)
  refine xi_i2l (by decide +kernel : decode mX11_isLong.2.1 1 = .ok (.i2l, 1)) (?_ : XW _ _ _ _ _ _ _ 2 _ _)
  refine xi_lconst (v := 0) (by decide +kernel : decode mX11_isLong.2.1 2 = .ok (.lconst 0, 1)) (by decide) (?_ : XW _ _ _ _ _ _ _ 3 _ _)
  refine xi_ldc2 (v := 400) (by decide +kernel : decode mX11_isLong.2.1 3 = .ok (.ldc2_w 403, 3)) cK_X11_403 (?_ : XW _ _ _ _ _ _ _ 6 _ _)
  obtain ⟨Q1, sp, vc⟩ := vc
  refine xi_callS (b := 0) (bs := 0) (As := [.long (Int32.toInt64 q), .long 0, .long 400]) (st := []) (by decide +kernel : decode mX11_isLong.2.1 6 = .ok (.invokestatic 164, 3)) kX11_164 rfl rfl sp (by decide) (by decide) (Nat.le_of_ble_eq_true rfl) (by omega) (fun v9 h1 hq9 => ?_)
  obtain ⟨r1, e9, vc⟩ := vc v9 h1 hq9
  subst e9
  show XW _ _ _ _ _ _ _ 9 _ [.int r1]
  obtain ⟨s1, vc⟩ := vc
  exact xi_iret (by decide +kernel : decode mX11_isLong.2.1 9 = .ok (.ireturn, 1)) rfl s1 vc

theorem m_isSquare {h : XH} {s : SG} (hM : MI h s) (hl : bLast (sB s) ≤ 100) (x : Int32) : XSpec mX11_isSquare 2 0 0 100 100 [.ref 56, .int x] h (xq (some (.int (bI (inR x 0 (bLast (sB s)))))) h) xno := by
  have e := s_X11_isSquare h hM.1 x
  rw [inI_bI, hM.2.2.1.1.2.1, nI_toInt (show bLast (sB s) < 2 ^ 31 by omega)] at e
  exact e
theorem m_isFace (n : Nat) (h : XH) (x : Int32) : XSpec mX11_isFace 2 0 0 n n [.int x] h (xq (some (.int (bI (inR x 1 6)))) h) xno := by
  have e := s_X11_isFace n h x
  rw [inI_bI] at e
  exact e
theorem m_isIn (n : Nat) (h : XH) (x : Int32) (a9 b9 : Int64) (a b : Int32) (ha : a9 = Int32.toInt64 a) (hb : b9 = Int32.toInt64 b) : XSpec mX11_isIn 1 0 0 n n [.long (Int32.toInt64 x), .long a9, .long b9] h (xq (some (.int (bI (inR x a.toInt b.toInt)))) h) xno := by
  have e := s_X11_isInI n h x a b a9 b9 ha hb
  rw [inI_bI] at e
  exact e
theorem m_isLong (n : Nat) (h : XH) (x : Int32) : XSpec mX11_isLong 2 0 0 n n [.int x] h (xq (some (.int (bI (inR x 0 400)))) h) xno := by
  refine XSpec.of rfl (by decide) (Nat.le_of_ble_eq_true rfl) rfl (v_X11_isLong_0 n x ⟨_, m_isIn n h x 0 400 0 400 (by decide) (by decide), ?_⟩)
  rintro v h1 ⟨rfl, e⟩
  exact ⟨_, rfl, bI_nar, rfl, e⟩
/-- what a call of the reference leaves, when it says k -/
def mEnd (h : XH) (s : SG) (kd : Nat) (h' : XH) : Prop := xI h' 56 2 = nI kd ∧ MI h' s ∧ mch h h'
theorem m_fail {h : XH} (hM : xMod (xP h)) (k : Nat) : XSpec mX11_fail 1 0 0 100 100 [.ref 56, .int (nI k)] h (fun v h' => v = some (.int 0) ∧ h' = xSI 56 (va_up (xI h 56) 2 (nI k)) h) xno := s_X11_fail h hM (nI k)
/-- a call of the class that answers a, or throws -/
abbrev cEnd (h : XH) (r : Nat) (s : SG) (kd : Nat) (a : Value) : Option Value → XH → Prop := fun v h' => kd = 0 ∧ v = some a ∧ CI h' r s ∧ cch h h'
abbrev cThr (h : XH) (kd : Nat) (e1 e2 : String) : String → XH → Prop := fun E h' => h' = h ∧ ((kd = 1 ∧ E = e1) ∨ (kd = 2 ∧ E = e2))
