set_option maxRecDepth 20000 in
theorem v_J7_fill_d0a16_0 {h : XH} {Q : Option Value → XH → Prop} {X : String → XH → Prop} (n q N : Nat) (hq : SH q = .inl (.long, N)) (hn : xin n q ∧ N ≠ 1)  (v : Int64)
    (vc : XW (xrm 1 0 0) mJ7_fill_d0a16 (xE n Q X 0 0) n 0 0 h 6 [some (.ref q), some (.long v), none, some (.int 0), some (.int (nI N))] []) :
    XW (xrm 1 0 0) mJ7_fill_d0a16 (xE n Q X 0 0) n 0 0 h 0 [some (.ref q), some (.long v), none, none, none] [] := by
  refine xi_iconst (v := 0) (by decide +kernel : decode mJ7_fill_d0a16.2.1 0 = .ok (.iconst 0, 1)) (by decide) (?_ : XW _ _ _ _ _ _ _ 1 _ _)
  refine xi_istore_n (ls' := [some (.ref q), some (.long v), none, some (.int 0), none]) (by decide +kernel : decode mJ7_fill_d0a16.2.1 1 = .ok (.istore_n 3, 1)) rfl (by decide) rfl (?_ : XW _ _ _ _ _ _ _ 2 _ _)
  refine xi_aload_n (by decide +kernel : decode mJ7_fill_d0a16.2.1 2 = .ok (.aload_n 0, 1)) rfl rfl (?_ : XW _ _ _ _ _ _ _ 3 _ _)
  refine xi_alen (v := nI N) (by decide +kernel : decode mJ7_fill_d0a16.2.1 3 = .ok (.arraylength, 1)) hq (by omega) (Or.inr (Or.inl rfl)) rfl (?_ : XW _ _ _ _ _ _ _ 4 _ _)
  refine xi_istore (ls' := [some (.ref q), some (.long v), none, some (.int 0), some (.int (nI N))]) (by decide +kernel : decode mJ7_fill_d0a16.2.1 4 = .ok (.istore 4, 2)) (by decide) rfl (?_ : XW _ _ _ _ _ _ _ 6 _ _)
  exact vc

set_option maxRecDepth 20000 in
theorem v_J7_fill_d0a16_6 {h : XH} {Q : Option Value → XH → Prop} {X : String → XH → Prop} (n q N : Nat) (hq : SH q = .inl (.long, N)) (hn : xin n q ∧ N ≠ 1)  (x1 : Int64) (x3 : Int32) (x4 : Int32)
    (vc : (x4 ≤ x3 → Q none h) ∧ (¬ x4 ≤ x3 → (vp_in x3 N) ∧ (XW (xrm 1 0 0) mJ7_fill_d0a16 (xE n Q X 0 0) n 0 0 (xSL q (va_up (xL h q) x3.toNatClampNeg x1) h) 6 [some (.ref q), some (.long x1), none, some (.int (x3 + 1)), some (.int x4)] []))) :
    XW (xrm 1 0 0) mJ7_fill_d0a16 (xE n Q X 0 0) n 0 0 h 6 [some (.ref q), some (.long x1), none, some (.int x3), some (.int x4)] [] := by
  refine xi_iload_n (by decide +kernel : decode mJ7_fill_d0a16.2.1 6 = .ok (.iload_n 3, 1)) rfl rfl (?_ : XW _ _ _ _ _ _ _ 7 _ _)
  refine xi_iload (by decide +kernel : decode mJ7_fill_d0a16.2.1 7 = .ok (.iload 4, 2)) rfl (?_ : XW _ _ _ _ _ _ _ 9 _ _)
  refine xi_icmp_ge (by decide +kernel : decode mJ7_fill_d0a16.2.1 9 = .ok (.if_icmp .ge 13, 3)) (by decide) (fun c => (?_ : XW _ _ _ _ _ _ _ 22 _ _)) (fun c => (?_ : XW _ _ _ _ _ _ _ 12 _ _))
  · replace vc := vc.1 c
    exact xi_vret (by decide +kernel : decode mJ7_fill_d0a16.2.1 22 = .ok (.return_, 1)) rfl vc
  · replace vc := vc.2 c
    refine xi_aload_n (by decide +kernel : decode mJ7_fill_d0a16.2.1 12 = .ok (.aload_n 0, 1)) rfl rfl (?_ : XW _ _ _ _ _ _ _ 13 _ _)
    refine xi_iload_n (by decide +kernel : decode mJ7_fill_d0a16.2.1 13 = .ok (.iload_n 3, 1)) rfl rfl (?_ : XW _ _ _ _ _ _ _ 14 _ _)
    refine xi_lload_n (by decide +kernel : decode mJ7_fill_d0a16.2.1 14 = .ok (.lload_n 1, 1)) rfl rfl (?_ : XW _ _ _ _ _ _ _ 15 _ _)
    obtain ⟨s1, vc⟩ := vc
    refine xi_last (by decide +kernel : decode mJ7_fill_d0a16.2.1 15 = .ok (.lastore, 1)) hq (by omega) s1 (?_ : XW _ _ _ _ _ _ (xSL q (va_up (xL h q) x3.toNatClampNeg x1) h) 16 _ _)
    refine xi_iinc (v := x3 + 1) (ls' := [some (.ref q), some (.long x1), none, some (.int (x3 + 1)), some (.int x4)]) (by decide +kernel : decode mJ7_fill_d0a16.2.1 16 = .ok (.iinc 3 1, 3)) rfl rfl (by decide) rfl (?_ : XW _ _ _ _ _ _ _ 19 _ _)
    refine xi_goto (by decide +kernel : decode mJ7_fill_d0a16.2.1 19 = .ok (.goto (-13), 3)) (by decide) (?_ : XW _ _ _ _ _ _ _ 6 _ _)
    exact vc

set_option maxRecDepth 20000 in
theorem v_J7_fill_53178_0 {h : XH} {Q : Option Value → XH → Prop} {X : String → XH → Prop} (n q N : Nat) (hq : SH q = .inl (.int, N)) (hn : q < n)  (v : Int32)
    (vc : XW (xrm 1 0 0) mJ7_fill_53178 (xE n Q X 0 0) n 0 0 h 5 [some (.ref q), some (.int v), some (.int 0), some (.int (nI N))] []) :
    XW (xrm 1 0 0) mJ7_fill_53178 (xE n Q X 0 0) n 0 0 h 0 [some (.ref q), some (.int v), none, none] [] := by
  refine xi_iconst (v := 0) (by decide +kernel : decode mJ7_fill_53178.2.1 0 = .ok (.iconst 0, 1)) (by decide) (?_ : XW _ _ _ _ _ _ _ 1 _ _)
  refine xi_istore_n (ls' := [some (.ref q), some (.int v), some (.int 0), none]) (by decide +kernel : decode mJ7_fill_53178.2.1 1 = .ok (.istore_n 2, 1)) rfl (by decide) rfl (?_ : XW _ _ _ _ _ _ _ 2 _ _)
  refine xi_aload_n (by decide +kernel : decode mJ7_fill_53178.2.1 2 = .ok (.aload_n 0, 1)) rfl rfl (?_ : XW _ _ _ _ _ _ _ 3 _ _)
  refine xi_alen (v := nI N) (by decide +kernel : decode mJ7_fill_53178.2.1 3 = .ok (.arraylength, 1)) hq (by omega) (Or.inl rfl) rfl (?_ : XW _ _ _ _ _ _ _ 4 _ _)
  refine xi_istore_n (ls' := [some (.ref q), some (.int v), some (.int 0), some (.int (nI N))]) (by decide +kernel : decode mJ7_fill_53178.2.1 4 = .ok (.istore_n 3, 1)) rfl (by decide) rfl (?_ : XW _ _ _ _ _ _ _ 5 _ _)
  exact vc

set_option maxRecDepth 20000 in
theorem v_J7_fill_53178_5 {h : XH} {Q : Option Value → XH → Prop} {X : String → XH → Prop} (n q N : Nat) (hq : SH q = .inl (.int, N)) (hn : q < n)  (x1 : Int32) (x2 : Int32) (x3 : Int32)
    (vc : (x3 ≤ x2 → Q none h) ∧ (¬ x3 ≤ x2 → (vp_in x2 N) ∧ (XW (xrm 1 0 0) mJ7_fill_53178 (xE n Q X 0 0) n 0 0 (xSI q (va_up (xI h q) x2.toNatClampNeg x1) h) 5 [some (.ref q), some (.int x1), some (.int (x2 + 1)), some (.int x3)] []))) :
    XW (xrm 1 0 0) mJ7_fill_53178 (xE n Q X 0 0) n 0 0 h 5 [some (.ref q), some (.int x1), some (.int x2), some (.int x3)] [] := by
  refine xi_iload_n (by decide +kernel : decode mJ7_fill_53178.2.1 5 = .ok (.iload_n 2, 1)) rfl rfl (?_ : XW _ _ _ _ _ _ _ 6 _ _)
  refine xi_iload_n (by decide +kernel : decode mJ7_fill_53178.2.1 6 = .ok (.iload_n 3, 1)) rfl rfl (?_ : XW _ _ _ _ _ _ _ 7 _ _)
  refine xi_icmp_ge (by decide +kernel : decode mJ7_fill_53178.2.1 7 = .ok (.if_icmp .ge 13, 3)) (by decide) (fun c => (?_ : XW _ _ _ _ _ _ _ 20 _ _)) (fun c => (?_ : XW _ _ _ _ _ _ _ 10 _ _))
  · replace vc := vc.1 c
    exact xi_vret (by decide +kernel : decode mJ7_fill_53178.2.1 20 = .ok (.return_, 1)) rfl vc
  · replace vc := vc.2 c
    refine xi_aload_n (by decide +kernel : decode mJ7_fill_53178.2.1 10 = .ok (.aload_n 0, 1)) rfl rfl (?_ : XW _ _ _ _ _ _ _ 11 _ _)
    refine xi_iload_n (by decide +kernel : decode mJ7_fill_53178.2.1 11 = .ok (.iload_n 2, 1)) rfl rfl (?_ : XW _ _ _ _ _ _ _ 12 _ _)
    refine xi_iload_n (by decide +kernel : decode mJ7_fill_53178.2.1 12 = .ok (.iload_n 1, 1)) rfl rfl (?_ : XW _ _ _ _ _ _ _ 13 _ _)
    obtain ⟨s1, vc⟩ := vc
    refine xi_iast (by decide +kernel : decode mJ7_fill_53178.2.1 13 = .ok (.iastore, 1)) hq (by omega) s1 (?_ : XW _ _ _ _ _ _ (xSI q (va_up (xI h q) x2.toNatClampNeg x1) h) 14 _ _)
    refine xi_iinc (v := x2 + 1) (ls' := [some (.ref q), some (.int x1), some (.int (x2 + 1)), some (.int x3)]) (by decide +kernel : decode mJ7_fill_53178.2.1 14 = .ok (.iinc 2 1, 3)) rfl rfl (by decide) rfl (?_ : XW _ _ _ _ _ _ _ 17 _ _)
    refine xi_goto (by decide +kernel : decode mJ7_fill_53178.2.1 17 = .ok (.goto (-12), 3)) (by decide) (?_ : XW _ _ _ _ _ _ _ 5 _ _)
    exact vc

theorem l_fillJ (n q N : Nat) (hq : SH q = .inl (.long, N)) (hn : xin n q ∧ N ≠ 1) (hN : N < 2 ^ 31) (v : Int64) {Q : Option Value → XH → Prop} {X : String → XH → Prop} : ∀ (k i : Nat) (h : XH), i + k = N → Q none (xSL q (fun j => if i ≤ j ∧ j < N then v else xL h q j) h) → XW (xrm 1 0 0) mJ7_fill_d0a16 (xE n Q X 0 0) n 0 0 h 6 [some (.ref q), some (.long v), none, some (.int (nI i)), some (.int (nI N))] [] := by
  intro k
  induction k with
  | zero =>
    intro i h hi hQ
    refine v_J7_fill_d0a16_6 n q N hq hn v (nI i) (nI N) ⟨fun _ => ?_, fun c => absurd (nI_le (by omega) (by omega)) c⟩
    have e : (fun j => if i ≤ j ∧ j < N then v else xL h q j) = xL h q := by
      funext j
      rw [if_neg (by omega)]
    rwa [e, xSL_self] at hQ
  | succ k ih =>
    intro i h hi hQ
    refine v_J7_fill_d0a16_6 n q N hq hn v (nI i) (nI N) ⟨fun c => absurd c (nI_ge (by omega) hN), fun _ => ⟨vp_in_nI (by omega) hN, ?_⟩⟩
    rw [nI_clamp (by omega), nI_1]
    refine ih (i + 1) _ (by omega) ?_
    rw [xSL_SL]
    have e : (fun j => if i + 1 ≤ j ∧ j < N then v else xL (xSL q (va_up (xL h q) i v) h) q j) = fun j => if i ≤ j ∧ j < N then v else xL h q j := by
      funext j
      rw [xL_SL, if_pos rfl]
      unfold va_up
      by_cases c1 : j = i
      · subst c1; rw [if_neg (by omega), if_pos rfl, if_pos (by omega)]
      · rw [if_neg c1]
        by_cases c2 : i ≤ j ∧ j < N
        · rw [if_pos c2, if_pos (by omega)]
        · rw [if_neg c2, if_neg (by omega)]
    rw [e]
    exact hQ
theorem l_fillI (n q N : Nat) (hq : SH q = .inl (.int, N)) (hn : q < n) (hN : N < 2 ^ 31) (v : Int32) {Q : Option Value → XH → Prop} {X : String → XH → Prop} : ∀ (k i : Nat) (h : XH), i + k = N → Q none (xSI q (fun j => if i ≤ j ∧ j < N then v else xI h q j) h) → XW (xrm 1 0 0) mJ7_fill_53178 (xE n Q X 0 0) n 0 0 h 5 [some (.ref q), some (.int v), some (.int (nI i)), some (.int (nI N))] [] := by
  intro k
  induction k with
  | zero =>
    intro i h hi hQ
    refine v_J7_fill_53178_5 n q N hq hn v (nI i) (nI N) ⟨fun _ => ?_, fun c => absurd (nI_le (by omega) (by omega)) c⟩
    have e : (fun j => if i ≤ j ∧ j < N then v else xI h q j) = xI h q := by
      funext j
      rw [if_neg (by omega)]
    rwa [e, xSI_self] at hQ
  | succ k ih =>
    intro i h hi hQ
    refine v_J7_fill_53178_5 n q N hq hn v (nI i) (nI N) ⟨fun c => absurd c (nI_ge (by omega) hN), fun _ => ⟨vp_in_nI (by omega) hN, ?_⟩⟩
    rw [nI_clamp (by omega), nI_1]
    refine ih (i + 1) _ (by omega) ?_
    rw [xSI_SI]
    have e : (fun j => if i + 1 ≤ j ∧ j < N then v else xI (xSI q (va_up (xI h q) i v) h) q j) = fun j => if i ≤ j ∧ j < N then v else xI h q j := by
      funext j
      rw [xI_SI, if_pos rfl]
      unfold va_up
      by_cases c1 : j = i
      · subst c1; rw [if_neg (by omega), if_pos rfl, if_pos (by omega)]
      · rw [if_neg c1]
        by_cases c2 : i ≤ j ∧ j < N
        · rw [if_pos c2, if_pos (by omega)]
        · rw [if_neg c2, if_neg (by omega)]
    rw [e]
    exact hQ
/-- a row that is v up to N -/
def fl {α : Type} (N : Nat) (v : α) (f : Nat → α) : Nat → α := fun j => if j < N then v else f j
theorem s_fillJ (n : Nat) (h : XH) (q N : Nat) (hq : SH q = .inl (.long, N)) (hn : xin n q) (hN : N < 2 ^ 31 ∧ N ≠ 1) (v : Int64) : XSpec mJ7_fill_d0a16 1 0 0 n n [.ref q, .long v] h (xq none (xSL q (fl N v (xL h q)) h)) xno := by
  refine XSpec.of rfl (by decide +kernel) (Nat.le_of_ble_eq_true rfl) rfl (v_J7_fill_d0a16_0 n q N hq ⟨hn, hN.2⟩ v ?_)
  refine l_fillJ n q N hq ⟨hn, hN.2⟩ hN.1 v N 0 h (by omega) ⟨rfl, ?_⟩
  have e : (fun j => if 0 ≤ j ∧ j < N then v else xL h q j) = fl N v (xL h q) := by
    funext j
    unfold fl
    simp
  rw [e]
theorem s_fillI (n : Nat) (h : XH) (q N : Nat) (hq : SH q = .inl (.int, N)) (hn : q < n) (hN : N < 2 ^ 31) (v : Int32) : XSpec mJ7_fill_53178 1 0 0 n n [.ref q, .int v] h (xq none (xSI q (fl N v (xI h q)) h)) xno := by
  refine XSpec.of rfl (by decide +kernel) (Nat.le_of_ble_eq_true rfl) rfl (v_J7_fill_53178_0 n q N hq hn v ?_)
  refine l_fillI n q N hq hn hN v N 0 h (by omega) ⟨rfl, ?_⟩
  have e : (fun j => if 0 ≤ j ∧ j < N then v else xI h q j) = fl N v (xI h q) := by
    funext j
    unfold fl
    simp
  rw [e]
