/-! SAND: a throw -/
/-- the part of 'here' that goes by odds o of all -/
def pw (od : Nat → Nat) (all : Nat) (here : Int64) (f : Nat) : Int64 := here * lN (od f) / lN all
def od6 (od : Nat → Nat) : Nat := od 1 + od 2 + od 3 + od 4 + od 5 + od 6
/-- the die is as it should be: lst the least face with odds -/
def Die (od : Nat → Nat) (lst : Nat) : Prop := (∀ f, 1 ≤ f → f ≤ 6 → od f ≤ 9) ∧ 1 ≤ lst ∧ lst ≤ 6 ∧ 0 < od lst ∧ ∀ f, 1 ≤ f → f < lst → od f = 0
theorem Die.all {od : Nat → Nat} {lst : Nat} (h : Die od lst) : 0 < od6 od ∧ od6 od ≤ 54 := by
  obtain ⟨h1, h2, h3, h4, -⟩ := h
  have a1 := h1 1 (by omega) (by omega)
  have a2 := h1 2 (by omega) (by omega)
  have a3 := h1 3 (by omega) (by omega)
  have a4 := h1 4 (by omega) (by omega)
  have a5 := h1 5 (by omega) (by omega)
  have a6 := h1 6 (by omega) (by omega)
  unfold od6
  refine ⟨?_, by omega⟩
  rcases (show lst = 1 ∨ lst = 2 ∨ lst = 3 ∨ lst = 4 ∨ lst = 5 ∨ lst = 6 by omega) with rfl | rfl | rfl | rfl | rfl | rfl <;> omega
/-- a board's rules r and paths a, as the sand reads them: last square, die, and where each square leads -/
def Geo (h : XH) (r a last lst : Nat) (od : Nat → Nat) (T : Nat → Nat → Nat) : Prop :=
  xRul r (xP h) ∧ xPth a (xP h) ∧ xI h r 0 = nI last ∧ xI h r 1 = nI (od6 od) ∧ xI h r 2 = nI lst ∧ 10 ≤ last ∧ last ≤ 100 ∧ Die od lst ∧ (∀ f, 1 ≤ f → f ≤ 6 → xI h (r + 5) f = nI (od f)) ∧ (∀ s, s ≤ last → ∀ f, f ≤ 6 → xI h (a + 3) (s * 7 + f) = nI (T s f) ∧ T s f ≤ last)
theorem s_X6_shareOut (n sn ya za r a last lst s : Nat) (h : XH) (od : Nat → Nat) (T : Nat → Nat → Nat) (hs : xSnd sn ya za (xP h)) (hg : Geo h r a last lst od T) (hn : sn + 3 ≤ n) (hnr : r + 9 ≤ n) (hna : a + 4 ≤ n) (hsl : s ≤ last) (here : Int64) :
    XSpec mX6_shareOut 2 0 0 n n [.ref sn, .ref r, .ref a, .int (nI s), .long here] h (fun v h' => v = none ∧ ∃ F' : Nat → Int64, h' = xSL za F' h ∧ ∀ j, j < 101 → F' j = xL h za j + shc (T s) (pw od (od6 od) here) lst here j) xno := by
  obtain ⟨hr, ha, g1, g2, g3, g4, g5, g6, g7, g8⟩ := hg
  obtain ⟨ha0, ha1⟩ := g6.all
  obtain ⟨-, d1, d2, -, -⟩ := id g6
  refine XSpec.of rfl (by decide) (Nat.le_of_ble_eq_true rfl) rfl (v_X6_shareOut_0 n sn ya za hs hn r hr hnr a ha hna (nI s) here ?_)
  rw [g2, g3]
  have e7 : nI s * 7 = nI (s * 7) := pk_mul s 7
  refine ⟨fun c => absurd c (nI_nle ha0 (by omega)), fun _ => ⟨fun c => absurd c (nI_nle d1 (by omega)), fun _ => ⟨fun c => absurd c (by rw [e7]; exact nI_pos (by omega)), fun _ => ⟨fun _ => ?_, fun c => absurd ?_ c⟩⟩⟩⟩
  · rw [nI_1]
    refine l_shareOut n sn ya za r a s lst hn hnr hna (T s) here (nI (od6 od)) (by omega) d1 d2 (nI_lt (a := 0) ha0 (by omega)) (pw od (od6 od) here) (6 - lst) (lst + 1) h here (by omega) (by omega) hs hr ha (fun f f1 f2 => ⟨(g8 s hsl f f2).1, by have := (g8 s hsl f f2).2; omega⟩) (fun f f1 f2 => ?_) (fun F' hF' => ⟨rfl, F', rfl, hF'⟩)
    rw [g7 f f1 f2, nI_l (by have := g6.1 f f1 f2; omega), nI_l (by omega)]
    rfl
  · rw [e7]
    show nI (s * 7) + nI 6 < nI 707
    rw [nI_add]
    exact nI_lt (by omega) (by omega)
set_option maxRecDepth 20000 in
theorem v_X6_share_0 {h : XH} {Q : Option Value → XH → Prop} {X : String → XH → Prop} (n sn ya za : Nat) (hs : xSnd sn ya za (xP h)) (hn : sn + 3 ≤ n) (r : Nat) (hr : xRul r (xP h)) (hnr : r + 9 ≤ n) (a : Nat) (ha : xPth a (xP h)) (hna : a + 4 ≤ n) 
    (vc : XW (xrm 3 0 0) mX6_share (xE n Q X 0 0) n 0 0 (xSL za (fl 101 0 (xL h za)) h) 10 [some (.ref sn), some (.ref r), some (.ref a), some (.int 0)] []) :
    XW (xrm 3 0 0) mX6_share (xE n Q X 0 0) n 0 0 h 0 [some (.ref sn), some (.ref r), some (.ref a), none] [] := by
  rcases hs.1 with ⟨rfl, rfl, rfl⟩ | ⟨rfl, rfl, rfl⟩ | ⟨rfl, rfl, rfl⟩ | ⟨rfl, rfl, rfl⟩
  · refine xi_aload_n (by decide +kernel : decode mX6_share.2.1 0 = .ok (.aload_n 0, 1)) rfl rfl (?_ : XW _ _ _ _ _ _ _ 1 _ _)
    refine xi_getR (y := 45) (by decide +kernel : decode mX6_share.2.1 1 = .ok (.getfield 15, 3)) fX6_15 rfl (by omega) rfl hs.2.2 (?_ : XW _ _ _ _ _ _ _ 4 _ _)
    refine xi_lconst (v := 0) (by decide +kernel : decode mX6_share.2.1 4 = .ok (.lconst 0, 1)) (by decide) (?_ : XW _ _ _ _ _ _ _ 5 _ _)
    refine xi_callS (b := 0) (bs := 0) (As := [.ref 45, .long 0]) (st := []) (by decide +kernel : decode mX6_share.2.1 5 = .ok (.invokestatic 27, 3)) kX6_27 rfl rfl (s_fillJ n h 45 101 rfl (by omega) (by decide) 0) (by decide) (by decide) (Nat.le_of_ble_eq_true rfl) (by omega) (fun v9 h9 hq9 => ?_)
    rw [hq9.1, hq9.2]
    show XW _ _ _ _ _ _ _ 8 _ []
    refine xi_iconst (v := 0) (by decide +kernel : decode mX6_share.2.1 8 = .ok (.iconst 0, 1)) (by decide) (?_ : XW _ _ _ _ _ _ _ 9 _ _)
    refine xi_istore_n (ls' := [some (.ref 43), some (.ref r), some (.ref a), some (.int 0)]) (by decide +kernel : decode mX6_share.2.1 9 = .ok (.istore_n 3, 1)) rfl (by decide) rfl (?_ : XW _ _ _ _ _ _ _ 10 _ _)
    exact vc
  · refine xi_aload_n (by decide +kernel : decode mX6_share.2.1 0 = .ok (.aload_n 0, 1)) rfl rfl (?_ : XW _ _ _ _ _ _ _ 1 _ _)
    refine xi_getR (y := 44) (by decide +kernel : decode mX6_share.2.1 1 = .ok (.getfield 15, 3)) fX6_15 rfl (by omega) rfl hs.2.2 (?_ : XW _ _ _ _ _ _ _ 4 _ _)
    refine xi_lconst (v := 0) (by decide +kernel : decode mX6_share.2.1 4 = .ok (.lconst 0, 1)) (by decide) (?_ : XW _ _ _ _ _ _ _ 5 _ _)
    refine xi_callS (b := 0) (bs := 0) (As := [.ref 44, .long 0]) (st := []) (by decide +kernel : decode mX6_share.2.1 5 = .ok (.invokestatic 27, 3)) kX6_27 rfl rfl (s_fillJ n h 44 101 rfl (by omega) (by decide) 0) (by decide) (by decide) (Nat.le_of_ble_eq_true rfl) (by omega) (fun v9 h9 hq9 => ?_)
    rw [hq9.1, hq9.2]
    show XW _ _ _ _ _ _ _ 8 _ []
    refine xi_iconst (v := 0) (by decide +kernel : decode mX6_share.2.1 8 = .ok (.iconst 0, 1)) (by decide) (?_ : XW _ _ _ _ _ _ _ 9 _ _)
    refine xi_istore_n (ls' := [some (.ref 43), some (.ref r), some (.ref a), some (.int 0)]) (by decide +kernel : decode mX6_share.2.1 9 = .ok (.istore_n 3, 1)) rfl (by decide) rfl (?_ : XW _ _ _ _ _ _ _ 10 _ _)
    exact vc
  · refine xi_aload_n (by decide +kernel : decode mX6_share.2.1 0 = .ok (.aload_n 0, 1)) rfl rfl (?_ : XW _ _ _ _ _ _ _ 1 _ _)
    refine xi_getR (y := 48) (by decide +kernel : decode mX6_share.2.1 1 = .ok (.getfield 15, 3)) fX6_15 rfl (by omega) rfl hs.2.2 (?_ : XW _ _ _ _ _ _ _ 4 _ _)
    refine xi_lconst (v := 0) (by decide +kernel : decode mX6_share.2.1 4 = .ok (.lconst 0, 1)) (by decide) (?_ : XW _ _ _ _ _ _ _ 5 _ _)
    refine xi_callS (b := 0) (bs := 0) (As := [.ref 48, .long 0]) (st := []) (by decide +kernel : decode mX6_share.2.1 5 = .ok (.invokestatic 27, 3)) kX6_27 rfl rfl (s_fillJ n h 48 101 rfl (by omega) (by decide) 0) (by decide) (by decide) (Nat.le_of_ble_eq_true rfl) (by omega) (fun v9 h9 hq9 => ?_)
    rw [hq9.1, hq9.2]
    show XW _ _ _ _ _ _ _ 8 _ []
    refine xi_iconst (v := 0) (by decide +kernel : decode mX6_share.2.1 8 = .ok (.iconst 0, 1)) (by decide) (?_ : XW _ _ _ _ _ _ _ 9 _ _)
    refine xi_istore_n (ls' := [some (.ref 46), some (.ref r), some (.ref a), some (.int 0)]) (by decide +kernel : decode mX6_share.2.1 9 = .ok (.istore_n 3, 1)) rfl (by decide) rfl (?_ : XW _ _ _ _ _ _ _ 10 _ _)
    exact vc
  · refine xi_aload_n (by decide +kernel : decode mX6_share.2.1 0 = .ok (.aload_n 0, 1)) rfl rfl (?_ : XW _ _ _ _ _ _ _ 1 _ _)
    refine xi_getR (y := 47) (by decide +kernel : decode mX6_share.2.1 1 = .ok (.getfield 15, 3)) fX6_15 rfl (by omega) rfl hs.2.2 (?_ : XW _ _ _ _ _ _ _ 4 _ _)
    refine xi_lconst (v := 0) (by decide +kernel : decode mX6_share.2.1 4 = .ok (.lconst 0, 1)) (by decide) (?_ : XW _ _ _ _ _ _ _ 5 _ _)
    refine xi_callS (b := 0) (bs := 0) (As := [.ref 47, .long 0]) (st := []) (by decide +kernel : decode mX6_share.2.1 5 = .ok (.invokestatic 27, 3)) kX6_27 rfl rfl (s_fillJ n h 47 101 rfl (by omega) (by decide) 0) (by decide) (by decide) (Nat.le_of_ble_eq_true rfl) (by omega) (fun v9 h9 hq9 => ?_)
    rw [hq9.1, hq9.2]
    show XW _ _ _ _ _ _ _ 8 _ []
    refine xi_iconst (v := 0) (by decide +kernel : decode mX6_share.2.1 8 = .ok (.iconst 0, 1)) (by decide) (?_ : XW _ _ _ _ _ _ _ 9 _ _)
    refine xi_istore_n (ls' := [some (.ref 46), some (.ref r), some (.ref a), some (.int 0)]) (by decide +kernel : decode mX6_share.2.1 9 = .ok (.istore_n 3, 1)) rfl (by decide) rfl (?_ : XW _ _ _ _ _ _ _ 10 _ _)
    exact vc

set_option maxRecDepth 20000 in
theorem v_X6_share_10 {h : XH} {Q : Option Value → XH → Prop} {X : String → XH → Prop} (n sn ya za : Nat) (hs : xSnd sn ya za (xP h)) (hn : sn + 3 ≤ n) (r : Nat) (hr : xRul r (xP h)) (hnr : r + 9 ≤ n) (a : Nat) (ha : xPth a (xP h)) (hna : a + 4 ≤ n)  (x3 : Int32)
    (vc : ((xI h sn 0) ≤ x3 → Q none (xSP sn (va_up (va_up (xP h sn) 1 (some za)) 2 (some ya)) (xSP sn (va_up (xP h sn) 1 (some za)) (xSL za (wr (xL h za) 101 (xI h sn 0) ((xL h za) (xI h sn 0).toNatClampNeg + (rd (xL h ya) 101 0 (xI h sn 0)))) h)))) ∧ (¬ (xI h sn 0) ≤ x3 → (101 ≤ x3 → Q none (xSP sn (va_up (va_up (xP h sn) 1 (some za)) 2 (some ya)) (xSP sn (va_up (xP h sn) 1 (some za)) (xSL za (wr (xL h za) 101 (xI h sn 0) ((xL h za) (xI h sn 0).toNatClampNeg + (rd (xL h ya) 101 0 (xI h sn 0)))) h)))) ∧ (¬ 101 ≤ x3 → (vp_in x3 101) ∧ (((lg_cmp (xL h ya x3.toNatClampNeg) 0) = 0 → XW (xrm 3 0 0) mX6_share (xE n Q X 0 0) n 0 0 h 10 [some (.ref sn), some (.ref r), some (.ref a), some (.int (x3 + 1))] []) ∧ (¬ (lg_cmp (xL h ya x3.toNatClampNeg) 0) = 0 → (vp_in x3 101) ∧ (∃ Q1, XSpec mX6_shareOut 2 0 0 n n [.ref sn, .ref r, .ref a, .int x3, .long (xL h ya x3.toNatClampNeg)] h Q1 xno ∧ ∀ v h1, Q1 v h1 → v = none ∧ (XW (xrm 3 0 0) mX6_share (xE n Q X 0 0) n 0 0 h1 10 [some (.ref sn), some (.ref r), some (.ref a), some (.int (x3 + 1))] []))))))) :
    XW (xrm 3 0 0) mX6_share (xE n Q X 0 0) n 0 0 h 10 [some (.ref sn), some (.ref r), some (.ref a), some (.int x3)] [] := by
  rcases hs.1 with ⟨rfl, rfl, rfl⟩ | ⟨rfl, rfl, rfl⟩ | ⟨rfl, rfl, rfl⟩ | ⟨rfl, rfl, rfl⟩
  · refine xi_iload_n (by decide +kernel : decode mX6_share.2.1 10 = .ok (.iload_n 3, 1)) rfl rfl (?_ : XW _ _ _ _ _ _ _ 11 _ _)
    refine xi_aload_n (by decide +kernel : decode mX6_share.2.1 11 = .ok (.aload_n 0, 1)) rfl rfl (?_ : XW _ _ _ _ _ _ _ 12 _ _)
    refine xi_getI (by decide +kernel : decode mX6_share.2.1 12 = .ok (.getfield 24, 3)) fX6_24 rfl (by omega) rfl (?_ : XW _ _ _ _ _ _ _ 15 _ _)
    refine xi_icmp_ge (by decide +kernel : decode mX6_share.2.1 15 = .ok (.if_icmp .ge 42, 3)) (by decide) (fun c => (?_ : XW _ _ _ _ _ _ _ 57 _ _)) (fun c => (?_ : XW _ _ _ _ _ _ _ 18 _ _))
    · replace vc := vc.1 c
      refine xi_aload_n (by decide +kernel : decode mX6_share.2.1 57 = .ok (.aload_n 0, 1)) rfl rfl (?_ : XW _ _ _ _ _ _ _ 58 _ _)
      refine xi_getR (y := 45) (by decide +kernel : decode mX6_share.2.1 58 = .ok (.getfield 15, 3)) fX6_15 rfl (by omega) rfl hs.2.2 (?_ : XW _ _ _ _ _ _ _ 61 _ _)
      refine xi_aload_n (by decide +kernel : decode mX6_share.2.1 61 = .ok (.aload_n 0, 1)) rfl rfl (?_ : XW _ _ _ _ _ _ _ 62 _ _)
      refine xi_getI (by decide +kernel : decode mX6_share.2.1 62 = .ok (.getfield 24, 3)) fX6_24 rfl (by omega) rfl (?_ : XW _ _ _ _ _ _ _ 65 _ _)
      refine xi_aload_n (by decide +kernel : decode mX6_share.2.1 65 = .ok (.aload_n 0, 1)) rfl rfl (?_ : XW _ _ _ _ _ _ _ 66 _ _)
      refine xi_aload_n (by decide +kernel : decode mX6_share.2.1 66 = .ok (.aload_n 0, 1)) rfl rfl (?_ : XW _ _ _ _ _ _ _ 67 _ _)
      refine xi_getI (by decide +kernel : decode mX6_share.2.1 67 = .ok (.getfield 24, 3)) fX6_24 rfl (by omega) rfl (?_ : XW _ _ _ _ _ _ _ 70 _ _)
      refine xi_callV (b := 0) (bs := 0) (As := [.int (xI h 43 0)]) (st := [.int (xI h 43 0), .ref 45]) (by decide +kernel : decode mX6_share.2.1 70 = .ok (.invokevirtual 39, 3)) kX6_39 rfl rfl (by omega) rfl (s_X6_on n h 43 44 45 hs (by omega) (xI h 43 0)) (by decide) (by decide) (Nat.le_of_ble_eq_true rfl) (by omega) (fun v9 h9 hq9 => ?_)
      rw [hq9.1, hq9.2]
      show XW _ _ _ _ _ _ _ 73 _ [.long (rd (xL h 44) 101 0 (xI h 43 0)), .int (xI h 43 0), .ref 45]
      refine xi_callS (b := 0) (bs := 0) (As := [.ref 45, .int (xI h 43 0), .long (rd (xL h 44) 101 0 (xI h 43 0))]) (st := []) (by decide +kernel : decode mX6_share.2.1 73 = .ok (.invokestatic 35, 3)) kX6_35 rfl rfl (s_X6_add n h 45 rfl (by omega) (xI h 43 0) (rd (xL h 44) 101 0 (xI h 43 0))) (by decide) (by decide) (Nat.le_of_ble_eq_true rfl) (by omega) (fun v9 h9 hq9 => ?_)
      rw [hq9.1, hq9.2]
      show XW _ _ _ _ _ _ _ 76 _ []
      refine xi_aload_n (by decide +kernel : decode mX6_share.2.1 76 = .ok (.aload_n 0, 1)) rfl rfl (?_ : XW _ _ _ _ _ _ _ 77 _ _)
      refine xi_getR (y := 44) (by decide +kernel : decode mX6_share.2.1 77 = .ok (.getfield 9, 3)) fX6_9 rfl (by omega) rfl hs.2.1 (?_ : XW _ _ _ _ _ _ _ 80 _ _)
      refine xi_astore_n (ls' := [some (.ref 43), some (.ref r), some (.ref a), some (.ref 44)]) (by decide +kernel : decode mX6_share.2.1 80 = .ok (.astore_n 3, 1)) rfl (by decide) rfl (?_ : XW _ _ _ _ _ _ _ 81 _ _)
      refine xi_aload_n (by decide +kernel : decode mX6_share.2.1 81 = .ok (.aload_n 0, 1)) rfl rfl (?_ : XW _ _ _ _ _ _ _ 82 _ _)
      refine xi_aload_n (by decide +kernel : decode mX6_share.2.1 82 = .ok (.aload_n 0, 1)) rfl rfl (?_ : XW _ _ _ _ _ _ _ 83 _ _)
      refine xi_getR (y := 45) (by decide +kernel : decode mX6_share.2.1 83 = .ok (.getfield 15, 3)) fX6_15 rfl (by omega) rfl hs.2.2 (?_ : XW _ _ _ _ _ _ _ 86 _ _)
      refine xi_putR (by decide +kernel : decode mX6_share.2.1 86 = .ok (.putfield 9, 3)) fX6_9 rfl (by omega) rfl (?_ : XW _ _ _ _ _ _ (xSP 43 (va_up (xP h 43) 1 (some 45)) (xSL 45 (wr (xL h 45) 101 (xI h 43 0) ((xL h 45) (xI h 43 0).toNatClampNeg + (rd (xL h 44) 101 0 (xI h 43 0)))) h)) 89 _ _)
      refine xi_aload_n (by decide +kernel : decode mX6_share.2.1 89 = .ok (.aload_n 0, 1)) rfl rfl (?_ : XW _ _ _ _ _ _ _ 90 _ _)
      refine xi_aload_n (by decide +kernel : decode mX6_share.2.1 90 = .ok (.aload_n 3, 1)) rfl rfl (?_ : XW _ _ _ _ _ _ _ 91 _ _)
      refine xi_putR (by decide +kernel : decode mX6_share.2.1 91 = .ok (.putfield 15, 3)) fX6_15 rfl (by omega) rfl (?_ : XW _ _ _ _ _ _ (xSP 43 (va_up (va_up (xP h 43) 1 (some 45)) 2 (some 44)) (xSP 43 (va_up (xP h 43) 1 (some 45)) (xSL 45 (wr (xL h 45) 101 (xI h 43 0) ((xL h 45) (xI h 43 0).toNatClampNeg + (rd (xL h 44) 101 0 (xI h 43 0)))) h))) 94 _ _)
      exact xi_vret (by decide +kernel : decode mX6_share.2.1 94 = .ok (.return_, 1)) rfl vc
    · replace vc := vc.2 c
      refine xi_iload_n (by decide +kernel : decode mX6_share.2.1 18 = .ok (.iload_n 3, 1)) rfl rfl (?_ : XW _ _ _ _ _ _ _ 19 _ _)
      refine xi_aload_n (by decide +kernel : decode mX6_share.2.1 19 = .ok (.aload_n 0, 1)) rfl rfl (?_ : XW _ _ _ _ _ _ _ 20 _ _)
      refine xi_getR (y := 44) (by decide +kernel : decode mX6_share.2.1 20 = .ok (.getfield 9, 3)) fX6_9 rfl (by omega) rfl hs.2.1 (?_ : XW _ _ _ _ _ _ _ 23 _ _)
      refine xi_alen (v := 101) (by decide +kernel : decode mX6_share.2.1 23 = .ok (.arraylength, 1)) rfl (by omega) (Or.inr (Or.inl rfl)) rfl (?_ : XW _ _ _ _ _ _ _ 24 _ _)
      refine xi_icmp_ge (by decide +kernel : decode mX6_share.2.1 24 = .ok (.if_icmp .ge 33, 3)) (by decide) (fun c => (?_ : XW _ _ _ _ _ _ _ 57 _ _)) (fun c => (?_ : XW _ _ _ _ _ _ _ 27 _ _))
      · replace vc := vc.1 c
        refine xi_aload_n (by decide +kernel : decode mX6_share.2.1 57 = .ok (.aload_n 0, 1)) rfl rfl (?_ : XW _ _ _ _ _ _ _ 58 _ _)
        refine xi_getR (y := 45) (by decide +kernel : decode mX6_share.2.1 58 = .ok (.getfield 15, 3)) fX6_15 rfl (by omega) rfl hs.2.2 (?_ : XW _ _ _ _ _ _ _ 61 _ _)
        refine xi_aload_n (by decide +kernel : decode mX6_share.2.1 61 = .ok (.aload_n 0, 1)) rfl rfl (?_ : XW _ _ _ _ _ _ _ 62 _ _)
        refine xi_getI (by decide +kernel : decode mX6_share.2.1 62 = .ok (.getfield 24, 3)) fX6_24 rfl (by omega) rfl (?_ : XW _ _ _ _ _ _ _ 65 _ _)
        refine xi_aload_n (by decide +kernel : decode mX6_share.2.1 65 = .ok (.aload_n 0, 1)) rfl rfl (?_ : XW _ _ _ _ _ _ _ 66 _ _)
        refine xi_aload_n (by decide +kernel : decode mX6_share.2.1 66 = .ok (.aload_n 0, 1)) rfl rfl (?_ : XW _ _ _ _ _ _ _ 67 _ _)
        refine xi_getI (by decide +kernel : decode mX6_share.2.1 67 = .ok (.getfield 24, 3)) fX6_24 rfl (by omega) rfl (?_ : XW _ _ _ _ _ _ _ 70 _ _)
        refine xi_callV (b := 0) (bs := 0) (As := [.int (xI h 43 0)]) (st := [.int (xI h 43 0), .ref 45]) (by decide +kernel : decode mX6_share.2.1 70 = .ok (.invokevirtual 39, 3)) kX6_39 rfl rfl (by omega) rfl (s_X6_on n h 43 44 45 hs (by omega) (xI h 43 0)) (by decide) (by decide) (Nat.le_of_ble_eq_true rfl) (by omega) (fun v9 h9 hq9 => ?_)
        rw [hq9.1, hq9.2]
        show XW _ _ _ _ _ _ _ 73 _ [.long (rd (xL h 44) 101 0 (xI h 43 0)), .int (xI h 43 0), .ref 45]
        refine xi_callS (b := 0) (bs := 0) (As := [.ref 45, .int (xI h 43 0), .long (rd (xL h 44) 101 0 (xI h 43 0))]) (st := []) (by decide +kernel : decode mX6_share.2.1 73 = .ok (.invokestatic 35, 3)) kX6_35 rfl rfl (s_X6_add n h 45 rfl (by omega) (xI h 43 0) (rd (xL h 44) 101 0 (xI h 43 0))) (by decide) (by decide) (Nat.le_of_ble_eq_true rfl) (by omega) (fun v9 h9 hq9 => ?_)
        rw [hq9.1, hq9.2]
        show XW _ _ _ _ _ _ _ 76 _ []
        refine xi_aload_n (by decide +kernel : decode mX6_share.2.1 76 = .ok (.aload_n 0, 1)) rfl rfl (?_ : XW _ _ _ _ _ _ _ 77 _ _)
        refine xi_getR (y := 44) (by decide +kernel : decode mX6_share.2.1 77 = .ok (.getfield 9, 3)) fX6_9 rfl (by omega) rfl hs.2.1 (?_ : XW _ _ _ _ _ _ _ 80 _ _)
        refine xi_astore_n (ls' := [some (.ref 43), some (.ref r), some (.ref a), some (.ref 44)]) (by decide +kernel : decode mX6_share.2.1 80 = .ok (.astore_n 3, 1)) rfl (by decide) rfl (?_ : XW _ _ _ _ _ _ _ 81 _ _)
        refine xi_aload_n (by decide +kernel : decode mX6_share.2.1 81 = .ok (.aload_n 0, 1)) rfl rfl (?_ : XW _ _ _ _ _ _ _ 82 _ _)
        refine xi_aload_n (by decide +kernel : decode mX6_share.2.1 82 = .ok (.aload_n 0, 1)) rfl rfl (?_ : XW _ _ _ _ _ _ _ 83 _ _)
        refine xi_getR (y := 45) (by decide +kernel : decode mX6_share.2.1 83 = .ok (.getfield 15, 3)) fX6_15 rfl (by omega) rfl hs.2.2 (?_ : XW _ _ _ _ _ _ _ 86 _ _)
        refine xi_putR (by decide +kernel : decode mX6_share.2.1 86 = .ok (.putfield 9, 3)) fX6_9 rfl (by omega) rfl (?_ : XW _ _ _ _ _ _ (xSP 43 (va_up (xP h 43) 1 (some 45)) (xSL 45 (wr (xL h 45) 101 (xI h 43 0) ((xL h 45) (xI h 43 0).toNatClampNeg + (rd (xL h 44) 101 0 (xI h 43 0)))) h)) 89 _ _)
        refine xi_aload_n (by decide +kernel : decode mX6_share.2.1 89 = .ok (.aload_n 0, 1)) rfl rfl (?_ : XW _ _ _ _ _ _ _ 90 _ _)
        refine xi_aload_n (by decide +kernel : decode mX6_share.2.1 90 = .ok (.aload_n 3, 1)) rfl rfl (?_ : XW _ _ _ _ _ _ _ 91 _ _)
        refine xi_putR (by decide +kernel : decode mX6_share.2.1 91 = .ok (.putfield 15, 3)) fX6_15 rfl (by omega) rfl (?_ : XW _ _ _ _ _ _ (xSP 43 (va_up (va_up (xP h 43) 1 (some 45)) 2 (some 44)) (xSP 43 (va_up (xP h 43) 1 (some 45)) (xSL 45 (wr (xL h 45) 101 (xI h 43 0) ((xL h 45) (xI h 43 0).toNatClampNeg + (rd (xL h 44) 101 0 (xI h 43 0)))) h))) 94 _ _)
        exact xi_vret (by decide +kernel : decode mX6_share.2.1 94 = .ok (.return_, 1)) rfl vc
      · replace vc := vc.2 c
        refine xi_aload_n (by decide +kernel : decode mX6_share.2.1 27 = .ok (.aload_n 0, 1)) rfl rfl (?_ : XW _ _ _ _ _ _ _ 28 _ _)
        refine xi_getR (y := 44) (by decide +kernel : decode mX6_share.2.1 28 = .ok (.getfield 9, 3)) fX6_9 rfl (by omega) rfl hs.2.1 (?_ : XW _ _ _ _ _ _ _ 31 _ _)
        refine xi_iload_n (by decide +kernel : decode mX6_share.2.1 31 = .ok (.iload_n 3, 1)) rfl rfl (?_ : XW _ _ _ _ _ _ _ 32 _ _)
        obtain ⟨s1, vc⟩ := vc
        refine xi_lald (by decide +kernel : decode mX6_share.2.1 32 = .ok (.laload, 1)) rfl (by omega) s1 (?_ : XW _ _ _ _ _ _ _ 33 _ _)
        refine xi_lconst (v := 0) (by decide +kernel : decode mX6_share.2.1 33 = .ok (.lconst 0, 1)) (by decide) (?_ : XW _ _ _ _ _ _ _ 34 _ _)
        refine xi_lcmp (by decide +kernel : decode mX6_share.2.1 34 = .ok (.lcmp, 1)) (?_ : XW _ _ _ _ _ _ _ 35 _ _)
        refine xi_if_eq (by decide +kernel : decode mX6_share.2.1 35 = .ok (.ifCond .eq 16, 3)) (by decide) (fun c => (?_ : XW _ _ _ _ _ _ _ 51 _ _)) (fun c => (?_ : XW _ _ _ _ _ _ _ 38 _ _))
        · replace vc := vc.1 c
          refine xi_iinc (v := x3 + 1) (ls' := [some (.ref 43), some (.ref r), some (.ref a), some (.int (x3 + 1))]) (by decide +kernel : decode mX6_share.2.1 51 = .ok (.iinc 3 1, 3)) rfl rfl (by decide) rfl (?_ : XW _ _ _ _ _ _ _ 54 _ _)
          refine xi_goto (by decide +kernel : decode mX6_share.2.1 54 = .ok (.goto (-44), 3)) (by decide) (?_ : XW _ _ _ _ _ _ _ 10 _ _)
          exact vc
        · replace vc := vc.2 c
          refine xi_aload_n (by decide +kernel : decode mX6_share.2.1 38 = .ok (.aload_n 0, 1)) rfl rfl (?_ : XW _ _ _ _ _ _ _ 39 _ _)
          refine xi_aload_n (by decide +kernel : decode mX6_share.2.1 39 = .ok (.aload_n 1, 1)) rfl rfl (?_ : XW _ _ _ _ _ _ _ 40 _ _)
          refine xi_aload_n (by decide +kernel : decode mX6_share.2.1 40 = .ok (.aload_n 2, 1)) rfl rfl (?_ : XW _ _ _ _ _ _ _ 41 _ _)
          refine xi_iload_n (by decide +kernel : decode mX6_share.2.1 41 = .ok (.iload_n 3, 1)) rfl rfl (?_ : XW _ _ _ _ _ _ _ 42 _ _)
          refine xi_aload_n (by decide +kernel : decode mX6_share.2.1 42 = .ok (.aload_n 0, 1)) rfl rfl (?_ : XW _ _ _ _ _ _ _ 43 _ _)
          refine xi_getR (y := 44) (by decide +kernel : decode mX6_share.2.1 43 = .ok (.getfield 9, 3)) fX6_9 rfl (by omega) rfl hs.2.1 (?_ : XW _ _ _ _ _ _ _ 46 _ _)
          refine xi_iload_n (by decide +kernel : decode mX6_share.2.1 46 = .ok (.iload_n 3, 1)) rfl rfl (?_ : XW _ _ _ _ _ _ _ 47 _ _)
          obtain ⟨s1, vc⟩ := vc
          refine xi_lald (by decide +kernel : decode mX6_share.2.1 47 = .ok (.laload, 1)) rfl (by omega) s1 (?_ : XW _ _ _ _ _ _ _ 48 _ _)
          obtain ⟨Q1, sp, vc⟩ := vc
          refine xi_callV (b := 0) (bs := 0) (As := [.ref r, .ref a, .int x3, .long (xL h 44 x3.toNatClampNeg)]) (st := []) (by decide +kernel : decode mX6_share.2.1 48 = .ok (.invokevirtual 43, 3)) kX6_43 rfl rfl (by omega) rfl sp (by decide) (by decide) (Nat.le_of_ble_eq_true rfl) (by omega) (fun v9 h1 hq9 => ?_)
          obtain ⟨e9, vc⟩ := vc v9 h1 hq9
          subst e9
          show XW _ _ _ _ _ _ _ 51 _ []
          refine xi_iinc (v := x3 + 1) (ls' := [some (.ref 43), some (.ref r), some (.ref a), some (.int (x3 + 1))]) (by decide +kernel : decode mX6_share.2.1 51 = .ok (.iinc 3 1, 3)) rfl rfl (by decide) rfl (?_ : XW _ _ _ _ _ _ _ 54 _ _)
          refine xi_goto (by decide +kernel : decode mX6_share.2.1 54 = .ok (.goto (-44), 3)) (by decide) (?_ : XW _ _ _ _ _ _ _ 10 _ _)
          exact vc
  · refine xi_iload_n (by decide +kernel : decode mX6_share.2.1 10 = .ok (.iload_n 3, 1)) rfl rfl (?_ : XW _ _ _ _ _ _ _ 11 _ _)
    refine xi_aload_n (by decide +kernel : decode mX6_share.2.1 11 = .ok (.aload_n 0, 1)) rfl rfl (?_ : XW _ _ _ _ _ _ _ 12 _ _)
    refine xi_getI (by decide +kernel : decode mX6_share.2.1 12 = .ok (.getfield 24, 3)) fX6_24 rfl (by omega) rfl (?_ : XW _ _ _ _ _ _ _ 15 _ _)
    refine xi_icmp_ge (by decide +kernel : decode mX6_share.2.1 15 = .ok (.if_icmp .ge 42, 3)) (by decide) (fun c => (?_ : XW _ _ _ _ _ _ _ 57 _ _)) (fun c => (?_ : XW _ _ _ _ _ _ _ 18 _ _))
    · replace vc := vc.1 c
      refine xi_aload_n (by decide +kernel : decode mX6_share.2.1 57 = .ok (.aload_n 0, 1)) rfl rfl (?_ : XW _ _ _ _ _ _ _ 58 _ _)
      refine xi_getR (y := 44) (by decide +kernel : decode mX6_share.2.1 58 = .ok (.getfield 15, 3)) fX6_15 rfl (by omega) rfl hs.2.2 (?_ : XW _ _ _ _ _ _ _ 61 _ _)
      refine xi_aload_n (by decide +kernel : decode mX6_share.2.1 61 = .ok (.aload_n 0, 1)) rfl rfl (?_ : XW _ _ _ _ _ _ _ 62 _ _)
      refine xi_getI (by decide +kernel : decode mX6_share.2.1 62 = .ok (.getfield 24, 3)) fX6_24 rfl (by omega) rfl (?_ : XW _ _ _ _ _ _ _ 65 _ _)
      refine xi_aload_n (by decide +kernel : decode mX6_share.2.1 65 = .ok (.aload_n 0, 1)) rfl rfl (?_ : XW _ _ _ _ _ _ _ 66 _ _)
      refine xi_aload_n (by decide +kernel : decode mX6_share.2.1 66 = .ok (.aload_n 0, 1)) rfl rfl (?_ : XW _ _ _ _ _ _ _ 67 _ _)
      refine xi_getI (by decide +kernel : decode mX6_share.2.1 67 = .ok (.getfield 24, 3)) fX6_24 rfl (by omega) rfl (?_ : XW _ _ _ _ _ _ _ 70 _ _)
      refine xi_callV (b := 0) (bs := 0) (As := [.int (xI h 43 0)]) (st := [.int (xI h 43 0), .ref 44]) (by decide +kernel : decode mX6_share.2.1 70 = .ok (.invokevirtual 39, 3)) kX6_39 rfl rfl (by omega) rfl (s_X6_on n h 43 45 44 hs (by omega) (xI h 43 0)) (by decide) (by decide) (Nat.le_of_ble_eq_true rfl) (by omega) (fun v9 h9 hq9 => ?_)
      rw [hq9.1, hq9.2]
      show XW _ _ _ _ _ _ _ 73 _ [.long (rd (xL h 45) 101 0 (xI h 43 0)), .int (xI h 43 0), .ref 44]
      refine xi_callS (b := 0) (bs := 0) (As := [.ref 44, .int (xI h 43 0), .long (rd (xL h 45) 101 0 (xI h 43 0))]) (st := []) (by decide +kernel : decode mX6_share.2.1 73 = .ok (.invokestatic 35, 3)) kX6_35 rfl rfl (s_X6_add n h 44 rfl (by omega) (xI h 43 0) (rd (xL h 45) 101 0 (xI h 43 0))) (by decide) (by decide) (Nat.le_of_ble_eq_true rfl) (by omega) (fun v9 h9 hq9 => ?_)
      rw [hq9.1, hq9.2]
      show XW _ _ _ _ _ _ _ 76 _ []
      refine xi_aload_n (by decide +kernel : decode mX6_share.2.1 76 = .ok (.aload_n 0, 1)) rfl rfl (?_ : XW _ _ _ _ _ _ _ 77 _ _)
      refine xi_getR (y := 45) (by decide +kernel : decode mX6_share.2.1 77 = .ok (.getfield 9, 3)) fX6_9 rfl (by omega) rfl hs.2.1 (?_ : XW _ _ _ _ _ _ _ 80 _ _)
      refine xi_astore_n (ls' := [some (.ref 43), some (.ref r), some (.ref a), some (.ref 45)]) (by decide +kernel : decode mX6_share.2.1 80 = .ok (.astore_n 3, 1)) rfl (by decide) rfl (?_ : XW _ _ _ _ _ _ _ 81 _ _)
      refine xi_aload_n (by decide +kernel : decode mX6_share.2.1 81 = .ok (.aload_n 0, 1)) rfl rfl (?_ : XW _ _ _ _ _ _ _ 82 _ _)
      refine xi_aload_n (by decide +kernel : decode mX6_share.2.1 82 = .ok (.aload_n 0, 1)) rfl rfl (?_ : XW _ _ _ _ _ _ _ 83 _ _)
      refine xi_getR (y := 44) (by decide +kernel : decode mX6_share.2.1 83 = .ok (.getfield 15, 3)) fX6_15 rfl (by omega) rfl hs.2.2 (?_ : XW _ _ _ _ _ _ _ 86 _ _)
      refine xi_putR (by decide +kernel : decode mX6_share.2.1 86 = .ok (.putfield 9, 3)) fX6_9 rfl (by omega) rfl (?_ : XW _ _ _ _ _ _ (xSP 43 (va_up (xP h 43) 1 (some 44)) (xSL 44 (wr (xL h 44) 101 (xI h 43 0) ((xL h 44) (xI h 43 0).toNatClampNeg + (rd (xL h 45) 101 0 (xI h 43 0)))) h)) 89 _ _)
      refine xi_aload_n (by decide +kernel : decode mX6_share.2.1 89 = .ok (.aload_n 0, 1)) rfl rfl (?_ : XW _ _ _ _ _ _ _ 90 _ _)
      refine xi_aload_n (by decide +kernel : decode mX6_share.2.1 90 = .ok (.aload_n 3, 1)) rfl rfl (?_ : XW _ _ _ _ _ _ _ 91 _ _)
      refine xi_putR (by decide +kernel : decode mX6_share.2.1 91 = .ok (.putfield 15, 3)) fX6_15 rfl (by omega) rfl (?_ : XW _ _ _ _ _ _ (xSP 43 (va_up (va_up (xP h 43) 1 (some 44)) 2 (some 45)) (xSP 43 (va_up (xP h 43) 1 (some 44)) (xSL 44 (wr (xL h 44) 101 (xI h 43 0) ((xL h 44) (xI h 43 0).toNatClampNeg + (rd (xL h 45) 101 0 (xI h 43 0)))) h))) 94 _ _)
      exact xi_vret (by decide +kernel : decode mX6_share.2.1 94 = .ok (.return_, 1)) rfl vc
    · replace vc := vc.2 c
      refine xi_iload_n (by decide +kernel : decode mX6_share.2.1 18 = .ok (.iload_n 3, 1)) rfl rfl (?_ : XW _ _ _ _ _ _ _ 19 _ _)
      refine xi_aload_n (by decide +kernel : decode mX6_share.2.1 19 = .ok (.aload_n 0, 1)) rfl rfl (?_ : XW _ _ _ _ _ _ _ 20 _ _)
      refine xi_getR (y := 45) (by decide +kernel : decode mX6_share.2.1 20 = .ok (.getfield 9, 3)) fX6_9 rfl (by omega) rfl hs.2.1 (?_ : XW _ _ _ _ _ _ _ 23 _ _)
      refine xi_alen (v := 101) (by decide +kernel : decode mX6_share.2.1 23 = .ok (.arraylength, 1)) rfl (by omega) (Or.inr (Or.inl rfl)) rfl (?_ : XW _ _ _ _ _ _ _ 24 _ _)
      refine xi_icmp_ge (by decide +kernel : decode mX6_share.2.1 24 = .ok (.if_icmp .ge 33, 3)) (by decide) (fun c => (?_ : XW _ _ _ _ _ _ _ 57 _ _)) (fun c => (?_ : XW _ _ _ _ _ _ _ 27 _ _))
      · replace vc := vc.1 c
        refine xi_aload_n (by decide +kernel : decode mX6_share.2.1 57 = .ok (.aload_n 0, 1)) rfl rfl (?_ : XW _ _ _ _ _ _ _ 58 _ _)
        refine xi_getR (y := 44) (by decide +kernel : decode mX6_share.2.1 58 = .ok (.getfield 15, 3)) fX6_15 rfl (by omega) rfl hs.2.2 (?_ : XW _ _ _ _ _ _ _ 61 _ _)
        refine xi_aload_n (by decide +kernel : decode mX6_share.2.1 61 = .ok (.aload_n 0, 1)) rfl rfl (?_ : XW _ _ _ _ _ _ _ 62 _ _)
        refine xi_getI (by decide +kernel : decode mX6_share.2.1 62 = .ok (.getfield 24, 3)) fX6_24 rfl (by omega) rfl (?_ : XW _ _ _ _ _ _ _ 65 _ _)
        refine xi_aload_n (by decide +kernel : decode mX6_share.2.1 65 = .ok (.aload_n 0, 1)) rfl rfl (?_ : XW _ _ _ _ _ _ _ 66 _ _)
        refine xi_aload_n (by decide +kernel : decode mX6_share.2.1 66 = .ok (.aload_n 0, 1)) rfl rfl (?_ : XW _ _ _ _ _ _ _ 67 _ _)
        refine xi_getI (by decide +kernel : decode mX6_share.2.1 67 = .ok (.getfield 24, 3)) fX6_24 rfl (by omega) rfl (?_ : XW _ _ _ _ _ _ _ 70 _ _)
        refine xi_callV (b := 0) (bs := 0) (As := [.int (xI h 43 0)]) (st := [.int (xI h 43 0), .ref 44]) (by decide +kernel : decode mX6_share.2.1 70 = .ok (.invokevirtual 39, 3)) kX6_39 rfl rfl (by omega) rfl (s_X6_on n h 43 45 44 hs (by omega) (xI h 43 0)) (by decide) (by decide) (Nat.le_of_ble_eq_true rfl) (by omega) (fun v9 h9 hq9 => ?_)
        rw [hq9.1, hq9.2]
        show XW _ _ _ _ _ _ _ 73 _ [.long (rd (xL h 45) 101 0 (xI h 43 0)), .int (xI h 43 0), .ref 44]
        refine xi_callS (b := 0) (bs := 0) (As := [.ref 44, .int (xI h 43 0), .long (rd (xL h 45) 101 0 (xI h 43 0))]) (st := []) (by decide +kernel : decode mX6_share.2.1 73 = .ok (.invokestatic 35, 3)) kX6_35 rfl rfl (s_X6_add n h 44 rfl (by omega) (xI h 43 0) (rd (xL h 45) 101 0 (xI h 43 0))) (by decide) (by decide) (Nat.le_of_ble_eq_true rfl) (by omega) (fun v9 h9 hq9 => ?_)
        rw [hq9.1, hq9.2]
        show XW _ _ _ _ _ _ _ 76 _ []
        refine xi_aload_n (by decide +kernel : decode mX6_share.2.1 76 = .ok (.aload_n 0, 1)) rfl rfl (?_ : XW _ _ _ _ _ _ _ 77 _ _)
        refine xi_getR (y := 45) (by decide +kernel : decode mX6_share.2.1 77 = .ok (.getfield 9, 3)) fX6_9 rfl (by omega) rfl hs.2.1 (?_ : XW _ _ _ _ _ _ _ 80 _ _)
        refine xi_astore_n (ls' := [some (.ref 43), some (.ref r), some (.ref a), some (.ref 45)]) (by decide +kernel : decode mX6_share.2.1 80 = .ok (.astore_n 3, 1)) rfl (by decide) rfl (?_ : XW _ _ _ _ _ _ _ 81 _ _)
        refine xi_aload_n (by decide +kernel : decode mX6_share.2.1 81 = .ok (.aload_n 0, 1)) rfl rfl (?_ : XW _ _ _ _ _ _ _ 82 _ _)
        refine xi_aload_n (by decide +kernel : decode mX6_share.2.1 82 = .ok (.aload_n 0, 1)) rfl rfl (?_ : XW _ _ _ _ _ _ _ 83 _ _)
        refine xi_getR (y := 44) (by decide +kernel : decode mX6_share.2.1 83 = .ok (.getfield 15, 3)) fX6_15 rfl (by omega) rfl hs.2.2 (?_ : XW _ _ _ _ _ _ _ 86 _ _)
        refine xi_putR (by decide +kernel : decode mX6_share.2.1 86 = .ok (.putfield 9, 3)) fX6_9 rfl (by omega) rfl (?_ : XW _ _ _ _ _ _ (xSP 43 (va_up (xP h 43) 1 (some 44)) (xSL 44 (wr (xL h 44) 101 (xI h 43 0) ((xL h 44) (xI h 43 0).toNatClampNeg + (rd (xL h 45) 101 0 (xI h 43 0)))) h)) 89 _ _)
        refine xi_aload_n (by decide +kernel : decode mX6_share.2.1 89 = .ok (.aload_n 0, 1)) rfl rfl (?_ : XW _ _ _ _ _ _ _ 90 _ _)
        refine xi_aload_n (by decide +kernel : decode mX6_share.2.1 90 = .ok (.aload_n 3, 1)) rfl rfl (?_ : XW _ _ _ _ _ _ _ 91 _ _)
        refine xi_putR (by decide +kernel : decode mX6_share.2.1 91 = .ok (.putfield 15, 3)) fX6_15 rfl (by omega) rfl (?_ : XW _ _ _ _ _ _ (xSP 43 (va_up (va_up (xP h 43) 1 (some 44)) 2 (some 45)) (xSP 43 (va_up (xP h 43) 1 (some 44)) (xSL 44 (wr (xL h 44) 101 (xI h 43 0) ((xL h 44) (xI h 43 0).toNatClampNeg + (rd (xL h 45) 101 0 (xI h 43 0)))) h))) 94 _ _)
        exact xi_vret (by decide +kernel : decode mX6_share.2.1 94 = .ok (.return_, 1)) rfl vc
      · replace vc := vc.2 c
        refine xi_aload_n (by decide +kernel : decode mX6_share.2.1 27 = .ok (.aload_n 0, 1)) rfl rfl (?_ : XW _ _ _ _ _ _ _ 28 _ _)
        refine xi_getR (y := 45) (by decide +kernel : decode mX6_share.2.1 28 = .ok (.getfield 9, 3)) fX6_9 rfl (by omega) rfl hs.2.1 (?_ : XW _ _ _ _ _ _ _ 31 _ _)
        refine xi_iload_n (by decide +kernel : decode mX6_share.2.1 31 = .ok (.iload_n 3, 1)) rfl rfl (?_ : XW _ _ _ _ _ _ _ 32 _ _)
        obtain ⟨s1, vc⟩ := vc
        refine xi_lald (by decide +kernel : decode mX6_share.2.1 32 = .ok (.laload, 1)) rfl (by omega) s1 (?_ : XW _ _ _ _ _ _ _ 33 _ _)
        refine xi_lconst (v := 0) (by decide +kernel : decode mX6_share.2.1 33 = .ok (.lconst 0, 1)) (by decide) (?_ : XW _ _ _ _ _ _ _ 34 _ _)
        refine xi_lcmp (by decide +kernel : decode mX6_share.2.1 34 = .ok (.lcmp, 1)) (?_ : XW _ _ _ _ _ _ _ 35 _ _)
        refine xi_if_eq (by decide +kernel : decode mX6_share.2.1 35 = .ok (.ifCond .eq 16, 3)) (by decide) (fun c => (?_ : XW _ _ _ _ _ _ _ 51 _ _)) (fun c => (?_ : XW _ _ _ _ _ _ _ 38 _ _))
        · replace vc := vc.1 c
          refine xi_iinc (v := x3 + 1) (ls' := [some (.ref 43), some (.ref r), some (.ref a), some (.int (x3 + 1))]) (by decide +kernel : decode mX6_share.2.1 51 = .ok (.iinc 3 1, 3)) rfl rfl (by decide) rfl (?_ : XW _ _ _ _ _ _ _ 54 _ _)
          refine xi_goto (by decide +kernel : decode mX6_share.2.1 54 = .ok (.goto (-44), 3)) (by decide) (?_ : XW _ _ _ _ _ _ _ 10 _ _)
          exact vc
        · replace vc := vc.2 c
          refine xi_aload_n (by decide +kernel : decode mX6_share.2.1 38 = .ok (.aload_n 0, 1)) rfl rfl (?_ : XW _ _ _ _ _ _ _ 39 _ _)
          refine xi_aload_n (by decide +kernel : decode mX6_share.2.1 39 = .ok (.aload_n 1, 1)) rfl rfl (?_ : XW _ _ _ _ _ _ _ 40 _ _)
          refine xi_aload_n (by decide +kernel : decode mX6_share.2.1 40 = .ok (.aload_n 2, 1)) rfl rfl (?_ : XW _ _ _ _ _ _ _ 41 _ _)
          refine xi_iload_n (by decide +kernel : decode mX6_share.2.1 41 = .ok (.iload_n 3, 1)) rfl rfl (?_ : XW _ _ _ _ _ _ _ 42 _ _)
          refine xi_aload_n (by decide +kernel : decode mX6_share.2.1 42 = .ok (.aload_n 0, 1)) rfl rfl (?_ : XW _ _ _ _ _ _ _ 43 _ _)
          refine xi_getR (y := 45) (by decide +kernel : decode mX6_share.2.1 43 = .ok (.getfield 9, 3)) fX6_9 rfl (by omega) rfl hs.2.1 (?_ : XW _ _ _ _ _ _ _ 46 _ _)
          refine xi_iload_n (by decide +kernel : decode mX6_share.2.1 46 = .ok (.iload_n 3, 1)) rfl rfl (?_ : XW _ _ _ _ _ _ _ 47 _ _)
          obtain ⟨s1, vc⟩ := vc
          refine xi_lald (by decide +kernel : decode mX6_share.2.1 47 = .ok (.laload, 1)) rfl (by omega) s1 (?_ : XW _ _ _ _ _ _ _ 48 _ _)
          obtain ⟨Q1, sp, vc⟩ := vc
          refine xi_callV (b := 0) (bs := 0) (As := [.ref r, .ref a, .int x3, .long (xL h 45 x3.toNatClampNeg)]) (st := []) (by decide +kernel : decode mX6_share.2.1 48 = .ok (.invokevirtual 43, 3)) kX6_43 rfl rfl (by omega) rfl sp (by decide) (by decide) (Nat.le_of_ble_eq_true rfl) (by omega) (fun v9 h1 hq9 => ?_)
          obtain ⟨e9, vc⟩ := vc v9 h1 hq9
          subst e9
          show XW _ _ _ _ _ _ _ 51 _ []
          refine xi_iinc (v := x3 + 1) (ls' := [some (.ref 43), some (.ref r), some (.ref a), some (.int (x3 + 1))]) (by decide +kernel : decode mX6_share.2.1 51 = .ok (.iinc 3 1, 3)) rfl rfl (by decide) rfl (?_ : XW _ _ _ _ _ _ _ 54 _ _)
          refine xi_goto (by decide +kernel : decode mX6_share.2.1 54 = .ok (.goto (-44), 3)) (by decide) (?_ : XW _ _ _ _ _ _ _ 10 _ _)
          exact vc
  · refine xi_iload_n (by decide +kernel : decode mX6_share.2.1 10 = .ok (.iload_n 3, 1)) rfl rfl (?_ : XW _ _ _ _ _ _ _ 11 _ _)
    refine xi_aload_n (by decide +kernel : decode mX6_share.2.1 11 = .ok (.aload_n 0, 1)) rfl rfl (?_ : XW _ _ _ _ _ _ _ 12 _ _)
    refine xi_getI (by decide +kernel : decode mX6_share.2.1 12 = .ok (.getfield 24, 3)) fX6_24 rfl (by omega) rfl (?_ : XW _ _ _ _ _ _ _ 15 _ _)
    refine xi_icmp_ge (by decide +kernel : decode mX6_share.2.1 15 = .ok (.if_icmp .ge 42, 3)) (by decide) (fun c => (?_ : XW _ _ _ _ _ _ _ 57 _ _)) (fun c => (?_ : XW _ _ _ _ _ _ _ 18 _ _))
    · replace vc := vc.1 c
      refine xi_aload_n (by decide +kernel : decode mX6_share.2.1 57 = .ok (.aload_n 0, 1)) rfl rfl (?_ : XW _ _ _ _ _ _ _ 58 _ _)
      refine xi_getR (y := 48) (by decide +kernel : decode mX6_share.2.1 58 = .ok (.getfield 15, 3)) fX6_15 rfl (by omega) rfl hs.2.2 (?_ : XW _ _ _ _ _ _ _ 61 _ _)
      refine xi_aload_n (by decide +kernel : decode mX6_share.2.1 61 = .ok (.aload_n 0, 1)) rfl rfl (?_ : XW _ _ _ _ _ _ _ 62 _ _)
      refine xi_getI (by decide +kernel : decode mX6_share.2.1 62 = .ok (.getfield 24, 3)) fX6_24 rfl (by omega) rfl (?_ : XW _ _ _ _ _ _ _ 65 _ _)
      refine xi_aload_n (by decide +kernel : decode mX6_share.2.1 65 = .ok (.aload_n 0, 1)) rfl rfl (?_ : XW _ _ _ _ _ _ _ 66 _ _)
      refine xi_aload_n (by decide +kernel : decode mX6_share.2.1 66 = .ok (.aload_n 0, 1)) rfl rfl (?_ : XW _ _ _ _ _ _ _ 67 _ _)
      refine xi_getI (by decide +kernel : decode mX6_share.2.1 67 = .ok (.getfield 24, 3)) fX6_24 rfl (by omega) rfl (?_ : XW _ _ _ _ _ _ _ 70 _ _)
      refine xi_callV (b := 0) (bs := 0) (As := [.int (xI h 46 0)]) (st := [.int (xI h 46 0), .ref 48]) (by decide +kernel : decode mX6_share.2.1 70 = .ok (.invokevirtual 39, 3)) kX6_39 rfl rfl (by omega) rfl (s_X6_on n h 46 47 48 hs (by omega) (xI h 46 0)) (by decide) (by decide) (Nat.le_of_ble_eq_true rfl) (by omega) (fun v9 h9 hq9 => ?_)
      rw [hq9.1, hq9.2]
      show XW _ _ _ _ _ _ _ 73 _ [.long (rd (xL h 47) 101 0 (xI h 46 0)), .int (xI h 46 0), .ref 48]
      refine xi_callS (b := 0) (bs := 0) (As := [.ref 48, .int (xI h 46 0), .long (rd (xL h 47) 101 0 (xI h 46 0))]) (st := []) (by decide +kernel : decode mX6_share.2.1 73 = .ok (.invokestatic 35, 3)) kX6_35 rfl rfl (s_X6_add n h 48 rfl (by omega) (xI h 46 0) (rd (xL h 47) 101 0 (xI h 46 0))) (by decide) (by decide) (Nat.le_of_ble_eq_true rfl) (by omega) (fun v9 h9 hq9 => ?_)
      rw [hq9.1, hq9.2]
      show XW _ _ _ _ _ _ _ 76 _ []
      refine xi_aload_n (by decide +kernel : decode mX6_share.2.1 76 = .ok (.aload_n 0, 1)) rfl rfl (?_ : XW _ _ _ _ _ _ _ 77 _ _)
      refine xi_getR (y := 47) (by decide +kernel : decode mX6_share.2.1 77 = .ok (.getfield 9, 3)) fX6_9 rfl (by omega) rfl hs.2.1 (?_ : XW _ _ _ _ _ _ _ 80 _ _)
      refine xi_astore_n (ls' := [some (.ref 46), some (.ref r), some (.ref a), some (.ref 47)]) (by decide +kernel : decode mX6_share.2.1 80 = .ok (.astore_n 3, 1)) rfl (by decide) rfl (?_ : XW _ _ _ _ _ _ _ 81 _ _)
      refine xi_aload_n (by decide +kernel : decode mX6_share.2.1 81 = .ok (.aload_n 0, 1)) rfl rfl (?_ : XW _ _ _ _ _ _ _ 82 _ _)
      refine xi_aload_n (by decide +kernel : decode mX6_share.2.1 82 = .ok (.aload_n 0, 1)) rfl rfl (?_ : XW _ _ _ _ _ _ _ 83 _ _)
      refine xi_getR (y := 48) (by decide +kernel : decode mX6_share.2.1 83 = .ok (.getfield 15, 3)) fX6_15 rfl (by omega) rfl hs.2.2 (?_ : XW _ _ _ _ _ _ _ 86 _ _)
      refine xi_putR (by decide +kernel : decode mX6_share.2.1 86 = .ok (.putfield 9, 3)) fX6_9 rfl (by omega) rfl (?_ : XW _ _ _ _ _ _ (xSP 46 (va_up (xP h 46) 1 (some 48)) (xSL 48 (wr (xL h 48) 101 (xI h 46 0) ((xL h 48) (xI h 46 0).toNatClampNeg + (rd (xL h 47) 101 0 (xI h 46 0)))) h)) 89 _ _)
      refine xi_aload_n (by decide +kernel : decode mX6_share.2.1 89 = .ok (.aload_n 0, 1)) rfl rfl (?_ : XW _ _ _ _ _ _ _ 90 _ _)
      refine xi_aload_n (by decide +kernel : decode mX6_share.2.1 90 = .ok (.aload_n 3, 1)) rfl rfl (?_ : XW _ _ _ _ _ _ _ 91 _ _)
      refine xi_putR (by decide +kernel : decode mX6_share.2.1 91 = .ok (.putfield 15, 3)) fX6_15 rfl (by omega) rfl (?_ : XW _ _ _ _ _ _ (xSP 46 (va_up (va_up (xP h 46) 1 (some 48)) 2 (some 47)) (xSP 46 (va_up (xP h 46) 1 (some 48)) (xSL 48 (wr (xL h 48) 101 (xI h 46 0) ((xL h 48) (xI h 46 0).toNatClampNeg + (rd (xL h 47) 101 0 (xI h 46 0)))) h))) 94 _ _)
      exact xi_vret (by decide +kernel : decode mX6_share.2.1 94 = .ok (.return_, 1)) rfl vc
    · replace vc := vc.2 c
      refine xi_iload_n (by decide +kernel : decode mX6_share.2.1 18 = .ok (.iload_n 3, 1)) rfl rfl (?_ : XW _ _ _ _ _ _ _ 19 _ _)
      refine xi_aload_n (by decide +kernel : decode mX6_share.2.1 19 = .ok (.aload_n 0, 1)) rfl rfl (?_ : XW _ _ _ _ _ _ _ 20 _ _)
      refine xi_getR (y := 47) (by decide +kernel : decode mX6_share.2.1 20 = .ok (.getfield 9, 3)) fX6_9 rfl (by omega) rfl hs.2.1 (?_ : XW _ _ _ _ _ _ _ 23 _ _)
      refine xi_alen (v := 101) (by decide +kernel : decode mX6_share.2.1 23 = .ok (.arraylength, 1)) rfl (by omega) (Or.inr (Or.inl rfl)) rfl (?_ : XW _ _ _ _ _ _ _ 24 _ _)
      refine xi_icmp_ge (by decide +kernel : decode mX6_share.2.1 24 = .ok (.if_icmp .ge 33, 3)) (by decide) (fun c => (?_ : XW _ _ _ _ _ _ _ 57 _ _)) (fun c => (?_ : XW _ _ _ _ _ _ _ 27 _ _))
      · replace vc := vc.1 c
        refine xi_aload_n (by decide +kernel : decode mX6_share.2.1 57 = .ok (.aload_n 0, 1)) rfl rfl (?_ : XW _ _ _ _ _ _ _ 58 _ _)
        refine xi_getR (y := 48) (by decide +kernel : decode mX6_share.2.1 58 = .ok (.getfield 15, 3)) fX6_15 rfl (by omega) rfl hs.2.2 (?_ : XW _ _ _ _ _ _ _ 61 _ _)
        refine xi_aload_n (by decide +kernel : decode mX6_share.2.1 61 = .ok (.aload_n 0, 1)) rfl rfl (?_ : XW _ _ _ _ _ _ _ 62 _ _)
        refine xi_getI (by decide +kernel : decode mX6_share.2.1 62 = .ok (.getfield 24, 3)) fX6_24 rfl (by omega) rfl (?_ : XW _ _ _ _ _ _ _ 65 _ _)
        refine xi_aload_n (by decide +kernel : decode mX6_share.2.1 65 = .ok (.aload_n 0, 1)) rfl rfl (?_ : XW _ _ _ _ _ _ _ 66 _ _)
        refine xi_aload_n (by decide +kernel : decode mX6_share.2.1 66 = .ok (.aload_n 0, 1)) rfl rfl (?_ : XW _ _ _ _ _ _ _ 67 _ _)
        refine xi_getI (by decide +kernel : decode mX6_share.2.1 67 = .ok (.getfield 24, 3)) fX6_24 rfl (by omega) rfl (?_ : XW _ _ _ _ _ _ _ 70 _ _)
        refine xi_callV (b := 0) (bs := 0) (As := [.int (xI h 46 0)]) (st := [.int (xI h 46 0), .ref 48]) (by decide +kernel : decode mX6_share.2.1 70 = .ok (.invokevirtual 39, 3)) kX6_39 rfl rfl (by omega) rfl (s_X6_on n h 46 47 48 hs (by omega) (xI h 46 0)) (by decide) (by decide) (Nat.le_of_ble_eq_true rfl) (by omega) (fun v9 h9 hq9 => ?_)
        rw [hq9.1, hq9.2]
        show XW _ _ _ _ _ _ _ 73 _ [.long (rd (xL h 47) 101 0 (xI h 46 0)), .int (xI h 46 0), .ref 48]
        refine xi_callS (b := 0) (bs := 0) (As := [.ref 48, .int (xI h 46 0), .long (rd (xL h 47) 101 0 (xI h 46 0))]) (st := []) (by decide +kernel : decode mX6_share.2.1 73 = .ok (.invokestatic 35, 3)) kX6_35 rfl rfl (s_X6_add n h 48 rfl (by omega) (xI h 46 0) (rd (xL h 47) 101 0 (xI h 46 0))) (by decide) (by decide) (Nat.le_of_ble_eq_true rfl) (by omega) (fun v9 h9 hq9 => ?_)
        rw [hq9.1, hq9.2]
        show XW _ _ _ _ _ _ _ 76 _ []
        refine xi_aload_n (by decide +kernel : decode mX6_share.2.1 76 = .ok (.aload_n 0, 1)) rfl rfl (?_ : XW _ _ _ _ _ _ _ 77 _ _)
        refine xi_getR (y := 47) (by decide +kernel : decode mX6_share.2.1 77 = .ok (.getfield 9, 3)) fX6_9 rfl (by omega) rfl hs.2.1 (?_ : XW _ _ _ _ _ _ _ 80 _ _)
        refine xi_astore_n (ls' := [some (.ref 46), some (.ref r), some (.ref a), some (.ref 47)]) (by decide +kernel : decode mX6_share.2.1 80 = .ok (.astore_n 3, 1)) rfl (by decide) rfl (?_ : XW _ _ _ _ _ _ _ 81 _ _)
        refine xi_aload_n (by decide +kernel : decode mX6_share.2.1 81 = .ok (.aload_n 0, 1)) rfl rfl (?_ : XW _ _ _ _ _ _ _ 82 _ _)
        refine xi_aload_n (by decide +kernel : decode mX6_share.2.1 82 = .ok (.aload_n 0, 1)) rfl rfl (?_ : XW _ _ _ _ _ _ _ 83 _ _)
        refine xi_getR (y := 48) (by decide +kernel : decode mX6_share.2.1 83 = .ok (.getfield 15, 3)) fX6_15 rfl (by omega) rfl hs.2.2 (?_ : XW _ _ _ _ _ _ _ 86 _ _)
        refine xi_putR (by decide +kernel : decode mX6_share.2.1 86 = .ok (.putfield 9, 3)) fX6_9 rfl (by omega) rfl (?_ : XW _ _ _ _ _ _ (xSP 46 (va_up (xP h 46) 1 (some 48)) (xSL 48 (wr (xL h 48) 101 (xI h 46 0) ((xL h 48) (xI h 46 0).toNatClampNeg + (rd (xL h 47) 101 0 (xI h 46 0)))) h)) 89 _ _)
        refine xi_aload_n (by decide +kernel : decode mX6_share.2.1 89 = .ok (.aload_n 0, 1)) rfl rfl (?_ : XW _ _ _ _ _ _ _ 90 _ _)
        refine xi_aload_n (by decide +kernel : decode mX6_share.2.1 90 = .ok (.aload_n 3, 1)) rfl rfl (?_ : XW _ _ _ _ _ _ _ 91 _ _)
        refine xi_putR (by decide +kernel : decode mX6_share.2.1 91 = .ok (.putfield 15, 3)) fX6_15 rfl (by omega) rfl (?_ : XW _ _ _ _ _ _ (xSP 46 (va_up (va_up (xP h 46) 1 (some 48)) 2 (some 47)) (xSP 46 (va_up (xP h 46) 1 (some 48)) (xSL 48 (wr (xL h 48) 101 (xI h 46 0) ((xL h 48) (xI h 46 0).toNatClampNeg + (rd (xL h 47) 101 0 (xI h 46 0)))) h))) 94 _ _)
        exact xi_vret (by decide +kernel : decode mX6_share.2.1 94 = .ok (.return_, 1)) rfl vc
      · replace vc := vc.2 c
        refine xi_aload_n (by decide +kernel : decode mX6_share.2.1 27 = .ok (.aload_n 0, 1)) rfl rfl (?_ : XW _ _ _ _ _ _ _ 28 _ _)
        refine xi_getR (y := 47) (by decide +kernel : decode mX6_share.2.1 28 = .ok (.getfield 9, 3)) fX6_9 rfl (by omega) rfl hs.2.1 (?_ : XW _ _ _ _ _ _ _ 31 _ _)
        refine xi_iload_n (by decide +kernel : decode mX6_share.2.1 31 = .ok (.iload_n 3, 1)) rfl rfl (?_ : XW _ _ _ _ _ _ _ 32 _ _)
        obtain ⟨s1, vc⟩ := vc
        refine xi_lald (by decide +kernel : decode mX6_share.2.1 32 = .ok (.laload, 1)) rfl (by omega) s1 (?_ : XW _ _ _ _ _ _ _ 33 _ _)
        refine xi_lconst (v := 0) (by decide +kernel : decode mX6_share.2.1 33 = .ok (.lconst 0, 1)) (by decide) (?_ : XW _ _ _ _ _ _ _ 34 _ _)
        refine xi_lcmp (by decide +kernel : decode mX6_share.2.1 34 = .ok (.lcmp, 1)) (?_ : XW _ _ _ _ _ _ _ 35 _ _)
        refine xi_if_eq (by decide +kernel : decode mX6_share.2.1 35 = .ok (.ifCond .eq 16, 3)) (by decide) (fun c => (?_ : XW _ _ _ _ _ _ _ 51 _ _)) (fun c => (?_ : XW _ _ _ _ _ _ _ 38 _ _))
        · replace vc := vc.1 c
          refine xi_iinc (v := x3 + 1) (ls' := [some (.ref 46), some (.ref r), some (.ref a), some (.int (x3 + 1))]) (by decide +kernel : decode mX6_share.2.1 51 = .ok (.iinc 3 1, 3)) rfl rfl (by decide) rfl (?_ : XW _ _ _ _ _ _ _ 54 _ _)
          refine xi_goto (by decide +kernel : decode mX6_share.2.1 54 = .ok (.goto (-44), 3)) (by decide) (?_ : XW _ _ _ _ _ _ _ 10 _ _)
          exact vc
        · replace vc := vc.2 c
          refine xi_aload_n (by decide +kernel : decode mX6_share.2.1 38 = .ok (.aload_n 0, 1)) rfl rfl (?_ : XW _ _ _ _ _ _ _ 39 _ _)
          refine xi_aload_n (by decide +kernel : decode mX6_share.2.1 39 = .ok (.aload_n 1, 1)) rfl rfl (?_ : XW _ _ _ _ _ _ _ 40 _ _)
          refine xi_aload_n (by decide +kernel : decode mX6_share.2.1 40 = .ok (.aload_n 2, 1)) rfl rfl (?_ : XW _ _ _ _ _ _ _ 41 _ _)
          refine xi_iload_n (by decide +kernel : decode mX6_share.2.1 41 = .ok (.iload_n 3, 1)) rfl rfl (?_ : XW _ _ _ _ _ _ _ 42 _ _)
          refine xi_aload_n (by decide +kernel : decode mX6_share.2.1 42 = .ok (.aload_n 0, 1)) rfl rfl (?_ : XW _ _ _ _ _ _ _ 43 _ _)
          refine xi_getR (y := 47) (by decide +kernel : decode mX6_share.2.1 43 = .ok (.getfield 9, 3)) fX6_9 rfl (by omega) rfl hs.2.1 (?_ : XW _ _ _ _ _ _ _ 46 _ _)
          refine xi_iload_n (by decide +kernel : decode mX6_share.2.1 46 = .ok (.iload_n 3, 1)) rfl rfl (?_ : XW _ _ _ _ _ _ _ 47 _ _)
          obtain ⟨s1, vc⟩ := vc
          refine xi_lald (by decide +kernel : decode mX6_share.2.1 47 = .ok (.laload, 1)) rfl (by omega) s1 (?_ : XW _ _ _ _ _ _ _ 48 _ _)
          obtain ⟨Q1, sp, vc⟩ := vc
          refine xi_callV (b := 0) (bs := 0) (As := [.ref r, .ref a, .int x3, .long (xL h 47 x3.toNatClampNeg)]) (st := []) (by decide +kernel : decode mX6_share.2.1 48 = .ok (.invokevirtual 43, 3)) kX6_43 rfl rfl (by omega) rfl sp (by decide) (by decide) (Nat.le_of_ble_eq_true rfl) (by omega) (fun v9 h1 hq9 => ?_)
          obtain ⟨e9, vc⟩ := vc v9 h1 hq9
          subst e9
          show XW _ _ _ _ _ _ _ 51 _ []
          refine xi_iinc (v := x3 + 1) (ls' := [some (.ref 46), some (.ref r), some (.ref a), some (.int (x3 + 1))]) (by decide +kernel : decode mX6_share.2.1 51 = .ok (.iinc 3 1, 3)) rfl rfl (by decide) rfl (?_ : XW _ _ _ _ _ _ _ 54 _ _)
          refine xi_goto (by decide +kernel : decode mX6_share.2.1 54 = .ok (.goto (-44), 3)) (by decide) (?_ : XW _ _ _ _ _ _ _ 10 _ _)
          exact vc
  · refine xi_iload_n (by decide +kernel : decode mX6_share.2.1 10 = .ok (.iload_n 3, 1)) rfl rfl (?_ : XW _ _ _ _ _ _ _ 11 _ _)
    refine xi_aload_n (by decide +kernel : decode mX6_share.2.1 11 = .ok (.aload_n 0, 1)) rfl rfl (?_ : XW _ _ _ _ _ _ _ 12 _ _)
    refine xi_getI (by decide +kernel : decode mX6_share.2.1 12 = .ok (.getfield 24, 3)) fX6_24 rfl (by omega) rfl (?_ : XW _ _ _ _ _ _ _ 15 _ _)
    refine xi_icmp_ge (by decide +kernel : decode mX6_share.2.1 15 = .ok (.if_icmp .ge 42, 3)) (by decide) (fun c => (?_ : XW _ _ _ _ _ _ _ 57 _ _)) (fun c => (?_ : XW _ _ _ _ _ _ _ 18 _ _))
    · replace vc := vc.1 c
      refine xi_aload_n (by decide +kernel : decode mX6_share.2.1 57 = .ok (.aload_n 0, 1)) rfl rfl (?_ : XW _ _ _ _ _ _ _ 58 _ _)
      refine xi_getR (y := 47) (by decide +kernel : decode mX6_share.2.1 58 = .ok (.getfield 15, 3)) fX6_15 rfl (by omega) rfl hs.2.2 (?_ : XW _ _ _ _ _ _ _ 61 _ _)
      refine xi_aload_n (by decide +kernel : decode mX6_share.2.1 61 = .ok (.aload_n 0, 1)) rfl rfl (?_ : XW _ _ _ _ _ _ _ 62 _ _)
      refine xi_getI (by decide +kernel : decode mX6_share.2.1 62 = .ok (.getfield 24, 3)) fX6_24 rfl (by omega) rfl (?_ : XW _ _ _ _ _ _ _ 65 _ _)
      refine xi_aload_n (by decide +kernel : decode mX6_share.2.1 65 = .ok (.aload_n 0, 1)) rfl rfl (?_ : XW _ _ _ _ _ _ _ 66 _ _)
      refine xi_aload_n (by decide +kernel : decode mX6_share.2.1 66 = .ok (.aload_n 0, 1)) rfl rfl (?_ : XW _ _ _ _ _ _ _ 67 _ _)
      refine xi_getI (by decide +kernel : decode mX6_share.2.1 67 = .ok (.getfield 24, 3)) fX6_24 rfl (by omega) rfl (?_ : XW _ _ _ _ _ _ _ 70 _ _)
      refine xi_callV (b := 0) (bs := 0) (As := [.int (xI h 46 0)]) (st := [.int (xI h 46 0), .ref 47]) (by decide +kernel : decode mX6_share.2.1 70 = .ok (.invokevirtual 39, 3)) kX6_39 rfl rfl (by omega) rfl (s_X6_on n h 46 48 47 hs (by omega) (xI h 46 0)) (by decide) (by decide) (Nat.le_of_ble_eq_true rfl) (by omega) (fun v9 h9 hq9 => ?_)
      rw [hq9.1, hq9.2]
      show XW _ _ _ _ _ _ _ 73 _ [.long (rd (xL h 48) 101 0 (xI h 46 0)), .int (xI h 46 0), .ref 47]
      refine xi_callS (b := 0) (bs := 0) (As := [.ref 47, .int (xI h 46 0), .long (rd (xL h 48) 101 0 (xI h 46 0))]) (st := []) (by decide +kernel : decode mX6_share.2.1 73 = .ok (.invokestatic 35, 3)) kX6_35 rfl rfl (s_X6_add n h 47 rfl (by omega) (xI h 46 0) (rd (xL h 48) 101 0 (xI h 46 0))) (by decide) (by decide) (Nat.le_of_ble_eq_true rfl) (by omega) (fun v9 h9 hq9 => ?_)
      rw [hq9.1, hq9.2]
      show XW _ _ _ _ _ _ _ 76 _ []
      refine xi_aload_n (by decide +kernel : decode mX6_share.2.1 76 = .ok (.aload_n 0, 1)) rfl rfl (?_ : XW _ _ _ _ _ _ _ 77 _ _)
      refine xi_getR (y := 48) (by decide +kernel : decode mX6_share.2.1 77 = .ok (.getfield 9, 3)) fX6_9 rfl (by omega) rfl hs.2.1 (?_ : XW _ _ _ _ _ _ _ 80 _ _)
      refine xi_astore_n (ls' := [some (.ref 46), some (.ref r), some (.ref a), some (.ref 48)]) (by decide +kernel : decode mX6_share.2.1 80 = .ok (.astore_n 3, 1)) rfl (by decide) rfl (?_ : XW _ _ _ _ _ _ _ 81 _ _)
      refine xi_aload_n (by decide +kernel : decode mX6_share.2.1 81 = .ok (.aload_n 0, 1)) rfl rfl (?_ : XW _ _ _ _ _ _ _ 82 _ _)
      refine xi_aload_n (by decide +kernel : decode mX6_share.2.1 82 = .ok (.aload_n 0, 1)) rfl rfl (?_ : XW _ _ _ _ _ _ _ 83 _ _)
      refine xi_getR (y := 47) (by decide +kernel : decode mX6_share.2.1 83 = .ok (.getfield 15, 3)) fX6_15 rfl (by omega) rfl hs.2.2 (?_ : XW _ _ _ _ _ _ _ 86 _ _)
      refine xi_putR (by decide +kernel : decode mX6_share.2.1 86 = .ok (.putfield 9, 3)) fX6_9 rfl (by omega) rfl (?_ : XW _ _ _ _ _ _ (xSP 46 (va_up (xP h 46) 1 (some 47)) (xSL 47 (wr (xL h 47) 101 (xI h 46 0) ((xL h 47) (xI h 46 0).toNatClampNeg + (rd (xL h 48) 101 0 (xI h 46 0)))) h)) 89 _ _)
      refine xi_aload_n (by decide +kernel : decode mX6_share.2.1 89 = .ok (.aload_n 0, 1)) rfl rfl (?_ : XW _ _ _ _ _ _ _ 90 _ _)
      refine xi_aload_n (by decide +kernel : decode mX6_share.2.1 90 = .ok (.aload_n 3, 1)) rfl rfl (?_ : XW _ _ _ _ _ _ _ 91 _ _)
      refine xi_putR (by decide +kernel : decode mX6_share.2.1 91 = .ok (.putfield 15, 3)) fX6_15 rfl (by omega) rfl (?_ : XW _ _ _ _ _ _ (xSP 46 (va_up (va_up (xP h 46) 1 (some 47)) 2 (some 48)) (xSP 46 (va_up (xP h 46) 1 (some 47)) (xSL 47 (wr (xL h 47) 101 (xI h 46 0) ((xL h 47) (xI h 46 0).toNatClampNeg + (rd (xL h 48) 101 0 (xI h 46 0)))) h))) 94 _ _)
      exact xi_vret (by decide +kernel : decode mX6_share.2.1 94 = .ok (.return_, 1)) rfl vc
    · replace vc := vc.2 c
      refine xi_iload_n (by decide +kernel : decode mX6_share.2.1 18 = .ok (.iload_n 3, 1)) rfl rfl (?_ : XW _ _ _ _ _ _ _ 19 _ _)
      refine xi_aload_n (by decide +kernel : decode mX6_share.2.1 19 = .ok (.aload_n 0, 1)) rfl rfl (?_ : XW _ _ _ _ _ _ _ 20 _ _)
      refine xi_getR (y := 48) (by decide +kernel : decode mX6_share.2.1 20 = .ok (.getfield 9, 3)) fX6_9 rfl (by omega) rfl hs.2.1 (?_ : XW _ _ _ _ _ _ _ 23 _ _)
      refine xi_alen (v := 101) (by decide +kernel : decode mX6_share.2.1 23 = .ok (.arraylength, 1)) rfl (by omega) (Or.inr (Or.inl rfl)) rfl (?_ : XW _ _ _ _ _ _ _ 24 _ _)
      refine xi_icmp_ge (by decide +kernel : decode mX6_share.2.1 24 = .ok (.if_icmp .ge 33, 3)) (by decide) (fun c => (?_ : XW _ _ _ _ _ _ _ 57 _ _)) (fun c => (?_ : XW _ _ _ _ _ _ _ 27 _ _))
      · replace vc := vc.1 c
        refine xi_aload_n (by decide +kernel : decode mX6_share.2.1 57 = .ok (.aload_n 0, 1)) rfl rfl (?_ : XW _ _ _ _ _ _ _ 58 _ _)
        refine xi_getR (y := 47) (by decide +kernel : decode mX6_share.2.1 58 = .ok (.getfield 15, 3)) fX6_15 rfl (by omega) rfl hs.2.2 (?_ : XW _ _ _ _ _ _ _ 61 _ _)
        refine xi_aload_n (by decide +kernel : decode mX6_share.2.1 61 = .ok (.aload_n 0, 1)) rfl rfl (?_ : XW _ _ _ _ _ _ _ 62 _ _)
        refine xi_getI (by decide +kernel : decode mX6_share.2.1 62 = .ok (.getfield 24, 3)) fX6_24 rfl (by omega) rfl (?_ : XW _ _ _ _ _ _ _ 65 _ _)
        refine xi_aload_n (by decide +kernel : decode mX6_share.2.1 65 = .ok (.aload_n 0, 1)) rfl rfl (?_ : XW _ _ _ _ _ _ _ 66 _ _)
        refine xi_aload_n (by decide +kernel : decode mX6_share.2.1 66 = .ok (.aload_n 0, 1)) rfl rfl (?_ : XW _ _ _ _ _ _ _ 67 _ _)
        refine xi_getI (by decide +kernel : decode mX6_share.2.1 67 = .ok (.getfield 24, 3)) fX6_24 rfl (by omega) rfl (?_ : XW _ _ _ _ _ _ _ 70 _ _)
        refine xi_callV (b := 0) (bs := 0) (As := [.int (xI h 46 0)]) (st := [.int (xI h 46 0), .ref 47]) (by decide +kernel : decode mX6_share.2.1 70 = .ok (.invokevirtual 39, 3)) kX6_39 rfl rfl (by omega) rfl (s_X6_on n h 46 48 47 hs (by omega) (xI h 46 0)) (by decide) (by decide) (Nat.le_of_ble_eq_true rfl) (by omega) (fun v9 h9 hq9 => ?_)
        rw [hq9.1, hq9.2]
        show XW _ _ _ _ _ _ _ 73 _ [.long (rd (xL h 48) 101 0 (xI h 46 0)), .int (xI h 46 0), .ref 47]
        refine xi_callS (b := 0) (bs := 0) (As := [.ref 47, .int (xI h 46 0), .long (rd (xL h 48) 101 0 (xI h 46 0))]) (st := []) (by decide +kernel : decode mX6_share.2.1 73 = .ok (.invokestatic 35, 3)) kX6_35 rfl rfl (s_X6_add n h 47 rfl (by omega) (xI h 46 0) (rd (xL h 48) 101 0 (xI h 46 0))) (by decide) (by decide) (Nat.le_of_ble_eq_true rfl) (by omega) (fun v9 h9 hq9 => ?_)
        rw [hq9.1, hq9.2]
        show XW _ _ _ _ _ _ _ 76 _ []
        refine xi_aload_n (by decide +kernel : decode mX6_share.2.1 76 = .ok (.aload_n 0, 1)) rfl rfl (?_ : XW _ _ _ _ _ _ _ 77 _ _)
        refine xi_getR (y := 48) (by decide +kernel : decode mX6_share.2.1 77 = .ok (.getfield 9, 3)) fX6_9 rfl (by omega) rfl hs.2.1 (?_ : XW _ _ _ _ _ _ _ 80 _ _)
        refine xi_astore_n (ls' := [some (.ref 46), some (.ref r), some (.ref a), some (.ref 48)]) (by decide +kernel : decode mX6_share.2.1 80 = .ok (.astore_n 3, 1)) rfl (by decide) rfl (?_ : XW _ _ _ _ _ _ _ 81 _ _)
        refine xi_aload_n (by decide +kernel : decode mX6_share.2.1 81 = .ok (.aload_n 0, 1)) rfl rfl (?_ : XW _ _ _ _ _ _ _ 82 _ _)
        refine xi_aload_n (by decide +kernel : decode mX6_share.2.1 82 = .ok (.aload_n 0, 1)) rfl rfl (?_ : XW _ _ _ _ _ _ _ 83 _ _)
        refine xi_getR (y := 47) (by decide +kernel : decode mX6_share.2.1 83 = .ok (.getfield 15, 3)) fX6_15 rfl (by omega) rfl hs.2.2 (?_ : XW _ _ _ _ _ _ _ 86 _ _)
        refine xi_putR (by decide +kernel : decode mX6_share.2.1 86 = .ok (.putfield 9, 3)) fX6_9 rfl (by omega) rfl (?_ : XW _ _ _ _ _ _ (xSP 46 (va_up (xP h 46) 1 (some 47)) (xSL 47 (wr (xL h 47) 101 (xI h 46 0) ((xL h 47) (xI h 46 0).toNatClampNeg + (rd (xL h 48) 101 0 (xI h 46 0)))) h)) 89 _ _)
        refine xi_aload_n (by decide +kernel : decode mX6_share.2.1 89 = .ok (.aload_n 0, 1)) rfl rfl (?_ : XW _ _ _ _ _ _ _ 90 _ _)
        refine xi_aload_n (by decide +kernel : decode mX6_share.2.1 90 = .ok (.aload_n 3, 1)) rfl rfl (?_ : XW _ _ _ _ _ _ _ 91 _ _)
        refine xi_putR (by decide +kernel : decode mX6_share.2.1 91 = .ok (.putfield 15, 3)) fX6_15 rfl (by omega) rfl (?_ : XW _ _ _ _ _ _ (xSP 46 (va_up (va_up (xP h 46) 1 (some 47)) 2 (some 48)) (xSP 46 (va_up (xP h 46) 1 (some 47)) (xSL 47 (wr (xL h 47) 101 (xI h 46 0) ((xL h 47) (xI h 46 0).toNatClampNeg + (rd (xL h 48) 101 0 (xI h 46 0)))) h))) 94 _ _)
        exact xi_vret (by decide +kernel : decode mX6_share.2.1 94 = .ok (.return_, 1)) rfl vc
      · replace vc := vc.2 c
        refine xi_aload_n (by decide +kernel : decode mX6_share.2.1 27 = .ok (.aload_n 0, 1)) rfl rfl (?_ : XW _ _ _ _ _ _ _ 28 _ _)
        refine xi_getR (y := 48) (by decide +kernel : decode mX6_share.2.1 28 = .ok (.getfield 9, 3)) fX6_9 rfl (by omega) rfl hs.2.1 (?_ : XW _ _ _ _ _ _ _ 31 _ _)
        refine xi_iload_n (by decide +kernel : decode mX6_share.2.1 31 = .ok (.iload_n 3, 1)) rfl rfl (?_ : XW _ _ _ _ _ _ _ 32 _ _)
        obtain ⟨s1, vc⟩ := vc
        refine xi_lald (by decide +kernel : decode mX6_share.2.1 32 = .ok (.laload, 1)) rfl (by omega) s1 (?_ : XW _ _ _ _ _ _ _ 33 _ _)
        refine xi_lconst (v := 0) (by decide +kernel : decode mX6_share.2.1 33 = .ok (.lconst 0, 1)) (by decide) (?_ : XW _ _ _ _ _ _ _ 34 _ _)
        refine xi_lcmp (by decide +kernel : decode mX6_share.2.1 34 = .ok (.lcmp, 1)) (?_ : XW _ _ _ _ _ _ _ 35 _ _)
        refine xi_if_eq (by decide +kernel : decode mX6_share.2.1 35 = .ok (.ifCond .eq 16, 3)) (by decide) (fun c => (?_ : XW _ _ _ _ _ _ _ 51 _ _)) (fun c => (?_ : XW _ _ _ _ _ _ _ 38 _ _))
        · replace vc := vc.1 c
          refine xi_iinc (v := x3 + 1) (ls' := [some (.ref 46), some (.ref r), some (.ref a), some (.int (x3 + 1))]) (by decide +kernel : decode mX6_share.2.1 51 = .ok (.iinc 3 1, 3)) rfl rfl (by decide) rfl (?_ : XW _ _ _ _ _ _ _ 54 _ _)
          refine xi_goto (by decide +kernel : decode mX6_share.2.1 54 = .ok (.goto (-44), 3)) (by decide) (?_ : XW _ _ _ _ _ _ _ 10 _ _)
          exact vc
        · replace vc := vc.2 c
          refine xi_aload_n (by decide +kernel : decode mX6_share.2.1 38 = .ok (.aload_n 0, 1)) rfl rfl (?_ : XW _ _ _ _ _ _ _ 39 _ _)
          refine xi_aload_n (by decide +kernel : decode mX6_share.2.1 39 = .ok (.aload_n 1, 1)) rfl rfl (?_ : XW _ _ _ _ _ _ _ 40 _ _)
          refine xi_aload_n (by decide +kernel : decode mX6_share.2.1 40 = .ok (.aload_n 2, 1)) rfl rfl (?_ : XW _ _ _ _ _ _ _ 41 _ _)
          refine xi_iload_n (by decide +kernel : decode mX6_share.2.1 41 = .ok (.iload_n 3, 1)) rfl rfl (?_ : XW _ _ _ _ _ _ _ 42 _ _)
          refine xi_aload_n (by decide +kernel : decode mX6_share.2.1 42 = .ok (.aload_n 0, 1)) rfl rfl (?_ : XW _ _ _ _ _ _ _ 43 _ _)
          refine xi_getR (y := 48) (by decide +kernel : decode mX6_share.2.1 43 = .ok (.getfield 9, 3)) fX6_9 rfl (by omega) rfl hs.2.1 (?_ : XW _ _ _ _ _ _ _ 46 _ _)
          refine xi_iload_n (by decide +kernel : decode mX6_share.2.1 46 = .ok (.iload_n 3, 1)) rfl rfl (?_ : XW _ _ _ _ _ _ _ 47 _ _)
          obtain ⟨s1, vc⟩ := vc
          refine xi_lald (by decide +kernel : decode mX6_share.2.1 47 = .ok (.laload, 1)) rfl (by omega) s1 (?_ : XW _ _ _ _ _ _ _ 48 _ _)
          obtain ⟨Q1, sp, vc⟩ := vc
          refine xi_callV (b := 0) (bs := 0) (As := [.ref r, .ref a, .int x3, .long (xL h 48 x3.toNatClampNeg)]) (st := []) (by decide +kernel : decode mX6_share.2.1 48 = .ok (.invokevirtual 43, 3)) kX6_43 rfl rfl (by omega) rfl sp (by decide) (by decide) (Nat.le_of_ble_eq_true rfl) (by omega) (fun v9 h1 hq9 => ?_)
          obtain ⟨e9, vc⟩ := vc v9 h1 hq9
          subst e9
          show XW _ _ _ _ _ _ _ 51 _ []
          refine xi_iinc (v := x3 + 1) (ls' := [some (.ref 46), some (.ref r), some (.ref a), some (.int (x3 + 1))]) (by decide +kernel : decode mX6_share.2.1 51 = .ok (.iinc 3 1, 3)) rfl rfl (by decide) rfl (?_ : XW _ _ _ _ _ _ _ 54 _ _)
          refine xi_goto (by decide +kernel : decode mX6_share.2.1 54 = .ok (.goto (-44), 3)) (by decide) (?_ : XW _ _ _ _ _ _ _ 10 _ _)
          exact vc

theorem lg_cmp0 {x y : Int64} : lg_cmp x y = 0 ↔ x = y := by
  unfold lg_cmp
  constructor
  · intro h
    split at h
    · cases h
    · split at h
      · assumption
      · cases h
  · rintro rfl
    simp
def SandAt (h : XH) (sn last : Nat) (L : Nat → Int64) : Prop := ∃ ya za : Nat, xSnd sn ya za (xP h) ∧ xI h sn 0 = nI last ∧ ∀ j, j ≤ last → xL h ya j = L j
/-- from h to h' nothing but the cells from lo to hi has changed -/
def xfr (lo hi : Nat) (h h' : XH) : Prop := ∀ c : Nat, (c < lo ∨ hi ≤ c) → xI h' c = xI h c ∧ xL h' c = xL h c ∧ xP h' c = xP h c
/-- the sand behind a throw -/
def shN (last lst : Nat) (od : Nat → Nat) (T : Nat → Nat → Nat) (L : Nat → Int64) (j : Nat) : Int64 := sR (fun s => shc (T s) (pw od (od6 od) (L s)) lst (L s) j) 0 last + (if j = last then L last else 0)
theorem sR_0 {f : Nat → Int64} (k : Nat) : ∀ x, (∀ g, x ≤ g → g < x + k → f g = 0) → sR f x k = 0 := by
  induction k with
  | zero => intro x _; rfl
  | succ k ih =>
    intro x h
    rw [sR, h x (Nat.le_refl _) (by omega), ih (x + 1) (fun g g1 g2 => h g (by omega) (by omega))]
    rfl
theorem sR_congr {f f' : Nat → Int64} (k : Nat) : ∀ x, (∀ g, x ≤ g → g < x + k → f g = f' g) → sR f x k = sR f' x k := by
  induction k with
  | zero => intro x _; rfl
  | succ k ih =>
    intro x h
    rw [sR, sR, h x (Nat.le_refl _) (by omega), ih (x + 1) (fun g g1 g2 => h g (by omega) (by omega))]
theorem shc_0 {T : Nat → Nat} {od : Nat → Nat} {all lst j : Nat} : shc T (pw od all 0) lst 0 j = 0 := by
  have p0 : ∀ f, pw od all 0 f = 0 := by
    intro f
    unfold pw
    rw [Int64.zero_mul, Int64.zero_div]
  unfold shc
  rw [sR_0 _ _ (fun g _ _ => by rw [p0]; split <;> rfl), sR_0 _ _ (fun g _ _ => p0 g)]
  split <;> rfl
theorem xSnd_ne {sn ya za : Nat} {P : Nat → Nat → Option Nat} (h : xSnd sn ya za P) : ya ≠ za ∧ sn < ya ∧ sn < za ∧ ya < sn + 3 ∧ za < sn + 3 ∧ (sn = 43 ∨ sn = 46) := by
  rcases h.1 with ⟨rfl, rfl, rfl⟩ | ⟨rfl, rfl, rfl⟩ | ⟨rfl, rfl, rfl⟩ | ⟨rfl, rfl, rfl⟩ <;> omega
theorem l_share (n sn ya za r a last lst : Nat) (od : Nat → Nat) (T : Nat → Nat → Nat) (L : Nat → Int64) {Q : Option Value → XH → Prop} {X : String → XH → Prop} (hn : sn + 3 ≤ n) (hnr : r + 9 ≤ n) (hna : a + 4 ≤ n) :
    ∀ (k s : Nat) (h : XH), s + k = last → xSnd sn ya za (xP h) → Geo h r a last lst od T → xI h sn 0 = nI last → (∀ j, j ≤ last → xL h ya j = L j) →
      (∀ F' : Nat → Int64, (∀ j, j < 101 → F' j = xL h za j + (sR (fun s => shc (T s) (pw od (od6 od) (L s)) lst (L s) j) s k + (if j = last then L last else 0))) → Q none (xSP sn (va_up (va_up (xP h sn) 1 (some za)) 2 (some ya)) (xSP sn (va_up (xP h sn) 1 (some za)) (xSL za F' h)))) →
      XW (xrm 3 0 0) mX6_share (xE n Q X 0 0) n 0 0 h 10 [some (.ref sn), some (.ref r), some (.ref a), some (.int (nI s))] [] := by
  intro k
  induction k with
  | zero =>
    intro s h hk hs hg hl hL hQ
    have hsl : s = last := by omega
    subst hsl
    obtain ⟨hr, ha, g1, g2, g3, g4, g5, g6, g7, g8⟩ := id hg
    refine v_X6_share_10 n sn ya za hs hn r hr hnr a ha hna (nI s) ⟨fun _ => ?_, fun c => absurd (by rw [hl]; exact nI_le (Nat.le_refl _) (by omega)) c⟩
    refine hQ _ (fun j hj => ?_)
    rw [hl, iz_rd (M := 101) rfl (by omega), iz_wr (M := 101) rfl (by omega), nI_clamp (by omega), hL s (Nat.le_refl _)]
    unfold va_up
    by_cases c : j = s
    · subst c
      rw [if_pos rfl, if_pos rfl]
      simp [sR]
    · rw [if_neg c, if_neg c]
      simp [sR]
  | succ k ih =>
    intro s h hk hs hg hl hL hQ
    obtain ⟨hr, ha, g1, g2, g3, g4, g5, g6, g7, g8⟩ := id hg
    have hne := xSnd_ne hs
    refine v_X6_share_10 n sn ya za hs hn r hr hnr a ha hna (nI s) ⟨fun c => absurd c (by rw [hl]; exact nI_ge (by omega) (by omega)), fun _ => ⟨fun c => absurd c (nI_ge (a := s) (b := 101) (by omega) (by omega)), fun _ => ⟨vp_in_nI (by omega) (by omega), ?_⟩⟩⟩
    rw [nI_clamp (by omega), hL s (by omega), nI_1]
    refine ⟨fun c => ?_, fun c => ⟨vp_in_nI (by omega) (by omega), ?_⟩⟩
    · have c0 : L s = 0 := lg_cmp0.mp c
      refine ih (s + 1) h (by omega) hs hg hl hL (fun F' hF' => hQ F' (fun j hj => ?_))
      rw [hF' j hj, sR, c0, shc_0, Int64.zero_add]
    · refine ⟨_, s_X6_shareOut n sn ya za r a last lst s h od T hs hg hn hnr hna (by omega) (L s), ?_⟩
      rintro v h1 ⟨rfl, F1, rfl, hF1⟩
      refine ⟨rfl, ih (s + 1) _ (by omega) hs hg hl (fun j hj => ?_) (fun F' hF' => ?_)⟩
      · rw [xL_SL, if_neg hne.1, hL j hj]
      · rw [xSL_SL]
        refine hQ F' (fun j hj => ?_)
        rw [hF' j hj, xL_SL, if_pos rfl, hF1 j hj, sR]
        grind
theorem s_X6_share (n sn r a last lst : Nat) (h : XH) (od : Nat → Nat) (T : Nat → Nat → Nat) (L : Nat → Int64) (hS : SandAt h sn last L) (hg : Geo h r a last lst od T) (hn : sn + 3 ≤ n) (hnr : r + 9 ≤ n) (hna : a + 4 ≤ n) :
    XSpec mX6_share 3 0 0 n n [.ref sn, .ref r, .ref a] h (fun v h' => v = none ∧ SandAt h' sn last (shN last lst od T L) ∧ xfr sn (sn + 3) h h') xno := by
  obtain ⟨ya, za, hs, hl, hL⟩ := hS
  obtain ⟨hr, ha, g1, g2, g3, g4, g5, g6, g7, g8⟩ := id hg
  have hne := xSnd_ne hs
  refine XSpec.of rfl (by decide) (Nat.le_of_ble_eq_true rfl) rfl (v_X6_share_0 n sn ya za hs hn r hr hnr a ha hna ?_)
  refine l_share n sn ya za r a last lst od T L hn hnr hna last 0 _ (by omega) hs hg hl (fun j hj => ?_) (fun F' hF' => ?_)
  · rw [xL_SL, if_neg hne.1, hL j hj]
  · refine ⟨rfl, ⟨za, ya, ?_, ?_, fun j hj => ?_⟩, fun c hc => ?_⟩
    · obtain ⟨h1, h2, h3⟩ := hs
      refine ⟨?_, ?_, ?_⟩
      · rcases h1 with ⟨rfl, rfl, rfl⟩ | ⟨rfl, rfl, rfl⟩ | ⟨rfl, rfl, rfl⟩ | ⟨rfl, rfl, rfl⟩ <;> simp
      · show va_up (va_up (xP h) sn (va_up (xP h sn) 1 (some za))) sn (va_up (va_up (xP h sn) 1 (some za)) 2 (some ya)) sn 1 = some za
        rw [va_up_eq]
        simp [va_up]
      · show va_up (va_up (xP h) sn (va_up (xP h sn) 1 (some za))) sn (va_up (va_up (xP h sn) 1 (some za)) 2 (some ya)) sn 2 = some ya
        rw [va_up_eq]
        simp [va_up]
    · exact hl
    · show va_up _ za F' za j = _
      rw [va_up_eq, hF' j (by omega), xL_SL, if_pos rfl]
      unfold shN fl
      rw [if_pos (by omega), Int64.zero_add]
    · have q1 : c ≠ sn := by omega
      have q2 : c ≠ za := by omega
      refine ⟨rfl, ?_, ?_⟩
      · show va_up (va_up _ za _) za _ c = _
        rw [va_up_of _ _ q2, va_up_of _ _ q2]
      · show va_up (va_up _ sn _) sn _ c = _
        rw [va_up_of _ _ q1, va_up_of _ _ q1]
        rfl
set_option maxRecDepth 20000 in
theorem v_X6_sumOut_0 {h : XH} {Q : Option Value → XH → Prop} {X : String → XH → Prop} (n sn ya za : Nat) (hs : xSnd sn ya za (xP h)) (hn : sn + 3 ≤ n) (r : Nat) (hr : xRul r (xP h)) (hnr : r + 9 ≤ n) (a : Nat) (ha : xPth a (xP h)) (hna : a + 4 ≤ n)  (sq : Int32) (k0 : Int32)
    (vc : XW (xrm 4 0 0) mX6_sumOut (xE n Q X 0 0) n 0 0 (xSL ya (pourL sq (xL h ya)) (xSI sn (va_up (xI h sn) 0 (xI h r 0)) h)) 12 [some (.ref sn), some (.ref r), some (.ref a), none, some (.int k0), some (.long 0), none, some (.int 0)] []) :
    XW (xrm 4 0 0) mX6_sumOut (xE n Q X 0 0) n 0 0 h 0 [some (.ref sn), some (.ref r), some (.ref a), some (.int sq), some (.int k0), none, none, none] [] := by
  rcases hs.1 with ⟨rfl, rfl, rfl⟩ | ⟨rfl, rfl, rfl⟩ | ⟨rfl, rfl, rfl⟩ | ⟨rfl, rfl, rfl⟩
  · refine xi_aload_n (by decide +kernel : decode mX6_sumOut.2.1 0 = .ok (.aload_n 0, 1)) rfl rfl (?_ : XW _ _ _ _ _ _ _ 1 _ _)
    refine xi_aload_n (by decide +kernel : decode mX6_sumOut.2.1 1 = .ok (.aload_n 1, 1)) rfl rfl (?_ : XW _ _ _ _ _ _ _ 2 _ _)
    refine xi_iload_n (by decide +kernel : decode mX6_sumOut.2.1 2 = .ok (.iload_n 3, 1)) rfl rfl (?_ : XW _ _ _ _ _ _ _ 3 _ _)
    refine xi_callV (b := 0) (bs := 0) (As := [.ref r, .int sq]) (st := []) (by decide +kernel : decode mX6_sumOut.2.1 3 = .ok (.invokevirtual 66, 3)) kX6_66 rfl rfl (by omega) rfl (s_X6_pour n h 43 44 45 hs (by omega) r hr (by omega) sq) (by decide) (by decide) (Nat.le_of_ble_eq_true rfl) (by omega) (fun v9 h9 hq9 => ?_)
    rw [hq9.1, hq9.2]
    show XW _ _ _ _ _ _ _ 6 _ []
    refine xi_lconst (v := 0) (by decide +kernel : decode mX6_sumOut.2.1 6 = .ok (.lconst 0, 1)) (by decide) (?_ : XW _ _ _ _ _ _ _ 7 _ _)
    refine xi_lstore (ls' := [some (.ref 43), some (.ref r), some (.ref a), some (.int sq), some (.int k0), some (.long 0), none, none]) (by decide +kernel : decode mX6_sumOut.2.1 7 = .ok (.lstore 5, 2)) (by decide) rfl (?_ : XW _ _ _ _ _ _ _ 9 _ _)
    refine xi_iconst (v := 0) (by decide +kernel : decode mX6_sumOut.2.1 9 = .ok (.iconst 0, 1)) (by decide) (?_ : XW _ _ _ _ _ _ _ 10 _ _)
    refine xi_istore (ls' := [some (.ref 43), some (.ref r), some (.ref a), some (.int sq), some (.int k0), some (.long 0), none, some (.int 0)]) (by decide +kernel : decode mX6_sumOut.2.1 10 = .ok (.istore 7, 2)) (by decide) rfl (?_ : XW _ _ _ _ _ _ _ 12 _ _)
    refine xw_drop 3 (ls' := [some (.ref 43), some (.ref r), some (.ref a), none, some (.int k0), some (.long 0), none, some (.int 0)]) rfl ?_
    exact vc
  · refine xi_aload_n (by decide +kernel : decode mX6_sumOut.2.1 0 = .ok (.aload_n 0, 1)) rfl rfl (?_ : XW _ _ _ _ _ _ _ 1 _ _)
    refine xi_aload_n (by decide +kernel : decode mX6_sumOut.2.1 1 = .ok (.aload_n 1, 1)) rfl rfl (?_ : XW _ _ _ _ _ _ _ 2 _ _)
    refine xi_iload_n (by decide +kernel : decode mX6_sumOut.2.1 2 = .ok (.iload_n 3, 1)) rfl rfl (?_ : XW _ _ _ _ _ _ _ 3 _ _)
    refine xi_callV (b := 0) (bs := 0) (As := [.ref r, .int sq]) (st := []) (by decide +kernel : decode mX6_sumOut.2.1 3 = .ok (.invokevirtual 66, 3)) kX6_66 rfl rfl (by omega) rfl (s_X6_pour n h 43 45 44 hs (by omega) r hr (by omega) sq) (by decide) (by decide) (Nat.le_of_ble_eq_true rfl) (by omega) (fun v9 h9 hq9 => ?_)
    rw [hq9.1, hq9.2]
    show XW _ _ _ _ _ _ _ 6 _ []
    refine xi_lconst (v := 0) (by decide +kernel : decode mX6_sumOut.2.1 6 = .ok (.lconst 0, 1)) (by decide) (?_ : XW _ _ _ _ _ _ _ 7 _ _)
    refine xi_lstore (ls' := [some (.ref 43), some (.ref r), some (.ref a), some (.int sq), some (.int k0), some (.long 0), none, none]) (by decide +kernel : decode mX6_sumOut.2.1 7 = .ok (.lstore 5, 2)) (by decide) rfl (?_ : XW _ _ _ _ _ _ _ 9 _ _)
    refine xi_iconst (v := 0) (by decide +kernel : decode mX6_sumOut.2.1 9 = .ok (.iconst 0, 1)) (by decide) (?_ : XW _ _ _ _ _ _ _ 10 _ _)
    refine xi_istore (ls' := [some (.ref 43), some (.ref r), some (.ref a), some (.int sq), some (.int k0), some (.long 0), none, some (.int 0)]) (by decide +kernel : decode mX6_sumOut.2.1 10 = .ok (.istore 7, 2)) (by decide) rfl (?_ : XW _ _ _ _ _ _ _ 12 _ _)
    refine xw_drop 3 (ls' := [some (.ref 43), some (.ref r), some (.ref a), none, some (.int k0), some (.long 0), none, some (.int 0)]) rfl ?_
    exact vc
  · refine xi_aload_n (by decide +kernel : decode mX6_sumOut.2.1 0 = .ok (.aload_n 0, 1)) rfl rfl (?_ : XW _ _ _ _ _ _ _ 1 _ _)
    refine xi_aload_n (by decide +kernel : decode mX6_sumOut.2.1 1 = .ok (.aload_n 1, 1)) rfl rfl (?_ : XW _ _ _ _ _ _ _ 2 _ _)
    refine xi_iload_n (by decide +kernel : decode mX6_sumOut.2.1 2 = .ok (.iload_n 3, 1)) rfl rfl (?_ : XW _ _ _ _ _ _ _ 3 _ _)
    refine xi_callV (b := 0) (bs := 0) (As := [.ref r, .int sq]) (st := []) (by decide +kernel : decode mX6_sumOut.2.1 3 = .ok (.invokevirtual 66, 3)) kX6_66 rfl rfl (by omega) rfl (s_X6_pour n h 46 47 48 hs (by omega) r hr (by omega) sq) (by decide) (by decide) (Nat.le_of_ble_eq_true rfl) (by omega) (fun v9 h9 hq9 => ?_)
    rw [hq9.1, hq9.2]
    show XW _ _ _ _ _ _ _ 6 _ []
    refine xi_lconst (v := 0) (by decide +kernel : decode mX6_sumOut.2.1 6 = .ok (.lconst 0, 1)) (by decide) (?_ : XW _ _ _ _ _ _ _ 7 _ _)
    refine xi_lstore (ls' := [some (.ref 46), some (.ref r), some (.ref a), some (.int sq), some (.int k0), some (.long 0), none, none]) (by decide +kernel : decode mX6_sumOut.2.1 7 = .ok (.lstore 5, 2)) (by decide) rfl (?_ : XW _ _ _ _ _ _ _ 9 _ _)
    refine xi_iconst (v := 0) (by decide +kernel : decode mX6_sumOut.2.1 9 = .ok (.iconst 0, 1)) (by decide) (?_ : XW _ _ _ _ _ _ _ 10 _ _)
    refine xi_istore (ls' := [some (.ref 46), some (.ref r), some (.ref a), some (.int sq), some (.int k0), some (.long 0), none, some (.int 0)]) (by decide +kernel : decode mX6_sumOut.2.1 10 = .ok (.istore 7, 2)) (by decide) rfl (?_ : XW _ _ _ _ _ _ _ 12 _ _)
    refine xw_drop 3 (ls' := [some (.ref 46), some (.ref r), some (.ref a), none, some (.int k0), some (.long 0), none, some (.int 0)]) rfl ?_
    exact vc
  · refine xi_aload_n (by decide +kernel : decode mX6_sumOut.2.1 0 = .ok (.aload_n 0, 1)) rfl rfl (?_ : XW _ _ _ _ _ _ _ 1 _ _)
    refine xi_aload_n (by decide +kernel : decode mX6_sumOut.2.1 1 = .ok (.aload_n 1, 1)) rfl rfl (?_ : XW _ _ _ _ _ _ _ 2 _ _)
    refine xi_iload_n (by decide +kernel : decode mX6_sumOut.2.1 2 = .ok (.iload_n 3, 1)) rfl rfl (?_ : XW _ _ _ _ _ _ _ 3 _ _)
    refine xi_callV (b := 0) (bs := 0) (As := [.ref r, .int sq]) (st := []) (by decide +kernel : decode mX6_sumOut.2.1 3 = .ok (.invokevirtual 66, 3)) kX6_66 rfl rfl (by omega) rfl (s_X6_pour n h 46 48 47 hs (by omega) r hr (by omega) sq) (by decide) (by decide) (Nat.le_of_ble_eq_true rfl) (by omega) (fun v9 h9 hq9 => ?_)
    rw [hq9.1, hq9.2]
    show XW _ _ _ _ _ _ _ 6 _ []
    refine xi_lconst (v := 0) (by decide +kernel : decode mX6_sumOut.2.1 6 = .ok (.lconst 0, 1)) (by decide) (?_ : XW _ _ _ _ _ _ _ 7 _ _)
    refine xi_lstore (ls' := [some (.ref 46), some (.ref r), some (.ref a), some (.int sq), some (.int k0), some (.long 0), none, none]) (by decide +kernel : decode mX6_sumOut.2.1 7 = .ok (.lstore 5, 2)) (by decide) rfl (?_ : XW _ _ _ _ _ _ _ 9 _ _)
    refine xi_iconst (v := 0) (by decide +kernel : decode mX6_sumOut.2.1 9 = .ok (.iconst 0, 1)) (by decide) (?_ : XW _ _ _ _ _ _ _ 10 _ _)
    refine xi_istore (ls' := [some (.ref 46), some (.ref r), some (.ref a), some (.int sq), some (.int k0), some (.long 0), none, some (.int 0)]) (by decide +kernel : decode mX6_sumOut.2.1 10 = .ok (.istore 7, 2)) (by decide) rfl (?_ : XW _ _ _ _ _ _ _ 12 _ _)
    refine xw_drop 3 (ls' := [some (.ref 46), some (.ref r), some (.ref a), none, some (.int k0), some (.long 0), none, some (.int 0)]) rfl ?_
    exact vc

set_option maxRecDepth 20000 in
theorem v_X6_sumOut_12 {h : XH} {Q : Option Value → XH → Prop} {X : String → XH → Prop} (n sn ya za : Nat) (hs : xSnd sn ya za (xP h)) (hn : sn + 3 ≤ n) (r : Nat) (hr : xRul r (xP h)) (hnr : r + 9 ≤ n) (a : Nat) (ha : xPth a (xP h)) (hna : a + 4 ≤ n)  (x4 : Int32) (x5 : Int64) (x7 : Int32)
    (vc : (x4 ≤ x7 → Q (some (.long x5)) h) ∧ (¬ x4 ≤ x7 → ((lg_cmp (1000000000 - rd (xL h ya) 101 0 (xI h sn 0)) 0) ≤ 0 → Q (some (.long x5)) h) ∧ (¬ (lg_cmp (1000000000 - rd (xL h ya) 101 0 (xI h sn 0)) 0) ≤ 0 → (x7 ≤ 0 → XW (xrm 4 0 0) mX6_sumOut (xE n Q X 0 0) n 0 0 h 12 [some (.ref sn), some (.ref r), some (.ref a), none, some (.int x4), some (.long (x5 + (1000000000 - rd (xL h ya) 101 0 (xI h sn 0)))), none, some (.int (x7 + 1))] []) ∧ (¬ x7 ≤ 0 → ∃ Q1, XSpec mX6_share 3 0 0 n n [.ref sn, .ref r, .ref a] h Q1 xno ∧ ∀ v h1, Q1 v h1 → v = none ∧ (∃ Q1, XSpec mX6_out 2 0 0 n n [.ref sn] h1 Q1 xno ∧ ∀ v h2, Q1 v h2 → ∃ r2 : Int64, v = some (.long r2) ∧ (XW (xrm 4 0 0) mX6_sumOut (xE n Q X 0 0) n 0 0 h2 12 [some (.ref sn), some (.ref r), some (.ref a), none, some (.int x4), some (.long (x5 + r2)), none, some (.int (x7 + 1))] [])))))) :
    XW (xrm 4 0 0) mX6_sumOut (xE n Q X 0 0) n 0 0 h 12 [some (.ref sn), some (.ref r), some (.ref a), none, some (.int x4), some (.long x5), none, some (.int x7)] [] := by
  rcases hs.1 with ⟨rfl, rfl, rfl⟩ | ⟨rfl, rfl, rfl⟩ | ⟨rfl, rfl, rfl⟩ | ⟨rfl, rfl, rfl⟩
  · refine xi_iload (by decide +kernel : decode mX6_sumOut.2.1 12 = .ok (.iload 7, 2)) rfl (?_ : XW _ _ _ _ _ _ _ 14 _ _)
    refine xi_iload (by decide +kernel : decode mX6_sumOut.2.1 14 = .ok (.iload 4, 2)) rfl (?_ : XW _ _ _ _ _ _ _ 16 _ _)
    refine xi_icmp_ge (by decide +kernel : decode mX6_sumOut.2.1 16 = .ok (.if_icmp .ge 38, 3)) (by decide) (fun c => (?_ : XW _ _ _ _ _ _ _ 54 _ _)) (fun c => (?_ : XW _ _ _ _ _ _ _ 19 _ _))
    · replace vc := vc.1 c
      refine xi_lload (by decide +kernel : decode mX6_sumOut.2.1 54 = .ok (.lload 5, 2)) rfl (?_ : XW _ _ _ _ _ _ _ 56 _ _)
      exact xi_lret (by decide +kernel : decode mX6_sumOut.2.1 56 = .ok (.lreturn, 1)) rfl vc
    · replace vc := vc.2 c
      refine xi_aload_n (by decide +kernel : decode mX6_sumOut.2.1 19 = .ok (.aload_n 0, 1)) rfl rfl (?_ : XW _ _ _ _ _ _ _ 20 _ _)
      refine xi_callV (b := 0) (bs := 0) (As := []) (st := []) (by decide +kernel : decode mX6_sumOut.2.1 20 = .ok (.invokevirtual 70, 3)) kX6_70 rfl rfl (by omega) rfl (s_X6_out n h 43 44 45 hs (by omega)) (by decide) (by decide) (Nat.le_of_ble_eq_true rfl) (by omega) (fun v9 h9 hq9 => ?_)
      rw [hq9.1, hq9.2]
      show XW _ _ _ _ _ _ _ 23 _ [.long (1000000000 - rd (xL h 44) 101 0 (xI h 43 0))]
      refine xi_lconst (v := 0) (by decide +kernel : decode mX6_sumOut.2.1 23 = .ok (.lconst 0, 1)) (by decide) (?_ : XW _ _ _ _ _ _ _ 24 _ _)
      refine xi_lcmp (by decide +kernel : decode mX6_sumOut.2.1 24 = .ok (.lcmp, 1)) (?_ : XW _ _ _ _ _ _ _ 25 _ _)
      refine xi_if_le (by decide +kernel : decode mX6_sumOut.2.1 25 = .ok (.ifCond .le 29, 3)) (by decide) (fun c => (?_ : XW _ _ _ _ _ _ _ 54 _ _)) (fun c => (?_ : XW _ _ _ _ _ _ _ 28 _ _))
      · replace vc := vc.1 c
        refine xi_lload (by decide +kernel : decode mX6_sumOut.2.1 54 = .ok (.lload 5, 2)) rfl (?_ : XW _ _ _ _ _ _ _ 56 _ _)
        exact xi_lret (by decide +kernel : decode mX6_sumOut.2.1 56 = .ok (.lreturn, 1)) rfl vc
      · replace vc := vc.2 c
        refine xi_iload (by decide +kernel : decode mX6_sumOut.2.1 28 = .ok (.iload 7, 2)) rfl (?_ : XW _ _ _ _ _ _ _ 30 _ _)
        refine xi_if_le (by decide +kernel : decode mX6_sumOut.2.1 30 = .ok (.ifCond .le 9, 3)) (by decide) (fun c => (?_ : XW _ _ _ _ _ _ _ 39 _ _)) (fun c => (?_ : XW _ _ _ _ _ _ _ 33 _ _))
        · replace vc := vc.1 c
          refine xi_lload (by decide +kernel : decode mX6_sumOut.2.1 39 = .ok (.lload 5, 2)) rfl (?_ : XW _ _ _ _ _ _ _ 41 _ _)
          refine xi_aload_n (by decide +kernel : decode mX6_sumOut.2.1 41 = .ok (.aload_n 0, 1)) rfl rfl (?_ : XW _ _ _ _ _ _ _ 42 _ _)
          refine xi_callV (b := 0) (bs := 0) (As := []) (st := [.long x5]) (by decide +kernel : decode mX6_sumOut.2.1 42 = .ok (.invokevirtual 70, 3)) kX6_70 rfl rfl (by omega) rfl (s_X6_out n h 43 44 45 hs (by omega)) (by decide) (by decide) (Nat.le_of_ble_eq_true rfl) (by omega) (fun v9 h9 hq9 => ?_)
          rw [hq9.1, hq9.2]
          show XW _ _ _ _ _ _ _ 45 _ [.long (1000000000 - rd (xL h 44) 101 0 (xI h 43 0)), .long x5]
          refine xi_ladd (by decide +kernel : decode mX6_sumOut.2.1 45 = .ok (.ladd, 1)) (?_ : XW _ _ _ _ _ _ _ 46 _ _)
          refine xi_lstore (ls' := [some (.ref 43), some (.ref r), some (.ref a), none, some (.int x4), some (.long (x5 + (1000000000 - rd (xL h 44) 101 0 (xI h 43 0)))), none, some (.int x7)]) (by decide +kernel : decode mX6_sumOut.2.1 46 = .ok (.lstore 5, 2)) (by decide) rfl (?_ : XW _ _ _ _ _ _ _ 48 _ _)
          refine xi_iinc (v := x7 + 1) (ls' := [some (.ref 43), some (.ref r), some (.ref a), none, some (.int x4), some (.long (x5 + (1000000000 - rd (xL h 44) 101 0 (xI h 43 0)))), none, some (.int (x7 + 1))]) (by decide +kernel : decode mX6_sumOut.2.1 48 = .ok (.iinc 7 1, 3)) rfl rfl (by decide) rfl (?_ : XW _ _ _ _ _ _ _ 51 _ _)
          refine xi_goto (by decide +kernel : decode mX6_sumOut.2.1 51 = .ok (.goto (-39), 3)) (by decide) (?_ : XW _ _ _ _ _ _ _ 12 _ _)
          exact vc
        · replace vc := vc.2 c
          refine xi_aload_n (by decide +kernel : decode mX6_sumOut.2.1 33 = .ok (.aload_n 0, 1)) rfl rfl (?_ : XW _ _ _ _ _ _ _ 34 _ _)
          refine xi_aload_n (by decide +kernel : decode mX6_sumOut.2.1 34 = .ok (.aload_n 1, 1)) rfl rfl (?_ : XW _ _ _ _ _ _ _ 35 _ _)
          refine xi_aload_n (by decide +kernel : decode mX6_sumOut.2.1 35 = .ok (.aload_n 2, 1)) rfl rfl (?_ : XW _ _ _ _ _ _ _ 36 _ _)
          obtain ⟨Q1, sp, vc⟩ := vc
          refine xi_callV (b := 0) (bs := 0) (As := [.ref r, .ref a]) (st := []) (by decide +kernel : decode mX6_sumOut.2.1 36 = .ok (.invokevirtual 74, 3)) kX6_74 rfl rfl (by omega) rfl sp (by decide) (by decide) (Nat.le_of_ble_eq_true rfl) (by omega) (fun v9 h1 hq9 => ?_)
          obtain ⟨e9, vc⟩ := vc v9 h1 hq9
          subst e9
          show XW _ _ _ _ _ _ _ 39 _ []
          refine xi_lload (by decide +kernel : decode mX6_sumOut.2.1 39 = .ok (.lload 5, 2)) rfl (?_ : XW _ _ _ _ _ _ _ 41 _ _)
          refine xi_aload_n (by decide +kernel : decode mX6_sumOut.2.1 41 = .ok (.aload_n 0, 1)) rfl rfl (?_ : XW _ _ _ _ _ _ _ 42 _ _)
          obtain ⟨Q1, sp, vc⟩ := vc
          refine xi_callV (b := 0) (bs := 0) (As := []) (st := [.long x5]) (by decide +kernel : decode mX6_sumOut.2.1 42 = .ok (.invokevirtual 70, 3)) kX6_70 rfl rfl (by omega) rfl sp (by decide) (by decide) (Nat.le_of_ble_eq_true rfl) (by omega) (fun v9 h2 hq9 => ?_)
          obtain ⟨r2, e9, vc⟩ := vc v9 h2 hq9
          subst e9
          show XW _ _ _ _ _ _ _ 45 _ [.long r2, .long x5]
          refine xi_ladd (by decide +kernel : decode mX6_sumOut.2.1 45 = .ok (.ladd, 1)) (?_ : XW _ _ _ _ _ _ _ 46 _ _)
          refine xi_lstore (ls' := [some (.ref 43), some (.ref r), some (.ref a), none, some (.int x4), some (.long (x5 + r2)), none, some (.int x7)]) (by decide +kernel : decode mX6_sumOut.2.1 46 = .ok (.lstore 5, 2)) (by decide) rfl (?_ : XW _ _ _ _ _ _ _ 48 _ _)
          refine xi_iinc (v := x7 + 1) (ls' := [some (.ref 43), some (.ref r), some (.ref a), none, some (.int x4), some (.long (x5 + r2)), none, some (.int (x7 + 1))]) (by decide +kernel : decode mX6_sumOut.2.1 48 = .ok (.iinc 7 1, 3)) rfl rfl (by decide) rfl (?_ : XW _ _ _ _ _ _ _ 51 _ _)
          refine xi_goto (by decide +kernel : decode mX6_sumOut.2.1 51 = .ok (.goto (-39), 3)) (by decide) (?_ : XW _ _ _ _ _ _ _ 12 _ _)
          exact vc
  · refine xi_iload (by decide +kernel : decode mX6_sumOut.2.1 12 = .ok (.iload 7, 2)) rfl (?_ : XW _ _ _ _ _ _ _ 14 _ _)
    refine xi_iload (by decide +kernel : decode mX6_sumOut.2.1 14 = .ok (.iload 4, 2)) rfl (?_ : XW _ _ _ _ _ _ _ 16 _ _)
    refine xi_icmp_ge (by decide +kernel : decode mX6_sumOut.2.1 16 = .ok (.if_icmp .ge 38, 3)) (by decide) (fun c => (?_ : XW _ _ _ _ _ _ _ 54 _ _)) (fun c => (?_ : XW _ _ _ _ _ _ _ 19 _ _))
    · replace vc := vc.1 c
      refine xi_lload (by decide +kernel : decode mX6_sumOut.2.1 54 = .ok (.lload 5, 2)) rfl (?_ : XW _ _ _ _ _ _ _ 56 _ _)
      exact xi_lret (by decide +kernel : decode mX6_sumOut.2.1 56 = .ok (.lreturn, 1)) rfl vc
    · replace vc := vc.2 c
      refine xi_aload_n (by decide +kernel : decode mX6_sumOut.2.1 19 = .ok (.aload_n 0, 1)) rfl rfl (?_ : XW _ _ _ _ _ _ _ 20 _ _)
      refine xi_callV (b := 0) (bs := 0) (As := []) (st := []) (by decide +kernel : decode mX6_sumOut.2.1 20 = .ok (.invokevirtual 70, 3)) kX6_70 rfl rfl (by omega) rfl (s_X6_out n h 43 45 44 hs (by omega)) (by decide) (by decide) (Nat.le_of_ble_eq_true rfl) (by omega) (fun v9 h9 hq9 => ?_)
      rw [hq9.1, hq9.2]
      show XW _ _ _ _ _ _ _ 23 _ [.long (1000000000 - rd (xL h 45) 101 0 (xI h 43 0))]
      refine xi_lconst (v := 0) (by decide +kernel : decode mX6_sumOut.2.1 23 = .ok (.lconst 0, 1)) (by decide) (?_ : XW _ _ _ _ _ _ _ 24 _ _)
      refine xi_lcmp (by decide +kernel : decode mX6_sumOut.2.1 24 = .ok (.lcmp, 1)) (?_ : XW _ _ _ _ _ _ _ 25 _ _)
      refine xi_if_le (by decide +kernel : decode mX6_sumOut.2.1 25 = .ok (.ifCond .le 29, 3)) (by decide) (fun c => (?_ : XW _ _ _ _ _ _ _ 54 _ _)) (fun c => (?_ : XW _ _ _ _ _ _ _ 28 _ _))
      · replace vc := vc.1 c
        refine xi_lload (by decide +kernel : decode mX6_sumOut.2.1 54 = .ok (.lload 5, 2)) rfl (?_ : XW _ _ _ _ _ _ _ 56 _ _)
        exact xi_lret (by decide +kernel : decode mX6_sumOut.2.1 56 = .ok (.lreturn, 1)) rfl vc
      · replace vc := vc.2 c
        refine xi_iload (by decide +kernel : decode mX6_sumOut.2.1 28 = .ok (.iload 7, 2)) rfl (?_ : XW _ _ _ _ _ _ _ 30 _ _)
        refine xi_if_le (by decide +kernel : decode mX6_sumOut.2.1 30 = .ok (.ifCond .le 9, 3)) (by decide) (fun c => (?_ : XW _ _ _ _ _ _ _ 39 _ _)) (fun c => (?_ : XW _ _ _ _ _ _ _ 33 _ _))
        · replace vc := vc.1 c
          refine xi_lload (by decide +kernel : decode mX6_sumOut.2.1 39 = .ok (.lload 5, 2)) rfl (?_ : XW _ _ _ _ _ _ _ 41 _ _)
          refine xi_aload_n (by decide +kernel : decode mX6_sumOut.2.1 41 = .ok (.aload_n 0, 1)) rfl rfl (?_ : XW _ _ _ _ _ _ _ 42 _ _)
          refine xi_callV (b := 0) (bs := 0) (As := []) (st := [.long x5]) (by decide +kernel : decode mX6_sumOut.2.1 42 = .ok (.invokevirtual 70, 3)) kX6_70 rfl rfl (by omega) rfl (s_X6_out n h 43 45 44 hs (by omega)) (by decide) (by decide) (Nat.le_of_ble_eq_true rfl) (by omega) (fun v9 h9 hq9 => ?_)
          rw [hq9.1, hq9.2]
          show XW _ _ _ _ _ _ _ 45 _ [.long (1000000000 - rd (xL h 45) 101 0 (xI h 43 0)), .long x5]
          refine xi_ladd (by decide +kernel : decode mX6_sumOut.2.1 45 = .ok (.ladd, 1)) (?_ : XW _ _ _ _ _ _ _ 46 _ _)
          refine xi_lstore (ls' := [some (.ref 43), some (.ref r), some (.ref a), none, some (.int x4), some (.long (x5 + (1000000000 - rd (xL h 45) 101 0 (xI h 43 0)))), none, some (.int x7)]) (by decide +kernel : decode mX6_sumOut.2.1 46 = .ok (.lstore 5, 2)) (by decide) rfl (?_ : XW _ _ _ _ _ _ _ 48 _ _)
          refine xi_iinc (v := x7 + 1) (ls' := [some (.ref 43), some (.ref r), some (.ref a), none, some (.int x4), some (.long (x5 + (1000000000 - rd (xL h 45) 101 0 (xI h 43 0)))), none, some (.int (x7 + 1))]) (by decide +kernel : decode mX6_sumOut.2.1 48 = .ok (.iinc 7 1, 3)) rfl rfl (by decide) rfl (?_ : XW _ _ _ _ _ _ _ 51 _ _)
          refine xi_goto (by decide +kernel : decode mX6_sumOut.2.1 51 = .ok (.goto (-39), 3)) (by decide) (?_ : XW _ _ _ _ _ _ _ 12 _ _)
          exact vc
        · replace vc := vc.2 c
          refine xi_aload_n (by decide +kernel : decode mX6_sumOut.2.1 33 = .ok (.aload_n 0, 1)) rfl rfl (?_ : XW _ _ _ _ _ _ _ 34 _ _)
          refine xi_aload_n (by decide +kernel : decode mX6_sumOut.2.1 34 = .ok (.aload_n 1, 1)) rfl rfl (?_ : XW _ _ _ _ _ _ _ 35 _ _)
          refine xi_aload_n (by decide +kernel : decode mX6_sumOut.2.1 35 = .ok (.aload_n 2, 1)) rfl rfl (?_ : XW _ _ _ _ _ _ _ 36 _ _)
          obtain ⟨Q1, sp, vc⟩ := vc
          refine xi_callV (b := 0) (bs := 0) (As := [.ref r, .ref a]) (st := []) (by decide +kernel : decode mX6_sumOut.2.1 36 = .ok (.invokevirtual 74, 3)) kX6_74 rfl rfl (by omega) rfl sp (by decide) (by decide) (Nat.le_of_ble_eq_true rfl) (by omega) (fun v9 h1 hq9 => ?_)
          obtain ⟨e9, vc⟩ := vc v9 h1 hq9
          subst e9
          show XW _ _ _ _ _ _ _ 39 _ []
          refine xi_lload (by decide +kernel : decode mX6_sumOut.2.1 39 = .ok (.lload 5, 2)) rfl (?_ : XW _ _ _ _ _ _ _ 41 _ _)
          refine xi_aload_n (by decide +kernel : decode mX6_sumOut.2.1 41 = .ok (.aload_n 0, 1)) rfl rfl (?_ : XW _ _ _ _ _ _ _ 42 _ _)
          obtain ⟨Q1, sp, vc⟩ := vc
          refine xi_callV (b := 0) (bs := 0) (As := []) (st := [.long x5]) (by decide +kernel : decode mX6_sumOut.2.1 42 = .ok (.invokevirtual 70, 3)) kX6_70 rfl rfl (by omega) rfl sp (by decide) (by decide) (Nat.le_of_ble_eq_true rfl) (by omega) (fun v9 h2 hq9 => ?_)
          obtain ⟨r2, e9, vc⟩ := vc v9 h2 hq9
          subst e9
          show XW _ _ _ _ _ _ _ 45 _ [.long r2, .long x5]
          refine xi_ladd (by decide +kernel : decode mX6_sumOut.2.1 45 = .ok (.ladd, 1)) (?_ : XW _ _ _ _ _ _ _ 46 _ _)
          refine xi_lstore (ls' := [some (.ref 43), some (.ref r), some (.ref a), none, some (.int x4), some (.long (x5 + r2)), none, some (.int x7)]) (by decide +kernel : decode mX6_sumOut.2.1 46 = .ok (.lstore 5, 2)) (by decide) rfl (?_ : XW _ _ _ _ _ _ _ 48 _ _)
          refine xi_iinc (v := x7 + 1) (ls' := [some (.ref 43), some (.ref r), some (.ref a), none, some (.int x4), some (.long (x5 + r2)), none, some (.int (x7 + 1))]) (by decide +kernel : decode mX6_sumOut.2.1 48 = .ok (.iinc 7 1, 3)) rfl rfl (by decide) rfl (?_ : XW _ _ _ _ _ _ _ 51 _ _)
          refine xi_goto (by decide +kernel : decode mX6_sumOut.2.1 51 = .ok (.goto (-39), 3)) (by decide) (?_ : XW _ _ _ _ _ _ _ 12 _ _)
          exact vc
  · refine xi_iload (by decide +kernel : decode mX6_sumOut.2.1 12 = .ok (.iload 7, 2)) rfl (?_ : XW _ _ _ _ _ _ _ 14 _ _)
    refine xi_iload (by decide +kernel : decode mX6_sumOut.2.1 14 = .ok (.iload 4, 2)) rfl (?_ : XW _ _ _ _ _ _ _ 16 _ _)
    refine xi_icmp_ge (by decide +kernel : decode mX6_sumOut.2.1 16 = .ok (.if_icmp .ge 38, 3)) (by decide) (fun c => (?_ : XW _ _ _ _ _ _ _ 54 _ _)) (fun c => (?_ : XW _ _ _ _ _ _ _ 19 _ _))
    · replace vc := vc.1 c
      refine xi_lload (by decide +kernel : decode mX6_sumOut.2.1 54 = .ok (.lload 5, 2)) rfl (?_ : XW _ _ _ _ _ _ _ 56 _ _)
      exact xi_lret (by decide +kernel : decode mX6_sumOut.2.1 56 = .ok (.lreturn, 1)) rfl vc
    · replace vc := vc.2 c
      refine xi_aload_n (by decide +kernel : decode mX6_sumOut.2.1 19 = .ok (.aload_n 0, 1)) rfl rfl (?_ : XW _ _ _ _ _ _ _ 20 _ _)
      refine xi_callV (b := 0) (bs := 0) (As := []) (st := []) (by decide +kernel : decode mX6_sumOut.2.1 20 = .ok (.invokevirtual 70, 3)) kX6_70 rfl rfl (by omega) rfl (s_X6_out n h 46 47 48 hs (by omega)) (by decide) (by decide) (Nat.le_of_ble_eq_true rfl) (by omega) (fun v9 h9 hq9 => ?_)
      rw [hq9.1, hq9.2]
      show XW _ _ _ _ _ _ _ 23 _ [.long (1000000000 - rd (xL h 47) 101 0 (xI h 46 0))]
      refine xi_lconst (v := 0) (by decide +kernel : decode mX6_sumOut.2.1 23 = .ok (.lconst 0, 1)) (by decide) (?_ : XW _ _ _ _ _ _ _ 24 _ _)
      refine xi_lcmp (by decide +kernel : decode mX6_sumOut.2.1 24 = .ok (.lcmp, 1)) (?_ : XW _ _ _ _ _ _ _ 25 _ _)
      refine xi_if_le (by decide +kernel : decode mX6_sumOut.2.1 25 = .ok (.ifCond .le 29, 3)) (by decide) (fun c => (?_ : XW _ _ _ _ _ _ _ 54 _ _)) (fun c => (?_ : XW _ _ _ _ _ _ _ 28 _ _))
      · replace vc := vc.1 c
        refine xi_lload (by decide +kernel : decode mX6_sumOut.2.1 54 = .ok (.lload 5, 2)) rfl (?_ : XW _ _ _ _ _ _ _ 56 _ _)
        exact xi_lret (by decide +kernel : decode mX6_sumOut.2.1 56 = .ok (.lreturn, 1)) rfl vc
      · replace vc := vc.2 c
        refine xi_iload (by decide +kernel : decode mX6_sumOut.2.1 28 = .ok (.iload 7, 2)) rfl (?_ : XW _ _ _ _ _ _ _ 30 _ _)
        refine xi_if_le (by decide +kernel : decode mX6_sumOut.2.1 30 = .ok (.ifCond .le 9, 3)) (by decide) (fun c => (?_ : XW _ _ _ _ _ _ _ 39 _ _)) (fun c => (?_ : XW _ _ _ _ _ _ _ 33 _ _))
        · replace vc := vc.1 c
          refine xi_lload (by decide +kernel : decode mX6_sumOut.2.1 39 = .ok (.lload 5, 2)) rfl (?_ : XW _ _ _ _ _ _ _ 41 _ _)
          refine xi_aload_n (by decide +kernel : decode mX6_sumOut.2.1 41 = .ok (.aload_n 0, 1)) rfl rfl (?_ : XW _ _ _ _ _ _ _ 42 _ _)
          refine xi_callV (b := 0) (bs := 0) (As := []) (st := [.long x5]) (by decide +kernel : decode mX6_sumOut.2.1 42 = .ok (.invokevirtual 70, 3)) kX6_70 rfl rfl (by omega) rfl (s_X6_out n h 46 47 48 hs (by omega)) (by decide) (by decide) (Nat.le_of_ble_eq_true rfl) (by omega) (fun v9 h9 hq9 => ?_)
          rw [hq9.1, hq9.2]
          show XW _ _ _ _ _ _ _ 45 _ [.long (1000000000 - rd (xL h 47) 101 0 (xI h 46 0)), .long x5]
          refine xi_ladd (by decide +kernel : decode mX6_sumOut.2.1 45 = .ok (.ladd, 1)) (?_ : XW _ _ _ _ _ _ _ 46 _ _)
          refine xi_lstore (ls' := [some (.ref 46), some (.ref r), some (.ref a), none, some (.int x4), some (.long (x5 + (1000000000 - rd (xL h 47) 101 0 (xI h 46 0)))), none, some (.int x7)]) (by decide +kernel : decode mX6_sumOut.2.1 46 = .ok (.lstore 5, 2)) (by decide) rfl (?_ : XW _ _ _ _ _ _ _ 48 _ _)
          refine xi_iinc (v := x7 + 1) (ls' := [some (.ref 46), some (.ref r), some (.ref a), none, some (.int x4), some (.long (x5 + (1000000000 - rd (xL h 47) 101 0 (xI h 46 0)))), none, some (.int (x7 + 1))]) (by decide +kernel : decode mX6_sumOut.2.1 48 = .ok (.iinc 7 1, 3)) rfl rfl (by decide) rfl (?_ : XW _ _ _ _ _ _ _ 51 _ _)
          refine xi_goto (by decide +kernel : decode mX6_sumOut.2.1 51 = .ok (.goto (-39), 3)) (by decide) (?_ : XW _ _ _ _ _ _ _ 12 _ _)
          exact vc
        · replace vc := vc.2 c
          refine xi_aload_n (by decide +kernel : decode mX6_sumOut.2.1 33 = .ok (.aload_n 0, 1)) rfl rfl (?_ : XW _ _ _ _ _ _ _ 34 _ _)
          refine xi_aload_n (by decide +kernel : decode mX6_sumOut.2.1 34 = .ok (.aload_n 1, 1)) rfl rfl (?_ : XW _ _ _ _ _ _ _ 35 _ _)
          refine xi_aload_n (by decide +kernel : decode mX6_sumOut.2.1 35 = .ok (.aload_n 2, 1)) rfl rfl (?_ : XW _ _ _ _ _ _ _ 36 _ _)
          obtain ⟨Q1, sp, vc⟩ := vc
          refine xi_callV (b := 0) (bs := 0) (As := [.ref r, .ref a]) (st := []) (by decide +kernel : decode mX6_sumOut.2.1 36 = .ok (.invokevirtual 74, 3)) kX6_74 rfl rfl (by omega) rfl sp (by decide) (by decide) (Nat.le_of_ble_eq_true rfl) (by omega) (fun v9 h1 hq9 => ?_)
          obtain ⟨e9, vc⟩ := vc v9 h1 hq9
          subst e9
          show XW _ _ _ _ _ _ _ 39 _ []
          refine xi_lload (by decide +kernel : decode mX6_sumOut.2.1 39 = .ok (.lload 5, 2)) rfl (?_ : XW _ _ _ _ _ _ _ 41 _ _)
          refine xi_aload_n (by decide +kernel : decode mX6_sumOut.2.1 41 = .ok (.aload_n 0, 1)) rfl rfl (?_ : XW _ _ _ _ _ _ _ 42 _ _)
          obtain ⟨Q1, sp, vc⟩ := vc
          refine xi_callV (b := 0) (bs := 0) (As := []) (st := [.long x5]) (by decide +kernel : decode mX6_sumOut.2.1 42 = .ok (.invokevirtual 70, 3)) kX6_70 rfl rfl (by omega) rfl sp (by decide) (by decide) (Nat.le_of_ble_eq_true rfl) (by omega) (fun v9 h2 hq9 => ?_)
          obtain ⟨r2, e9, vc⟩ := vc v9 h2 hq9
          subst e9
          show XW _ _ _ _ _ _ _ 45 _ [.long r2, .long x5]
          refine xi_ladd (by decide +kernel : decode mX6_sumOut.2.1 45 = .ok (.ladd, 1)) (?_ : XW _ _ _ _ _ _ _ 46 _ _)
          refine xi_lstore (ls' := [some (.ref 46), some (.ref r), some (.ref a), none, some (.int x4), some (.long (x5 + r2)), none, some (.int x7)]) (by decide +kernel : decode mX6_sumOut.2.1 46 = .ok (.lstore 5, 2)) (by decide) rfl (?_ : XW _ _ _ _ _ _ _ 48 _ _)
          refine xi_iinc (v := x7 + 1) (ls' := [some (.ref 46), some (.ref r), some (.ref a), none, some (.int x4), some (.long (x5 + r2)), none, some (.int (x7 + 1))]) (by decide +kernel : decode mX6_sumOut.2.1 48 = .ok (.iinc 7 1, 3)) rfl rfl (by decide) rfl (?_ : XW _ _ _ _ _ _ _ 51 _ _)
          refine xi_goto (by decide +kernel : decode mX6_sumOut.2.1 51 = .ok (.goto (-39), 3)) (by decide) (?_ : XW _ _ _ _ _ _ _ 12 _ _)
          exact vc
  · refine xi_iload (by decide +kernel : decode mX6_sumOut.2.1 12 = .ok (.iload 7, 2)) rfl (?_ : XW _ _ _ _ _ _ _ 14 _ _)
    refine xi_iload (by decide +kernel : decode mX6_sumOut.2.1 14 = .ok (.iload 4, 2)) rfl (?_ : XW _ _ _ _ _ _ _ 16 _ _)
    refine xi_icmp_ge (by decide +kernel : decode mX6_sumOut.2.1 16 = .ok (.if_icmp .ge 38, 3)) (by decide) (fun c => (?_ : XW _ _ _ _ _ _ _ 54 _ _)) (fun c => (?_ : XW _ _ _ _ _ _ _ 19 _ _))
    · replace vc := vc.1 c
      refine xi_lload (by decide +kernel : decode mX6_sumOut.2.1 54 = .ok (.lload 5, 2)) rfl (?_ : XW _ _ _ _ _ _ _ 56 _ _)
      exact xi_lret (by decide +kernel : decode mX6_sumOut.2.1 56 = .ok (.lreturn, 1)) rfl vc
    · replace vc := vc.2 c
      refine xi_aload_n (by decide +kernel : decode mX6_sumOut.2.1 19 = .ok (.aload_n 0, 1)) rfl rfl (?_ : XW _ _ _ _ _ _ _ 20 _ _)
      refine xi_callV (b := 0) (bs := 0) (As := []) (st := []) (by decide +kernel : decode mX6_sumOut.2.1 20 = .ok (.invokevirtual 70, 3)) kX6_70 rfl rfl (by omega) rfl (s_X6_out n h 46 48 47 hs (by omega)) (by decide) (by decide) (Nat.le_of_ble_eq_true rfl) (by omega) (fun v9 h9 hq9 => ?_)
      rw [hq9.1, hq9.2]
      show XW _ _ _ _ _ _ _ 23 _ [.long (1000000000 - rd (xL h 48) 101 0 (xI h 46 0))]
      refine xi_lconst (v := 0) (by decide +kernel : decode mX6_sumOut.2.1 23 = .ok (.lconst 0, 1)) (by decide) (?_ : XW _ _ _ _ _ _ _ 24 _ _)
      refine xi_lcmp (by decide +kernel : decode mX6_sumOut.2.1 24 = .ok (.lcmp, 1)) (?_ : XW _ _ _ _ _ _ _ 25 _ _)
      refine xi_if_le (by decide +kernel : decode mX6_sumOut.2.1 25 = .ok (.ifCond .le 29, 3)) (by decide) (fun c => (?_ : XW _ _ _ _ _ _ _ 54 _ _)) (fun c => (?_ : XW _ _ _ _ _ _ _ 28 _ _))
      · replace vc := vc.1 c
        refine xi_lload (by decide +kernel : decode mX6_sumOut.2.1 54 = .ok (.lload 5, 2)) rfl (?_ : XW _ _ _ _ _ _ _ 56 _ _)
        exact xi_lret (by decide +kernel : decode mX6_sumOut.2.1 56 = .ok (.lreturn, 1)) rfl vc
      · replace vc := vc.2 c
        refine xi_iload (by decide +kernel : decode mX6_sumOut.2.1 28 = .ok (.iload 7, 2)) rfl (?_ : XW _ _ _ _ _ _ _ 30 _ _)
        refine xi_if_le (by decide +kernel : decode mX6_sumOut.2.1 30 = .ok (.ifCond .le 9, 3)) (by decide) (fun c => (?_ : XW _ _ _ _ _ _ _ 39 _ _)) (fun c => (?_ : XW _ _ _ _ _ _ _ 33 _ _))
        · replace vc := vc.1 c
          refine xi_lload (by decide +kernel : decode mX6_sumOut.2.1 39 = .ok (.lload 5, 2)) rfl (?_ : XW _ _ _ _ _ _ _ 41 _ _)
          refine xi_aload_n (by decide +kernel : decode mX6_sumOut.2.1 41 = .ok (.aload_n 0, 1)) rfl rfl (?_ : XW _ _ _ _ _ _ _ 42 _ _)
          refine xi_callV (b := 0) (bs := 0) (As := []) (st := [.long x5]) (by decide +kernel : decode mX6_sumOut.2.1 42 = .ok (.invokevirtual 70, 3)) kX6_70 rfl rfl (by omega) rfl (s_X6_out n h 46 48 47 hs (by omega)) (by decide) (by decide) (Nat.le_of_ble_eq_true rfl) (by omega) (fun v9 h9 hq9 => ?_)
          rw [hq9.1, hq9.2]
          show XW _ _ _ _ _ _ _ 45 _ [.long (1000000000 - rd (xL h 48) 101 0 (xI h 46 0)), .long x5]
          refine xi_ladd (by decide +kernel : decode mX6_sumOut.2.1 45 = .ok (.ladd, 1)) (?_ : XW _ _ _ _ _ _ _ 46 _ _)
          refine xi_lstore (ls' := [some (.ref 46), some (.ref r), some (.ref a), none, some (.int x4), some (.long (x5 + (1000000000 - rd (xL h 48) 101 0 (xI h 46 0)))), none, some (.int x7)]) (by decide +kernel : decode mX6_sumOut.2.1 46 = .ok (.lstore 5, 2)) (by decide) rfl (?_ : XW _ _ _ _ _ _ _ 48 _ _)
          refine xi_iinc (v := x7 + 1) (ls' := [some (.ref 46), some (.ref r), some (.ref a), none, some (.int x4), some (.long (x5 + (1000000000 - rd (xL h 48) 101 0 (xI h 46 0)))), none, some (.int (x7 + 1))]) (by decide +kernel : decode mX6_sumOut.2.1 48 = .ok (.iinc 7 1, 3)) rfl rfl (by decide) rfl (?_ : XW _ _ _ _ _ _ _ 51 _ _)
          refine xi_goto (by decide +kernel : decode mX6_sumOut.2.1 51 = .ok (.goto (-39), 3)) (by decide) (?_ : XW _ _ _ _ _ _ _ 12 _ _)
          exact vc
        · replace vc := vc.2 c
          refine xi_aload_n (by decide +kernel : decode mX6_sumOut.2.1 33 = .ok (.aload_n 0, 1)) rfl rfl (?_ : XW _ _ _ _ _ _ _ 34 _ _)
          refine xi_aload_n (by decide +kernel : decode mX6_sumOut.2.1 34 = .ok (.aload_n 1, 1)) rfl rfl (?_ : XW _ _ _ _ _ _ _ 35 _ _)
          refine xi_aload_n (by decide +kernel : decode mX6_sumOut.2.1 35 = .ok (.aload_n 2, 1)) rfl rfl (?_ : XW _ _ _ _ _ _ _ 36 _ _)
          obtain ⟨Q1, sp, vc⟩ := vc
          refine xi_callV (b := 0) (bs := 0) (As := [.ref r, .ref a]) (st := []) (by decide +kernel : decode mX6_sumOut.2.1 36 = .ok (.invokevirtual 74, 3)) kX6_74 rfl rfl (by omega) rfl sp (by decide) (by decide) (Nat.le_of_ble_eq_true rfl) (by omega) (fun v9 h1 hq9 => ?_)
          obtain ⟨e9, vc⟩ := vc v9 h1 hq9
          subst e9
          show XW _ _ _ _ _ _ _ 39 _ []
          refine xi_lload (by decide +kernel : decode mX6_sumOut.2.1 39 = .ok (.lload 5, 2)) rfl (?_ : XW _ _ _ _ _ _ _ 41 _ _)
          refine xi_aload_n (by decide +kernel : decode mX6_sumOut.2.1 41 = .ok (.aload_n 0, 1)) rfl rfl (?_ : XW _ _ _ _ _ _ _ 42 _ _)
          obtain ⟨Q1, sp, vc⟩ := vc
          refine xi_callV (b := 0) (bs := 0) (As := []) (st := [.long x5]) (by decide +kernel : decode mX6_sumOut.2.1 42 = .ok (.invokevirtual 70, 3)) kX6_70 rfl rfl (by omega) rfl sp (by decide) (by decide) (Nat.le_of_ble_eq_true rfl) (by omega) (fun v9 h2 hq9 => ?_)
          obtain ⟨r2, e9, vc⟩ := vc v9 h2 hq9
          subst e9
          show XW _ _ _ _ _ _ _ 45 _ [.long r2, .long x5]
          refine xi_ladd (by decide +kernel : decode mX6_sumOut.2.1 45 = .ok (.ladd, 1)) (?_ : XW _ _ _ _ _ _ _ 46 _ _)
          refine xi_lstore (ls' := [some (.ref 46), some (.ref r), some (.ref a), none, some (.int x4), some (.long (x5 + r2)), none, some (.int x7)]) (by decide +kernel : decode mX6_sumOut.2.1 46 = .ok (.lstore 5, 2)) (by decide) rfl (?_ : XW _ _ _ _ _ _ _ 48 _ _)
          refine xi_iinc (v := x7 + 1) (ls' := [some (.ref 46), some (.ref r), some (.ref a), none, some (.int x4), some (.long (x5 + r2)), none, some (.int (x7 + 1))]) (by decide +kernel : decode mX6_sumOut.2.1 48 = .ok (.iinc 7 1, 3)) rfl rfl (by decide) rfl (?_ : XW _ _ _ _ _ _ _ 51 _ _)
          refine xi_goto (by decide +kernel : decode mX6_sumOut.2.1 51 = .ok (.goto (-39), 3)) (by decide) (?_ : XW _ _ _ _ _ _ _ 12 _ _)
          exact vc

