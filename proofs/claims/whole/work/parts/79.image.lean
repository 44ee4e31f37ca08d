/-! AN IMAGE: rows copied -/
def cpy0 (k : Nat) (f g : Nat → Int32) : Nat → Int32 := fun j => if j < k then f j else g j
theorem cpy0_va (k : Nat) (f g : Nat → Int32) : va_cpy f g 0 0 k = cpy0 k f g := by
  funext j
  unfold cpy0
  by_cases z : j < k
  · rw [if_pos z, pk_cpy_in (by omega) (by omega)]
    congr 1
    omega
  · rw [if_neg z, pk_cpy_out (by omega)]
theorem cW_copy : Cond.methodLink RX7 52 arraycopyName ∈ gtbl ∧ Cond.native arraycopyName ∈ gtbl ∧ Cond.static arraycopyName ∈ gtbl ∧ Cond.initialized "java/lang/System" ∈ gtbl := ⟨gt_3 127 rfl rfl, gt_3 129 rfl rfl, gt_3 128 rfl rfl, gt_1 25 rfl rfl⟩
section XCOPY
variable {R : Room} {M : XM} {E : XE} {n b bs : Nat} {h : XH} {pc : Nat} {ls : List (Option Value)} {st : List Value}
theorem xi_copyI {a c0 N0 N1 k idx : Nat} {own : String} {kk0 : Int32} (hd : decode M.2.1 pc = .ok (.invokestatic idx, 3)) (hown : M.1.cls = own) (hw : Cond.methodLink own idx arraycopyName ∈ gtbl ∧ Cond.native arraycopyName ∈ gtbl ∧ Cond.static arraycopyName ∈ gtbl ∧ Cond.initialized "java/lang/System" ∈ gtbl) (hs0 : SH c0 = .inl (.int, N0)) (hs1 : SH a = .inl (.int, N1)) (hc0 : c0 < n) (ha : a < n) (hk : kk0 = nI k) (hk31 : k < 2 ^ 31) (h4 : k ≤ N0) (h5 : k ≤ N1) (hR1 : 1 ≤ R.frames) (hR2 : (st.map Value.category).sum + (nativeFrameWords "java/lang/System" "arraycopy" 5 + 11) ≤ R.locals)
    (kk : XW R M E n b bs (xSI a (cpy0 k (xI h c0) (xI h a)) h) (pc + 3) ls st) : XW R M E n b bs h pc ls (.int kk0 :: .int 0 :: .ref a :: .int 0 :: .ref c0 :: st) := by
  intro G p l e s m args below meth c C H locs L kc ks hR hS hl hz g1 g2
  subst hk
  have he0 := xr_get hR (Or.inl hc0)
  rw [xcell_a hs0] at he0
  have he := xr_get hR (Or.inl ha)
  rw [xcell_a hs1] at he
  have e9 : xv G (.ref a) = .ref (gB G + xta a) := congrArg Value.ref (xr_ad hR (Or.inl ha))
  have e90 : xv G (.ref c0) = .ref (gB G + xta c0) := congrArg Value.ref (xr_ad hR (Or.inl hc0))
  have hts := C.2.2.2.2.2.1
  have z0 : (0 : Int32).toNatClampNeg = 0 := by decide
  have zk : (nI k).toNatClampNeg = k := nI_clamp hk31
  rw [List.map_cons, List.map_cons, List.map_cons, List.map_cons, List.map_cons, e9, e90]
  refine va_copyi (f := xI h c0) (g := xI h a) (ty := .int) C.1 C.2.1 (C.2.2.1.trans hl.1.1.symm) C.2.2.2.2.1 (hts _ (by rw [hown]; exact hw.1)) (hts _ hw.2.1) (hts _ hw.2.2.1) (hts _ hw.2.2.2) C.2.2.2.2.2.2.2.2.1.1 hR.1 (xws_D G n h) hS (xta c0) (xta a) (xtyi .int) (xtyi .int) he0 he (x_tys (Or.inl rfl)) (x_tys (Or.inl rfl)) rfl (by decide) (by decide) (nI_pos hk31) (by rw [z0, zk]; omega) (by rw [z0, zk]; omega) (fun _ _ => rfl) hR1 ?_ hd (fun H1 locs1 hP1 hD1 hS1 => ?_)
  · rw [x_sum]; exact hR2
  · have e8 := xws_SI (G := G) (h := h) (f := cpy0 k (xI h c0) (xI h a)) hR.2.1 hR.2.2.2 ha
    rw [xcell_a hs1] at e8
    have e7 : xarr G (xSI a (cpy0 k (xI h c0) (xI h a)) h) a N1 .int = (N1, .inl (cpy0 k (xI h c0) (xI h a))) := by
      show (N1, Sum.inl (va_up h.1 a _ a)) = _
      rw [va_up_eq]
    rw [e7] at e8
    rw [z0, zk, cpy0_va] at hP1
    exact kk G C H1 locs1 L kc ks (hR.si ha (by rw [← e8]; exact hP1)) hS1 hl (xz_si hR ha hz) g1 g2
end XCOPY
set_option maxRecDepth 20000 in
theorem v_X7_takeFroma_0 {h : XH} {Q : Option Value → XH → Prop} {X : String → XH → Prop} (r : Nat) (hbp : BP r h) 
    (vc : Q none (xSI 38 (cpy0 3 (xI h 33) (xI h 38)) (xSI 37 (cpy0 40 (xI h 32) (xI h 37)) (xSI 36 (cpy0 1000 (xI h 31) (xI h 36)) (xSI 35 (cpy0 4 (xI h 30) (xI h 35)) (xSI 34 (va_up (va_up (va_up (va_up (xI h 34) 0 (xI h 29 0)) 1 (xI h 29 1)) 2 (xI h 29 2)) 3 (xI h 29 3)) (xSI 34 (va_up (va_up (va_up (xI h 34) 0 (xI h 29 0)) 1 (xI h 29 1)) 2 (xI h 29 2)) (xSI 34 (va_up (va_up (xI h 34) 0 (xI h 29 0)) 1 (xI h 29 1)) (xSI 34 (va_up (xI h 34) 0 (xI h 29 0)) h))))))))) :
    XW (xrm 1 0 0) mX7_takeFrom (xE 100 Q X 0 0) 100 0 0 h 0 [some (.ref 34), some (.ref 29)] [] := by
  obtain ⟨hb, hr, hnr, ha21, ha25, hu29, hu34, hw, hnt, hwr⟩ := hbp
  refine xi_aload_n (by decide +kernel : decode mX7_takeFrom.2.1 0 = .ok (.aload_n 0, 1)) rfl rfl (?_ : XW _ _ _ _ _ _ _ 1 _ _)
  refine xi_aload_n (by decide +kernel : decode mX7_takeFrom.2.1 1 = .ok (.aload_n 1, 1)) rfl rfl (?_ : XW _ _ _ _ _ _ _ 2 _ _)
  refine xi_getI (by decide +kernel : decode mX7_takeFrom.2.1 2 = .ok (.getfield 43, 3)) fX7_43 rfl (by omega) rfl (?_ : XW _ _ _ _ _ _ _ 5 _ _)
  refine xi_putI (by decide +kernel : decode mX7_takeFrom.2.1 5 = .ok (.putfield 43, 3)) fX7_43 rfl (by omega) rfl rfl rfl (?_ : XW _ _ _ _ _ _ (xSI 34 (va_up (xI h 34) 0 (xI h 29 0)) h) 8 _ _)
  refine xi_aload_n (by decide +kernel : decode mX7_takeFrom.2.1 8 = .ok (.aload_n 0, 1)) rfl rfl (?_ : XW _ _ _ _ _ _ _ 9 _ _)
  refine xi_aload_n (by decide +kernel : decode mX7_takeFrom.2.1 9 = .ok (.aload_n 1, 1)) rfl rfl (?_ : XW _ _ _ _ _ _ _ 10 _ _)
  refine xi_getI (by decide +kernel : decode mX7_takeFrom.2.1 10 = .ok (.getfield 46, 3)) fX7_46 rfl (by omega) rfl (?_ : XW _ _ _ _ _ _ _ 13 _ [.int (xI h 29 1), .ref 34])
  refine xi_putI (by decide +kernel : decode mX7_takeFrom.2.1 13 = .ok (.putfield 46, 3)) fX7_46 rfl (by omega) rfl rfl rfl (?_ : XW _ _ _ _ _ _ (xSI 34 (va_up (va_up (xI h 34) 0 (xI h 29 0)) 1 (xI h 29 1)) (xSI 34 (va_up (xI h 34) 0 (xI h 29 0)) h)) 16 _ _)
  refine xi_aload_n (by decide +kernel : decode mX7_takeFrom.2.1 16 = .ok (.aload_n 0, 1)) rfl rfl (?_ : XW _ _ _ _ _ _ _ 17 _ _)
  refine xi_aload_n (by decide +kernel : decode mX7_takeFrom.2.1 17 = .ok (.aload_n 1, 1)) rfl rfl (?_ : XW _ _ _ _ _ _ _ 18 _ _)
  refine xi_getI (by decide +kernel : decode mX7_takeFrom.2.1 18 = .ok (.getfield 49, 3)) fX7_49 rfl (by omega) rfl (?_ : XW _ _ _ _ _ _ _ 21 _ [.int (xI h 29 2), .ref 34])
  refine xi_putI (by decide +kernel : decode mX7_takeFrom.2.1 21 = .ok (.putfield 49, 3)) fX7_49 rfl (by omega) rfl rfl rfl (?_ : XW _ _ _ _ _ _ (xSI 34 (va_up (va_up (va_up (xI h 34) 0 (xI h 29 0)) 1 (xI h 29 1)) 2 (xI h 29 2)) (xSI 34 (va_up (va_up (xI h 34) 0 (xI h 29 0)) 1 (xI h 29 1)) (xSI 34 (va_up (xI h 34) 0 (xI h 29 0)) h))) 24 _ _)
  refine xi_aload_n (by decide +kernel : decode mX7_takeFrom.2.1 24 = .ok (.aload_n 0, 1)) rfl rfl (?_ : XW _ _ _ _ _ _ _ 25 _ _)
  refine xi_aload_n (by decide +kernel : decode mX7_takeFrom.2.1 25 = .ok (.aload_n 1, 1)) rfl rfl (?_ : XW _ _ _ _ _ _ _ 26 _ _)
  refine xi_getI (by decide +kernel : decode mX7_takeFrom.2.1 26 = .ok (.getfield 33, 3)) fX7_33 rfl (by omega) rfl (?_ : XW _ _ _ _ _ _ _ 29 _ [.int (xI h 29 3), .ref 34])
  refine xi_putI (by decide +kernel : decode mX7_takeFrom.2.1 29 = .ok (.putfield 33, 3)) fX7_33 rfl (by omega) rfl rfl rfl (?_ : XW _ _ _ _ _ _ (xSI 34 (va_up (va_up (va_up (va_up (xI h 34) 0 (xI h 29 0)) 1 (xI h 29 1)) 2 (xI h 29 2)) 3 (xI h 29 3)) (xSI 34 (va_up (va_up (va_up (xI h 34) 0 (xI h 29 0)) 1 (xI h 29 1)) 2 (xI h 29 2)) (xSI 34 (va_up (va_up (xI h 34) 0 (xI h 29 0)) 1 (xI h 29 1)) (xSI 34 (va_up (xI h 34) 0 (xI h 29 0)) h)))) 32 _ _)
  refine xi_aload_n (by decide +kernel : decode mX7_takeFrom.2.1 32 = .ok (.aload_n 1, 1)) rfl rfl (?_ : XW _ _ _ _ _ _ _ 33 _ _)
  refine xi_getR (y := 30) (by decide +kernel : decode mX7_takeFrom.2.1 33 = .ok (.getfield 9, 3)) fX7_9 rfl (by omega) rfl hu29.2.1 (?_ : XW _ _ _ _ _ _ _ 36 _ _)
  refine xi_iconst (v := 0) (by decide +kernel : decode mX7_takeFrom.2.1 36 = .ok (.iconst 0, 1)) (by decide) (?_ : XW _ _ _ _ _ _ _ 37 _ _)
  refine xi_aload_n (by decide +kernel : decode mX7_takeFrom.2.1 37 = .ok (.aload_n 0, 1)) rfl rfl (?_ : XW _ _ _ _ _ _ _ 38 _ _)
  refine xi_getR (y := 35) (by decide +kernel : decode mX7_takeFrom.2.1 38 = .ok (.getfield 9, 3)) fX7_9 rfl (by omega) rfl hu34.2.1 (?_ : XW _ _ _ _ _ _ _ 41 _ _)
  refine xi_iconst (v := 0) (by decide +kernel : decode mX7_takeFrom.2.1 41 = .ok (.iconst 0, 1)) (by decide) (?_ : XW _ _ _ _ _ _ _ 42 _ _)
  refine xi_iconst (v := 4) (by decide +kernel : decode mX7_takeFrom.2.1 42 = .ok (.iconst 4, 1)) (by decide) (?_ : XW _ _ _ _ _ _ _ 43 _ _)
  refine xi_copyI (k := 4) (by decide +kernel : decode mX7_takeFrom.2.1 43 = .ok (.invokestatic 52, 3)) rfl cW_copy rfl rfl (by omega) (by omega) rfl (by decide) (by omega) (by omega) (by decide) (Nat.le_of_ble_eq_true rfl) (?_ : XW _ _ _ _ _ _ (xSI 35 (cpy0 4 (xI h 30) (xI h 35)) (xSI 34 (va_up (va_up (va_up (va_up (xI h 34) 0 (xI h 29 0)) 1 (xI h 29 1)) 2 (xI h 29 2)) 3 (xI h 29 3)) (xSI 34 (va_up (va_up (va_up (xI h 34) 0 (xI h 29 0)) 1 (xI h 29 1)) 2 (xI h 29 2)) (xSI 34 (va_up (va_up (xI h 34) 0 (xI h 29 0)) 1 (xI h 29 1)) (xSI 34 (va_up (xI h 34) 0 (xI h 29 0)) h))))) 46 _ _)
  refine xi_aload_n (by decide +kernel : decode mX7_takeFrom.2.1 46 = .ok (.aload_n 1, 1)) rfl rfl (?_ : XW _ _ _ _ _ _ _ 47 _ _)
  refine xi_getR (y := 31) (by decide +kernel : decode mX7_takeFrom.2.1 47 = .ok (.getfield 15, 3)) fX7_15 rfl (by omega) rfl hu29.2.2.1 (?_ : XW _ _ _ _ _ _ _ 50 _ _)
  refine xi_iconst (v := 0) (by decide +kernel : decode mX7_takeFrom.2.1 50 = .ok (.iconst 0, 1)) (by decide) (?_ : XW _ _ _ _ _ _ _ 51 _ _)
  refine xi_aload_n (by decide +kernel : decode mX7_takeFrom.2.1 51 = .ok (.aload_n 0, 1)) rfl rfl (?_ : XW _ _ _ _ _ _ _ 52 _ _)
  refine xi_getR (y := 36) (by decide +kernel : decode mX7_takeFrom.2.1 52 = .ok (.getfield 15, 3)) fX7_15 rfl (by omega) rfl hu34.2.2.1 (?_ : XW _ _ _ _ _ _ _ 55 _ _)
  refine xi_iconst (v := 0) (by decide +kernel : decode mX7_takeFrom.2.1 55 = .ok (.iconst 0, 1)) (by decide) (?_ : XW _ _ _ _ _ _ _ 56 _ _)
  refine xi_sipush (v := 1000) (by decide +kernel : decode mX7_takeFrom.2.1 56 = .ok (.sipush 1000, 3)) (by decide) (?_ : XW _ _ _ _ _ _ _ 59 _ _)
  refine xi_copyI (k := 1000) (by decide +kernel : decode mX7_takeFrom.2.1 59 = .ok (.invokestatic 52, 3)) rfl cW_copy rfl rfl (by omega) (by omega) rfl (by decide) (by omega) (by omega) (by decide) (Nat.le_of_ble_eq_true rfl) (?_ : XW _ _ _ _ _ _ (xSI 36 (cpy0 1000 (xI h 31) (xI h 36)) (xSI 35 (cpy0 4 (xI h 30) (xI h 35)) (xSI 34 (va_up (va_up (va_up (va_up (xI h 34) 0 (xI h 29 0)) 1 (xI h 29 1)) 2 (xI h 29 2)) 3 (xI h 29 3)) (xSI 34 (va_up (va_up (va_up (xI h 34) 0 (xI h 29 0)) 1 (xI h 29 1)) 2 (xI h 29 2)) (xSI 34 (va_up (va_up (xI h 34) 0 (xI h 29 0)) 1 (xI h 29 1)) (xSI 34 (va_up (xI h 34) 0 (xI h 29 0)) h)))))) 62 _ _)
  refine xi_aload_n (by decide +kernel : decode mX7_takeFrom.2.1 62 = .ok (.aload_n 1, 1)) rfl rfl (?_ : XW _ _ _ _ _ _ _ 63 _ _)
  refine xi_getR (y := 32) (by decide +kernel : decode mX7_takeFrom.2.1 63 = .ok (.getfield 18, 3)) fX7_18 rfl (by omega) rfl hu29.2.2.2.1 (?_ : XW _ _ _ _ _ _ _ 66 _ _)
  refine xi_iconst (v := 0) (by decide +kernel : decode mX7_takeFrom.2.1 66 = .ok (.iconst 0, 1)) (by decide) (?_ : XW _ _ _ _ _ _ _ 67 _ _)
  refine xi_aload_n (by decide +kernel : decode mX7_takeFrom.2.1 67 = .ok (.aload_n 0, 1)) rfl rfl (?_ : XW _ _ _ _ _ _ _ 68 _ _)
  refine xi_getR (y := 37) (by decide +kernel : decode mX7_takeFrom.2.1 68 = .ok (.getfield 18, 3)) fX7_18 rfl (by omega) rfl hu34.2.2.2.1 (?_ : XW _ _ _ _ _ _ _ 71 _ _)
  refine xi_iconst (v := 0) (by decide +kernel : decode mX7_takeFrom.2.1 71 = .ok (.iconst 0, 1)) (by decide) (?_ : XW _ _ _ _ _ _ _ 72 _ _)
  refine xi_bipush (v := 40) (by decide +kernel : decode mX7_takeFrom.2.1 72 = .ok (.bipush 40, 2)) (by decide) (?_ : XW _ _ _ _ _ _ _ 74 _ _)
  refine xi_copyI (k := 40) (by decide +kernel : decode mX7_takeFrom.2.1 74 = .ok (.invokestatic 52, 3)) rfl cW_copy rfl rfl (by omega) (by omega) rfl (by decide) (by omega) (by omega) (by decide) (Nat.le_of_ble_eq_true rfl) (?_ : XW _ _ _ _ _ _ (xSI 37 (cpy0 40 (xI h 32) (xI h 37)) (xSI 36 (cpy0 1000 (xI h 31) (xI h 36)) (xSI 35 (cpy0 4 (xI h 30) (xI h 35)) (xSI 34 (va_up (va_up (va_up (va_up (xI h 34) 0 (xI h 29 0)) 1 (xI h 29 1)) 2 (xI h 29 2)) 3 (xI h 29 3)) (xSI 34 (va_up (va_up (va_up (xI h 34) 0 (xI h 29 0)) 1 (xI h 29 1)) 2 (xI h 29 2)) (xSI 34 (va_up (va_up (xI h 34) 0 (xI h 29 0)) 1 (xI h 29 1)) (xSI 34 (va_up (xI h 34) 0 (xI h 29 0)) h))))))) 77 _ _)
  refine xi_aload_n (by decide +kernel : decode mX7_takeFrom.2.1 77 = .ok (.aload_n 1, 1)) rfl rfl (?_ : XW _ _ _ _ _ _ _ 78 _ _)
  refine xi_getR (y := 33) (by decide +kernel : decode mX7_takeFrom.2.1 78 = .ok (.getfield 21, 3)) fX7_21 rfl (by omega) rfl hu29.2.2.2.2 (?_ : XW _ _ _ _ _ _ _ 81 _ _)
  refine xi_iconst (v := 0) (by decide +kernel : decode mX7_takeFrom.2.1 81 = .ok (.iconst 0, 1)) (by decide) (?_ : XW _ _ _ _ _ _ _ 82 _ _)
  refine xi_aload_n (by decide +kernel : decode mX7_takeFrom.2.1 82 = .ok (.aload_n 0, 1)) rfl rfl (?_ : XW _ _ _ _ _ _ _ 83 _ _)
  refine xi_getR (y := 38) (by decide +kernel : decode mX7_takeFrom.2.1 83 = .ok (.getfield 21, 3)) fX7_21 rfl (by omega) rfl hu34.2.2.2.2 (?_ : XW _ _ _ _ _ _ _ 86 _ _)
  refine xi_iconst (v := 0) (by decide +kernel : decode mX7_takeFrom.2.1 86 = .ok (.iconst 0, 1)) (by decide) (?_ : XW _ _ _ _ _ _ _ 87 _ _)
  refine xi_iconst (v := 3) (by decide +kernel : decode mX7_takeFrom.2.1 87 = .ok (.iconst 3, 1)) (by decide) (?_ : XW _ _ _ _ _ _ _ 88 _ _)
  refine xi_copyI (k := 3) (by decide +kernel : decode mX7_takeFrom.2.1 88 = .ok (.invokestatic 52, 3)) rfl cW_copy rfl rfl (by omega) (by omega) rfl (by decide) (by omega) (by omega) (by decide) (Nat.le_of_ble_eq_true rfl) (?_ : XW _ _ _ _ _ _ (xSI 38 (cpy0 3 (xI h 33) (xI h 38)) (xSI 37 (cpy0 40 (xI h 32) (xI h 37)) (xSI 36 (cpy0 1000 (xI h 31) (xI h 36)) (xSI 35 (cpy0 4 (xI h 30) (xI h 35)) (xSI 34 (va_up (va_up (va_up (va_up (xI h 34) 0 (xI h 29 0)) 1 (xI h 29 1)) 2 (xI h 29 2)) 3 (xI h 29 3)) (xSI 34 (va_up (va_up (va_up (xI h 34) 0 (xI h 29 0)) 1 (xI h 29 1)) 2 (xI h 29 2)) (xSI 34 (va_up (va_up (xI h 34) 0 (xI h 29 0)) 1 (xI h 29 1)) (xSI 34 (va_up (xI h 34) 0 (xI h 29 0)) h)))))))) 91 _ _)
  exact xi_vret (by decide +kernel : decode mX7_takeFrom.2.1 91 = .ok (.return_, 1)) rfl vc

set_option maxRecDepth 20000 in
theorem v_X7_takeFromb_0 {h : XH} {Q : Option Value → XH → Prop} {X : String → XH → Prop} (r : Nat) (hbp : BP r h) 
    (vc : Q none (xSI 33 (cpy0 3 (xI h 38) (xI h 33)) (xSI 32 (cpy0 40 (xI h 37) (xI h 32)) (xSI 31 (cpy0 1000 (xI h 36) (xI h 31)) (xSI 30 (cpy0 4 (xI h 35) (xI h 30)) (xSI 29 (va_up (va_up (va_up (va_up (xI h 29) 0 (xI h 34 0)) 1 (xI h 34 1)) 2 (xI h 34 2)) 3 (xI h 34 3)) (xSI 29 (va_up (va_up (va_up (xI h 29) 0 (xI h 34 0)) 1 (xI h 34 1)) 2 (xI h 34 2)) (xSI 29 (va_up (va_up (xI h 29) 0 (xI h 34 0)) 1 (xI h 34 1)) (xSI 29 (va_up (xI h 29) 0 (xI h 34 0)) h))))))))) :
    XW (xrm 1 0 0) mX7_takeFrom (xE 100 Q X 0 0) 100 0 0 h 0 [some (.ref 29), some (.ref 34)] [] := by
  obtain ⟨hb, hr, hnr, ha21, ha25, hu29, hu34, hw, hnt, hwr⟩ := hbp
  refine xi_aload_n (by decide +kernel : decode mX7_takeFrom.2.1 0 = .ok (.aload_n 0, 1)) rfl rfl (?_ : XW _ _ _ _ _ _ _ 1 _ _)
  refine xi_aload_n (by decide +kernel : decode mX7_takeFrom.2.1 1 = .ok (.aload_n 1, 1)) rfl rfl (?_ : XW _ _ _ _ _ _ _ 2 _ _)
  refine xi_getI (by decide +kernel : decode mX7_takeFrom.2.1 2 = .ok (.getfield 43, 3)) fX7_43 rfl (by omega) rfl (?_ : XW _ _ _ _ _ _ _ 5 _ _)
  refine xi_putI (by decide +kernel : decode mX7_takeFrom.2.1 5 = .ok (.putfield 43, 3)) fX7_43 rfl (by omega) rfl rfl rfl (?_ : XW _ _ _ _ _ _ (xSI 29 (va_up (xI h 29) 0 (xI h 34 0)) h) 8 _ _)
  refine xi_aload_n (by decide +kernel : decode mX7_takeFrom.2.1 8 = .ok (.aload_n 0, 1)) rfl rfl (?_ : XW _ _ _ _ _ _ _ 9 _ _)
  refine xi_aload_n (by decide +kernel : decode mX7_takeFrom.2.1 9 = .ok (.aload_n 1, 1)) rfl rfl (?_ : XW _ _ _ _ _ _ _ 10 _ _)
  refine xi_getI (by decide +kernel : decode mX7_takeFrom.2.1 10 = .ok (.getfield 46, 3)) fX7_46 rfl (by omega) rfl (?_ : XW _ _ _ _ _ _ _ 13 _ [.int (xI h 34 1), .ref 29])
  refine xi_putI (by decide +kernel : decode mX7_takeFrom.2.1 13 = .ok (.putfield 46, 3)) fX7_46 rfl (by omega) rfl rfl rfl (?_ : XW _ _ _ _ _ _ (xSI 29 (va_up (va_up (xI h 29) 0 (xI h 34 0)) 1 (xI h 34 1)) (xSI 29 (va_up (xI h 29) 0 (xI h 34 0)) h)) 16 _ _)
  refine xi_aload_n (by decide +kernel : decode mX7_takeFrom.2.1 16 = .ok (.aload_n 0, 1)) rfl rfl (?_ : XW _ _ _ _ _ _ _ 17 _ _)
  refine xi_aload_n (by decide +kernel : decode mX7_takeFrom.2.1 17 = .ok (.aload_n 1, 1)) rfl rfl (?_ : XW _ _ _ _ _ _ _ 18 _ _)
  refine xi_getI (by decide +kernel : decode mX7_takeFrom.2.1 18 = .ok (.getfield 49, 3)) fX7_49 rfl (by omega) rfl (?_ : XW _ _ _ _ _ _ _ 21 _ [.int (xI h 34 2), .ref 29])
  refine xi_putI (by decide +kernel : decode mX7_takeFrom.2.1 21 = .ok (.putfield 49, 3)) fX7_49 rfl (by omega) rfl rfl rfl (?_ : XW _ _ _ _ _ _ (xSI 29 (va_up (va_up (va_up (xI h 29) 0 (xI h 34 0)) 1 (xI h 34 1)) 2 (xI h 34 2)) (xSI 29 (va_up (va_up (xI h 29) 0 (xI h 34 0)) 1 (xI h 34 1)) (xSI 29 (va_up (xI h 29) 0 (xI h 34 0)) h))) 24 _ _)
  refine xi_aload_n (by decide +kernel : decode mX7_takeFrom.2.1 24 = .ok (.aload_n 0, 1)) rfl rfl (?_ : XW _ _ _ _ _ _ _ 25 _ _)
  refine xi_aload_n (by decide +kernel : decode mX7_takeFrom.2.1 25 = .ok (.aload_n 1, 1)) rfl rfl (?_ : XW _ _ _ _ _ _ _ 26 _ _)
  refine xi_getI (by decide +kernel : decode mX7_takeFrom.2.1 26 = .ok (.getfield 33, 3)) fX7_33 rfl (by omega) rfl (?_ : XW _ _ _ _ _ _ _ 29 _ [.int (xI h 34 3), .ref 29])
  refine xi_putI (by decide +kernel : decode mX7_takeFrom.2.1 29 = .ok (.putfield 33, 3)) fX7_33 rfl (by omega) rfl rfl rfl (?_ : XW _ _ _ _ _ _ (xSI 29 (va_up (va_up (va_up (va_up (xI h 29) 0 (xI h 34 0)) 1 (xI h 34 1)) 2 (xI h 34 2)) 3 (xI h 34 3)) (xSI 29 (va_up (va_up (va_up (xI h 29) 0 (xI h 34 0)) 1 (xI h 34 1)) 2 (xI h 34 2)) (xSI 29 (va_up (va_up (xI h 29) 0 (xI h 34 0)) 1 (xI h 34 1)) (xSI 29 (va_up (xI h 29) 0 (xI h 34 0)) h)))) 32 _ _)
  refine xi_aload_n (by decide +kernel : decode mX7_takeFrom.2.1 32 = .ok (.aload_n 1, 1)) rfl rfl (?_ : XW _ _ _ _ _ _ _ 33 _ _)
  refine xi_getR (y := 35) (by decide +kernel : decode mX7_takeFrom.2.1 33 = .ok (.getfield 9, 3)) fX7_9 rfl (by omega) rfl hu34.2.1 (?_ : XW _ _ _ _ _ _ _ 36 _ _)
  refine xi_iconst (v := 0) (by decide +kernel : decode mX7_takeFrom.2.1 36 = .ok (.iconst 0, 1)) (by decide) (?_ : XW _ _ _ _ _ _ _ 37 _ _)
  refine xi_aload_n (by decide +kernel : decode mX7_takeFrom.2.1 37 = .ok (.aload_n 0, 1)) rfl rfl (?_ : XW _ _ _ _ _ _ _ 38 _ _)
  refine xi_getR (y := 30) (by decide +kernel : decode mX7_takeFrom.2.1 38 = .ok (.getfield 9, 3)) fX7_9 rfl (by omega) rfl hu29.2.1 (?_ : XW _ _ _ _ _ _ _ 41 _ _)
  refine xi_iconst (v := 0) (by decide +kernel : decode mX7_takeFrom.2.1 41 = .ok (.iconst 0, 1)) (by decide) (?_ : XW _ _ _ _ _ _ _ 42 _ _)
  refine xi_iconst (v := 4) (by decide +kernel : decode mX7_takeFrom.2.1 42 = .ok (.iconst 4, 1)) (by decide) (?_ : XW _ _ _ _ _ _ _ 43 _ _)
  refine xi_copyI (k := 4) (by decide +kernel : decode mX7_takeFrom.2.1 43 = .ok (.invokestatic 52, 3)) rfl cW_copy rfl rfl (by omega) (by omega) rfl (by decide) (by omega) (by omega) (by decide) (Nat.le_of_ble_eq_true rfl) (?_ : XW _ _ _ _ _ _ (xSI 30 (cpy0 4 (xI h 35) (xI h 30)) (xSI 29 (va_up (va_up (va_up (va_up (xI h 29) 0 (xI h 34 0)) 1 (xI h 34 1)) 2 (xI h 34 2)) 3 (xI h 34 3)) (xSI 29 (va_up (va_up (va_up (xI h 29) 0 (xI h 34 0)) 1 (xI h 34 1)) 2 (xI h 34 2)) (xSI 29 (va_up (va_up (xI h 29) 0 (xI h 34 0)) 1 (xI h 34 1)) (xSI 29 (va_up (xI h 29) 0 (xI h 34 0)) h))))) 46 _ _)
  refine xi_aload_n (by decide +kernel : decode mX7_takeFrom.2.1 46 = .ok (.aload_n 1, 1)) rfl rfl (?_ : XW _ _ _ _ _ _ _ 47 _ _)
  refine xi_getR (y := 36) (by decide +kernel : decode mX7_takeFrom.2.1 47 = .ok (.getfield 15, 3)) fX7_15 rfl (by omega) rfl hu34.2.2.1 (?_ : XW _ _ _ _ _ _ _ 50 _ _)
  refine xi_iconst (v := 0) (by decide +kernel : decode mX7_takeFrom.2.1 50 = .ok (.iconst 0, 1)) (by decide) (?_ : XW _ _ _ _ _ _ _ 51 _ _)
  refine xi_aload_n (by decide +kernel : decode mX7_takeFrom.2.1 51 = .ok (.aload_n 0, 1)) rfl rfl (?_ : XW _ _ _ _ _ _ _ 52 _ _)
  refine xi_getR (y := 31) (by decide +kernel : decode mX7_takeFrom.2.1 52 = .ok (.getfield 15, 3)) fX7_15 rfl (by omega) rfl hu29.2.2.1 (?_ : XW _ _ _ _ _ _ _ 55 _ _)
  refine xi_iconst (v := 0) (by decide +kernel : decode mX7_takeFrom.2.1 55 = .ok (.iconst 0, 1)) (by decide) (?_ : XW _ _ _ _ _ _ _ 56 _ _)
  refine xi_sipush (v := 1000) (by decide +kernel : decode mX7_takeFrom.2.1 56 = .ok (.sipush 1000, 3)) (by decide) (?_ : XW _ _ _ _ _ _ _ 59 _ _)
  refine xi_copyI (k := 1000) (by decide +kernel : decode mX7_takeFrom.2.1 59 = .ok (.invokestatic 52, 3)) rfl cW_copy rfl rfl (by omega) (by omega) rfl (by decide) (by omega) (by omega) (by decide) (Nat.le_of_ble_eq_true rfl) (?_ : XW _ _ _ _ _ _ (xSI 31 (cpy0 1000 (xI h 36) (xI h 31)) (xSI 30 (cpy0 4 (xI h 35) (xI h 30)) (xSI 29 (va_up (va_up (va_up (va_up (xI h 29) 0 (xI h 34 0)) 1 (xI h 34 1)) 2 (xI h 34 2)) 3 (xI h 34 3)) (xSI 29 (va_up (va_up (va_up (xI h 29) 0 (xI h 34 0)) 1 (xI h 34 1)) 2 (xI h 34 2)) (xSI 29 (va_up (va_up (xI h 29) 0 (xI h 34 0)) 1 (xI h 34 1)) (xSI 29 (va_up (xI h 29) 0 (xI h 34 0)) h)))))) 62 _ _)
  refine xi_aload_n (by decide +kernel : decode mX7_takeFrom.2.1 62 = .ok (.aload_n 1, 1)) rfl rfl (?_ : XW _ _ _ _ _ _ _ 63 _ _)
  refine xi_getR (y := 37) (by decide +kernel : decode mX7_takeFrom.2.1 63 = .ok (.getfield 18, 3)) fX7_18 rfl (by omega) rfl hu34.2.2.2.1 (?_ : XW _ _ _ _ _ _ _ 66 _ _)
  refine xi_iconst (v := 0) (by decide +kernel : decode mX7_takeFrom.2.1 66 = .ok (.iconst 0, 1)) (by decide) (?_ : XW _ _ _ _ _ _ _ 67 _ _)
  refine xi_aload_n (by decide +kernel : decode mX7_takeFrom.2.1 67 = .ok (.aload_n 0, 1)) rfl rfl (?_ : XW _ _ _ _ _ _ _ 68 _ _)
  refine xi_getR (y := 32) (by decide +kernel : decode mX7_takeFrom.2.1 68 = .ok (.getfield 18, 3)) fX7_18 rfl (by omega) rfl hu29.2.2.2.1 (?_ : XW _ _ _ _ _ _ _ 71 _ _)
  refine xi_iconst (v := 0) (by decide +kernel : decode mX7_takeFrom.2.1 71 = .ok (.iconst 0, 1)) (by decide) (?_ : XW _ _ _ _ _ _ _ 72 _ _)
  refine xi_bipush (v := 40) (by decide +kernel : decode mX7_takeFrom.2.1 72 = .ok (.bipush 40, 2)) (by decide) (?_ : XW _ _ _ _ _ _ _ 74 _ _)
  refine xi_copyI (k := 40) (by decide +kernel : decode mX7_takeFrom.2.1 74 = .ok (.invokestatic 52, 3)) rfl cW_copy rfl rfl (by omega) (by omega) rfl (by decide) (by omega) (by omega) (by decide) (Nat.le_of_ble_eq_true rfl) (?_ : XW _ _ _ _ _ _ (xSI 32 (cpy0 40 (xI h 37) (xI h 32)) (xSI 31 (cpy0 1000 (xI h 36) (xI h 31)) (xSI 30 (cpy0 4 (xI h 35) (xI h 30)) (xSI 29 (va_up (va_up (va_up (va_up (xI h 29) 0 (xI h 34 0)) 1 (xI h 34 1)) 2 (xI h 34 2)) 3 (xI h 34 3)) (xSI 29 (va_up (va_up (va_up (xI h 29) 0 (xI h 34 0)) 1 (xI h 34 1)) 2 (xI h 34 2)) (xSI 29 (va_up (va_up (xI h 29) 0 (xI h 34 0)) 1 (xI h 34 1)) (xSI 29 (va_up (xI h 29) 0 (xI h 34 0)) h))))))) 77 _ _)
  refine xi_aload_n (by decide +kernel : decode mX7_takeFrom.2.1 77 = .ok (.aload_n 1, 1)) rfl rfl (?_ : XW _ _ _ _ _ _ _ 78 _ _)
  refine xi_getR (y := 38) (by decide +kernel : decode mX7_takeFrom.2.1 78 = .ok (.getfield 21, 3)) fX7_21 rfl (by omega) rfl hu34.2.2.2.2 (?_ : XW _ _ _ _ _ _ _ 81 _ _)
  refine xi_iconst (v := 0) (by decide +kernel : decode mX7_takeFrom.2.1 81 = .ok (.iconst 0, 1)) (by decide) (?_ : XW _ _ _ _ _ _ _ 82 _ _)
  refine xi_aload_n (by decide +kernel : decode mX7_takeFrom.2.1 82 = .ok (.aload_n 0, 1)) rfl rfl (?_ : XW _ _ _ _ _ _ _ 83 _ _)
  refine xi_getR (y := 33) (by decide +kernel : decode mX7_takeFrom.2.1 83 = .ok (.getfield 21, 3)) fX7_21 rfl (by omega) rfl hu29.2.2.2.2 (?_ : XW _ _ _ _ _ _ _ 86 _ _)
  refine xi_iconst (v := 0) (by decide +kernel : decode mX7_takeFrom.2.1 86 = .ok (.iconst 0, 1)) (by decide) (?_ : XW _ _ _ _ _ _ _ 87 _ _)
  refine xi_iconst (v := 3) (by decide +kernel : decode mX7_takeFrom.2.1 87 = .ok (.iconst 3, 1)) (by decide) (?_ : XW _ _ _ _ _ _ _ 88 _ _)
  refine xi_copyI (k := 3) (by decide +kernel : decode mX7_takeFrom.2.1 88 = .ok (.invokestatic 52, 3)) rfl cW_copy rfl rfl (by omega) (by omega) rfl (by decide) (by omega) (by omega) (by decide) (Nat.le_of_ble_eq_true rfl) (?_ : XW _ _ _ _ _ _ (xSI 33 (cpy0 3 (xI h 38) (xI h 33)) (xSI 32 (cpy0 40 (xI h 37) (xI h 32)) (xSI 31 (cpy0 1000 (xI h 36) (xI h 31)) (xSI 30 (cpy0 4 (xI h 35) (xI h 30)) (xSI 29 (va_up (va_up (va_up (va_up (xI h 29) 0 (xI h 34 0)) 1 (xI h 34 1)) 2 (xI h 34 2)) 3 (xI h 34 3)) (xSI 29 (va_up (va_up (va_up (xI h 29) 0 (xI h 34 0)) 1 (xI h 34 1)) 2 (xI h 34 2)) (xSI 29 (va_up (va_up (xI h 29) 0 (xI h 34 0)) 1 (xI h 34 1)) (xSI 29 (va_up (xI h 29) 0 (xI h 34 0)) h)))))))) 91 _ _)
  exact xi_vret (by decide +kernel : decode mX7_takeFrom.2.1 91 = .ok (.return_, 1)) rfl vc

set_option maxRecDepth 20000 in
theorem v_X10_image_0 {h : XH} {Q : Option Value → XH → Prop} {X : String → XH → Prop} (r : Nat) (hbp : BP r h) 
    (vc : ∃ Q1, XSpec mX7_takeFrom 1 0 0 100 100 [.ref 34, .ref 29] h Q1 xno ∧ ∀ v h1, Q1 v h1 → v = none ∧ (Q none (xSI 0 (va_up (xI h1 0) 9 1) h1))) :
    XW (xrm 2 0 0) mX10_image (xE 100 Q X 0 0) 100 0 0 h 0 [some (.ref 0)] [] := by
  obtain ⟨hb, hr, hnr, ha21, ha25, hu29, hu34, hw, hnt, hwr⟩ := hbp
  refine xi_aload_n (by decide +kernel : decode mX10_image.2.1 0 = .ok (.aload_n 0, 1)) rfl rfl (?_ : XW _ _ _ _ _ _ _ 1 _ _)
  refine xi_getR (y := 34) (by decide +kernel : decode mX10_image.2.1 1 = .ok (.getfield 53, 3)) fX10_53 rfl (by omega) rfl hb.2.2.2.2.2.2.1 (?_ : XW _ _ _ _ _ _ _ 4 _ _)
  refine xi_aload_n (by decide +kernel : decode mX10_image.2.1 4 = .ok (.aload_n 0, 1)) rfl rfl (?_ : XW _ _ _ _ _ _ _ 5 _ _)
  refine xi_getR (y := 29) (by decide +kernel : decode mX10_image.2.1 5 = .ok (.getfield 49, 3)) fX10_49 rfl (by omega) rfl hb.2.2.2.2.2.1 (?_ : XW _ _ _ _ _ _ _ 8 _ _)
  obtain ⟨Q1, sp, vc⟩ := vc
  refine xi_callV (b := 0) (bs := 0) (As := [.ref 29]) (st := []) (by decide +kernel : decode mX10_image.2.1 8 = .ok (.invokevirtual 361, 3)) kX10_361 rfl rfl (by omega) rfl sp (by decide) (by decide) (Nat.le_of_ble_eq_true rfl) (by omega) (fun v9 h1 hq9 => ?_)
  obtain ⟨e9, vc⟩ := vc v9 h1 hq9
  subst e9
  show XW _ _ _ _ _ _ _ 11 _ []
  refine xi_aload_n (by decide +kernel : decode mX10_image.2.1 11 = .ok (.aload_n 0, 1)) rfl rfl (?_ : XW _ _ _ _ _ _ _ 12 _ _)
  refine xi_iconst (v := 1) (by decide +kernel : decode mX10_image.2.1 12 = .ok (.iconst 1, 1)) (by decide) (?_ : XW _ _ _ _ _ _ _ 13 _ _)
  refine xi_putI (by decide +kernel : decode mX10_image.2.1 13 = .ok (.putfield 56, 3)) fX10_56 rfl (by omega) rfl rfl rfl (?_ : XW _ _ _ _ _ _ (xSI 0 (va_up (xI h1 0) 9 1) h1) 16 _ _)
  exact xi_vret (by decide +kernel : decode mX10_image.2.1 16 = .ok (.return_, 1)) rfl vc

set_option maxRecDepth 20000 in
theorem v_X10_restore_0 {h : XH} {Q : Option Value → XH → Prop} {X : String → XH → Prop} (r : Nat) (hbp : BP r h) 
    (vc : ((xI h 0 9) = 0 → (narrow .boolean (.int (xI h 0 9)) = .int (xI h 0 9)) ∧ (Q (some (.int (xI h 0 9))) h)) ∧ (¬ (xI h 0 9) = 0 → ∃ Q1, XSpec mX7_takeFrom 1 0 0 100 100 [.ref 29, .ref 34] h Q1 xno ∧ ∀ v h1, Q1 v h1 → v = none ∧ ((narrow .boolean (.int (xI h1 0 9)) = .int (xI h1 0 9)) ∧ (Q (some (.int (xI h1 0 9))) h1)))) :
    XW (xrm 2 0 0) mX10_restore (xE 100 Q X 0 0) 100 0 0 h 0 [some (.ref 0)] [] := by
  obtain ⟨hb, hr, hnr, ha21, ha25, hu29, hu34, hw, hnt, hwr⟩ := hbp
  refine xi_aload_n (by decide +kernel : decode mX10_restore.2.1 0 = .ok (.aload_n 0, 1)) rfl rfl (?_ : XW _ _ _ _ _ _ _ 1 _ _)
  refine xi_getI (by decide +kernel : decode mX10_restore.2.1 1 = .ok (.getfield 56, 3)) fX10_56 rfl (by omega) rfl (?_ : XW _ _ _ _ _ _ _ 4 _ _)
  refine xi_if_eq (by decide +kernel : decode mX10_restore.2.1 4 = .ok (.ifCond .eq 14, 3)) (by decide) (fun c => (?_ : XW _ _ _ _ _ _ _ 18 _ _)) (fun c => (?_ : XW _ _ _ _ _ _ _ 7 _ _))
  · replace vc := vc.1 c
    refine xi_aload_n (by decide +kernel : decode mX10_restore.2.1 18 = .ok (.aload_n 0, 1)) rfl rfl (?_ : XW _ _ _ _ _ _ _ 19 _ _)
    refine xi_getI (by decide +kernel : decode mX10_restore.2.1 19 = .ok (.getfield 56, 3)) fX10_56 rfl (by omega) rfl (?_ : XW _ _ _ _ _ _ _ 22 _ _)
    obtain ⟨s1, vc⟩ := vc
    exact xi_iret (by decide +kernel : decode mX10_restore.2.1 22 = .ok (.ireturn, 1)) rfl s1 vc
  · replace vc := vc.2 c
    refine xi_aload_n (by decide +kernel : decode mX10_restore.2.1 7 = .ok (.aload_n 0, 1)) rfl rfl (?_ : XW _ _ _ _ _ _ _ 8 _ _)
    refine xi_getR (y := 29) (by decide +kernel : decode mX10_restore.2.1 8 = .ok (.getfield 49, 3)) fX10_49 rfl (by omega) rfl hb.2.2.2.2.2.1 (?_ : XW _ _ _ _ _ _ _ 11 _ _)
    refine xi_aload_n (by decide +kernel : decode mX10_restore.2.1 11 = .ok (.aload_n 0, 1)) rfl rfl (?_ : XW _ _ _ _ _ _ _ 12 _ _)
    refine xi_getR (y := 34) (by decide +kernel : decode mX10_restore.2.1 12 = .ok (.getfield 53, 3)) fX10_53 rfl (by omega) rfl hb.2.2.2.2.2.2.1 (?_ : XW _ _ _ _ _ _ _ 15 _ _)
    obtain ⟨Q1, sp, vc⟩ := vc
    refine xi_callV (b := 0) (bs := 0) (As := [.ref 34]) (st := []) (by decide +kernel : decode mX10_restore.2.1 15 = .ok (.invokevirtual 361, 3)) kX10_361 rfl rfl (by omega) rfl sp (by decide) (by decide) (Nat.le_of_ble_eq_true rfl) (by omega) (fun v9 h1 hq9 => ?_)
    obtain ⟨e9, vc⟩ := vc v9 h1 hq9
    subst e9
    show XW _ _ _ _ _ _ _ 18 _ []
    refine xi_aload_n (by decide +kernel : decode mX10_restore.2.1 18 = .ok (.aload_n 0, 1)) rfl rfl (?_ : XW _ _ _ _ _ _ _ 19 _ _)
    refine xi_getI (by decide +kernel : decode mX10_restore.2.1 19 = .ok (.getfield 56, 3)) fX10_56 rfl (by omega) rfl (?_ : XW _ _ _ _ _ _ _ 22 _ _)
    obtain ⟨s1, vc⟩ := vc
    exact xi_iret (by decide +kernel : decode mX10_restore.2.1 22 = .ok (.ireturn, 1)) rfl s1 vc

set_option maxRecDepth 20000 in
theorem v_X11_be_0 {h : XH} {Q : Option Value → XH → Prop} {X : String → XH → Prop} (n a9 c9 N9 : Nat) (ha9 : SH a9 = .inl (.int, N9)) (hc9 : SH c9 = .inl (.int, N9)) (han : a9 < n) (hcn : c9 < n) 
    (vc : XW (xrm 1 0 0) mX11_be (xE n Q X 0 0) n 0 0 h 2 [some (.ref a9), some (.ref c9), some (.int 0)] []) :
    XW (xrm 1 0 0) mX11_be (xE n Q X 0 0) n 0 0 h 0 [some (.ref a9), some (.ref c9), none] [] := by
  refine xi_iconst (v := 0) (by decide +kernel : decode mX11_be.2.1 0 = .ok (.iconst 0, 1)) (by decide) (?_ : XW _ _ _ _ _ _ _ 1 _ _)
  refine xi_istore_n (ls' := [some (.ref a9), some (.ref c9), some (.int 0)]) (by decide +kernel : decode mX11_be.2.1 1 = .ok (.istore_n 2, 1)) rfl (by decide) rfl (?_ : XW _ _ _ _ _ _ _ 2 _ _)
  exact vc

set_option maxRecDepth 20000 in
theorem v_X11_be_2 {h : XH} {Q : Option Value → XH → Prop} {X : String → XH → Prop} (n a9 c9 N9 : Nat) (ha9 : SH a9 = .inl (.int, N9)) (hc9 : SH c9 = .inl (.int, N9)) (han : a9 < n) (hcn : c9 < n)  (x2 : Int32)
    (vc : ((nI N9) ≤ x2 → Q none h) ∧ (¬ (nI N9) ≤ x2 → (vp_in x2 N9) ∧ ((vp_in x2 N9) ∧ (XW (xrm 1 0 0) mX11_be (xE n Q X 0 0) n 0 0 (xSI a9 (va_up (xI h a9) x2.toNatClampNeg (xI h c9 x2.toNatClampNeg)) h) 2 [some (.ref a9), some (.ref c9), some (.int (x2 + 1))] [])))) :
    XW (xrm 1 0 0) mX11_be (xE n Q X 0 0) n 0 0 h 2 [some (.ref a9), some (.ref c9), some (.int x2)] [] := by
  refine xi_iload_n (by decide +kernel : decode mX11_be.2.1 2 = .ok (.iload_n 2, 1)) rfl rfl (?_ : XW _ _ _ _ _ _ _ 3 _ _)
  refine xi_aload_n (by decide +kernel : decode mX11_be.2.1 3 = .ok (.aload_n 0, 1)) rfl rfl (?_ : XW _ _ _ _ _ _ _ 4 _ _)
  refine xi_alen (v := nI N9) (by decide +kernel : decode mX11_be.2.1 4 = .ok (.arraylength, 1)) ha9 (by omega) (Or.inl rfl) rfl (?_ : XW _ _ _ _ _ _ _ 5 _ _)
  refine xi_icmp_ge (by decide +kernel : decode mX11_be.2.1 5 = .ok (.if_icmp .ge 15, 3)) (by decide) (fun c => (?_ : XW _ _ _ _ _ _ _ 20 _ _)) (fun c => (?_ : XW _ _ _ _ _ _ _ 8 _ _))
  · replace vc := vc.1 c
    exact xi_vret (by decide +kernel : decode mX11_be.2.1 20 = .ok (.return_, 1)) rfl vc
  · replace vc := vc.2 c
    refine xi_aload_n (by decide +kernel : decode mX11_be.2.1 8 = .ok (.aload_n 0, 1)) rfl rfl (?_ : XW _ _ _ _ _ _ _ 9 _ _)
    refine xi_iload_n (by decide +kernel : decode mX11_be.2.1 9 = .ok (.iload_n 2, 1)) rfl rfl (?_ : XW _ _ _ _ _ _ _ 10 _ _)
    refine xi_aload_n (by decide +kernel : decode mX11_be.2.1 10 = .ok (.aload_n 1, 1)) rfl rfl (?_ : XW _ _ _ _ _ _ _ 11 _ _)
    refine xi_iload_n (by decide +kernel : decode mX11_be.2.1 11 = .ok (.iload_n 2, 1)) rfl rfl (?_ : XW _ _ _ _ _ _ _ 12 _ _)
    obtain ⟨s1, vc⟩ := vc
    refine xi_iald (by decide +kernel : decode mX11_be.2.1 12 = .ok (.iaload, 1)) hc9 (by omega) s1 (?_ : XW _ _ _ _ _ _ _ 13 _ _)
    obtain ⟨s1, vc⟩ := vc
    refine xi_iast (by decide +kernel : decode mX11_be.2.1 13 = .ok (.iastore, 1)) ha9 (by omega) s1 (?_ : XW _ _ _ _ _ _ (xSI a9 (va_up (xI h a9) x2.toNatClampNeg (xI h c9 x2.toNatClampNeg)) h) 14 _ _)
    refine xi_iinc (v := x2 + 1) (ls' := [some (.ref a9), some (.ref c9), some (.int (x2 + 1))]) (by decide +kernel : decode mX11_be.2.1 14 = .ok (.iinc 2 1, 3)) rfl rfl (by decide) rfl (?_ : XW _ _ _ _ _ _ _ 17 _ _)
    refine xi_goto (by decide +kernel : decode mX11_be.2.1 17 = .ok (.goto (-15), 3)) (by decide) (?_ : XW _ _ _ _ _ _ _ 2 _ _)
    exact vc

set_option maxRecDepth 20000 in
theorem v_X11_image_0 {h : XH} {Q : Option Value → XH → Prop} {X : String → XH → Prop} (hM : xMod (xP h)) 
    (vc : ∃ Q1, XSpec mX11_be 1 0 0 100 100 [.ref 90, .ref 71] (xSI 56 (va_up (va_up (va_up (va_up (va_up (xI h 56) 2 0) 50 1) 51 (va_up (va_up (xI h 56) 2 0) 50 1 33)) 52 (va_up (va_up (va_up (xI h 56) 2 0) 50 1) 51 (va_up (va_up (xI h 56) 2 0) 50 1 33) 34)) 53 (va_up (va_up (va_up (va_up (xI h 56) 2 0) 50 1) 51 (va_up (va_up (xI h 56) 2 0) 50 1 33)) 52 (va_up (va_up (va_up (xI h 56) 2 0) 50 1) 51 (va_up (va_up (xI h 56) 2 0) 50 1 33) 34) 46)) (xSI 56 (va_up (va_up (va_up (va_up (xI h 56) 2 0) 50 1) 51 (va_up (va_up (xI h 56) 2 0) 50 1 33)) 52 (va_up (va_up (va_up (xI h 56) 2 0) 50 1) 51 (va_up (va_up (xI h 56) 2 0) 50 1 33) 34)) (xSI 56 (va_up (va_up (va_up (xI h 56) 2 0) 50 1) 51 (va_up (va_up (xI h 56) 2 0) 50 1 33)) (xSI 56 (va_up (va_up (xI h 56) 2 0) 50 1) (xSI 56 (va_up (xI h 56) 2 0) h))))) Q1 xno ∧ ∀ v h1, Q1 v h1 → v = none ∧ ((xP h1 56 55 = some 91) ∧ ((xP h1 56 26 = some 72) ∧ (∃ Q1, XSpec mX11_be 1 0 0 100 100 [.ref 91, .ref 72] h1 Q1 xno ∧ ∀ v h2, Q1 v h2 → v = none ∧ ((xP h2 56 56 = some 92) ∧ ((xP h2 56 27 = some 73) ∧ (∃ Q1, XSpec mX11_be 1 0 0 100 100 [.ref 92, .ref 73] h2 Q1 xno ∧ ∀ v h3, Q1 v h3 → v = none ∧ ((xP h3 56 57 = some 93) ∧ ((xP h3 56 28 = some 74) ∧ (∃ Q1, XSpec mX11_be 1 0 0 100 100 [.ref 93, .ref 74] h3 Q1 xno ∧ ∀ v h4, Q1 v h4 → v = none ∧ ((xP h4 56 58 = some 94) ∧ ((xP h4 56 29 = some 75) ∧ (∃ Q1, XSpec mX11_be 1 0 0 100 100 [.ref 94, .ref 75] h4 Q1 xno ∧ ∀ v h5, Q1 v h5 → v = none ∧ ((xP h5 56 59 = some 95) ∧ ((xP h5 56 30 = some 76) ∧ (∃ Q1, XSpec mX11_be 1 0 0 100 100 [.ref 95, .ref 76] h5 Q1 xno ∧ ∀ v h6, Q1 v h6 → v = none ∧ ((xP h6 56 60 = some 96) ∧ ((xP h6 56 32 = some 78) ∧ (∃ Q1, XSpec mX11_be 1 0 0 100 100 [.ref 96, .ref 78] h6 Q1 xno ∧ ∀ v h7, Q1 v h7 → v = none ∧ ((xP h7 56 61 = some 97) ∧ ((xP h7 56 45 = some 87) ∧ (∃ Q1, XSpec mX11_be 1 0 0 100 100 [.ref 97, .ref 87] h7 Q1 xno ∧ ∀ v h8, Q1 v h8 → v = none ∧ ((xP h8 56 62 = some 98) ∧ ((xP h8 56 9 = some 65) ∧ (∃ Q1, XSpec mX11_be 1 0 0 100 100 [.ref 98, .ref 65] h8 Q1 xno ∧ ∀ v h9, Q1 v h9 → v = none ∧ (Q none h9)))))))))))))))))))))))))) :
    XW (xrm 2 0 0) mX11_image (xE 100 Q X 0 0) 100 0 0 h 0 [some (.ref 56)] [] := by
  refine xi_aload_n (by decide +kernel : decode mX11_image.2.1 0 = .ok (.aload_n 0, 1)) rfl rfl (?_ : XW _ _ _ _ _ _ _ 1 _ _)
  refine xi_iconst (v := 0) (by decide +kernel : decode mX11_image.2.1 1 = .ok (.iconst 0, 1)) (by decide) (?_ : XW _ _ _ _ _ _ _ 2 _ _)
  refine xi_putI (by decide +kernel : decode mX11_image.2.1 2 = .ok (.putfield 161, 3)) fX11_161 rfl (by omega) rfl rfl rfl (?_ : XW _ _ _ _ _ _ (xSI 56 (va_up (xI h 56) 2 0) h) 5 _ _)
  refine xi_aload_n (by decide +kernel : decode mX11_image.2.1 5 = .ok (.aload_n 0, 1)) rfl rfl (?_ : XW _ _ _ _ _ _ _ 6 _ _)
  refine xi_iconst (v := 1) (by decide +kernel : decode mX11_image.2.1 6 = .ok (.iconst 1, 1)) (by decide) (?_ : XW _ _ _ _ _ _ _ 7 _ _)
  refine xi_putI (by decide +kernel : decode mX11_image.2.1 7 = .ok (.putfield 336, 3)) fX11_336 rfl (by omega) rfl rfl rfl (?_ : XW _ _ _ _ _ _ (xSI 56 (va_up (va_up (xI h 56) 2 0) 50 1) (xSI 56 (va_up (xI h 56) 2 0) h)) 10 _ _)
  refine xi_aload_n (by decide +kernel : decode mX11_image.2.1 10 = .ok (.aload_n 0, 1)) rfl rfl (?_ : XW _ _ _ _ _ _ _ 11 _ _)
  refine xi_aload_n (by decide +kernel : decode mX11_image.2.1 11 = .ok (.aload_n 0, 1)) rfl rfl (?_ : XW _ _ _ _ _ _ _ 12 _ _)
  refine xi_getI (by decide +kernel : decode mX11_image.2.1 12 = .ok (.getfield 327, 3)) fX11_327 rfl (by omega) rfl (?_ : XW _ _ _ _ _ _ _ 15 _ [.int (va_up (va_up (xI h 56) 2 0) 50 1 33), .ref 56])
  refine xi_putI (by decide +kernel : decode mX11_image.2.1 15 = .ok (.putfield 508, 3)) fX11_508 rfl (by omega) rfl rfl rfl (?_ : XW _ _ _ _ _ _ (xSI 56 (va_up (va_up (va_up (xI h 56) 2 0) 50 1) 51 (va_up (va_up (xI h 56) 2 0) 50 1 33)) (xSI 56 (va_up (va_up (xI h 56) 2 0) 50 1) (xSI 56 (va_up (xI h 56) 2 0) h))) 18 _ _)
  refine xi_aload_n (by decide +kernel : decode mX11_image.2.1 18 = .ok (.aload_n 0, 1)) rfl rfl (?_ : XW _ _ _ _ _ _ _ 19 _ _)
  refine xi_aload_n (by decide +kernel : decode mX11_image.2.1 19 = .ok (.aload_n 0, 1)) rfl rfl (?_ : XW _ _ _ _ _ _ _ 20 _ _)
  refine xi_getI (by decide +kernel : decode mX11_image.2.1 20 = .ok (.getfield 330, 3)) fX11_330 rfl (by omega) rfl (?_ : XW _ _ _ _ _ _ _ 23 _ [.int (va_up (va_up (va_up (xI h 56) 2 0) 50 1) 51 (va_up (va_up (xI h 56) 2 0) 50 1 33) 34), .ref 56])
  refine xi_putI (by decide +kernel : decode mX11_image.2.1 23 = .ok (.putfield 511, 3)) fX11_511 rfl (by omega) rfl rfl rfl (?_ : XW _ _ _ _ _ _ (xSI 56 (va_up (va_up (va_up (va_up (xI h 56) 2 0) 50 1) 51 (va_up (va_up (xI h 56) 2 0) 50 1 33)) 52 (va_up (va_up (va_up (xI h 56) 2 0) 50 1) 51 (va_up (va_up (xI h 56) 2 0) 50 1 33) 34)) (xSI 56 (va_up (va_up (va_up (xI h 56) 2 0) 50 1) 51 (va_up (va_up (xI h 56) 2 0) 50 1 33)) (xSI 56 (va_up (va_up (xI h 56) 2 0) 50 1) (xSI 56 (va_up (xI h 56) 2 0) h)))) 26 _ _)
  refine xi_aload_n (by decide +kernel : decode mX11_image.2.1 26 = .ok (.aload_n 0, 1)) rfl rfl (?_ : XW _ _ _ _ _ _ _ 27 _ _)
  refine xi_aload_n (by decide +kernel : decode mX11_image.2.1 27 = .ok (.aload_n 0, 1)) rfl rfl (?_ : XW _ _ _ _ _ _ _ 28 _ _)
  refine xi_getI (by decide +kernel : decode mX11_image.2.1 28 = .ok (.getfield 333, 3)) fX11_333 rfl (by omega) rfl (?_ : XW _ _ _ _ _ _ _ 31 _ [.int (va_up (va_up (va_up (va_up (xI h 56) 2 0) 50 1) 51 (va_up (va_up (xI h 56) 2 0) 50 1 33)) 52 (va_up (va_up (va_up (xI h 56) 2 0) 50 1) 51 (va_up (va_up (xI h 56) 2 0) 50 1 33) 34) 46), .ref 56])
  refine xi_putI (by decide +kernel : decode mX11_image.2.1 31 = .ok (.putfield 514, 3)) fX11_514 rfl (by omega) rfl rfl rfl (?_ : XW _ _ _ _ _ _ (xSI 56 (va_up (va_up (va_up (va_up (va_up (xI h 56) 2 0) 50 1) 51 (va_up (va_up (xI h 56) 2 0) 50 1 33)) 52 (va_up (va_up (va_up (xI h 56) 2 0) 50 1) 51 (va_up (va_up (xI h 56) 2 0) 50 1 33) 34)) 53 (va_up (va_up (va_up (va_up (xI h 56) 2 0) 50 1) 51 (va_up (va_up (xI h 56) 2 0) 50 1 33)) 52 (va_up (va_up (va_up (xI h 56) 2 0) 50 1) 51 (va_up (va_up (xI h 56) 2 0) 50 1 33) 34) 46)) (xSI 56 (va_up (va_up (va_up (va_up (xI h 56) 2 0) 50 1) 51 (va_up (va_up (xI h 56) 2 0) 50 1 33)) 52 (va_up (va_up (va_up (xI h 56) 2 0) 50 1) 51 (va_up (va_up (xI h 56) 2 0) 50 1 33) 34)) (xSI 56 (va_up (va_up (va_up (xI h 56) 2 0) 50 1) 51 (va_up (va_up (xI h 56) 2 0) 50 1 33)) (xSI 56 (va_up (va_up (xI h 56) 2 0) 50 1) (xSI 56 (va_up (xI h 56) 2 0) h))))) 34 _ _)
  refine xi_aload_n (by decide +kernel : decode mX11_image.2.1 34 = .ok (.aload_n 0, 1)) rfl rfl (?_ : XW _ _ _ _ _ _ _ 35 _ _)
  refine xi_getR (y := 90) (by decide +kernel : decode mX11_image.2.1 35 = .ok (.getfield 134, 3)) fX11_134 rfl (by omega) rfl (mp_placeImage hM) (?_ : XW _ _ _ _ _ _ _ 38 _ _)
  refine xi_aload_n (by decide +kernel : decode mX11_image.2.1 38 = .ok (.aload_n 0, 1)) rfl rfl (?_ : XW _ _ _ _ _ _ _ 39 _ _)
  refine xi_getR (y := 71) (by decide +kernel : decode mX11_image.2.1 39 = .ok (.getfield 73, 3)) fX11_73 rfl (by omega) rfl (mp_place hM) (?_ : XW _ _ _ _ _ _ _ 42 _ _)
  obtain ⟨Q1, sp, vc⟩ := vc
  refine xi_callS (b := 0) (bs := 0) (As := [.ref 90, .ref 71]) (st := []) (by decide +kernel : decode mX11_image.2.1 42 = .ok (.invokestatic 517, 3)) kX11_517 rfl rfl sp (by decide) (by decide) (Nat.le_of_ble_eq_true rfl) (by omega) (fun v9 h1 hq9 => ?_)
  obtain ⟨e9, vc⟩ := vc v9 h1 hq9
  subst e9
  show XW _ _ _ _ _ _ _ 45 _ []
  refine xi_aload_n (by decide +kernel : decode mX11_image.2.1 45 = .ok (.aload_n 0, 1)) rfl rfl (?_ : XW _ _ _ _ _ _ _ 46 _ _)
  obtain ⟨s1, vc⟩ := vc
  refine xi_getR (y := 91) (by decide +kernel : decode mX11_image.2.1 46 = .ok (.getfield 137, 3)) fX11_137 rfl (by omega) rfl s1 (?_ : XW _ _ _ _ _ _ _ 49 _ _)
  refine xi_aload_n (by decide +kernel : decode mX11_image.2.1 49 = .ok (.aload_n 0, 1)) rfl rfl (?_ : XW _ _ _ _ _ _ _ 50 _ _)
  obtain ⟨s1, vc⟩ := vc
  refine xi_getR (y := 72) (by decide +kernel : decode mX11_image.2.1 50 = .ok (.getfield 76, 3)) fX11_76 rfl (by omega) rfl s1 (?_ : XW _ _ _ _ _ _ _ 53 _ _)
  obtain ⟨Q1, sp, vc⟩ := vc
  refine xi_callS (b := 0) (bs := 0) (As := [.ref 91, .ref 72]) (st := []) (by decide +kernel : decode mX11_image.2.1 53 = .ok (.invokestatic 517, 3)) kX11_517 rfl rfl sp (by decide) (by decide) (Nat.le_of_ble_eq_true rfl) (by omega) (fun v9 h2 hq9 => ?_)
  obtain ⟨e9, vc⟩ := vc v9 h2 hq9
  subst e9
  show XW _ _ _ _ _ _ _ 56 _ []
  refine xi_aload_n (by decide +kernel : decode mX11_image.2.1 56 = .ok (.aload_n 0, 1)) rfl rfl (?_ : XW _ _ _ _ _ _ _ 57 _ _)
  obtain ⟨s1, vc⟩ := vc
  refine xi_getR (y := 92) (by decide +kernel : decode mX11_image.2.1 57 = .ok (.getfield 140, 3)) fX11_140 rfl (by omega) rfl s1 (?_ : XW _ _ _ _ _ _ _ 60 _ _)
  refine xi_aload_n (by decide +kernel : decode mX11_image.2.1 60 = .ok (.aload_n 0, 1)) rfl rfl (?_ : XW _ _ _ _ _ _ _ 61 _ _)
  obtain ⟨s1, vc⟩ := vc
  refine xi_getR (y := 73) (by decide +kernel : decode mX11_image.2.1 61 = .ok (.getfield 79, 3)) fX11_79 rfl (by omega) rfl s1 (?_ : XW _ _ _ _ _ _ _ 64 _ _)
  obtain ⟨Q1, sp, vc⟩ := vc
  refine xi_callS (b := 0) (bs := 0) (As := [.ref 92, .ref 73]) (st := []) (by decide +kernel : decode mX11_image.2.1 64 = .ok (.invokestatic 517, 3)) kX11_517 rfl rfl sp (by decide) (by decide) (Nat.le_of_ble_eq_true rfl) (by omega) (fun v9 h3 hq9 => ?_)
  obtain ⟨e9, vc⟩ := vc v9 h3 hq9
  subst e9
  show XW _ _ _ _ _ _ _ 67 _ []
  refine xi_aload_n (by decide +kernel : decode mX11_image.2.1 67 = .ok (.aload_n 0, 1)) rfl rfl (?_ : XW _ _ _ _ _ _ _ 68 _ _)
  obtain ⟨s1, vc⟩ := vc
  refine xi_getR (y := 93) (by decide +kernel : decode mX11_image.2.1 68 = .ok (.getfield 143, 3)) fX11_143 rfl (by omega) rfl s1 (?_ : XW _ _ _ _ _ _ _ 71 _ _)
  refine xi_aload_n (by decide +kernel : decode mX11_image.2.1 71 = .ok (.aload_n 0, 1)) rfl rfl (?_ : XW _ _ _ _ _ _ _ 72 _ _)
  obtain ⟨s1, vc⟩ := vc
  refine xi_getR (y := 74) (by decide +kernel : decode mX11_image.2.1 72 = .ok (.getfield 82, 3)) fX11_82 rfl (by omega) rfl s1 (?_ : XW _ _ _ _ _ _ _ 75 _ _)
  obtain ⟨Q1, sp, vc⟩ := vc
  refine xi_callS (b := 0) (bs := 0) (As := [.ref 93, .ref 74]) (st := []) (by decide +kernel : decode mX11_image.2.1 75 = .ok (.invokestatic 517, 3)) kX11_517 rfl rfl sp (by decide) (by decide) (Nat.le_of_ble_eq_true rfl) (by omega) (fun v9 h4 hq9 => ?_)
  obtain ⟨e9, vc⟩ := vc v9 h4 hq9
  subst e9
  show XW _ _ _ _ _ _ _ 78 _ []
  refine xi_aload_n (by decide +kernel : decode mX11_image.2.1 78 = .ok (.aload_n 0, 1)) rfl rfl (?_ : XW _ _ _ _ _ _ _ 79 _ _)
  obtain ⟨s1, vc⟩ := vc
  refine xi_getR (y := 94) (by decide +kernel : decode mX11_image.2.1 79 = .ok (.getfield 146, 3)) fX11_146 rfl (by omega) rfl s1 (?_ : XW _ _ _ _ _ _ _ 82 _ _)
  refine xi_aload_n (by decide +kernel : decode mX11_image.2.1 82 = .ok (.aload_n 0, 1)) rfl rfl (?_ : XW _ _ _ _ _ _ _ 83 _ _)
  obtain ⟨s1, vc⟩ := vc
  refine xi_getR (y := 75) (by decide +kernel : decode mX11_image.2.1 83 = .ok (.getfield 85, 3)) fX11_85 rfl (by omega) rfl s1 (?_ : XW _ _ _ _ _ _ _ 86 _ _)
  obtain ⟨Q1, sp, vc⟩ := vc
  refine xi_callS (b := 0) (bs := 0) (As := [.ref 94, .ref 75]) (st := []) (by decide +kernel : decode mX11_image.2.1 86 = .ok (.invokestatic 517, 3)) kX11_517 rfl rfl sp (by decide) (by decide) (Nat.le_of_ble_eq_true rfl) (by omega) (fun v9 h5 hq9 => ?_)
  obtain ⟨e9, vc⟩ := vc v9 h5 hq9
  subst e9
  show XW _ _ _ _ _ _ _ 89 _ []
  refine xi_aload_n (by decide +kernel : decode mX11_image.2.1 89 = .ok (.aload_n 0, 1)) rfl rfl (?_ : XW _ _ _ _ _ _ _ 90 _ _)
  obtain ⟨s1, vc⟩ := vc
  refine xi_getR (y := 95) (by decide +kernel : decode mX11_image.2.1 90 = .ok (.getfield 149, 3)) fX11_149 rfl (by omega) rfl s1 (?_ : XW _ _ _ _ _ _ _ 93 _ _)
  refine xi_aload_n (by decide +kernel : decode mX11_image.2.1 93 = .ok (.aload_n 0, 1)) rfl rfl (?_ : XW _ _ _ _ _ _ _ 94 _ _)
  obtain ⟨s1, vc⟩ := vc
  refine xi_getR (y := 76) (by decide +kernel : decode mX11_image.2.1 94 = .ok (.getfield 88, 3)) fX11_88 rfl (by omega) rfl s1 (?_ : XW _ _ _ _ _ _ _ 97 _ _)
  obtain ⟨Q1, sp, vc⟩ := vc
  refine xi_callS (b := 0) (bs := 0) (As := [.ref 95, .ref 76]) (st := []) (by decide +kernel : decode mX11_image.2.1 97 = .ok (.invokestatic 517, 3)) kX11_517 rfl rfl sp (by decide) (by decide) (Nat.le_of_ble_eq_true rfl) (by omega) (fun v9 h6 hq9 => ?_)
  obtain ⟨e9, vc⟩ := vc v9 h6 hq9
  subst e9
  show XW _ _ _ _ _ _ _ 100 _ []
  refine xi_aload_n (by decide +kernel : decode mX11_image.2.1 100 = .ok (.aload_n 0, 1)) rfl rfl (?_ : XW _ _ _ _ _ _ _ 101 _ _)
  obtain ⟨s1, vc⟩ := vc
  refine xi_getR (y := 96) (by decide +kernel : decode mX11_image.2.1 101 = .ok (.getfield 152, 3)) fX11_152 rfl (by omega) rfl s1 (?_ : XW _ _ _ _ _ _ _ 104 _ _)
  refine xi_aload_n (by decide +kernel : decode mX11_image.2.1 104 = .ok (.aload_n 0, 1)) rfl rfl (?_ : XW _ _ _ _ _ _ _ 105 _ _)
  obtain ⟨s1, vc⟩ := vc
  refine xi_getR (y := 78) (by decide +kernel : decode mX11_image.2.1 105 = .ok (.getfield 94, 3)) fX11_94 rfl (by omega) rfl s1 (?_ : XW _ _ _ _ _ _ _ 108 _ _)
  obtain ⟨Q1, sp, vc⟩ := vc
  refine xi_callS (b := 0) (bs := 0) (As := [.ref 96, .ref 78]) (st := []) (by decide +kernel : decode mX11_image.2.1 108 = .ok (.invokestatic 517, 3)) kX11_517 rfl rfl sp (by decide) (by decide) (Nat.le_of_ble_eq_true rfl) (by omega) (fun v9 h7 hq9 => ?_)
  obtain ⟨e9, vc⟩ := vc v9 h7 hq9
  subst e9
  show XW _ _ _ _ _ _ _ 111 _ []
  refine xi_aload_n (by decide +kernel : decode mX11_image.2.1 111 = .ok (.aload_n 0, 1)) rfl rfl (?_ : XW _ _ _ _ _ _ _ 112 _ _)
  obtain ⟨s1, vc⟩ := vc
  refine xi_getR (y := 97) (by decide +kernel : decode mX11_image.2.1 112 = .ok (.getfield 155, 3)) fX11_155 rfl (by omega) rfl s1 (?_ : XW _ _ _ _ _ _ _ 115 _ _)
  refine xi_aload_n (by decide +kernel : decode mX11_image.2.1 115 = .ok (.aload_n 0, 1)) rfl rfl (?_ : XW _ _ _ _ _ _ _ 116 _ _)
  obtain ⟨s1, vc⟩ := vc
  refine xi_getR (y := 87) (by decide +kernel : decode mX11_image.2.1 116 = .ok (.getfield 125, 3)) fX11_125 rfl (by omega) rfl s1 (?_ : XW _ _ _ _ _ _ _ 119 _ _)
  obtain ⟨Q1, sp, vc⟩ := vc
  refine xi_callS (b := 0) (bs := 0) (As := [.ref 97, .ref 87]) (st := []) (by decide +kernel : decode mX11_image.2.1 119 = .ok (.invokestatic 517, 3)) kX11_517 rfl rfl sp (by decide) (by decide) (Nat.le_of_ble_eq_true rfl) (by omega) (fun v9 h8 hq9 => ?_)
  obtain ⟨e9, vc⟩ := vc v9 h8 hq9
  subst e9
  show XW _ _ _ _ _ _ _ 122 _ []
  refine xi_aload_n (by decide +kernel : decode mX11_image.2.1 122 = .ok (.aload_n 0, 1)) rfl rfl (?_ : XW _ _ _ _ _ _ _ 123 _ _)
  obtain ⟨s1, vc⟩ := vc
  refine xi_getR (y := 98) (by decide +kernel : decode mX11_image.2.1 123 = .ok (.getfield 158, 3)) fX11_158 rfl (by omega) rfl s1 (?_ : XW _ _ _ _ _ _ _ 126 _ _)
  refine xi_aload_n (by decide +kernel : decode mX11_image.2.1 126 = .ok (.aload_n 0, 1)) rfl rfl (?_ : XW _ _ _ _ _ _ _ 127 _ _)
  obtain ⟨s1, vc⟩ := vc
  refine xi_getR (y := 65) (by decide +kernel : decode mX11_image.2.1 127 = .ok (.getfield 51, 3)) fX11_51 rfl (by omega) rfl s1 (?_ : XW _ _ _ _ _ _ _ 130 _ _)
  obtain ⟨Q1, sp, vc⟩ := vc
  refine xi_callS (b := 0) (bs := 0) (As := [.ref 98, .ref 65]) (st := []) (by decide +kernel : decode mX11_image.2.1 130 = .ok (.invokestatic 517, 3)) kX11_517 rfl rfl sp (by decide) (by decide) (Nat.le_of_ble_eq_true rfl) (by omega) (fun v9 h9 hq9 => ?_)
  obtain ⟨e9, vc⟩ := vc v9 h9 hq9
  subst e9
  show XW _ _ _ _ _ _ _ 133 _ []
  exact xi_vret (by decide +kernel : decode mX11_image.2.1 133 = .ok (.return_, 1)) rfl vc

set_option maxRecDepth 20000 in
theorem v_X11_restore_0 {h : XH} {Q : Option Value → XH → Prop} {X : String → XH → Prop} (hM : xMod (xP h)) 
    (vc : (¬ (va_up (xI h 56) 2 0 50) = 0 → ∃ Q1, XSpec mX11_be 1 0 0 100 100 [.ref 71, .ref 90] (xSI 56 (va_up (va_up (va_up (va_up (xI h 56) 2 0) 33 (va_up (xI h 56) 2 0 51)) 34 (va_up (va_up (xI h 56) 2 0) 33 (va_up (xI h 56) 2 0 51) 52)) 46 (va_up (va_up (va_up (xI h 56) 2 0) 33 (va_up (xI h 56) 2 0 51)) 34 (va_up (va_up (xI h 56) 2 0) 33 (va_up (xI h 56) 2 0 51) 52) 53)) (xSI 56 (va_up (va_up (va_up (xI h 56) 2 0) 33 (va_up (xI h 56) 2 0 51)) 34 (va_up (va_up (xI h 56) 2 0) 33 (va_up (xI h 56) 2 0 51) 52)) (xSI 56 (va_up (va_up (xI h 56) 2 0) 33 (va_up (xI h 56) 2 0 51)) (xSI 56 (va_up (xI h 56) 2 0) h)))) Q1 xno ∧ ∀ v h1, Q1 v h1 → v = none ∧ ((xP h1 56 26 = some 72) ∧ ((xP h1 56 55 = some 91) ∧ (∃ Q1, XSpec mX11_be 1 0 0 100 100 [.ref 72, .ref 91] h1 Q1 xno ∧ ∀ v h2, Q1 v h2 → v = none ∧ ((xP h2 56 27 = some 73) ∧ ((xP h2 56 56 = some 92) ∧ (∃ Q1, XSpec mX11_be 1 0 0 100 100 [.ref 73, .ref 92] h2 Q1 xno ∧ ∀ v h3, Q1 v h3 → v = none ∧ ((xP h3 56 28 = some 74) ∧ ((xP h3 56 57 = some 93) ∧ (∃ Q1, XSpec mX11_be 1 0 0 100 100 [.ref 74, .ref 93] h3 Q1 xno ∧ ∀ v h4, Q1 v h4 → v = none ∧ ((xP h4 56 29 = some 75) ∧ ((xP h4 56 58 = some 94) ∧ (∃ Q1, XSpec mX11_be 1 0 0 100 100 [.ref 75, .ref 94] h4 Q1 xno ∧ ∀ v h5, Q1 v h5 → v = none ∧ ((xP h5 56 30 = some 76) ∧ ((xP h5 56 59 = some 95) ∧ (∃ Q1, XSpec mX11_be 1 0 0 100 100 [.ref 76, .ref 95] h5 Q1 xno ∧ ∀ v h6, Q1 v h6 → v = none ∧ ((xP h6 56 32 = some 78) ∧ ((xP h6 56 60 = some 96) ∧ (∃ Q1, XSpec mX11_be 1 0 0 100 100 [.ref 78, .ref 96] h6 Q1 xno ∧ ∀ v h7, Q1 v h7 → v = none ∧ ((xP h7 56 45 = some 87) ∧ ((xP h7 56 61 = some 97) ∧ (∃ Q1, XSpec mX11_be 1 0 0 100 100 [.ref 87, .ref 97] h7 Q1 xno ∧ ∀ v h8, Q1 v h8 → v = none ∧ ((xP h8 56 9 = some 65) ∧ ((xP h8 56 62 = some 98) ∧ (∃ Q1, XSpec mX11_be 1 0 0 100 100 [.ref 65, .ref 98] h8 Q1 xno ∧ ∀ v h9, Q1 v h9 → v = none ∧ (Q (some (.int 1)) h9)))))))))))))))))))))))))) ∧ ((va_up (xI h 56) 2 0 50) = 0 → Q (some (.int 0)) (xSI 56 (va_up (xI h 56) 2 0) h))) :
    XW (xrm 2 0 0) mX11_restore (xE 100 Q X 0 0) 100 0 0 h 0 [some (.ref 56)] [] := by
  refine xi_aload_n (by decide +kernel : decode mX11_restore.2.1 0 = .ok (.aload_n 0, 1)) rfl rfl (?_ : XW _ _ _ _ _ _ _ 1 _ _)
  refine xi_iconst (v := 0) (by decide +kernel : decode mX11_restore.2.1 1 = .ok (.iconst 0, 1)) (by decide) (?_ : XW _ _ _ _ _ _ _ 2 _ _)
  refine xi_putI (by decide +kernel : decode mX11_restore.2.1 2 = .ok (.putfield 161, 3)) fX11_161 rfl (by omega) rfl rfl rfl (?_ : XW _ _ _ _ _ _ (xSI 56 (va_up (xI h 56) 2 0) h) 5 _ _)
  refine xi_aload_n (by decide +kernel : decode mX11_restore.2.1 5 = .ok (.aload_n 0, 1)) rfl rfl (?_ : XW _ _ _ _ _ _ _ 6 _ _)
  refine xi_getI (by decide +kernel : decode mX11_restore.2.1 6 = .ok (.getfield 336, 3)) fX11_336 rfl (by omega) rfl (?_ : XW _ _ _ _ _ _ _ 9 _ [.int (va_up (xI h 56) 2 0 50)])
  refine xi_if_ne (by decide +kernel : decode mX11_restore.2.1 9 = .ok (.ifCond .ne 5, 3)) (by decide) (fun c => (?_ : XW _ _ _ _ _ _ _ 14 _ _)) (fun c => (?_ : XW _ _ _ _ _ _ _ 12 _ _))
  · replace vc := vc.1 c
    refine xi_aload_n (by decide +kernel : decode mX11_restore.2.1 14 = .ok (.aload_n 0, 1)) rfl rfl (?_ : XW _ _ _ _ _ _ _ 15 _ _)
    refine xi_aload_n (by decide +kernel : decode mX11_restore.2.1 15 = .ok (.aload_n 0, 1)) rfl rfl (?_ : XW _ _ _ _ _ _ _ 16 _ _)
    refine xi_getI (by decide +kernel : decode mX11_restore.2.1 16 = .ok (.getfield 508, 3)) fX11_508 rfl (by omega) rfl (?_ : XW _ _ _ _ _ _ _ 19 _ [.int (va_up (xI h 56) 2 0 51), .ref 56])
    refine xi_putI (by decide +kernel : decode mX11_restore.2.1 19 = .ok (.putfield 327, 3)) fX11_327 rfl (by omega) rfl rfl rfl (?_ : XW _ _ _ _ _ _ (xSI 56 (va_up (va_up (xI h 56) 2 0) 33 (va_up (xI h 56) 2 0 51)) (xSI 56 (va_up (xI h 56) 2 0) h)) 22 _ _)
    refine xi_aload_n (by decide +kernel : decode mX11_restore.2.1 22 = .ok (.aload_n 0, 1)) rfl rfl (?_ : XW _ _ _ _ _ _ _ 23 _ _)
    refine xi_aload_n (by decide +kernel : decode mX11_restore.2.1 23 = .ok (.aload_n 0, 1)) rfl rfl (?_ : XW _ _ _ _ _ _ _ 24 _ _)
    refine xi_getI (by decide +kernel : decode mX11_restore.2.1 24 = .ok (.getfield 511, 3)) fX11_511 rfl (by omega) rfl (?_ : XW _ _ _ _ _ _ _ 27 _ [.int (va_up (va_up (xI h 56) 2 0) 33 (va_up (xI h 56) 2 0 51) 52), .ref 56])
    refine xi_putI (by decide +kernel : decode mX11_restore.2.1 27 = .ok (.putfield 330, 3)) fX11_330 rfl (by omega) rfl rfl rfl (?_ : XW _ _ _ _ _ _ (xSI 56 (va_up (va_up (va_up (xI h 56) 2 0) 33 (va_up (xI h 56) 2 0 51)) 34 (va_up (va_up (xI h 56) 2 0) 33 (va_up (xI h 56) 2 0 51) 52)) (xSI 56 (va_up (va_up (xI h 56) 2 0) 33 (va_up (xI h 56) 2 0 51)) (xSI 56 (va_up (xI h 56) 2 0) h))) 30 _ _)
    refine xi_aload_n (by decide +kernel : decode mX11_restore.2.1 30 = .ok (.aload_n 0, 1)) rfl rfl (?_ : XW _ _ _ _ _ _ _ 31 _ _)
    refine xi_aload_n (by decide +kernel : decode mX11_restore.2.1 31 = .ok (.aload_n 0, 1)) rfl rfl (?_ : XW _ _ _ _ _ _ _ 32 _ _)
    refine xi_getI (by decide +kernel : decode mX11_restore.2.1 32 = .ok (.getfield 514, 3)) fX11_514 rfl (by omega) rfl (?_ : XW _ _ _ _ _ _ _ 35 _ [.int (va_up (va_up (va_up (xI h 56) 2 0) 33 (va_up (xI h 56) 2 0 51)) 34 (va_up (va_up (xI h 56) 2 0) 33 (va_up (xI h 56) 2 0 51) 52) 53), .ref 56])
    refine xi_putI (by decide +kernel : decode mX11_restore.2.1 35 = .ok (.putfield 333, 3)) fX11_333 rfl (by omega) rfl rfl rfl (?_ : XW _ _ _ _ _ _ (xSI 56 (va_up (va_up (va_up (va_up (xI h 56) 2 0) 33 (va_up (xI h 56) 2 0 51)) 34 (va_up (va_up (xI h 56) 2 0) 33 (va_up (xI h 56) 2 0 51) 52)) 46 (va_up (va_up (va_up (xI h 56) 2 0) 33 (va_up (xI h 56) 2 0 51)) 34 (va_up (va_up (xI h 56) 2 0) 33 (va_up (xI h 56) 2 0 51) 52) 53)) (xSI 56 (va_up (va_up (va_up (xI h 56) 2 0) 33 (va_up (xI h 56) 2 0 51)) 34 (va_up (va_up (xI h 56) 2 0) 33 (va_up (xI h 56) 2 0 51) 52)) (xSI 56 (va_up (va_up (xI h 56) 2 0) 33 (va_up (xI h 56) 2 0 51)) (xSI 56 (va_up (xI h 56) 2 0) h)))) 38 _ _)
    refine xi_aload_n (by decide +kernel : decode mX11_restore.2.1 38 = .ok (.aload_n 0, 1)) rfl rfl (?_ : XW _ _ _ _ _ _ _ 39 _ _)
    refine xi_getR (y := 71) (by decide +kernel : decode mX11_restore.2.1 39 = .ok (.getfield 73, 3)) fX11_73 rfl (by omega) rfl (mp_place hM) (?_ : XW _ _ _ _ _ _ _ 42 _ _)
    refine xi_aload_n (by decide +kernel : decode mX11_restore.2.1 42 = .ok (.aload_n 0, 1)) rfl rfl (?_ : XW _ _ _ _ _ _ _ 43 _ _)
    refine xi_getR (y := 90) (by decide +kernel : decode mX11_restore.2.1 43 = .ok (.getfield 134, 3)) fX11_134 rfl (by omega) rfl (mp_placeImage hM) (?_ : XW _ _ _ _ _ _ _ 46 _ _)
    obtain ⟨Q1, sp, vc⟩ := vc
    refine xi_callS (b := 0) (bs := 0) (As := [.ref 71, .ref 90]) (st := []) (by decide +kernel : decode mX11_restore.2.1 46 = .ok (.invokestatic 517, 3)) kX11_517 rfl rfl sp (by decide) (by decide) (Nat.le_of_ble_eq_true rfl) (by omega) (fun v9 h1 hq9 => ?_)
    obtain ⟨e9, vc⟩ := vc v9 h1 hq9
    subst e9
    show XW _ _ _ _ _ _ _ 49 _ []
    refine xi_aload_n (by decide +kernel : decode mX11_restore.2.1 49 = .ok (.aload_n 0, 1)) rfl rfl (?_ : XW _ _ _ _ _ _ _ 50 _ _)
    obtain ⟨s1, vc⟩ := vc
    refine xi_getR (y := 72) (by decide +kernel : decode mX11_restore.2.1 50 = .ok (.getfield 76, 3)) fX11_76 rfl (by omega) rfl s1 (?_ : XW _ _ _ _ _ _ _ 53 _ _)
    refine xi_aload_n (by decide +kernel : decode mX11_restore.2.1 53 = .ok (.aload_n 0, 1)) rfl rfl (?_ : XW _ _ _ _ _ _ _ 54 _ _)
    obtain ⟨s1, vc⟩ := vc
    refine xi_getR (y := 91) (by decide +kernel : decode mX11_restore.2.1 54 = .ok (.getfield 137, 3)) fX11_137 rfl (by omega) rfl s1 (?_ : XW _ _ _ _ _ _ _ 57 _ _)
    obtain ⟨Q1, sp, vc⟩ := vc
    refine xi_callS (b := 0) (bs := 0) (As := [.ref 72, .ref 91]) (st := []) (by decide +kernel : decode mX11_restore.2.1 57 = .ok (.invokestatic 517, 3)) kX11_517 rfl rfl sp (by decide) (by decide) (Nat.le_of_ble_eq_true rfl) (by omega) (fun v9 h2 hq9 => ?_)
    obtain ⟨e9, vc⟩ := vc v9 h2 hq9
    subst e9
    show XW _ _ _ _ _ _ _ 60 _ []
    refine xi_aload_n (by decide +kernel : decode mX11_restore.2.1 60 = .ok (.aload_n 0, 1)) rfl rfl (?_ : XW _ _ _ _ _ _ _ 61 _ _)
    obtain ⟨s1, vc⟩ := vc
    refine xi_getR (y := 73) (by decide +kernel : decode mX11_restore.2.1 61 = .ok (.getfield 79, 3)) fX11_79 rfl (by omega) rfl s1 (?_ : XW _ _ _ _ _ _ _ 64 _ _)
    refine xi_aload_n (by decide +kernel : decode mX11_restore.2.1 64 = .ok (.aload_n 0, 1)) rfl rfl (?_ : XW _ _ _ _ _ _ _ 65 _ _)
    obtain ⟨s1, vc⟩ := vc
    refine xi_getR (y := 92) (by decide +kernel : decode mX11_restore.2.1 65 = .ok (.getfield 140, 3)) fX11_140 rfl (by omega) rfl s1 (?_ : XW _ _ _ _ _ _ _ 68 _ _)
    obtain ⟨Q1, sp, vc⟩ := vc
    refine xi_callS (b := 0) (bs := 0) (As := [.ref 73, .ref 92]) (st := []) (by decide +kernel : decode mX11_restore.2.1 68 = .ok (.invokestatic 517, 3)) kX11_517 rfl rfl sp (by decide) (by decide) (Nat.le_of_ble_eq_true rfl) (by omega) (fun v9 h3 hq9 => ?_)
    obtain ⟨e9, vc⟩ := vc v9 h3 hq9
    subst e9
    show XW _ _ _ _ _ _ _ 71 _ []
    refine xi_aload_n (by decide +kernel : decode mX11_restore.2.1 71 = .ok (.aload_n 0, 1)) rfl rfl (?_ : XW _ _ _ _ _ _ _ 72 _ _)
    obtain ⟨s1, vc⟩ := vc
    refine xi_getR (y := 74) (by decide +kernel : decode mX11_restore.2.1 72 = .ok (.getfield 82, 3)) fX11_82 rfl (by omega) rfl s1 (?_ : XW _ _ _ _ _ _ _ 75 _ _)
    refine xi_aload_n (by decide +kernel : decode mX11_restore.2.1 75 = .ok (.aload_n 0, 1)) rfl rfl (?_ : XW _ _ _ _ _ _ _ 76 _ _)
    obtain ⟨s1, vc⟩ := vc
    refine xi_getR (y := 93) (by decide +kernel : decode mX11_restore.2.1 76 = .ok (.getfield 143, 3)) fX11_143 rfl (by omega) rfl s1 (?_ : XW _ _ _ _ _ _ _ 79 _ _)
    obtain ⟨Q1, sp, vc⟩ := vc
    refine xi_callS (b := 0) (bs := 0) (As := [.ref 74, .ref 93]) (st := []) (by decide +kernel : decode mX11_restore.2.1 79 = .ok (.invokestatic 517, 3)) kX11_517 rfl rfl sp (by decide) (by decide) (Nat.le_of_ble_eq_true rfl) (by omega) (fun v9 h4 hq9 => ?_)
    obtain ⟨e9, vc⟩ := vc v9 h4 hq9
    subst e9
    show XW _ _ _ _ _ _ _ 82 _ []
    refine xi_aload_n (by decide +kernel : decode mX11_restore.2.1 82 = .ok (.aload_n 0, 1)) rfl rfl (?_ : XW _ _ _ _ _ _ _ 83 _ _)
    obtain ⟨s1, vc⟩ := vc
    refine xi_getR (y := 75) (by decide +kernel : decode mX11_restore.2.1 83 = .ok (.getfield 85, 3)) fX11_85 rfl (by omega) rfl s1 (?_ : XW _ _ _ _ _ _ _ 86 _ _)
    refine xi_aload_n (by decide +kernel : decode mX11_restore.2.1 86 = .ok (.aload_n 0, 1)) rfl rfl (?_ : XW _ _ _ _ _ _ _ 87 _ _)
    obtain ⟨s1, vc⟩ := vc
    refine xi_getR (y := 94) (by decide +kernel : decode mX11_restore.2.1 87 = .ok (.getfield 146, 3)) fX11_146 rfl (by omega) rfl s1 (?_ : XW _ _ _ _ _ _ _ 90 _ _)
    obtain ⟨Q1, sp, vc⟩ := vc
    refine xi_callS (b := 0) (bs := 0) (As := [.ref 75, .ref 94]) (st := []) (by decide +kernel : decode mX11_restore.2.1 90 = .ok (.invokestatic 517, 3)) kX11_517 rfl rfl sp (by decide) (by decide) (Nat.le_of_ble_eq_true rfl) (by omega) (fun v9 h5 hq9 => ?_)
    obtain ⟨e9, vc⟩ := vc v9 h5 hq9
    subst e9
    show XW _ _ _ _ _ _ _ 93 _ []
    refine xi_aload_n (by decide +kernel : decode mX11_restore.2.1 93 = .ok (.aload_n 0, 1)) rfl rfl (?_ : XW _ _ _ _ _ _ _ 94 _ _)
    obtain ⟨s1, vc⟩ := vc
    refine xi_getR (y := 76) (by decide +kernel : decode mX11_restore.2.1 94 = .ok (.getfield 88, 3)) fX11_88 rfl (by omega) rfl s1 (?_ : XW _ _ _ _ _ _ _ 97 _ _)
    refine xi_aload_n (by decide +kernel : decode mX11_restore.2.1 97 = .ok (.aload_n 0, 1)) rfl rfl (?_ : XW _ _ _ _ _ _ _ 98 _ _)
    obtain ⟨s1, vc⟩ := vc
    refine xi_getR (y := 95) (by decide +kernel : decode mX11_restore.2.1 98 = .ok (.getfield 149, 3)) fX11_149 rfl (by omega) rfl s1 (?_ : XW _ _ _ _ _ _ _ 101 _ _)
    obtain ⟨Q1, sp, vc⟩ := vc
    refine xi_callS (b := 0) (bs := 0) (As := [.ref 76, .ref 95]) (st := []) (by decide +kernel : decode mX11_restore.2.1 101 = .ok (.invokestatic 517, 3)) kX11_517 rfl rfl sp (by decide) (by decide) (Nat.le_of_ble_eq_true rfl) (by omega) (fun v9 h6 hq9 => ?_)
    obtain ⟨e9, vc⟩ := vc v9 h6 hq9
    subst e9
    show XW _ _ _ _ _ _ _ 104 _ []
    refine xi_aload_n (by decide +kernel : decode mX11_restore.2.1 104 = .ok (.aload_n 0, 1)) rfl rfl (?_ : XW _ _ _ _ _ _ _ 105 _ _)
    obtain ⟨s1, vc⟩ := vc
    refine xi_getR (y := 78) (by decide +kernel : decode mX11_restore.2.1 105 = .ok (.getfield 94, 3)) fX11_94 rfl (by omega) rfl s1 (?_ : XW _ _ _ _ _ _ _ 108 _ _)
    refine xi_aload_n (by decide +kernel : decode mX11_restore.2.1 108 = .ok (.aload_n 0, 1)) rfl rfl (?_ : XW _ _ _ _ _ _ _ 109 _ _)
    obtain ⟨s1, vc⟩ := vc
    refine xi_getR (y := 96) (by decide +kernel : decode mX11_restore.2.1 109 = .ok (.getfield 152, 3)) fX11_152 rfl (by omega) rfl s1 (?_ : XW _ _ _ _ _ _ _ 112 _ _)
    obtain ⟨Q1, sp, vc⟩ := vc
    refine xi_callS (b := 0) (bs := 0) (As := [.ref 78, .ref 96]) (st := []) (by decide +kernel : decode mX11_restore.2.1 112 = .ok (.invokestatic 517, 3)) kX11_517 rfl rfl sp (by decide) (by decide) (Nat.le_of_ble_eq_true rfl) (by omega) (fun v9 h7 hq9 => ?_)
    obtain ⟨e9, vc⟩ := vc v9 h7 hq9
    subst e9
    show XW _ _ _ _ _ _ _ 115 _ []
    refine xi_aload_n (by decide +kernel : decode mX11_restore.2.1 115 = .ok (.aload_n 0, 1)) rfl rfl (?_ : XW _ _ _ _ _ _ _ 116 _ _)
    obtain ⟨s1, vc⟩ := vc
    refine xi_getR (y := 87) (by decide +kernel : decode mX11_restore.2.1 116 = .ok (.getfield 125, 3)) fX11_125 rfl (by omega) rfl s1 (?_ : XW _ _ _ _ _ _ _ 119 _ _)
    refine xi_aload_n (by decide +kernel : decode mX11_restore.2.1 119 = .ok (.aload_n 0, 1)) rfl rfl (?_ : XW _ _ _ _ _ _ _ 120 _ _)
    obtain ⟨s1, vc⟩ := vc
    refine xi_getR (y := 97) (by decide +kernel : decode mX11_restore.2.1 120 = .ok (.getfield 155, 3)) fX11_155 rfl (by omega) rfl s1 (?_ : XW _ _ _ _ _ _ _ 123 _ _)
    obtain ⟨Q1, sp, vc⟩ := vc
    refine xi_callS (b := 0) (bs := 0) (As := [.ref 87, .ref 97]) (st := []) (by decide +kernel : decode mX11_restore.2.1 123 = .ok (.invokestatic 517, 3)) kX11_517 rfl rfl sp (by decide) (by decide) (Nat.le_of_ble_eq_true rfl) (by omega) (fun v9 h8 hq9 => ?_)
    obtain ⟨e9, vc⟩ := vc v9 h8 hq9
    subst e9
    show XW _ _ _ _ _ _ _ 126 _ []
    refine xi_aload_n (by decide +kernel : decode mX11_restore.2.1 126 = .ok (.aload_n 0, 1)) rfl rfl (?_ : XW _ _ _ _ _ _ _ 127 _ _)
    obtain ⟨s1, vc⟩ := vc
    refine xi_getR (y := 65) (by decide +kernel : decode mX11_restore.2.1 127 = .ok (.getfield 51, 3)) fX11_51 rfl (by omega) rfl s1 (?_ : XW _ _ _ _ _ _ _ 130 _ _)
    refine xi_aload_n (by decide +kernel : decode mX11_restore.2.1 130 = .ok (.aload_n 0, 1)) rfl rfl (?_ : XW _ _ _ _ _ _ _ 131 _ _)
    obtain ⟨s1, vc⟩ := vc
    refine xi_getR (y := 98) (by decide +kernel : decode mX11_restore.2.1 131 = .ok (.getfield 158, 3)) fX11_158 rfl (by omega) rfl s1 (?_ : XW _ _ _ _ _ _ _ 134 _ _)
    obtain ⟨Q1, sp, vc⟩ := vc
    refine xi_callS (b := 0) (bs := 0) (As := [.ref 65, .ref 98]) (st := []) (by decide +kernel : decode mX11_restore.2.1 134 = .ok (.invokestatic 517, 3)) kX11_517 rfl rfl sp (by decide) (by decide) (Nat.le_of_ble_eq_true rfl) (by omega) (fun v9 h9 hq9 => ?_)
    obtain ⟨e9, vc⟩ := vc v9 h9 hq9
    subst e9
    show XW _ _ _ _ _ _ _ 137 _ []
    refine xi_iconst (v := 1) (by decide +kernel : decode mX11_restore.2.1 137 = .ok (.iconst 1, 1)) (by decide) (?_ : XW _ _ _ _ _ _ _ 138 _ _)
    exact xi_iret (by decide +kernel : decode mX11_restore.2.1 138 = .ok (.ireturn, 1)) rfl rfl vc
  · replace vc := vc.2 c
    refine xi_iconst (v := 0) (by decide +kernel : decode mX11_restore.2.1 12 = .ok (.iconst 0, 1)) (by decide) (?_ : XW _ _ _ _ _ _ _ 13 _ _)
    exact xi_iret (by decide +kernel : decode mX11_restore.2.1 13 = .ok (.ireturn, 1)) rfl rfl vc

