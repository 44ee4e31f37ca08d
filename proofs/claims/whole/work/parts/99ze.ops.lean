/-! THE LAW: its calls, one after another -/
theorem o_count {xs : Nat → Int32} {L B S : Nat} {x4 : Int32} {h : XH} {r : Nat} {s : SG} (hC : CI h r s) (hM : MI h s) (hg : GoodS s) (V1 : vp_in (x4 + 1) L) (V2 : vp_in (x4 + 2) L) (V3 : vp_in (x4 + 3) L) (V4 : vp_in (x4 + 4) L) (V5 : vp_in (x4 + 5) L) (K : ∀ h', LInv h' → KWx xs L B S x4 h') : XW room_1 mL_law (xEL xs L) 100 (B + 4) (S + 24) h 358 [some (.ref 3000), some (.ref 0), some (.ref 56), some (.ref 99), some (.int x4), none, none, none] [] := by
  refine v_L_law_358 (Q := fun _ _ => True) (X := xno) xs L B S x4 ⟨V1, _, w_count _ (A := wsA h r s _) (B := wsB h r s) kd1_le (wsC_i hC (s_X10_count hC hg _)), ?_⟩
  intro v h3 hw
  have t := cl_si (KW := KWx xs L B S x4) hw (fun h1 m1 => s_X11_count m1 hg _) (fun _ w w' p p' => p.trans p'.symm) hM hg (Nat.le_trans kd1_le (by decide)) K
  exact ⟨_, t.1, V1, t.2⟩
theorem o_exit {xs : Nat → Int32} {L B S : Nat} {x4 : Int32} {h : XH} {r : Nat} {s : SG} (hC : CI h r s) (hM : MI h s) (hg : GoodS s) (V1 : vp_in (x4 + 1) L) (V2 : vp_in (x4 + 2) L) (V3 : vp_in (x4 + 3) L) (V4 : vp_in (x4 + 4) L) (V5 : vp_in (x4 + 5) L) (K : ∀ h', LInv h' → KWx xs L B S x4 h') : XW room_1 mL_law (xEL xs L) 100 (B + 4) (S + 24) h 414 [some (.ref 3000), some (.ref 0), some (.ref 56), some (.ref 99), some (.int x4), none, none, none] [] := by
  refine v_L_law_414 (Q := fun _ _ => True) (X := xno) xs L B S x4 ⟨V1, V2, _, w_exit _ _ (A := wsA h r s _) (B := wsB h r s) kd1_le (wsC_i hC (s_X10_exit hC hg _ _)), ?_⟩
  intro v h3 hw
  have t := cl_si (KW := KWx xs L B S x4) hw (fun h1 m1 => s_X11_exit m1 hg _ _) (fun _ w w' p p' => p.trans p'.symm) hM hg (Nat.le_trans kd1_le (by decide)) K
  exact ⟨_, t.1, V1, V2, t.2⟩
theorem o_goes {xs : Nat → Int32} {L B S : Nat} {x4 : Int32} {h : XH} {r : Nat} {s : SG} (hC : CI h r s) (hM : MI h s) (hg : GoodS s) (V1 : vp_in (x4 + 1) L) (V2 : vp_in (x4 + 2) L) (V3 : vp_in (x4 + 3) L) (V4 : vp_in (x4 + 4) L) (V5 : vp_in (x4 + 5) L) (K : ∀ h', LInv h' → KWx xs L B S x4 h') : XW room_1 mL_law (xEL xs L) 100 (B + 4) (S + 24) h 482 [some (.ref 3000), some (.ref 0), some (.ref 56), some (.ref 99), some (.int x4), none, none, none] [] := by
  refine v_L_law_482 (Q := fun _ _ => True) (X := xno) xs L B S x4 ⟨V1, V2, _, w_goes _ _ (A := wsA h r s _) (B := wsB h r s) kd1_le (wsC_i hC (s_X10_goes hC hg _ _)), ?_⟩
  intro v h3 hw
  have t := cl_si (KW := KWx xs L B S x4) hw (fun h1 m1 => s_X11_goes m1 hg _ _) (fun _ w w' p p' => p.trans p'.symm) hM hg (Nat.le_trans kd1_le (by decide)) K
  exact ⟨_, t.1, V1, V2, t.2⟩
theorem o_piece {xs : Nat → Int32} {L B S : Nat} {x4 : Int32} {h : XH} {r : Nat} {s : SG} (hC : CI h r s) (hM : MI h s) (hg : GoodS s) (V1 : vp_in (x4 + 1) L) (V2 : vp_in (x4 + 2) L) (V3 : vp_in (x4 + 3) L) (V4 : vp_in (x4 + 4) L) (V5 : vp_in (x4 + 5) L) (K : ∀ h', LInv h' → KWx xs L B S x4 h') : XW room_1 mL_law (xEL xs L) 100 (B + 4) (S + 24) h 687 [some (.ref 3000), some (.ref 0), some (.ref 56), some (.ref 99), some (.int x4), none, none, none] [] := by
  refine v_L_law_687 (Q := fun _ _ => True) (X := xno) xs L B S x4 ⟨V1, _, w_piece _ (A := wsA h r s _) (B := wsB h r s) kd1_le (wsC_i hC (s_X10_piece hC hg _)), ?_⟩
  intro v h3 hw
  have t := cl_si (KW := KWx xs L B S x4) hw (fun h1 m1 => s_X11_piece m1 hg _) (fun _ w w' p p' => p.trans p'.symm) hM hg (Nat.le_trans kd1_le (by decide)) K
  exact ⟨_, t.1, V1, t.2⟩
theorem o_rolled {xs : Nat → Int32} {L B S : Nat} {x4 : Int32} {h : XH} {r : Nat} {s : SG} (hC : CI h r s) (hM : MI h s) (hg : GoodS s) (V1 : vp_in (x4 + 1) L) (V2 : vp_in (x4 + 2) L) (V3 : vp_in (x4 + 3) L) (V4 : vp_in (x4 + 4) L) (V5 : vp_in (x4 + 5) L) (K : ∀ h', LInv h' → KWx xs L B S x4 h') : XW room_1 mL_law (xEL xs L) 100 (B + 4) (S + 24) h 743 [some (.ref 3000), some (.ref 0), some (.ref 56), some (.ref 99), some (.int x4), none, none, none] [] := by
  refine v_L_law_743 (Q := fun _ _ => True) (X := xno) xs L B S x4 ⟨V1, V2, _, w_rolled _ _ (A := wsA h r s _) (B := wsB h r s) kd1_le (wsC_i hC (s_X10_rolled hC hg _ _)), ?_⟩
  intro v h3 hw
  have t := cl_si (KW := KWx xs L B S x4) hw (fun h1 m1 => s_X11_rolled m1 hg _ _) (fun _ w w' p p' => p.trans p'.symm) hM hg (Nat.le_trans kd1_le (by decide)) K
  exact ⟨_, t.1, V1, V2, t.2⟩
theorem o_most {xs : Nat → Int32} {L B S : Nat} {x4 : Int32} {h : XH} {r : Nat} {s : SG} (hC : CI h r s) (hM : MI h s) (hg : GoodS s) (V1 : vp_in (x4 + 1) L) (V2 : vp_in (x4 + 2) L) (V3 : vp_in (x4 + 3) L) (V4 : vp_in (x4 + 4) L) (V5 : vp_in (x4 + 5) L) (K : ∀ h', LInv h' → KWx xs L B S x4 h') : XW room_1 mL_law (xEL xs L) 100 (B + 4) (S + 24) h 1477 [some (.ref 3000), some (.ref 0), some (.ref 56), some (.ref 99), some (.int x4), none, none, none] [] := by
  refine v_L_law_1477 (Q := fun _ _ => True) (X := xno) xs L B S x4 ⟨V1, _, w_most _ (A := wsA h r s _) (B := wsB h r s) kd1_le (wsC_i hC (s_X10_most hC hg _)), ?_⟩
  intro v h3 hw
  have t := cl_si (KW := KWx xs L B S x4) hw (fun h1 m1 => s_X11_most m1 hg _) (fun _ w w' p p' => p.trans p'.symm) hM hg (Nat.le_trans kd1_le (by decide)) K
  exact ⟨_, t.1, V1, t.2⟩
theorem o_wanted {xs : Nat → Int32} {L B S : Nat} {x4 : Int32} {h : XH} {r : Nat} {s : SG} (hC : CI h r s) (hM : MI h s) (hg : GoodS s) (V1 : vp_in (x4 + 1) L) (V2 : vp_in (x4 + 2) L) (V3 : vp_in (x4 + 3) L) (V4 : vp_in (x4 + 4) L) (V5 : vp_in (x4 + 5) L) (K : ∀ h', LInv h' → KWx xs L B S x4 h') : XW room_1 mL_law (xEL xs L) 100 (B + 4) (S + 24) h 1533 [some (.ref 3000), some (.ref 0), some (.ref 56), some (.ref 99), some (.int x4), none, none, none] [] := by
  refine v_L_law_1533 (Q := fun _ _ => True) (X := xno) xs L B S x4 ⟨V1, V2, V3, _, w_wanted _ _ (A := wsA h r s _) (B := wsB h r s) kd1_le (wsC_i hC (s_X10_wanted hC hg _ _)), ?_⟩
  intro v h3 hw
  have t := cl_si (KW := KWx xs L B S x4) hw (fun h1 m1 => s_X11_wanted m1 hg _ _) (fun _ w w' p p' => p.trans p'.symm) hM hg (Nat.le_trans kd1_le (by decide)) K
  exact ⟨_, t.1, V1, V2, V3, t.2⟩
theorem o_choose {xs : Nat → Int32} {L B S : Nat} {x4 : Int32} {h : XH} {r : Nat} {s : SG} (hC : CI h r s) (hM : MI h s) (hg : GoodS s) (V1 : vp_in (x4 + 1) L) (V2 : vp_in (x4 + 2) L) (V3 : vp_in (x4 + 3) L) (V4 : vp_in (x4 + 4) L) (V5 : vp_in (x4 + 5) L) (K : ∀ h', LInv h' → KWx xs L B S x4 h') : XW room_1 mL_law (xEL xs L) 100 (B + 4) (S + 24) h 1700 [some (.ref 3000), some (.ref 0), some (.ref 56), some (.ref 99), some (.int x4), none, none, none] [] := by
  refine v_L_law_1700 (Q := fun _ _ => True) (X := xno) xs L B S x4 ⟨V1, V2, V3, V4, _, w_choose _ _ _ _ (A := wsA h r s _) (B := wsB h r s) (wsC_i hC (s_X10_choose hC hg _ _ _ _)), ?_⟩
  intro v h3 hw
  have t := cl_si (KW := KWx xs L B S x4) hw (fun h1 m1 => s_X11_choose m1 hg _ _ _ _) (fun _ w w' p p' => p.trans p'.symm) hM hg kd2_le K
  exact ⟨_, t.1, V1, V2, V3, V4, t.2⟩
theorem o_often {xs : Nat → Int32} {L B S : Nat} {x4 : Int32} {h : XH} {r : Nat} {s : SG} (hC : CI h r s) (hM : MI h s) (hg : GoodS s) (V1 : vp_in (x4 + 1) L) (V2 : vp_in (x4 + 2) L) (V3 : vp_in (x4 + 3) L) (V4 : vp_in (x4 + 4) L) (V5 : vp_in (x4 + 5) L) (K : ∀ h', LInv h' → KWx xs L B S x4 h') : XW room_1 mL_law (xEL xs L) 100 (B + 4) (S + 24) h 1792 [some (.ref 3000), some (.ref 0), some (.ref 56), some (.ref 99), some (.int x4), none, none, none] [] := by
  refine v_L_law_1792 (Q := fun _ _ => True) (X := xno) xs L B S x4 ⟨V1, _, w_often _ (A := wsA h r s _) (B := wsB h r s) kd1_le (wsC_i hC (s_X10_often hC hg _)), ?_⟩
  intro v h3 hw
  have t := cl_si (KW := KWx xs L B S x4) hw (fun h1 m1 => s_X11_often m1 hg _) (fun _ w w' p p' => p.trans p'.symm) hM hg (Nat.le_trans kd1_le (by decide)) K
  exact ⟨_, t.1, V1, t.2⟩
theorem o_whom {xs : Nat → Int32} {L B S : Nat} {x4 : Int32} {h : XH} {r : Nat} {s : SG} (hC : CI h r s) (hM : MI h s) (hg : GoodS s) (V1 : vp_in (x4 + 1) L) (V2 : vp_in (x4 + 2) L) (V3 : vp_in (x4 + 3) L) (V4 : vp_in (x4 + 4) L) (V5 : vp_in (x4 + 5) L) (K : ∀ h', LInv h' → KWx xs L B S x4 h') : XW room_1 mL_law (xEL xs L) 100 (B + 4) (S + 24) h 2220 [some (.ref 3000), some (.ref 0), some (.ref 56), some (.ref 99), some (.int x4), none, none, none] [] := by
  refine v_L_law_2220 (Q := fun _ _ => True) (X := xno) xs L B S x4 ⟨V1, V2, V3, V4, _, w_whom _ _ _ _ (A := wsA h r s _) (B := wsB h r s) (wsC_i hC (s_X10_whom hC hg _ _ _ _)), ?_⟩
  intro v h3 hw
  have t := cl_si (KW := KWx xs L B S x4) hw (fun h1 m1 => s_X11_whom m1 hg _ _ _ _) (fun _ w w' p p' => p.trans p'.symm) hM hg kd2_le K
  exact ⟨_, t.1, V1, V2, V3, V4, t.2⟩
theorem o_grains {xs : Nat → Int32} {L B S : Nat} {x4 : Int32} {h : XH} {r : Nat} {s : SG} (hC : CI h r s) (hM : MI h s) (hg : GoodS s) (V1 : vp_in (x4 + 1) L) (V2 : vp_in (x4 + 2) L) (V3 : vp_in (x4 + 3) L) (V4 : vp_in (x4 + 4) L) (V5 : vp_in (x4 + 5) L) (K : ∀ h', LInv h' → KWx xs L B S x4 h') : XW room_1 mL_law (xEL xs L) 100 (B + 4) (S + 24) h 1105 [some (.ref 3000), some (.ref 0), some (.ref 56), some (.ref 99), some (.int x4), none, none, none] [] := by
  refine v_L_law_1105 (Q := fun _ _ => True) (X := xno) xs L B S x4 ⟨V1, V2, V3, _, w_grains _ _ _ (A := wsL h r s _) (B := wsB h r s) (wsC_l hC (s_X10_grains hC hg _ _ _)), ?_⟩
  intro v h3 hw
  have t := cl_sl (KW := KWx xs L B S x4) hw (fun h1 m1 => s_X11_grains m1 hg _ _ _) (fun _ w w' p p' => p.trans p'.symm) hM hg kd2_le K
  exact ⟨_, t.1, V1, V2, V3, t.2⟩
theorem o_stood {xs : Nat → Int32} {L B S : Nat} {x4 : Int32} {h : XH} {r : Nat} {s : SG} (hC : CI h r s) (hM : MI h s) (hg : GoodS s) (V1 : vp_in (x4 + 1) L) (V2 : vp_in (x4 + 2) L) (V3 : vp_in (x4 + 3) L) (V4 : vp_in (x4 + 4) L) (V5 : vp_in (x4 + 5) L) (K : ∀ h', LInv h' → KWx xs L B S x4 h') : XW room_1 mL_law (xEL xs L) 100 (B + 4) (S + 24) h 1184 [some (.ref 3000), some (.ref 0), some (.ref 56), some (.ref 99), some (.int x4), none, none, none] [] := by
  refine v_L_law_1184 (Q := fun _ _ => True) (X := xno) xs L B S x4 ⟨V1, V2, V3, _, w_stood _ _ _ (A := wsL h r s _) (B := wsB h r s) (wsC_l hC (s_X10_stood hC hg _ _ _)), ?_⟩
  intro v h3 hw
  have t := cl_sl (KW := KWx xs L B S x4) hw (fun h1 m1 => s_X11_stood m1 hg _ _ _) (fun _ w w' p p' => p.trans p'.symm) hM hg kd2_le K
  exact ⟨_, t.1, V1, V2, V3, t.2⟩
theorem o_first {xs : Nat → Int32} {L B S : Nat} {x4 : Int32} {h : XH} {r : Nat} {s : SG} (hC : CI h r s) (hM : MI h s) (hg : GoodS s) (V1 : vp_in (x4 + 1) L) (V2 : vp_in (x4 + 2) L) (V3 : vp_in (x4 + 3) L) (V4 : vp_in (x4 + 4) L) (V5 : vp_in (x4 + 5) L) (K : ∀ h', LInv h' → KWx xs L B S x4 h') : XW room_1 mL_law (xEL xs L) 100 (B + 4) (S + 24) h 1319 [some (.ref 3000), some (.ref 0), some (.ref 56), some (.ref 99), some (.int x4), none, none, none] [] := by
  refine v_L_law_1319 (Q := fun _ _ => True) (X := xno) xs L B S x4 ⟨V1, V2, V3, V4, _, w_first _ _ _ _ (A := wsL h r s _) (B := wsB h r s) (wsC_l hC (s_X10_first hC hg _ _ _ _)), ?_⟩
  intro v h3 hw
  have t := cl_sl (KW := KWx xs L B S x4) hw (fun h1 m1 => s_X11_first m1 hg _ _ _ _) (fun _ w w' p p' => p.trans p'.symm) hM hg kd2_le K
  exact ⟨_, t.1, V1, V2, V3, V4, t.2⟩
theorem o_matters {xs : Nat → Int32} {L B S : Nat} {x4 : Int32} {h : XH} {r : Nat} {s : SG} (hC : CI h r s) (hM : MI h s) (hg : GoodS s) (V1 : vp_in (x4 + 1) L) (V2 : vp_in (x4 + 2) L) (V3 : vp_in (x4 + 3) L) (V4 : vp_in (x4 + 4) L) (V5 : vp_in (x4 + 5) L) (K : ∀ h', LInv h' → KWx xs L B S x4 h') : XW room_1 mL_law (xEL xs L) 100 (B + 4) (S + 24) h 1410 [some (.ref 3000), some (.ref 0), some (.ref 56), some (.ref 99), some (.int x4), none, none, none] [] := by
  refine v_L_law_1410 (Q := fun _ _ => True) (X := xno) xs L B S x4 ⟨V1, V2, _, w_matters _ _ (A := wsL h r s _) (B := wsB h r s) (wsC_l hC (s_X10_matters hC hg _ _)), ?_⟩
  intro v h3 hw
  have t := cl_sl (KW := KWx xs L B S x4) hw (fun h1 m1 => s_X11_matters m1 hg _ _) (fun _ w w' p p' => p.trans p'.symm) hM hg kd2_le K
  exact ⟨_, t.1, V1, V2, t.2⟩
theorem o_ahead {xs : Nat → Int32} {L B S : Nat} {x4 : Int32} {h : XH} {r : Nat} {s : SG} (hC : CI h r s) (hM : MI h s) (hg : GoodS s) (V1 : vp_in (x4 + 1) L) (V2 : vp_in (x4 + 2) L) (V3 : vp_in (x4 + 3) L) (V4 : vp_in (x4 + 4) L) (V5 : vp_in (x4 + 5) L) (K : ∀ h', LInv h' → KWx xs L B S x4 h') : XW room_1 mL_law (xEL xs L) 100 (B + 4) (S + 24) h 1633 [some (.ref 3000), some (.ref 0), some (.ref 56), some (.ref 99), some (.int x4), none, none, none] [] := by
  refine v_L_law_1633 (Q := fun _ _ => True) (X := xno) xs L B S x4 ⟨V1, V2, _, w_ahead _ _ (A := wsL h r s _) (B := wsB h r s) (wsC_l hC (s_X10_ahead hC hg _ _)), ?_⟩
  intro v h3 hw
  have t := cl_sl (KW := KWx xs L B S x4) hw (fun h1 m1 => s_X11_ahead m1 hg _ _) (fun _ w w' p p' => p.trans p'.symm) hM hg kd2_le K
  exact ⟨_, t.1, V1, V2, t.2⟩
theorem o_unlike {xs : Nat → Int32} {L B S : Nat} {x4 : Int32} {h : XH} {r : Nat} {s : SG} (hC : CI h r s) (hM : MI h s) (hg : GoodS s) (V1 : vp_in (x4 + 1) L) (V2 : vp_in (x4 + 2) L) (V3 : vp_in (x4 + 3) L) (V4 : vp_in (x4 + 4) L) (V5 : vp_in (x4 + 5) L) (K : ∀ h', LInv h' → KWx xs L B S x4 h') : XW room_1 mL_law (xEL xs L) 100 (B + 4) (S + 24) h 1848 [some (.ref 3000), some (.ref 0), some (.ref 56), some (.ref 99), some (.int x4), none, none, none] [] := by
  refine v_L_law_1848 (Q := fun _ _ => True) (X := xno) xs L B S x4 ⟨V1, _, w_unlike _ (A := wsL h r s _) (B := wsB h r s) kd1_le (wsC_l hC (s_X10_unlike hC hg _)), ?_⟩
  intro v h3 hw
  have t := cl_sl (KW := KWx xs L B S x4) hw (fun h1 m1 => s_X11_unlike m1 hg _) (fun _ w w' p p' => p.trans p'.symm) hM hg (Nat.le_trans kd1_le (by decide)) K
  exact ⟨_, t.1, V1, t.2⟩
theorem o_ended {xs : Nat → Int32} {L B S : Nat} {x4 : Int32} {h : XH} {r : Nat} {s : SG} (hC : CI h r s) (hM : MI h s) (hg : GoodS s) (V1 : vp_in (x4 + 1) L) (V2 : vp_in (x4 + 2) L) (V3 : vp_in (x4 + 3) L) (V4 : vp_in (x4 + 4) L) (V5 : vp_in (x4 + 5) L) (K : ∀ h', LInv h' → KWx xs L B S x4 h') : XW room_1 mL_law (xEL xs L) 100 (B + 4) (S + 24) h 2074 [some (.ref 3000), some (.ref 0), some (.ref 56), some (.ref 99), some (.int x4), none, none, none] [] := by
  refine v_L_law_2074 (Q := fun _ _ => True) (X := xno) xs L B S x4 ⟨V1, V2, _, w_ended _ _ (A := wsL h r s _) (B := wsB h r s) (wsC_l hC (s_X10_ended hC hg _ _)), ?_⟩
  intro v h3 hw
  have t := cl_sl (KW := KWx xs L B S x4) hw (fun h1 m1 => s_X11_ended m1 hg _ _) (fun _ w w' p p' => p.trans p'.symm) hM hg kd2_le K
  exact ⟨_, t.1, V1, V2, t.2⟩
theorem o_together {xs : Nat → Int32} {L B S : Nat} {x4 : Int32} {h : XH} {r : Nat} {s : SG} (hC : CI h r s) (hM : MI h s) (hg : GoodS s) (V1 : vp_in (x4 + 1) L) (V2 : vp_in (x4 + 2) L) (V3 : vp_in (x4 + 3) L) (V4 : vp_in (x4 + 4) L) (V5 : vp_in (x4 + 5) L) (K : ∀ h', LInv h' → KWx xs L B S x4 h') : XW room_1 mL_law (xEL xs L) 100 (B + 4) (S + 24) h 2141 [some (.ref 3000), some (.ref 0), some (.ref 56), some (.ref 99), some (.int x4), none, none, none] [] := by
  refine v_L_law_2141 (Q := fun _ _ => True) (X := xno) xs L B S x4 ⟨V1, V2, V3, _, w_together _ _ _ (A := wsL h r s _) (B := wsB h r s) (wsC_l hC (s_X10_together hC hg _ _ _)), ?_⟩
  intro v h3 hw
  have t := cl_sl (KW := KWx xs L B S x4) hw (fun h1 m1 => s_X11_together m1 hg _ _ _) (fun _ w w' p p' => p.trans p'.symm) hM hg kd2_le K
  exact ⟨_, t.1, V1, V2, V3, t.2⟩
theorem o_half {xs : Nat → Int32} {L B S : Nat} {x4 : Int32} {h : XH} {r : Nat} {s : SG} (hC : CI h r s) (hM : MI h s) (hg : GoodS s) (V1 : vp_in (x4 + 1) L) (V2 : vp_in (x4 + 2) L) (V3 : vp_in (x4 + 3) L) (V4 : vp_in (x4 + 4) L) (V5 : vp_in (x4 + 5) L) (K : ∀ h', LInv h' → KWx xs L B S x4 h') : XW room_1 mL_law (xEL xs L) 100 (B + 4) (S + 24) h 1263 [some (.ref 3000), some (.ref 0), some (.ref 56), some (.ref 99), some (.int x4), none, none, none] [] := by
  refine v_L_law_1263 (Q := fun _ _ => True) (X := xno) xs L B S x4 ⟨V1, _, w_half _ (A := wsA h r s _) (B := wsB h r s) kd1_le (wsC_i hC (s_X10_half hC hg _)), ?_⟩
  intro v h3 hw
  have t := cl_si (KW := KWx xs L B S x4) hw (fun h1 m1 => s_X11_half m1 hg _) (fun _ w w' p p' => HalfR_u p p') hM hg (Nat.le_trans kd1_le (by decide)) K
  exact ⟨_, t.1, V1, t.2⟩
theorem o_round {xs : Nat → Int32} {L B S : Nat} {x4 : Int32} {h : XH} {r : Nat} {s : SG} (hC : CI h r s) (hM : MI h s) (hg : GoodS s) (V1 : vp_in (x4 + 1) L) (V2 : vp_in (x4 + 2) L) (V3 : vp_in (x4 + 3) L) (V4 : vp_in (x4 + 4) L) (V5 : vp_in (x4 + 5) L) (K : ∀ h', LInv h' → KWx xs L B S x4 h') : XW room_1 mL_law (xEL xs L) 100 (B + 4) (S + 24) h 1049 [some (.ref 3000), some (.ref 0), some (.ref 56), some (.ref 99), some (.int x4), none, none, none] [] := by
  refine v_L_law_1049 (Q := fun _ _ => True) (X := xno) xs L B S x4 ⟨V1, _, w_round _ (A := wsA h r s _) (B := wsB h r s) kd1_le (wsC_i hC (s_X10_round hC hg _)), ?_⟩
  intro v h3 hw
  have t := cl_si (KW := KWx xs L B S x4) hw (fun h1 m1 => m_round m1 hg _) (fun k w w' p p' => RnA_u hg (kq (by have := hg.l.2.1; omega) k) p p') hM hg (Nat.le_trans kd1_le (by decide)) K
  exact ⟨_, t.1, V1, t.2⟩
theorem o_never {xs : Nat → Int32} {L B S : Nat} {x4 : Int32} {h : XH} {r : Nat} {s : SG} (hC : CI h r s) (hM : MI h s) (hg : GoodS s) (V1 : vp_in (x4 + 1) L) (V2 : vp_in (x4 + 2) L) (V3 : vp_in (x4 + 3) L) (V4 : vp_in (x4 + 4) L) (V5 : vp_in (x4 + 5) L) (K : ∀ h', LInv h' → KWx xs L B S x4 h') : XW room_1 mL_law (xEL xs L) 100 (B + 4) (S + 24) h 923 [some (.ref 3000), some (.ref 0), some (.ref 56), some (.ref 99), some (.int x4), none, none, none] [] := by
  refine v_L_law_923 (Q := fun _ _ => True) (X := xno) xs L B S x4 ⟨V1, _, w_never _ (A := wsZ h r s _) (B := wsB h r s) kd1_le (wsC_z hC (fun _ => NvA_01) (s_X10_never hC hg _)), ?_⟩
  intro v h3 hw
  have t := cl_sz (KW := KWx xs L B S x4) hw (fun h1 m1 => m_never m1 hg _) (fun k w w' p p' => NvA_u hg.l.2.1 (kq (by have := hg.l.2.1; omega) k) p p') hM hg (Nat.le_trans kd1_le (by decide)) K
  exact ⟨_, t.1, V1, t.2⟩
theorem o_lost {xs : Nat → Int32} {L B S : Nat} {x4 : Int32} {h : XH} {r : Nat} {s : SG} (hC : CI h r s) (hM : MI h s) (hg : GoodS s) (V1 : vp_in (x4 + 1) L) (V2 : vp_in (x4 + 2) L) (V3 : vp_in (x4 + 3) L) (V4 : vp_in (x4 + 4) L) (V5 : vp_in (x4 + 5) L) (K : ∀ h', LInv h' → KWx xs L B S x4 h') : XW room_1 mL_law (xEL xs L) 100 (B + 4) (S + 24) h 986 [some (.ref 3000), some (.ref 0), some (.ref 56), some (.ref 99), some (.int x4), none, none, none] [] := by
  refine v_L_law_986 (Q := fun _ _ => True) (X := xno) xs L B S x4 ⟨V1, _, w_lost _ (A := wsZ h r s _) (B := wsB h r s) kd1_le (wsC_z hC (fun _ => LsA_01) (s_X10_lost hC hg _)), ?_⟩
  intro v h3 hw
  have t := cl_sz (KW := KWx xs L B S x4) hw (fun h1 m1 => m_lost m1 hg _) (fun k w w' p p' => LsA_u (kq (by have := hg.l.2.1; omega) k) p p') hM hg (Nat.le_trans kd1_le (by decide)) K
  exact ⟨_, t.1, V1, t.2⟩
theorem row_i {h : XH} {r : Nat} {s : SG} (hC : CI h r s) (hg : GoodS s) (q : Int32) : XSpec mX10_row 7 1 6 100 100 [.ref 0, .int q] h (cEndI h r s (kd1 (inR q 0 ((sKl s).toInt - 1))) (fun w => w = sKr s q.toNatClampNeg)) (cThr h (kd1 (inR q 0 ((sKl s).toInt - 1))) eN eA) := by
  refine (s_X10_row hC hg q).mono ?_ (fun _ _ z => z)
  rintro v h' ⟨k, rfl, c, m⟩
  exact ⟨k, _, rfl, rfl, c, m⟩
theorem o_row {xs : Nat → Int32} {L B S : Nat} {x4 : Int32} {h : XH} {r : Nat} {s : SG} (hC : CI h r s) (hM : MI h s) (hg : GoodS s) (V1 : vp_in (x4 + 1) L) (V2 : vp_in (x4 + 2) L) (V3 : vp_in (x4 + 3) L) (V4 : vp_in (x4 + 4) L) (V5 : vp_in (x4 + 5) L) (K : ∀ h', LInv h' → KWx xs L B S x4 h') : XW room_1 mL_law (xEL xs L) 100 (B + 4) (S + 24) h 867 [some (.ref 3000), some (.ref 0), some (.ref 56), some (.ref 99), some (.int x4), none, none, none] [] := by
  refine v_L_law_867 (Q := fun _ _ => True) (X := xno) xs L B S x4 ⟨V1, _, w_row _ (A := wsA h r s _) (B := wsB h r s) kd1_le (wsC_i hC (row_i hC hg _)), ?_⟩
  intro v h3 hw
  have t := cl_si (KW := KWx xs L B S x4) hw (fun h1 m1 => m_row m1 hg _) (fun _ w w' p p' => p.trans p'.symm) hM hg (Nat.le_trans kd1_le (by decide)) K
  exact ⟨_, t.1, V1, t.2⟩
theorem wr_i {h : XH} {r : Nat} {s : SG} (hC : CI h r s) (hg : GoodS s) (w : Int32) : XSpec mX10_written 15 1 6 100 100 [.ref 0, .int w] h (CPi (kd1 (wrB (sB s) w)) (fun z h9 => wsA h r s (fun z => z = wtA (sB s) w) z.toInt64 h9)) (CXx (kd1 (wrB (sB s) w)) (wsB h r s) eN eN) := by
  refine (s_X10_written hC hg w).mono ?_ ?_
  · rintro v h' ⟨k, rfl, c, m⟩
    exact ⟨k, _, rfl, _, rfl, rfl, c, m⟩
  · rintro E h' ⟨k, rfl, c, m⟩
    exact ⟨⟨c, m⟩, Or.inl ⟨k, rfl⟩⟩
theorem o_written {xs : Nat → Int32} {L B S : Nat} {x4 : Int32} {h : XH} {r : Nat} {s : SG} (hC : CI h r s) (hM : MI h s) (hg : GoodS s) (V1 : vp_in (x4 + 1) L) (V2 : vp_in (x4 + 2) L) (V3 : vp_in (x4 + 3) L) (V4 : vp_in (x4 + 4) L) (V5 : vp_in (x4 + 5) L) (K : ∀ h', LInv h' → KWx xs L B S x4 h') : XW room_1 mL_law (xEL xs L) 100 (B + 4) (S + 24) h 2312 [some (.ref 3000), some (.ref 0), some (.ref 56), some (.ref 99), some (.int x4), none, none, none] [] := by
  refine v_L_law_2312 (Q := fun _ _ => True) (X := xno) xs L B S x4 ⟨V1, _, w_written _ (A := wsA h r s _) (B := wsB h r s) kd1_le (wr_i hC hg _), ?_⟩
  intro v h3 hw
  have t := cl_si (KW := KWx xs L B S x4) hw (fun h1 m1 => s_X11_written m1 hg _) (fun _ w w' p p' => p.trans p'.symm) hM hg (Nat.le_trans kd1_le (by decide)) K
  exact ⟨_, t.1, V1, t.2⟩
theorem o_roll {xs : Nat → Int32} {L B S : Nat} {x4 : Int32} {h : XH} {r : Nat} {s : SG} (hC : CI h r s) (hM : MI h s) (hg : GoodS s) (V1 : vp_in (x4 + 1) L) (V2 : vp_in (x4 + 2) L) (V3 : vp_in (x4 + 3) L) (V4 : vp_in (x4 + 4) L) (V5 : vp_in (x4 + 5) L) (K : ∀ h', LInv h' → KWx xs L B S x4 h') : XW room_1 mL_law (xEL xs L) 100 (B + 4) (S + 24) h 550 [some (.ref 3000), some (.ref 0), some (.ref 56), some (.ref 99), some (.int x4), none, none, none] [] := by
  refine v_L_law_550 (Q := fun _ _ => True) (X := xno) xs L B S x4 ⟨V1, _, w_roll _ (A := fun z h9 => z = Int32.toInt64 (rlA s (xs (x4 + 1).toNatClampNeg).toNatClampNeg) ∧ CI h9 r (sRoll s (xs (x4 + 1).toNatClampNeg).toNatClampNeg) ∧ cch h h9) (B := wsB h r s) kd1_le ((s_X10_roll hC hg _).mono ?_ (wsX hC)), ?_⟩
  · rintro v h' ⟨k, rfl, c, m⟩
    exact ⟨k, _, rfl, rfl, c, m⟩
  intro v h3 hw
  have t := cl_c (KW := KWx xs L B S x4) hw (fun h1 m1 => s_X11_roll m1 hg _) hM hg (fun k => sRoll_good hg k) kd1_le K
  exact ⟨_, t.1, V1, t.2⟩
theorem o_rolls {xs : Nat → Int32} {L B S : Nat} {x4 : Int32} {h : XH} {r : Nat} {s : SG} (hC : CI h r s) (hM : MI h s) (hg : GoodS s) (V1 : vp_in (x4 + 1) L) (V2 : vp_in (x4 + 2) L) (V3 : vp_in (x4 + 3) L) (V4 : vp_in (x4 + 4) L) (V5 : vp_in (x4 + 5) L) (K : ∀ h', LInv h' → KWx xs L B S x4 h') : XW room_1 mL_law (xEL xs L) 100 (B + 4) (S + 24) h 606 [some (.ref 3000), some (.ref 0), some (.ref 56), some (.ref 99), some (.int x4), none, none, none] [] := by
  refine v_L_law_606 (Q := fun _ _ => True) (X := xno) xs L B S x4 ⟨V1, V2, _, w_rolls _ _ (A := fun z h9 => z = Int32.toInt64 (nI (rlS (xs (x4 + 2).toNatClampNeg).toNatClampNeg (xs (x4 + 1).toNatClampNeg) s).2) ∧ CI h9 r ((rlS (xs (x4 + 2).toNatClampNeg).toNatClampNeg (xs (x4 + 1).toNatClampNeg) s).1) ∧ cch h h9) (B := wsB h r s) kd1_le ((s_X10_rolls hC hg _ _).mono ?_ (wsX hC)), ?_⟩
  · rintro v h' ⟨k, rfl, c, m⟩
    exact ⟨k, _, rfl, rfl, c, m⟩
  intro v h3 hw
  have t := cl_c (KW := KWx xs L B S x4) hw (fun h1 m1 => s_X11_rolls m1 hg _ _) hM hg (fun _ => rlS_good _ _ _ hg) kd1_le K
  exact ⟨_, t.1, V1, V2, t.2⟩
theorem drw_g {s : SG} (hg : GoodS s) {q m k0 : Int32} (h : kd1 (inR m 10 100 && inR k0 0 24) = 0) : GoodS (sNew s (drB s q m.toNatClampNeg k0.toNatClampNeg)) := by
  have h2 := kd1_0 h
  rw [Bool.and_eq_true] at h2
  obtain ⟨m1, m2⟩ := inR_t.1 h2.1
  obtain ⟨n, n1, rfl⟩ := inR_nI (n := 24) h2.2
  obtain ⟨m', m3, rfl⟩ := inR_nI (x := m) (n := 100) (inR_t.2 (by omega))
  rw [nI_toInt (by omega)] at m1
  rw [nI_clamp (by omega), nI_clamp (by omega)]
  exact drB_good hg (by omega) m3 n1
theorem o_draw {xs : Nat → Int32} {L B S : Nat} {x4 : Int32} {h : XH} {r : Nat} {s : SG} (hC : CI h r s) (hM : MI h s) (hg : GoodS s) (V1 : vp_in (x4 + 1) L) (V2 : vp_in (x4 + 2) L) (V3 : vp_in (x4 + 3) L) (V4 : vp_in (x4 + 4) L) (V5 : vp_in (x4 + 5) L) (K : ∀ h', LInv h' → KWx xs L B S x4 h') : XW room_1 mL_law (xEL xs L) 100 (B + 4) (S + 24) h 1994 [some (.ref 3000), some (.ref 0), some (.ref 56), some (.ref 99), some (.int x4), none, none, none] [] := by
  refine v_L_law_1994 (Q := fun _ _ => True) (X := xno) xs L B S x4 ⟨V1, V2, V3, _, w_draw _ _ _ (A := fun z h9 => z = Int32.toInt64 (nI (bKx (drB s (xs (x4 + 1).toNatClampNeg) (xs (x4 + 2).toNatClampNeg).toNatClampNeg (xs (x4 + 3).toNatClampNeg).toNatClampNeg))) ∧ CI h9 r (sNew s (drB s (xs (x4 + 1).toNatClampNeg) (xs (x4 + 2).toNatClampNeg).toNatClampNeg (xs (x4 + 3).toNatClampNeg).toNatClampNeg)) ∧ cch h h9) (B := wsB h r s) kd1_le ((s_X10_draw hC hg _ _ _).mono ?_ (wsX hC)), ?_⟩
  · rintro v h' ⟨k, rfl, c, m⟩
    exact ⟨k, _, rfl, rfl, c, m⟩
  intro v h3 hw
  have t := cl_c (KW := KWx xs L B S x4) hw (fun h1 m1 => s_X11_draw m1 hg _ _ _) hM hg (fun k => drw_g hg k) kd1_le K
  exact ⟨_, t.1, V1, V2, V3, t.2⟩
theorem o_feed {xs : Nat → Int32} {L B S : Nat} {x4 : Int32} {h : XH} {r : Nat} {s : SG} (hC : CI h r s) (hM : MI h s) (hg : GoodS s) (V1 : vp_in (x4 + 1) L) (V2 : vp_in (x4 + 2) L) (V3 : vp_in (x4 + 3) L) (V4 : vp_in (x4 + 4) L) (V5 : vp_in (x4 + 5) L) (K : ∀ h', LInv h' → KWx xs L B S x4 h') : XW room_1 mL_law (xEL xs L) 100 (B + 4) (S + 24) h 216 [some (.ref 3000), some (.ref 0), some (.ref 56), some (.ref 99), some (.int x4), none, none, none] [] := by
  refine v_L_law_216 (Q := fun _ _ => True) (X := xno) xs L B S x4 ⟨V1, V2, V3, V4, V5, _, s_X10_feed hC hg _ _ _ _ _, ?_⟩
  rintro v h1 ⟨rfl, c, m⟩
  refine ⟨_, rfl, V1, V2, V3, V4, V5, _, s_X11_feed (hM.cch m) hg _ _ _ _ _, ?_⟩
  rintro v h2 ⟨rfl, q2, q3, q4⟩ -
  exact ⟨_, rfl, fun _ => K h2 ⟨r, _, c.mch q4, q3, sFeed_good hg _⟩, fun z => absurd rfl z⟩
theorem o_fault {xs : Nat → Int32} {L B S : Nat} {x4 : Int32} {h : XH} {r : Nat} {s : SG} (hC : CI h r s) (hM : MI h s) (hg : GoodS s) (V1 : vp_in (x4 + 1) L) (V2 : vp_in (x4 + 2) L) (V3 : vp_in (x4 + 3) L) (V4 : vp_in (x4 + 4) L) (V5 : vp_in (x4 + 5) L) (K : ∀ h', LInv h' → KWx xs L B S x4 h') : XW room_1 mL_law (xEL xs L) 100 (B + 4) (S + 24) h 345 [some (.ref 3000), some (.ref 0), some (.ref 56), some (.ref 99), some (.int x4), none, none, none] [] := by
  refine v_L_law_345 (Q := fun _ _ => True) (X := xno) xs L B S x4 ⟨_, s_X10_fault hC, ?_⟩
  rintro v h1 ⟨rfl, c, m⟩
  refine ⟨_, rfl, _, s_X11_fault (hM.cch m), ?_⟩
  rintro v h2 ⟨rfl, q3, q4⟩ -
  exact ⟨_, rfl, fun _ => K h2 ⟨r, _, c.mch q4, q3, hg⟩, fun z => absurd rfl z⟩
theorem o_undo {xs : Nat → Int32} {L B S : Nat} {x4 : Int32} {h : XH} {r : Nat} {s : SG} (hC : CI h r s) (hM : MI h s) (hg : GoodS s) (V1 : vp_in (x4 + 1) L) (V2 : vp_in (x4 + 2) L) (V3 : vp_in (x4 + 3) L) (V4 : vp_in (x4 + 4) L) (V5 : vp_in (x4 + 5) L) (K : ∀ h', LInv h' → KWx xs L B S x4 h') : XW room_1 mL_law (xEL xs L) 100 (B + 4) (S + 24) h 674 [some (.ref 3000), some (.ref 0), some (.ref 56), some (.ref 99), some (.int x4), none, none, none] [] := by
  refine v_L_law_674 (Q := fun _ _ => True) (X := xno) xs L B S x4 ⟨_, s_X10_undo hC hg, ?_⟩
  rintro v h1 ⟨rfl, c, m⟩
  refine ⟨_, rfl, _, s_X11_undo (hM.cch m) hg, ?_⟩
  rintro v h2 ⟨rfl, q3, q4⟩ -
  exact ⟨_, rfl, fun _ => K h2 ⟨r, _, c.mch q4, q3, sUnd_good hg⟩, fun z => absurd rfl z⟩
theorem o_worn {xs : Nat → Int32} {L B S : Nat} {x4 : Int32} {h : XH} {r : Nat} {s : SG} (hC : CI h r s) (hM : MI h s) (hg : GoodS s) (V1 : vp_in (x4 + 1) L) (V2 : vp_in (x4 + 2) L) (V3 : vp_in (x4 + 3) L) (V4 : vp_in (x4 + 4) L) (V5 : vp_in (x4 + 5) L) (K : ∀ h', LInv h' → KWx xs L B S x4 h') : XW room_1 mL_law (xEL xs L) 100 (B + 4) (S + 24) h 1903 [some (.ref 3000), some (.ref 0), some (.ref 56), some (.ref 99), some (.int x4), none, none, none] [] := by
  refine v_L_law_1903 (Q := fun _ _ => True) (X := xno) xs L B S x4 ⟨_, s_X10_worn hC hg, ?_⟩
  rintro v h1 ⟨rfl, c, m⟩
  refine ⟨_, rfl, _, s_X11_worn (hM.cch m) hg, ?_⟩
  rintro v h2 ⟨rfl, q2, q3, q4⟩ -
  exact ⟨_, rfl, fun _ => K h2 ⟨r, _, c.mch q4, q3, hg⟩, fun z => absurd rfl z⟩
theorem o_note {xs : Nat → Int32} {L B S : Nat} {x4 : Int32} {h : XH} {r : Nat} {s : SG} (hC : CI h r s) (hM : MI h s) (hg : GoodS s) (V1 : vp_in (x4 + 1) L) (V2 : vp_in (x4 + 2) L) (V3 : vp_in (x4 + 3) L) (V4 : vp_in (x4 + 4) L) (V5 : vp_in (x4 + 5) L) (K : ∀ h', LInv h' → KWx xs L B S x4 h') : XW room_1 mL_law (xEL xs L) 100 (B + 4) (S + 24) h 1916 [some (.ref 3000), some (.ref 0), some (.ref 56), some (.ref 99), some (.int x4), none, none, none] [] := by
  refine v_L_law_1916 (Q := fun _ _ => True) (X := xno) xs L B S x4 ⟨V1, _, s_X10_note hC hg _, ?_⟩
  rintro v h1 ⟨rfl, c, m⟩
  refine ⟨_, rfl, V1, _, s_X11_note (hM.cch m) hg _, ?_⟩
  rintro v h2 ⟨rfl, q3, q4⟩ -
  exact ⟨_, rfl, fun _ => K h2 ⟨r, _, c.mch q4, q3, sNote_good hg _⟩, fun z => absurd rfl z⟩
theorem o_forget {xs : Nat → Int32} {L B S : Nat} {x4 : Int32} {h : XH} {r : Nat} {s : SG} (hC : CI h r s) (hM : MI h s) (hg : GoodS s) (V1 : vp_in (x4 + 1) L) (V2 : vp_in (x4 + 2) L) (V3 : vp_in (x4 + 3) L) (V4 : vp_in (x4 + 4) L) (V5 : vp_in (x4 + 5) L) (K : ∀ h', LInv h' → KWx xs L B S x4 h') : XW room_1 mL_law (xEL xs L) 100 (B + 4) (S + 24) h 1941 [some (.ref 3000), some (.ref 0), some (.ref 56), some (.ref 99), some (.int x4), none, none, none] [] := by
  refine v_L_law_1941 (Q := fun _ _ => True) (X := xno) xs L B S x4 ⟨_, s_X10_forget hC hg, ?_⟩
  rintro v h1 ⟨rfl, c, m⟩
  refine ⟨_, rfl, _, s_X11_forget (hM.cch m) hg, ?_⟩
  rintro v h2 ⟨rfl, q3, q4⟩ -
  exact ⟨_, rfl, fun _ => K h2 ⟨r, _, c.mch q4, q3, sForg_good hg⟩, fun z => absurd rfl z⟩
theorem o_less {xs : Nat → Int32} {L B S : Nat} {x4 : Int32} {h : XH} {r : Nat} {s : SG} (hC : CI h r s) (hM : MI h s) (hg : GoodS s) (V1 : vp_in (x4 + 1) L) (V2 : vp_in (x4 + 2) L) (V3 : vp_in (x4 + 3) L) (V4 : vp_in (x4 + 4) L) (V5 : vp_in (x4 + 5) L) (K : ∀ h', LInv h' → KWx xs L B S x4 h') : XW room_1 mL_law (xEL xs L) 100 (B + 4) (S + 24) h 1981 [some (.ref 3000), some (.ref 0), some (.ref 56), some (.ref 99), some (.int x4), none, none, none] [] := by
  refine v_L_law_1981 (Q := fun _ _ => True) (X := xno) xs L B S x4 ⟨_, s_X10_less hC hg, ?_⟩
  rintro v h1 ⟨rfl, c, m⟩
  refine ⟨_, rfl, _, s_X11_less (hM.cch m) hg, ?_⟩
  rintro v h2 ⟨rfl, q3, q4⟩ -
  exact ⟨_, rfl, fun _ => K h2 ⟨r, _, c.mch q4, q3, hg⟩, fun z => absurd rfl z⟩
theorem o_restore {xs : Nat → Int32} {L B S : Nat} {x4 : Int32} {h : XH} {r : Nat} {s : SG} (hC : CI h r s) (hM : MI h s) (hg : GoodS s) (V1 : vp_in (x4 + 1) L) (V2 : vp_in (x4 + 2) L) (V3 : vp_in (x4 + 3) L) (V4 : vp_in (x4 + 4) L) (V5 : vp_in (x4 + 5) L) (K : ∀ h', LInv h' → KWx xs L B S x4 h') : XW room_1 mL_law (xEL xs L) 100 (B + 4) (S + 24) h 2379 [some (.ref 3000), some (.ref 0), some (.ref 56), some (.ref 99), some (.int x4), none, none, none] [] := by
  refine v_L_law_2379 (Q := fun _ _ => True) (X := xno) xs L B S x4 ⟨_, s_X10_restore hC hg, ?_⟩
  rintro v h1 ⟨rfl, c, m⟩
  refine ⟨_, rfl, _, s_X11_restore (hM.cch m) hg, ?_⟩
  rintro v h2 ⟨rfl, q2, q3, q4⟩ -
  exact ⟨_, rfl, fun _ => K h2 ⟨r, _, c.mch q4, q3, sRes_good hg⟩, fun z => absurd rfl z⟩
theorem o_image {xs : Nat → Int32} {L B S : Nat} {x4 : Int32} {h : XH} {r : Nat} {s : SG} (hC : CI h r s) (hM : MI h s) (hg : GoodS s) (V1 : vp_in (x4 + 1) L) (V2 : vp_in (x4 + 2) L) (V3 : vp_in (x4 + 3) L) (V4 : vp_in (x4 + 4) L) (V5 : vp_in (x4 + 5) L) (K : ∀ h', LInv h' → KWx xs L B S x4 h') : XW room_1 mL_law (xEL xs L) 100 (B + 4) (S + 24) h 2368 [some (.ref 3000), some (.ref 0), some (.ref 56), some (.ref 99), some (.int x4), none, none, none] [] := by
  refine v_L_law_2368 (Q := fun _ _ => True) (X := xno) xs L B S x4 ⟨_, s_X10_image hC hg, ?_⟩
  rintro v h1 ⟨rfl, c, m⟩
  refine ⟨rfl, _, s_X11_image (hM.cch m) hg, ?_⟩
  rintro v h2 ⟨rfl, q2, q3, q4⟩ -
  exact ⟨rfl, K h2 ⟨r, _, c.mch q4, q3, sImg_good hg⟩⟩
theorem o_cannot {xs : Nat → Int32} {L B S : Nat} {x4 : Int32} {h : XH} {r : Nat} {s : SG} (hC : CI h r s) (hM : MI h s) (hg : GoodS s) (V1 : vp_in (x4 + 1) L) (V2 : vp_in (x4 + 2) L) (V3 : vp_in (x4 + 3) L) (V4 : vp_in (x4 + 4) L) (V5 : vp_in (x4 + 5) L) (K : ∀ h', LInv h' → KWx xs L B S x4 h') : XW room_1 mL_law (xEL xs L) 100 (B + 4) (S + 24) h 1954 [some (.ref 3000), some (.ref 0), some (.ref 56), some (.ref 99), some (.int x4), none, none, none] [] := by
  refine v_L_law_1954 (Q := fun _ _ => True) (X := xno) xs L B S x4 ⟨_, s_X10_cannot hC hg, ?_⟩
  rintro v h1 ⟨w, rfl, p, c, m⟩
  refine ⟨_, rfl, _, s_X11_cannot (hM.cch m) hg, ?_⟩
  rintro v h2 ⟨w', rfl, p', q3, q4⟩ -
  exact ⟨_, rfl, fun _ => K h2 ⟨r, _, c.mch q4, q3, hg⟩, fun z => absurd (CnR_u p p') z⟩
theorem o_fits {xs : Nat → Int32} {L B S : Nat} {x4 : Int32} {h : XH} {r : Nat} {s : SG} (hC : CI h r s) (hM : MI h s) (hg : GoodS s) (V1 : vp_in (x4 + 1) L) (V2 : vp_in (x4 + 2) L) (V3 : vp_in (x4 + 3) L) (V4 : vp_in (x4 + 4) L) (V5 : vp_in (x4 + 5) L) (K : ∀ h', LInv h' → KWx xs L B S x4 h') : XW room_1 mL_law (xEL xs L) 100 (B + 4) (S + 24) h 1967 [some (.ref 3000), some (.ref 0), some (.ref 56), some (.ref 99), some (.int x4), none, none, none] [] := by
  refine v_L_law_1967 (Q := fun _ _ => True) (X := xno) xs L B S x4 ⟨_, s_X10_fits hC hg, ?_⟩
  rintro v h1 ⟨rfl, R, p, c, m⟩
  refine ⟨_, rfl, _, s_X11_fits (hM.cch m) hg, ?_⟩
  rintro v h2 ⟨rfl, R', p', q3, q4⟩ -
  refine ⟨_, rfl, fun _ => K h2 ⟨r, _, c.mch q4, ?_, ?_⟩, fun z => absurd (lg_cmp0.2 rfl) z⟩
  · unfold sFit at q3 ⊢
    by_cases z : wyi (sB s) (sG s) 0 0 = 0
    · rw [if_pos z] at q3 ⊢; exact q3
    · rw [if_neg z] at q3 ⊢
      exact q3.krow (by have := hg.nn; omega) (fun j hj => FitK_u _ 0 0 R R' (p (by omega)) (p' (by omega)) j (Nat.zero_le _) (by omega))
  · unfold sFit
    split
    · exact hg
    · exact sRow_good hg (by have := hg.nn; omega) R
theorem o_fewest {xs : Nat → Int32} {L B S : Nat} {x4 : Int32} {h : XH} {r : Nat} {s : SG} (hC : CI h r s) (hM : MI h s) (hg : GoodS s) (V1 : vp_in (x4 + 1) L) (V2 : vp_in (x4 + 2) L) (V3 : vp_in (x4 + 3) L) (V4 : vp_in (x4 + 4) L) (V5 : vp_in (x4 + 5) L) (K : ∀ h', LInv h' → KWx xs L B S x4 h') : XW room_1 mL_law (xEL xs L) 100 (B + 4) (S + 24) h 811 [some (.ref 3000), some (.ref 0), some (.ref 56), some (.ref 99), some (.int x4), none, none, none] [] := by
  refine v_L_law_811 (Q := fun _ _ => True) (X := xno) xs L B S x4 ⟨V1, _, w_fewest _ (A := fun z h9 => ∃ w R, z = Int32.toInt64 w ∧ FwR (sB s) (xs (x4 + 1).toNatClampNeg).toNatClampNeg w R ∧ CI h9 r (sFew s w R) ∧ cch h h9) (B := wsB h r s) kd1_le ((s_X10_fewest hC hg _).mono ?_ (wsX hC)), ?_⟩
  · rintro v h' ⟨k, w, R, rfl, p, c, m⟩
    exact ⟨k, w, rfl, w, R, rfl, p, c, m⟩
  intro v h3 hw
  have t := cl_i (KW := KWx xs L B S x4) (Ms := mX11_fewest) (D := 6) (margs := [.ref 56, .int (xs (x4 + 1).toNatClampNeg)]) hw (Nat.le_trans kd1_le (by decide)) (fun w h1 k0 ⟨w', R, e, p, c, m⟩ e3 => ?_) (fun k0 hb => ?_)
  · exact ⟨_, t.1, V1, t.2⟩
  · subst e3
    refine ⟨_, m_fewest (hM.cch m).sl hg _, ?_⟩
    rintro v h4 ⟨w4, rfl, q2, q4, q1, -⟩
    obtain ⟨R', p', q3⟩ := q1 k0
    obtain ⟨u1, u2⟩ := FwR_u hg (kq (by have := hg.l.2.1; omega) k0) p p'
    subst u1
    refine ⟨w', rfl, e, q3.1, q2, K h4 ⟨r, _, c.sl.mch q4, ?_, ?_⟩⟩
    · unfold sFew at q3 ⊢
      by_cases z : w' = -1
      · rw [if_pos z] at q3 ⊢; exact q3
      · rw [if_neg z] at q3 ⊢
        rcases u2 with y | ⟨m', m1, rfl, m3⟩
        · exact absurd y z
        · exact q3.krow (by omega) m3
    · unfold sFew
      split
      · exact hg
      · rename_i z
        rcases u2 with y | ⟨m', m1, rfl, m3⟩
        · exact absurd y z
        · exact sRow_good hg m1 R
  · refine ⟨_, m_fewest (hM.cch hb.2) hg _, ?_⟩
    rintro v h4 ⟨w4, rfl, q2, q4, -, q1⟩
    have hk1 := kd1_le (c := inR (xs (x4 + 1).toNatClampNeg) 0 (bLast (sB s)))
    have k1 := q1 (by omega)
    exact ⟨w4, rfl, k1.1, q2, K h4 ⟨r, s, hb.1.mch q4, k1, hg⟩⟩
theorem o_board {xs : Nat → Int32} {L B S : Nat} {x4 : Int32} {h : XH} {r : Nat} {s : SG} (hC : CI h r s) (hM : MI h s) (hg : GoodS s) (V1 : vp_in (x4 + 1) L) (V2 : vp_in (x4 + 2) L) (V3 : vp_in (x4 + 3) L) (V4 : vp_in (x4 + 4) L) (V5 : vp_in (x4 + 5) L) (K : ∀ h', LInv h' → KWx xs L B S x4 h') : XW room_1 mL_law (xEL xs L) 100 (B + 4) (S + 24) h 289 [some (.ref 3000), some (.ref 0), some (.ref 56), some (.ref 99), some (.int x4), none, none, none] [] := by
  have hl := hg.2.2.2.2.1
  refine v_L_law_289 (Q := fun _ _ => True) (X := xno) xs L B S x4 ⟨V1, _, w_board _ (A := fun z h9 => cch h h9 ∧ (match lText (sTp s) (xs (x4 + 1).toNatClampNeg).toNatClampNeg with
    | .inl e => z = Int32.toInt64 (nI e.1) ∧ CI h9 r (sFlt s e.2)
    | .inr y => z = Int32.toInt64 0 ∧ ∃ (r' : Nat) (C : Nat → Int32), (∀ k, k < bLen y.2.1 → C k = bC y.2.1 k) ∧ CI h9 r' (sNew (sTp0 s (-1)) (wC y.2.1 C)))) (B := wsB h r s) kd1_le ((s_X10_board hC hg _).mono ?_ (wsX hC)), ?_⟩
  · rintro v h' ⟨k, m, q⟩
    refine ⟨k, ?_⟩
    cases hz : lText (sTp s) (xs (x4 + 1).toNatClampNeg).toNatClampNeg with
    | inl e => rw [hz] at q; exact ⟨_, q.1, m, rfl, q.2.2⟩
    | inr y => rw [hz] at q; exact ⟨_, q.1, m, rfl, q.2⟩
  intro v h3 hw
  have t := cl_i (KW := KWx xs L B S x4) (Ms := mX11_board) (D := 63) (margs := [.ref 56, .int (xs (x4 + 1).toNatClampNeg)]) hw (Nat.le_trans kd1_le (by decide)) (fun w h1 k0 ⟨m, q⟩ e3 => ?_) (fun k0 hb => ?_)
  · exact ⟨_, t.1, V1, t.2⟩
  · subst e3
    cases hz : lText (sTp s) (xs (x4 + 1).toNatClampNeg).toNatClampNeg with
    | inl e =>
      rw [hz] at q
      refine ⟨_, s_X11_board (hM.cch m).sl hg _ (fun _ => 0) (fun y hy => by rw [hz] at hy; cases hy), ?_⟩
      rintro v h4 ⟨w4, rfl, q2, q4, -, q1⟩
      have q1' := q1 k0
      rw [hz] at q1'
      exact ⟨w4, rfl, by rw [q.1, q1'.1], q1'.2.1, q2, K h4 ⟨r, _, q.2.sl.mch q4, q1'.2, sFlt_good hg _⟩⟩
    | inr y =>
      rw [hz] at q
      obtain ⟨e, r', C, c1, c2⟩ := q
      refine ⟨_, s_X11_board (hM.cch m).sl hg _ C (fun y' hy => by rw [hz] at hy; cases hy; exact c1), ?_⟩
      rintro v h4 ⟨w4, rfl, q2, q4, -, q1⟩
      have q1' := q1 k0
      rw [hz] at q1'
      exact ⟨w4, rfl, by rw [e, q1'.1], q1'.2.1, q2, K h4 ⟨r', _, c2.sl.mch q4, q1'.2, brd_good hg (kq (by omega) k0) hz c1⟩⟩
  · refine ⟨_, s_X11_board (hM.cch hb.2) hg _ (match lText (sTp s) (xs (x4 + 1).toNatClampNeg).toNatClampNeg with
      | .inl _ => fun _ => 0
      | .inr y => bC y.2.1) (fun y hy k _ => by rw [hy]), ?_⟩
    rintro v h4 ⟨w4, rfl, q2, q4, q1, -⟩
    have hk1 := kd1_le (c := inR (xs (x4 + 1).toNatClampNeg) 0 (sTl s))
    have k1 := q1 (by omega)
    exact ⟨w4, rfl, k1.1, q2, K h4 ⟨r, s, hb.1.mch q4, k1, hg⟩⟩
