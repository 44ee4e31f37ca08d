/-! THE LAW'S LOOP, and its end -/
theorem xi_retL {xs : Nat → Int32} {L n b bs : Nat} {h : XH} {ls : List (Option Value)} (hd : decode mL_law.2.1 2399 = .ok (.ireturn, 1)) : XW room_1 mL_law (xEL xs L) n b bs h 2399 ls [.int 1] := by
  intro G p l e s m args below meth c C H locs Lo kc ks hR hS hl hz g1 g2
  by_cases hP : gX G = xs ∧ gN G = L ∧ gB G = s.heap.size ∧ gO G = none
  · refine x_mono (Z := xZ below args s) (fun t ht _ => ht) ?_
    refine va_forget (fun q hq => by have h1 : gB G ≤ q.base := hS.2.2 q hq; rw [← hP.2.2.1]; exact h1) ?_
    have g3 : kc + b ≤ 601024 := g1
    have g4 : ks + bs ≤ 7293034 := g2
    refine W.widen (k := 601024) (n := 7293034) (by omega) (by omega) ?_
    change W p l e room_1 s m args below meth c H [] 601024 7293034 (xZ below args s) (F0 m 2399 Lo [.int 1])
    intro T hT X
    have hr : meth.sig.returnType = some .boolean := C.2.2.2.1
    obtain ⟨fs, hret, hrun, hended, hW, hframe⟩ := X.leave (v := some (.int 1)) (hlocks := C.2.2.2.2.2.2.1) (fun h => by rw [hr] at h; cases h)
    have hmeth' : T.vm.method? m = some meth := X.method'
    have hx := C.1
    have hb := C.2.1
    refine ⟨T.setFrames fs, ?_, .returned (some (.int 1)), hrun, hended, rfl, ⟨_, rfl⟩, hW, hframe⟩
    jvm_step X.here [X.here.top, hx, hb, hd, hmeth', hr, narrow_b1]
    (try refine ⟨rfl, ?_⟩); (try refine ⟨rfl, ?_⟩)
    first | (intro acts; rw [hret _ acts rfl rfl rfl]) | rw [hret _ _ rfl rfl rfl]
    exact Steps.refl _
  · exact fun T hT X => ⟨_, Steps.refl _, fun hp => absurd hp hP⟩
theorem law_end {xs : Nat → Int32} {L n b bs : Nat} {h : XH} {ls : List (Option Value)} : XW room_1 mL_law (xEL xs L) n b bs h 2398 ls [] :=
  xi_iconst (v := 1) (by decide +kernel : decode mL_law.2.1 2398 = .ok (.iconst 1, 1)) rfl (xi_retL (by decide +kernel))
theorem law_x {L i : Nat} (hL : L ≤ 3072) (hi : i ≤ L) : nI L - 6 < nI i ↔ L < 6 + i := by
  have h1 : (nI L - 6).toInt = (L : Int) - 6 := pk_sub_toInt (a := L) (b := 6) (by omega) (by omega)
  rw [Int32.lt_iff_toInt_lt, h1, nI_toInt (by omega)]
  omega
theorem law_op {xs : Nat → Int32} {L B S i : Nat} {h : XH} {r : Nat} {s : SG} (hL : L ≤ 3072) (hi : i + 6 ≤ L) (hC : CI h r s) (hM : MI h s) (hg : GoodS s) (K : ∀ h', LInv h' → KWx xs L B S (nI i) h') : XW room_1 mL_law (xEL xs L) 100 (B + 4) (S + 24) h 23 [some (.ref 3000), some (.ref 0), some (.ref 56), some (.ref 99), some (.int (nI i)), none, none, none] [] := by
  have V : ∀ k : Nat, k < 6 → vp_in (nI i + nI k) L := fun k hk => by
    rw [nI_add]
    exact vp_in_nI (by omega) (by omega)
  have V1 : vp_in (nI i + 1) L := V 1 (by omega)
  have V2 : vp_in (nI i + 2) L := V 2 (by omega)
  have V3 : vp_in (nI i + 3) L := V 3 (by omega)
  have V4 : vp_in (nI i + 4) L := V 4 (by omega)
  have V5 : vp_in (nI i + 5) L := V 5 (by omega)
  exact v_L_law_23 (Q := fun _ _ => True) (X := xno) xs L B S (nI i) ⟨fun c => absurd ((law_x hL (by omega)).1 c) (by omega), fun _ => ⟨vp_in_nI (by omega) (by omega), fun _ => o_feed hC hM hg V1 V2 V3 V4 V5 K, fun _ => o_board hC hM hg V1 V2 V3 V4 V5 K, fun _ => o_fault hC hM hg V1 V2 V3 V4 V5 K, fun _ => o_count hC hM hg V1 V2 V3 V4 V5 K, fun _ => o_exit hC hM hg V1 V2 V3 V4 V5 K, fun _ => o_goes hC hM hg V1 V2 V3 V4 V5 K, fun _ => o_roll hC hM hg V1 V2 V3 V4 V5 K, fun _ => o_rolls hC hM hg V1 V2 V3 V4 V5 K, fun _ => o_undo hC hM hg V1 V2 V3 V4 V5 K, fun _ => o_piece hC hM hg V1 V2 V3 V4 V5 K, fun _ => o_rolled hC hM hg V1 V2 V3 V4 V5 K, fun _ => o_fewest hC hM hg V1 V2 V3 V4 V5 K, fun _ => o_row hC hM hg V1 V2 V3 V4 V5 K, fun _ => o_never hC hM hg V1 V2 V3 V4 V5 K, fun _ => o_lost hC hM hg V1 V2 V3 V4 V5 K, fun _ => o_round hC hM hg V1 V2 V3 V4 V5 K, fun _ => o_grains hC hM hg V1 V2 V3 V4 V5 K, fun _ => o_stood hC hM hg V1 V2 V3 V4 V5 K, fun _ => o_half hC hM hg V1 V2 V3 V4 V5 K, fun _ => o_first hC hM hg V1 V2 V3 V4 V5 K, fun _ => o_matters hC hM hg V1 V2 V3 V4 V5 K, fun _ => o_most hC hM hg V1 V2 V3 V4 V5 K, fun _ => o_wanted hC hM hg V1 V2 V3 V4 V5 K, fun _ => o_ahead hC hM hg V1 V2 V3 V4 V5 K, fun _ => o_choose hC hM hg V1 V2 V3 V4 V5 K, fun _ => o_often hC hM hg V1 V2 V3 V4 V5 K, fun _ => o_unlike hC hM hg V1 V2 V3 V4 V5 K, fun _ => o_worn hC hM hg V1 V2 V3 V4 V5 K, fun _ => o_note hC hM hg V1 V2 V3 V4 V5 K, fun _ => o_forget hC hM hg V1 V2 V3 V4 V5 K, fun _ => o_cannot hC hM hg V1 V2 V3 V4 V5 K, fun _ => o_fits hC hM hg V1 V2 V3 V4 V5 K, fun _ => o_less hC hM hg V1 V2 V3 V4 V5 K, fun _ => o_draw hC hM hg V1 V2 V3 V4 V5 K, fun _ => o_ended hC hM hg V1 V2 V3 V4 V5 K, fun _ => o_together hC hM hg V1 V2 V3 V4 V5 K, fun _ => o_whom hC hM hg V1 V2 V3 V4 V5 K, fun _ => o_written hC hM hg V1 V2 V3 V4 V5 K, fun _ => o_image hC hM hg V1 V2 V3 V4 V5 K, fun _ => o_restore hC hM hg V1 V2 V3 V4 V5 K, fun _ => K h ⟨r, s, hC, hM, hg⟩⟩⟩
theorem law_loop {xs : Nat → Int32} {L : Nat} (hL : L ≤ 3072) : ∀ (c i : Nat) (h : XH), L < 6 + i + 6 * c → i ≤ L → LInv h → XW room_1 mL_law (xEL xs L) 100 (4 * c + 4) (24 * c + 24) h 23 [some (.ref 3000), some (.ref 0), some (.ref 56), some (.ref 99), some (.int (nI i)), none, none, none] [] := by
  intro c
  induction c with
  | zero =>
    intro i h h1 h2 hI
    exact v_L_law_23 (Q := fun _ _ => True) (X := xno) xs L (4 * 0) (24 * 0) (nI i) ⟨fun _ => law_end, fun q => absurd ((law_x hL h2).2 (by omega)) q⟩
  | succ c ih =>
    intro i h h1 h2 hI
    by_cases hx : L < 6 + i
    · exact v_L_law_23 (Q := fun _ _ => True) (X := xno) xs L (4 * (c + 1)) (24 * (c + 1)) (nI i) ⟨fun _ => law_end, fun q => absurd ((law_x hL h2).2 hx) q⟩
    · obtain ⟨r, s, hC, hM, hg⟩ := hI
      refine law_op hL (by omega) hC hM hg (fun h' hI' => v_L_law_2392 (Q := fun _ _ => True) (X := xno) xs L (4 * (c + 1)) (24 * (c + 1)) (nI i) ?_)
      have k := ih (i + 6) h' (by omega) (by omega) hI'
      have e1 : nI (i + 6) = nI i + 6 := (nI_add i 6).symm
      have e2 : 4 * (c + 1) = 4 * c + 4 := by omega
      have e3 : 24 * (c + 1) = 24 * c + 24 := by omega
      rw [e2, e3, ← e1]
      exact k
/-- the law from its first pass on -/
theorem law_all {xs : Nat → Int32} {L : Nat} (hL : L ≤ 3072) {h : XH} (hI : LInv h) : XW room_1 mL_law (xEL xs L) 100 2056 12336 h 23 [some (.ref 3000), some (.ref 0), some (.ref 56), some (.ref 99), some (.int 0), none, none, none] [] :=
  xw_b (b' := 4 * 513 + 4) (bs' := 24 * 513 + 24) (by decide) (by decide) (law_loop hL 513 0 h (by omega) (by omega) hI)
