/-! THE LAW: its wrappers -/
abbrev mL_law : XM := (yL_law, cL_law, 8, (some .boolean), [])
theorem cL9_13 : Cond.classLink RL 13 eA ∈ gtbl := gt_3 137 rfl rfl
theorem cL9_18 : Cond.classLink RL 18 eN ∈ gtbl := gt_4 232 rfl rfl
abbrev mL_board : XM := (yL_board, cL_board, 4, (some .int), [(0, 9, 12, 13)])
theorem cCL_board : Cond.codeWith yL_board cL_board 4 (some .int) [(0, 9, 12, 13)] ∈ gtbl := gt_3 136 rfl rfl
theorem kL_119 : xSH RL 119 mL_board 3 := xSH.of (gt_3 134 rfl rfl) (gt_3 135 rfl rfl) cN_L cCL_board ⟨by decide, by decide, by decide +kernel⟩
abbrev mL_count : XM := (yL_count, cL_count, 4, (some .int), [(0, 9, 12, 18)])
theorem cCL_count : Cond.codeWith yL_count cL_count 4 (some .int) [(0, 9, 12, 18)] ∈ gtbl := gt_4 231 rfl rfl
theorem kL_133 : xSH RL 133 mL_count 3 := xSH.of (gt_4 229 rfl rfl) (gt_4 230 rfl rfl) cN_L cCL_count ⟨by decide, by decide, by decide +kernel⟩
abbrev mL_exit : XM := (yL_exit, cL_exit, 5, (some .int), [(0, 10, 13, 18)])
theorem cCL_exit : Cond.codeWith yL_exit cL_exit 5 (some .int) [(0, 10, 13, 18)] ∈ gtbl := gt_5 18 rfl rfl
theorem kL_136 : xSH RL 136 mL_exit 4 := xSH.of (gt_5 16 rfl rfl) (gt_5 17 rfl rfl) cN_L cCL_exit ⟨by decide, by decide, by decide +kernel⟩
abbrev mL_goes : XM := (yL_goes, cL_goes, 5, (some .int), [(0, 10, 13, 18)])
theorem cCL_goes : Cond.codeWith yL_goes cL_goes 5 (some .int) [(0, 10, 13, 18)] ∈ gtbl := gt_5 31 rfl rfl
theorem kL_140 : xSH RL 140 mL_goes 4 := xSH.of (gt_5 29 rfl rfl) (gt_5 30 rfl rfl) cN_L cCL_goes ⟨by decide, by decide, by decide +kernel⟩
abbrev mL_roll : XM := (yL_roll, cL_roll, 4, (some .int), [(0, 9, 12, 18)])
theorem cCL_roll : Cond.codeWith yL_roll cL_roll 4 (some .int) [(0, 9, 12, 18)] ∈ gtbl := gt_5 47 rfl rfl
theorem kL_143 : xSH RL 143 mL_roll 3 := xSH.of (gt_5 45 rfl rfl) (gt_5 46 rfl rfl) cN_L cCL_roll ⟨by decide, by decide, by decide +kernel⟩
abbrev mL_rolls : XM := (yL_rolls, cL_rolls, 5, (some .int), [(0, 10, 13, 13)])
theorem cCL_rolls : Cond.codeWith yL_rolls cL_rolls 5 (some .int) [(0, 10, 13, 13)] ∈ gtbl := gt_5 79 rfl rfl
theorem kL_146 : xSH RL 146 mL_rolls 4 := xSH.of (gt_5 77 rfl rfl) (gt_5 78 rfl rfl) cN_L cCL_rolls ⟨by decide, by decide, by decide +kernel⟩
abbrev mL_piece : XM := (yL_piece, cL_piece, 4, (some .int), [(0, 9, 12, 18)])
theorem cCL_piece : Cond.codeWith yL_piece cL_piece 4 (some .int) [(0, 9, 12, 18)] ∈ gtbl := gt_5 98 rfl rfl
theorem kL_153 : xSH RL 153 mL_piece 3 := xSH.of (gt_5 96 rfl rfl) (gt_5 97 rfl rfl) cN_L cCL_piece ⟨by decide, by decide, by decide +kernel⟩
abbrev mL_rolled : XM := (yL_rolled, cL_rolled, 5, (some .int), [(0, 10, 13, 18)])
theorem cCL_rolled : Cond.codeWith yL_rolled cL_rolled 5 (some .int) [(0, 10, 13, 18)] ∈ gtbl := gt_5 106 rfl rfl
theorem kL_156 : xSH RL 156 mL_rolled 4 := xSH.of (gt_5 104 rfl rfl) (gt_5 105 rfl rfl) cN_L cCL_rolled ⟨by decide, by decide, by decide +kernel⟩
abbrev mL_fewest : XM := (yL_fewest, cL_fewest, 4, (some .int), [(0, 9, 12, 18)])
theorem cCL_fewest : Cond.codeWith yL_fewest cL_fewest 4 (some .int) [(0, 9, 12, 18)] ∈ gtbl := gt_5 114 rfl rfl
theorem kL_159 : xSH RL 159 mL_fewest 3 := xSH.of (gt_5 112 rfl rfl) (gt_5 113 rfl rfl) cN_L cCL_fewest ⟨by decide, by decide, by decide +kernel⟩
abbrev mL_row : XM := (yL_row, cL_row, 4, (some .int), [(0, 9, 12, 18)])
theorem cCL_row : Cond.codeWith yL_row cL_row 4 (some .int) [(0, 9, 12, 18)] ∈ gtbl := gt_5 151 rfl rfl
theorem kL_162 : xSH RL 162 mL_row 3 := xSH.of (gt_5 149 rfl rfl) (gt_5 150 rfl rfl) cN_L cCL_row ⟨by decide, by decide, by decide +kernel⟩
abbrev mL_never : XM := (yL_never, cL_never, 4, (some .int), [(0, 16, 19, 18)])
theorem cCL_never : Cond.codeWith yL_never cL_never 4 (some .int) [(0, 16, 19, 18)] ∈ gtbl := gt_5 158 rfl rfl
theorem kL_165 : xSH RL 165 mL_never 3 := xSH.of (gt_5 156 rfl rfl) (gt_5 157 rfl rfl) cN_L cCL_never ⟨by decide, by decide, by decide +kernel⟩
abbrev mL_lost : XM := (yL_lost, cL_lost, 4, (some .int), [(0, 16, 19, 18)])
theorem cCL_lost : Cond.codeWith yL_lost cL_lost 4 (some .int) [(0, 16, 19, 18)] ∈ gtbl := gt_5 170 rfl rfl
theorem kL_168 : xSH RL 168 mL_lost 3 := xSH.of (gt_5 168 rfl rfl) (gt_5 169 rfl rfl) cN_L cCL_lost ⟨by decide, by decide, by decide +kernel⟩
abbrev mL_round : XM := (yL_round, cL_round, 4, (some .int), [(0, 9, 12, 18)])
theorem cCL_round : Cond.codeWith yL_round cL_round 4 (some .int) [(0, 9, 12, 18)] ∈ gtbl := gt_5 177 rfl rfl
theorem kL_171 : xSH RL 171 mL_round 3 := xSH.of (gt_5 175 rfl rfl) (gt_5 176 rfl rfl) cN_L cCL_round ⟨by decide, by decide, by decide +kernel⟩
abbrev mL_grains : XM := (yL_grains, cL_grains, 6, (some .int), [(0, 11, 14, 18), (0, 11, 18, 13)])
theorem cCL_grains : Cond.codeWith yL_grains cL_grains 6 (some .int) [(0, 11, 14, 18), (0, 11, 18, 13)] ∈ gtbl := gt_5 184 rfl rfl
theorem kL_174 : xSH RL 174 mL_grains 5 := xSH.of (gt_5 182 rfl rfl) (gt_5 183 rfl rfl) cN_L cCL_grains ⟨by decide, by decide, by decide +kernel⟩
abbrev mL_stood : XM := (yL_stood, cL_stood, 6, (some .int), [(0, 11, 14, 18), (0, 11, 18, 13)])
theorem cCL_stood : Cond.codeWith yL_stood cL_stood 6 (some .int) [(0, 11, 14, 18), (0, 11, 18, 13)] ∈ gtbl := gt_5 232 rfl rfl
theorem kL_178 : xSH RL 178 mL_stood 5 := xSH.of (gt_5 230 rfl rfl) (gt_5 231 rfl rfl) cN_L cCL_stood ⟨by decide, by decide, by decide +kernel⟩
abbrev mL_half : XM := (yL_half, cL_half, 4, (some .int), [(0, 9, 12, 18)])
theorem cCL_half : Cond.codeWith yL_half cL_half 4 (some .int) [(0, 9, 12, 18)] ∈ gtbl := gt_6 0 rfl rfl
theorem kL_181 : xSH RL 181 mL_half 3 := xSH.of (gt_5 238 rfl rfl) (gt_5 239 rfl rfl) cN_L cCL_half ⟨by decide, by decide, by decide +kernel⟩
abbrev mL_first : XM := (yL_first, cL_first, 7, (some .int), [(0, 13, 16, 18), (0, 13, 20, 13)])
theorem cCL_first : Cond.codeWith yL_first cL_first 7 (some .int) [(0, 13, 16, 18), (0, 13, 20, 13)] ∈ gtbl := gt_6 8 rfl rfl
theorem kL_184 : xSH RL 184 mL_first 6 := xSH.of (gt_6 6 rfl rfl) (gt_6 7 rfl rfl) cN_L cCL_first ⟨by decide, by decide, by decide +kernel⟩
abbrev mL_matters : XM := (yL_matters, cL_matters, 5, (some .int), [(0, 9, 12, 18), (0, 9, 16, 13)])
theorem cCL_matters : Cond.codeWith yL_matters cL_matters 5 (some .int) [(0, 9, 12, 18), (0, 9, 16, 13)] ∈ gtbl := gt_6 16 rfl rfl
theorem kL_188 : xSH RL 188 mL_matters 4 := xSH.of (gt_6 14 rfl rfl) (gt_6 15 rfl rfl) cN_L cCL_matters ⟨by decide, by decide, by decide +kernel⟩
abbrev mL_most : XM := (yL_most, cL_most, 4, (some .int), [(0, 9, 12, 13)])
theorem cCL_most : Cond.codeWith yL_most cL_most 4 (some .int) [(0, 9, 12, 13)] ∈ gtbl := gt_6 28 rfl rfl
theorem kL_191 : xSH RL 191 mL_most 3 := xSH.of (gt_6 26 rfl rfl) (gt_6 27 rfl rfl) cN_L cCL_most ⟨by decide, by decide, by decide +kernel⟩
abbrev mL_wanted : XM := (yL_wanted, cL_wanted, 6, (some .int), [(0, 11, 14, 13)])
theorem cCL_wanted : Cond.codeWith yL_wanted cL_wanted 6 (some .int) [(0, 11, 14, 13)] ∈ gtbl := gt_6 39 rfl rfl
theorem kL_196 : xSH RL 196 mL_wanted 4 := xSH.of (gt_6 37 rfl rfl) (gt_6 38 rfl rfl) cN_L cCL_wanted ⟨by decide, by decide, by decide +kernel⟩
abbrev mL_ahead : XM := (yL_ahead, cL_ahead, 5, (some .int), [(0, 9, 12, 18), (0, 9, 16, 13)])
theorem cCL_ahead : Cond.codeWith yL_ahead cL_ahead 5 (some .int) [(0, 9, 12, 18), (0, 9, 16, 13)] ∈ gtbl := gt_6 55 rfl rfl
theorem kL_200 : xSH RL 200 mL_ahead 4 := xSH.of (gt_6 53 rfl rfl) (gt_6 54 rfl rfl) cN_L cCL_ahead ⟨by decide, by decide, by decide +kernel⟩
abbrev mL_choose : XM := (yL_choose, cL_choose, 7, (some .int), [(0, 14, 17, 18), (0, 14, 21, 13)])
theorem cCL_choose : Cond.codeWith yL_choose cL_choose 7 (some .int) [(0, 14, 17, 18), (0, 14, 21, 13)] ∈ gtbl := gt_6 93 rfl rfl
theorem kL_203 : xSH RL 203 mL_choose 6 := xSH.of (gt_6 91 rfl rfl) (gt_6 92 rfl rfl) cN_L cCL_choose ⟨by decide, by decide, by decide +kernel⟩
abbrev mL_often : XM := (yL_often, cL_often, 4, (some .int), [(0, 9, 12, 18)])
theorem cCL_often : Cond.codeWith yL_often cL_often 4 (some .int) [(0, 9, 12, 18)] ∈ gtbl := gt_6 100 rfl rfl
theorem kL_206 : xSH RL 206 mL_often 3 := xSH.of (gt_6 98 rfl rfl) (gt_6 99 rfl rfl) cN_L cCL_often ⟨by decide, by decide, by decide +kernel⟩
abbrev mL_unlike : XM := (yL_unlike, cL_unlike, 4, (some .int), [(0, 8, 11, 18)])
theorem cCL_unlike : Cond.codeWith yL_unlike cL_unlike 4 (some .int) [(0, 8, 11, 18)] ∈ gtbl := gt_6 107 rfl rfl
theorem kL_209 : xSH RL 209 mL_unlike 3 := xSH.of (gt_6 105 rfl rfl) (gt_6 106 rfl rfl) cN_L cCL_unlike ⟨by decide, by decide, by decide +kernel⟩
abbrev mL_draw : XM := (yL_draw, cL_draw, 6, (some .int), [(0, 12, 15, 13)])
theorem cCL_draw : Cond.codeWith yL_draw cL_draw 6 (some .int) [(0, 12, 15, 13)] ∈ gtbl := gt_6 118 rfl rfl
theorem kL_237 : xSH RL 237 mL_draw 5 := xSH.of (gt_6 116 rfl rfl) (gt_6 117 rfl rfl) cN_L cCL_draw ⟨by decide, by decide, by decide +kernel⟩
abbrev mL_ended : XM := (yL_ended, cL_ended, 5, (some .int), [(0, 9, 12, 18), (0, 9, 16, 13)])
theorem cCL_ended : Cond.codeWith yL_ended cL_ended 5 (some .int) [(0, 9, 12, 18), (0, 9, 16, 13)] ∈ gtbl := gt_6 127 rfl rfl
theorem kL_240 : xSH RL 240 mL_ended 4 := xSH.of (gt_6 125 rfl rfl) (gt_6 126 rfl rfl) cN_L cCL_ended ⟨by decide, by decide, by decide +kernel⟩
abbrev mL_together : XM := (yL_together, cL_together, 6, (some .int), [(0, 11, 14, 18), (0, 11, 18, 13)])
theorem cCL_together : Cond.codeWith yL_together cL_together 6 (some .int) [(0, 11, 14, 18), (0, 11, 18, 13)] ∈ gtbl := gt_6 134 rfl rfl
theorem kL_243 : xSH RL 243 mL_together 5 := xSH.of (gt_6 132 rfl rfl) (gt_6 133 rfl rfl) cN_L cCL_together ⟨by decide, by decide, by decide +kernel⟩
abbrev mL_whom : XM := (yL_whom, cL_whom, 7, (some .int), [(0, 14, 17, 18), (0, 14, 21, 13)])
theorem cCL_whom : Cond.codeWith yL_whom cL_whom 7 (some .int) [(0, 14, 17, 18), (0, 14, 21, 13)] ∈ gtbl := gt_6 160 rfl rfl
theorem kL_246 : xSH RL 246 mL_whom 6 := xSH.of (gt_6 158 rfl rfl) (gt_6 159 rfl rfl) cN_L cCL_whom ⟨by decide, by decide, by decide +kernel⟩
abbrev mL_written : XM := (yL_written, cL_written, 4, (some .int), [(0, 9, 12, 18)])
theorem cCL_written : Cond.codeWith yL_written cL_written 4 (some .int) [(0, 9, 12, 18)] ∈ gtbl := gt_6 167 rfl rfl
theorem kL_249 : xSH RL 249 mL_written 3 := xSH.of (gt_6 165 rfl rfl) (gt_6 166 rfl rfl) cN_L cCL_written ⟨by decide, by decide, by decide +kernel⟩
set_option maxRecDepth 20000 in
theorem v_L_board_0 {h : XH} {Q : Option Value → XH → Prop} {X : String → XH → Prop}  (a1 : Int32)
    (vc : ∃ Q1 X1, XSpec mX10_board 83 1 6 100 100 [.ref 0, .int a1] h Q1 X1 ∧ (∀ E9 h9, X1 E9 h9 → (E9 = eA ∧ Q (some (.int 1)) h9)) ∧ ∀ v h1, Q1 v h1 → ∃ r1 : Int32, v = some (.int r1) ∧ (Q (some (.int 0)) (xSL 99 (va_up (xL h1 99) 0 (Int32.toInt64 r1)) h1))) :
    XW (xrm 84 1 6) mL_board (xEW 100 Q 1 6) 100 1 6 h 0 [some (.ref 0), some (.int a1), some (.ref 99), none] [] := by
  refine xi_aload_n (by decide +kernel : decode mL_board.2.1 0 = .ok (.aload_n 2, 1)) rfl rfl (?_ : XW _ _ _ _ _ _ _ 1 _ _)
  refine xi_iconst (v := 0) (by decide +kernel : decode mL_board.2.1 1 = .ok (.iconst 0, 1)) (by decide) (?_ : XW _ _ _ _ _ _ _ 2 _ _)
  refine xi_aload_n (by decide +kernel : decode mL_board.2.1 2 = .ok (.aload_n 0, 1)) rfl rfl (?_ : XW _ _ _ _ _ _ _ 3 _ _)
  refine xi_iload_n (by decide +kernel : decode mL_board.2.1 3 = .ok (.iload_n 1, 1)) rfl rfl (?_ : XW _ _ _ _ _ _ _ 4 _ _)
  obtain ⟨Q1, X1, sp, tx, vc⟩ := vc
  refine xi_callVC (b := 0) (bs := 0) (As := [.int a1]) (st := [.int 0, .ref 99]) (by decide +kernel : decode mL_board.2.1 4 = .ok (.invokevirtual 7, 3)) kL_7 rfl rfl (by omega) rfl sp (xrm_f (by omega)) (xrm_l (by omega) (Nat.le_of_ble_eq_true rfl)) (Nat.le_of_ble_eq_true rfl) (by omega) (fun E9 h9 hx9 => ?_) (fun v9 h1 hq9 => ?_)
  · obtain ⟨rfl, q⟩ := tx E9 h9 hx9
    exact ⟨[], ⟨0, 9, 12, 13⟩, [], 3, 1, rfl, (fun z hz => by cases hz), by decide, by decide, cL9_13, Or.inr rfl, (Or.inl ⟨3, (by decide +kernel : decode mL_board.2.1 12 = .ok (.astore_n 3, 1)), rfl, rfl⟩), by decide, (xi_iconst (v := 1) (by decide +kernel : decode mL_board.2.1 13 = .ok (.iconst 1, 1)) (by decide) (xi_iretW (by decide +kernel : decode mL_board.2.1 14 = .ok (.ireturn, 1)) rfl rfl q) : XW _ _ _ _ _ _ _ 13 _ _)⟩
  obtain ⟨r1, e9, vc⟩ := vc v9 h1 hq9
  subst e9
  show XW _ _ _ _ _ _ _ 7 _ [.int r1, .int 0, .ref 99]
  refine xi_i2l (by decide +kernel : decode mL_board.2.1 7 = .ok (.i2l, 1)) (?_ : XW _ _ _ _ _ _ _ 8 _ _)
  refine xi_last (by decide +kernel : decode mL_board.2.1 8 = .ok (.lastore, 1)) rfl (by omega) (by unfold vp_in; decide) (?_ : XW _ _ _ _ _ _ (xSL 99 (va_up (xL h1 99) 0 (Int32.toInt64 r1)) h1) 9 _ _)
  refine xi_goto (by decide +kernel : decode mL_board.2.1 9 = .ok (.goto 6, 3)) (by decide) (?_ : XW _ _ _ _ _ _ _ 15 _ _)
  refine xi_iconst (v := 0) (by decide +kernel : decode mL_board.2.1 15 = .ok (.iconst 0, 1)) (by decide) (?_ : XW _ _ _ _ _ _ _ 16 _ _)
  exact xi_iretW (by decide +kernel : decode mL_board.2.1 16 = .ok (.ireturn, 1)) rfl rfl vc

set_option maxRecDepth 20000 in
theorem v_L_count_0 {h : XH} {Q : Option Value → XH → Prop} {X : String → XH → Prop}  (a1 : Int32)
    (vc : ∃ Q1 X1, XSpec mX10_count 7 1 6 100 100 [.ref 0, .int a1] h Q1 X1 ∧ (∀ E9 h9, X1 E9 h9 → (E9 = eN ∧ Q (some (.int 1)) h9)) ∧ ∀ v h1, Q1 v h1 → ∃ r1 : Int32, v = some (.int r1) ∧ (Q (some (.int 0)) (xSL 99 (va_up (xL h1 99) 0 (Int32.toInt64 r1)) h1))) :
    XW (xrm 8 1 6) mL_count (xEW 100 Q 1 6) 100 1 6 h 0 [some (.ref 0), some (.int a1), some (.ref 99), none] [] := by
  refine xi_aload_n (by decide +kernel : decode mL_count.2.1 0 = .ok (.aload_n 2, 1)) rfl rfl (?_ : XW _ _ _ _ _ _ _ 1 _ _)
  refine xi_iconst (v := 0) (by decide +kernel : decode mL_count.2.1 1 = .ok (.iconst 0, 1)) (by decide) (?_ : XW _ _ _ _ _ _ _ 2 _ _)
  refine xi_aload_n (by decide +kernel : decode mL_count.2.1 2 = .ok (.aload_n 0, 1)) rfl rfl (?_ : XW _ _ _ _ _ _ _ 3 _ _)
  refine xi_iload_n (by decide +kernel : decode mL_count.2.1 3 = .ok (.iload_n 1, 1)) rfl rfl (?_ : XW _ _ _ _ _ _ _ 4 _ _)
  obtain ⟨Q1, X1, sp, tx, vc⟩ := vc
  refine xi_callVC (b := 0) (bs := 0) (As := [.int a1]) (st := [.int 0, .ref 99]) (by decide +kernel : decode mL_count.2.1 4 = .ok (.invokevirtual 15, 3)) kL_15 rfl rfl (by omega) rfl sp (xrm_f (by omega)) (xrm_l (by omega) (Nat.le_of_ble_eq_true rfl)) (Nat.le_of_ble_eq_true rfl) (by omega) (fun E9 h9 hx9 => ?_) (fun v9 h1 hq9 => ?_)
  · obtain ⟨rfl, q⟩ := tx E9 h9 hx9
    exact ⟨[], ⟨0, 9, 12, 18⟩, [], 3, 1, rfl, (fun z hz => by cases hz), by decide, by decide, cL9_18, Or.inl rfl, (Or.inl ⟨3, (by decide +kernel : decode mL_count.2.1 12 = .ok (.astore_n 3, 1)), rfl, rfl⟩), by decide, (xi_iconst (v := 1) (by decide +kernel : decode mL_count.2.1 13 = .ok (.iconst 1, 1)) (by decide) (xi_iretW (by decide +kernel : decode mL_count.2.1 14 = .ok (.ireturn, 1)) rfl rfl q) : XW _ _ _ _ _ _ _ 13 _ _)⟩
  obtain ⟨r1, e9, vc⟩ := vc v9 h1 hq9
  subst e9
  show XW _ _ _ _ _ _ _ 7 _ [.int r1, .int 0, .ref 99]
  refine xi_i2l (by decide +kernel : decode mL_count.2.1 7 = .ok (.i2l, 1)) (?_ : XW _ _ _ _ _ _ _ 8 _ _)
  refine xi_last (by decide +kernel : decode mL_count.2.1 8 = .ok (.lastore, 1)) rfl (by omega) (by unfold vp_in; decide) (?_ : XW _ _ _ _ _ _ (xSL 99 (va_up (xL h1 99) 0 (Int32.toInt64 r1)) h1) 9 _ _)
  refine xi_goto (by decide +kernel : decode mL_count.2.1 9 = .ok (.goto 6, 3)) (by decide) (?_ : XW _ _ _ _ _ _ _ 15 _ _)
  refine xi_iconst (v := 0) (by decide +kernel : decode mL_count.2.1 15 = .ok (.iconst 0, 1)) (by decide) (?_ : XW _ _ _ _ _ _ _ 16 _ _)
  exact xi_iretW (by decide +kernel : decode mL_count.2.1 16 = .ok (.ireturn, 1)) rfl rfl vc

set_option maxRecDepth 20000 in
theorem v_L_exit_0 {h : XH} {Q : Option Value → XH → Prop} {X : String → XH → Prop}  (a1 : Int32) (a2 : Int32)
    (vc : ∃ Q1 X1, XSpec mX10_exit 8 2 12 100 100 [.ref 0, .int a1, .int a2] h Q1 X1 ∧ (∀ E9 h9, X1 E9 h9 → (E9 = eN ∧ Q (some (.int 1)) h9)) ∧ ∀ v h1, Q1 v h1 → ∃ r1 : Int32, v = some (.int r1) ∧ (Q (some (.int 0)) (xSL 99 (va_up (xL h1 99) 0 (Int32.toInt64 r1)) h1))) :
    XW (xrm 9 2 12) mL_exit (xEW 100 Q 2 12) 100 2 12 h 0 [some (.ref 0), some (.int a1), some (.int a2), some (.ref 99), none] [] := by
  refine xi_aload_n (by decide +kernel : decode mL_exit.2.1 0 = .ok (.aload_n 3, 1)) rfl rfl (?_ : XW _ _ _ _ _ _ _ 1 _ _)
  refine xi_iconst (v := 0) (by decide +kernel : decode mL_exit.2.1 1 = .ok (.iconst 0, 1)) (by decide) (?_ : XW _ _ _ _ _ _ _ 2 _ _)
  refine xi_aload_n (by decide +kernel : decode mL_exit.2.1 2 = .ok (.aload_n 0, 1)) rfl rfl (?_ : XW _ _ _ _ _ _ _ 3 _ _)
  refine xi_iload_n (by decide +kernel : decode mL_exit.2.1 3 = .ok (.iload_n 1, 1)) rfl rfl (?_ : XW _ _ _ _ _ _ _ 4 _ _)
  refine xi_iload_n (by decide +kernel : decode mL_exit.2.1 4 = .ok (.iload_n 2, 1)) rfl rfl (?_ : XW _ _ _ _ _ _ _ 5 _ _)
  obtain ⟨Q1, X1, sp, tx, vc⟩ := vc
  refine xi_callVC (b := 0) (bs := 0) (As := [.int a1, .int a2]) (st := [.int 0, .ref 99]) (by decide +kernel : decode mL_exit.2.1 5 = .ok (.invokevirtual 20, 3)) kL_20 rfl rfl (by omega) rfl sp (xrm_f (by omega)) (xrm_l (by omega) (Nat.le_of_ble_eq_true rfl)) (Nat.le_of_ble_eq_true rfl) (by omega) (fun E9 h9 hx9 => ?_) (fun v9 h1 hq9 => ?_)
  · obtain ⟨rfl, q⟩ := tx E9 h9 hx9
    exact ⟨[], ⟨0, 10, 13, 18⟩, [], 4, 2, rfl, (fun z hz => by cases hz), by decide, by decide, cL9_18, Or.inl rfl, (Or.inr ⟨(by decide +kernel : decode mL_exit.2.1 13 = .ok (.astore 4, 2)), rfl⟩), by decide, (xi_iconst (v := 1) (by decide +kernel : decode mL_exit.2.1 15 = .ok (.iconst 1, 1)) (by decide) (xi_iretW (by decide +kernel : decode mL_exit.2.1 16 = .ok (.ireturn, 1)) rfl rfl q) : XW _ _ _ _ _ _ _ 15 _ _)⟩
  obtain ⟨r1, e9, vc⟩ := vc v9 h1 hq9
  subst e9
  show XW _ _ _ _ _ _ _ 8 _ [.int r1, .int 0, .ref 99]
  refine xi_i2l (by decide +kernel : decode mL_exit.2.1 8 = .ok (.i2l, 1)) (?_ : XW _ _ _ _ _ _ _ 9 _ _)
  refine xi_last (by decide +kernel : decode mL_exit.2.1 9 = .ok (.lastore, 1)) rfl (by omega) (by unfold vp_in; decide) (?_ : XW _ _ _ _ _ _ (xSL 99 (va_up (xL h1 99) 0 (Int32.toInt64 r1)) h1) 10 _ _)
  refine xi_goto (by decide +kernel : decode mL_exit.2.1 10 = .ok (.goto 7, 3)) (by decide) (?_ : XW _ _ _ _ _ _ _ 17 _ _)
  refine xi_iconst (v := 0) (by decide +kernel : decode mL_exit.2.1 17 = .ok (.iconst 0, 1)) (by decide) (?_ : XW _ _ _ _ _ _ _ 18 _ _)
  exact xi_iretW (by decide +kernel : decode mL_exit.2.1 18 = .ok (.ireturn, 1)) rfl rfl vc

set_option maxRecDepth 20000 in
theorem v_L_goes_0 {h : XH} {Q : Option Value → XH → Prop} {X : String → XH → Prop}  (a1 : Int32) (a2 : Int32)
    (vc : ∃ Q1 X1, XSpec mX10_goes 8 2 12 100 100 [.ref 0, .int a1, .int a2] h Q1 X1 ∧ (∀ E9 h9, X1 E9 h9 → (E9 = eN ∧ Q (some (.int 1)) h9)) ∧ ∀ v h1, Q1 v h1 → ∃ r1 : Int32, v = some (.int r1) ∧ (Q (some (.int 0)) (xSL 99 (va_up (xL h1 99) 0 (Int32.toInt64 r1)) h1))) :
    XW (xrm 9 2 12) mL_goes (xEW 100 Q 2 12) 100 2 12 h 0 [some (.ref 0), some (.int a1), some (.int a2), some (.ref 99), none] [] := by
  refine xi_aload_n (by decide +kernel : decode mL_goes.2.1 0 = .ok (.aload_n 3, 1)) rfl rfl (?_ : XW _ _ _ _ _ _ _ 1 _ _)
  refine xi_iconst (v := 0) (by decide +kernel : decode mL_goes.2.1 1 = .ok (.iconst 0, 1)) (by decide) (?_ : XW _ _ _ _ _ _ _ 2 _ _)
  refine xi_aload_n (by decide +kernel : decode mL_goes.2.1 2 = .ok (.aload_n 0, 1)) rfl rfl (?_ : XW _ _ _ _ _ _ _ 3 _ _)
  refine xi_iload_n (by decide +kernel : decode mL_goes.2.1 3 = .ok (.iload_n 1, 1)) rfl rfl (?_ : XW _ _ _ _ _ _ _ 4 _ _)
  refine xi_iload_n (by decide +kernel : decode mL_goes.2.1 4 = .ok (.iload_n 2, 1)) rfl rfl (?_ : XW _ _ _ _ _ _ _ 5 _ _)
  obtain ⟨Q1, X1, sp, tx, vc⟩ := vc
  refine xi_callVC (b := 0) (bs := 0) (As := [.int a1, .int a2]) (st := [.int 0, .ref 99]) (by decide +kernel : decode mL_goes.2.1 5 = .ok (.invokevirtual 24, 3)) kL_24 rfl rfl (by omega) rfl sp (xrm_f (by omega)) (xrm_l (by omega) (Nat.le_of_ble_eq_true rfl)) (Nat.le_of_ble_eq_true rfl) (by omega) (fun E9 h9 hx9 => ?_) (fun v9 h1 hq9 => ?_)
  · obtain ⟨rfl, q⟩ := tx E9 h9 hx9
    exact ⟨[], ⟨0, 10, 13, 18⟩, [], 4, 2, rfl, (fun z hz => by cases hz), by decide, by decide, cL9_18, Or.inl rfl, (Or.inr ⟨(by decide +kernel : decode mL_goes.2.1 13 = .ok (.astore 4, 2)), rfl⟩), by decide, (xi_iconst (v := 1) (by decide +kernel : decode mL_goes.2.1 15 = .ok (.iconst 1, 1)) (by decide) (xi_iretW (by decide +kernel : decode mL_goes.2.1 16 = .ok (.ireturn, 1)) rfl rfl q) : XW _ _ _ _ _ _ _ 15 _ _)⟩
  obtain ⟨r1, e9, vc⟩ := vc v9 h1 hq9
  subst e9
  show XW _ _ _ _ _ _ _ 8 _ [.int r1, .int 0, .ref 99]
  refine xi_i2l (by decide +kernel : decode mL_goes.2.1 8 = .ok (.i2l, 1)) (?_ : XW _ _ _ _ _ _ _ 9 _ _)
  refine xi_last (by decide +kernel : decode mL_goes.2.1 9 = .ok (.lastore, 1)) rfl (by omega) (by unfold vp_in; decide) (?_ : XW _ _ _ _ _ _ (xSL 99 (va_up (xL h1 99) 0 (Int32.toInt64 r1)) h1) 10 _ _)
  refine xi_goto (by decide +kernel : decode mL_goes.2.1 10 = .ok (.goto 7, 3)) (by decide) (?_ : XW _ _ _ _ _ _ _ 17 _ _)
  refine xi_iconst (v := 0) (by decide +kernel : decode mL_goes.2.1 17 = .ok (.iconst 0, 1)) (by decide) (?_ : XW _ _ _ _ _ _ _ 18 _ _)
  exact xi_iretW (by decide +kernel : decode mL_goes.2.1 18 = .ok (.ireturn, 1)) rfl rfl vc

set_option maxRecDepth 20000 in
theorem v_L_roll_0 {h : XH} {Q : Option Value → XH → Prop} {X : String → XH → Prop}  (a1 : Int32)
    (vc : ∃ Q1 X1, XSpec mX10_roll 8 1 6 100 100 [.ref 0, .int a1] h Q1 X1 ∧ (∀ E9 h9, X1 E9 h9 → (E9 = eN ∧ Q (some (.int 1)) h9)) ∧ ∀ v h1, Q1 v h1 → ∃ r1 : Int32, v = some (.int r1) ∧ (Q (some (.int 0)) (xSL 99 (va_up (xL h1 99) 0 (Int32.toInt64 r1)) h1))) :
    XW (xrm 9 1 6) mL_roll (xEW 100 Q 1 6) 100 1 6 h 0 [some (.ref 0), some (.int a1), some (.ref 99), none] [] := by
  refine xi_aload_n (by decide +kernel : decode mL_roll.2.1 0 = .ok (.aload_n 2, 1)) rfl rfl (?_ : XW _ _ _ _ _ _ _ 1 _ _)
  refine xi_iconst (v := 0) (by decide +kernel : decode mL_roll.2.1 1 = .ok (.iconst 0, 1)) (by decide) (?_ : XW _ _ _ _ _ _ _ 2 _ _)
  refine xi_aload_n (by decide +kernel : decode mL_roll.2.1 2 = .ok (.aload_n 0, 1)) rfl rfl (?_ : XW _ _ _ _ _ _ _ 3 _ _)
  refine xi_iload_n (by decide +kernel : decode mL_roll.2.1 3 = .ok (.iload_n 1, 1)) rfl rfl (?_ : XW _ _ _ _ _ _ _ 4 _ _)
  obtain ⟨Q1, X1, sp, tx, vc⟩ := vc
  refine xi_callVC (b := 0) (bs := 0) (As := [.int a1]) (st := [.int 0, .ref 99]) (by decide +kernel : decode mL_roll.2.1 4 = .ok (.invokevirtual 27, 3)) kL_27 rfl rfl (by omega) rfl sp (xrm_f (by omega)) (xrm_l (by omega) (Nat.le_of_ble_eq_true rfl)) (Nat.le_of_ble_eq_true rfl) (by omega) (fun E9 h9 hx9 => ?_) (fun v9 h1 hq9 => ?_)
  · obtain ⟨rfl, q⟩ := tx E9 h9 hx9
    exact ⟨[], ⟨0, 9, 12, 18⟩, [], 3, 1, rfl, (fun z hz => by cases hz), by decide, by decide, cL9_18, Or.inl rfl, (Or.inl ⟨3, (by decide +kernel : decode mL_roll.2.1 12 = .ok (.astore_n 3, 1)), rfl, rfl⟩), by decide, (xi_iconst (v := 1) (by decide +kernel : decode mL_roll.2.1 13 = .ok (.iconst 1, 1)) (by decide) (xi_iretW (by decide +kernel : decode mL_roll.2.1 14 = .ok (.ireturn, 1)) rfl rfl q) : XW _ _ _ _ _ _ _ 13 _ _)⟩
  obtain ⟨r1, e9, vc⟩ := vc v9 h1 hq9
  subst e9
  show XW _ _ _ _ _ _ _ 7 _ [.int r1, .int 0, .ref 99]
  refine xi_i2l (by decide +kernel : decode mL_roll.2.1 7 = .ok (.i2l, 1)) (?_ : XW _ _ _ _ _ _ _ 8 _ _)
  refine xi_last (by decide +kernel : decode mL_roll.2.1 8 = .ok (.lastore, 1)) rfl (by omega) (by unfold vp_in; decide) (?_ : XW _ _ _ _ _ _ (xSL 99 (va_up (xL h1 99) 0 (Int32.toInt64 r1)) h1) 9 _ _)
  refine xi_goto (by decide +kernel : decode mL_roll.2.1 9 = .ok (.goto 6, 3)) (by decide) (?_ : XW _ _ _ _ _ _ _ 15 _ _)
  refine xi_iconst (v := 0) (by decide +kernel : decode mL_roll.2.1 15 = .ok (.iconst 0, 1)) (by decide) (?_ : XW _ _ _ _ _ _ _ 16 _ _)
  exact xi_iretW (by decide +kernel : decode mL_roll.2.1 16 = .ok (.ireturn, 1)) rfl rfl vc

set_option maxRecDepth 20000 in
theorem v_L_rolls_0 {h : XH} {Q : Option Value → XH → Prop} {X : String → XH → Prop}  (a1 : Int32) (a2 : Int32)
    (vc : ∃ Q1 X1, XSpec mX10_rolls 7 1 6 100 100 [.ref 0, .int a1, .int a2] h Q1 X1 ∧ (∀ E9 h9, X1 E9 h9 → (E9 = eA ∧ Q (some (.int 1)) h9)) ∧ ∀ v h1, Q1 v h1 → ∃ r1 : Int32, v = some (.int r1) ∧ (Q (some (.int 0)) (xSL 99 (va_up (xL h1 99) 0 (Int32.toInt64 r1)) h1))) :
    XW (xrm 8 1 6) mL_rolls (xEW 100 Q 1 6) 100 1 6 h 0 [some (.ref 0), some (.int a1), some (.int a2), some (.ref 99), none] [] := by
  refine xi_aload_n (by decide +kernel : decode mL_rolls.2.1 0 = .ok (.aload_n 3, 1)) rfl rfl (?_ : XW _ _ _ _ _ _ _ 1 _ _)
  refine xi_iconst (v := 0) (by decide +kernel : decode mL_rolls.2.1 1 = .ok (.iconst 0, 1)) (by decide) (?_ : XW _ _ _ _ _ _ _ 2 _ _)
  refine xi_aload_n (by decide +kernel : decode mL_rolls.2.1 2 = .ok (.aload_n 0, 1)) rfl rfl (?_ : XW _ _ _ _ _ _ _ 3 _ _)
  refine xi_iload_n (by decide +kernel : decode mL_rolls.2.1 3 = .ok (.iload_n 1, 1)) rfl rfl (?_ : XW _ _ _ _ _ _ _ 4 _ _)
  refine xi_iload_n (by decide +kernel : decode mL_rolls.2.1 4 = .ok (.iload_n 2, 1)) rfl rfl (?_ : XW _ _ _ _ _ _ _ 5 _ _)
  obtain ⟨Q1, X1, sp, tx, vc⟩ := vc
  refine xi_callVC (b := 0) (bs := 0) (As := [.int a1, .int a2]) (st := [.int 0, .ref 99]) (by decide +kernel : decode mL_rolls.2.1 5 = .ok (.invokevirtual 30, 3)) kL_30 rfl rfl (by omega) rfl sp (xrm_f (by omega)) (xrm_l (by omega) (Nat.le_of_ble_eq_true rfl)) (Nat.le_of_ble_eq_true rfl) (by omega) (fun E9 h9 hx9 => ?_) (fun v9 h1 hq9 => ?_)
  · obtain ⟨rfl, q⟩ := tx E9 h9 hx9
    exact ⟨[], ⟨0, 10, 13, 13⟩, [], 4, 2, rfl, (fun z hz => by cases hz), by decide, by decide, cL9_13, Or.inr rfl, (Or.inr ⟨(by decide +kernel : decode mL_rolls.2.1 13 = .ok (.astore 4, 2)), rfl⟩), by decide, (xi_iconst (v := 1) (by decide +kernel : decode mL_rolls.2.1 15 = .ok (.iconst 1, 1)) (by decide) (xi_iretW (by decide +kernel : decode mL_rolls.2.1 16 = .ok (.ireturn, 1)) rfl rfl q) : XW _ _ _ _ _ _ _ 15 _ _)⟩
  obtain ⟨r1, e9, vc⟩ := vc v9 h1 hq9
  subst e9
  show XW _ _ _ _ _ _ _ 8 _ [.int r1, .int 0, .ref 99]
  refine xi_i2l (by decide +kernel : decode mL_rolls.2.1 8 = .ok (.i2l, 1)) (?_ : XW _ _ _ _ _ _ _ 9 _ _)
  refine xi_last (by decide +kernel : decode mL_rolls.2.1 9 = .ok (.lastore, 1)) rfl (by omega) (by unfold vp_in; decide) (?_ : XW _ _ _ _ _ _ (xSL 99 (va_up (xL h1 99) 0 (Int32.toInt64 r1)) h1) 10 _ _)
  refine xi_goto (by decide +kernel : decode mL_rolls.2.1 10 = .ok (.goto 7, 3)) (by decide) (?_ : XW _ _ _ _ _ _ _ 17 _ _)
  refine xi_iconst (v := 0) (by decide +kernel : decode mL_rolls.2.1 17 = .ok (.iconst 0, 1)) (by decide) (?_ : XW _ _ _ _ _ _ _ 18 _ _)
  exact xi_iretW (by decide +kernel : decode mL_rolls.2.1 18 = .ok (.ireturn, 1)) rfl rfl vc

set_option maxRecDepth 20000 in
theorem v_L_piece_0 {h : XH} {Q : Option Value → XH → Prop} {X : String → XH → Prop}  (a1 : Int32)
    (vc : ∃ Q1 X1, XSpec mX10_piece 7 1 6 100 100 [.ref 0, .int a1] h Q1 X1 ∧ (∀ E9 h9, X1 E9 h9 → (E9 = eN ∧ Q (some (.int 1)) h9)) ∧ ∀ v h1, Q1 v h1 → ∃ r1 : Int32, v = some (.int r1) ∧ (Q (some (.int 0)) (xSL 99 (va_up (xL h1 99) 0 (Int32.toInt64 r1)) h1))) :
    XW (xrm 8 1 6) mL_piece (xEW 100 Q 1 6) 100 1 6 h 0 [some (.ref 0), some (.int a1), some (.ref 99), none] [] := by
  refine xi_aload_n (by decide +kernel : decode mL_piece.2.1 0 = .ok (.aload_n 2, 1)) rfl rfl (?_ : XW _ _ _ _ _ _ _ 1 _ _)
  refine xi_iconst (v := 0) (by decide +kernel : decode mL_piece.2.1 1 = .ok (.iconst 0, 1)) (by decide) (?_ : XW _ _ _ _ _ _ _ 2 _ _)
  refine xi_aload_n (by decide +kernel : decode mL_piece.2.1 2 = .ok (.aload_n 0, 1)) rfl rfl (?_ : XW _ _ _ _ _ _ _ 3 _ _)
  refine xi_iload_n (by decide +kernel : decode mL_piece.2.1 3 = .ok (.iload_n 1, 1)) rfl rfl (?_ : XW _ _ _ _ _ _ _ 4 _ _)
  obtain ⟨Q1, X1, sp, tx, vc⟩ := vc
  refine xi_callVC (b := 0) (bs := 0) (As := [.int a1]) (st := [.int 0, .ref 99]) (by decide +kernel : decode mL_piece.2.1 4 = .ok (.invokevirtual 33, 3)) kL_33 rfl rfl (by omega) rfl sp (xrm_f (by omega)) (xrm_l (by omega) (Nat.le_of_ble_eq_true rfl)) (Nat.le_of_ble_eq_true rfl) (by omega) (fun E9 h9 hx9 => ?_) (fun v9 h1 hq9 => ?_)
  · obtain ⟨rfl, q⟩ := tx E9 h9 hx9
    exact ⟨[], ⟨0, 9, 12, 18⟩, [], 3, 1, rfl, (fun z hz => by cases hz), by decide, by decide, cL9_18, Or.inl rfl, (Or.inl ⟨3, (by decide +kernel : decode mL_piece.2.1 12 = .ok (.astore_n 3, 1)), rfl, rfl⟩), by decide, (xi_iconst (v := 1) (by decide +kernel : decode mL_piece.2.1 13 = .ok (.iconst 1, 1)) (by decide) (xi_iretW (by decide +kernel : decode mL_piece.2.1 14 = .ok (.ireturn, 1)) rfl rfl q) : XW _ _ _ _ _ _ _ 13 _ _)⟩
  obtain ⟨r1, e9, vc⟩ := vc v9 h1 hq9
  subst e9
  show XW _ _ _ _ _ _ _ 7 _ [.int r1, .int 0, .ref 99]
  refine xi_i2l (by decide +kernel : decode mL_piece.2.1 7 = .ok (.i2l, 1)) (?_ : XW _ _ _ _ _ _ _ 8 _ _)
  refine xi_last (by decide +kernel : decode mL_piece.2.1 8 = .ok (.lastore, 1)) rfl (by omega) (by unfold vp_in; decide) (?_ : XW _ _ _ _ _ _ (xSL 99 (va_up (xL h1 99) 0 (Int32.toInt64 r1)) h1) 9 _ _)
  refine xi_goto (by decide +kernel : decode mL_piece.2.1 9 = .ok (.goto 6, 3)) (by decide) (?_ : XW _ _ _ _ _ _ _ 15 _ _)
  refine xi_iconst (v := 0) (by decide +kernel : decode mL_piece.2.1 15 = .ok (.iconst 0, 1)) (by decide) (?_ : XW _ _ _ _ _ _ _ 16 _ _)
  exact xi_iretW (by decide +kernel : decode mL_piece.2.1 16 = .ok (.ireturn, 1)) rfl rfl vc

set_option maxRecDepth 20000 in
theorem v_L_rolled_0 {h : XH} {Q : Option Value → XH → Prop} {X : String → XH → Prop}  (a1 : Int32) (a2 : Int32)
    (vc : ∃ Q1 X1, XSpec mX10_rolled 7 1 6 100 100 [.ref 0, .int a1, .int a2] h Q1 X1 ∧ (∀ E9 h9, X1 E9 h9 → (E9 = eN ∧ Q (some (.int 1)) h9)) ∧ ∀ v h1, Q1 v h1 → ∃ r1 : Int32, v = some (.int r1) ∧ (Q (some (.int 0)) (xSL 99 (va_up (xL h1 99) 0 (Int32.toInt64 r1)) h1))) :
    XW (xrm 8 1 6) mL_rolled (xEW 100 Q 1 6) 100 1 6 h 0 [some (.ref 0), some (.int a1), some (.int a2), some (.ref 99), none] [] := by
  refine xi_aload_n (by decide +kernel : decode mL_rolled.2.1 0 = .ok (.aload_n 3, 1)) rfl rfl (?_ : XW _ _ _ _ _ _ _ 1 _ _)
  refine xi_iconst (v := 0) (by decide +kernel : decode mL_rolled.2.1 1 = .ok (.iconst 0, 1)) (by decide) (?_ : XW _ _ _ _ _ _ _ 2 _ _)
  refine xi_aload_n (by decide +kernel : decode mL_rolled.2.1 2 = .ok (.aload_n 0, 1)) rfl rfl (?_ : XW _ _ _ _ _ _ _ 3 _ _)
  refine xi_iload_n (by decide +kernel : decode mL_rolled.2.1 3 = .ok (.iload_n 1, 1)) rfl rfl (?_ : XW _ _ _ _ _ _ _ 4 _ _)
  refine xi_iload_n (by decide +kernel : decode mL_rolled.2.1 4 = .ok (.iload_n 2, 1)) rfl rfl (?_ : XW _ _ _ _ _ _ _ 5 _ _)
  obtain ⟨Q1, X1, sp, tx, vc⟩ := vc
  refine xi_callVC (b := 0) (bs := 0) (As := [.int a1, .int a2]) (st := [.int 0, .ref 99]) (by decide +kernel : decode mL_rolled.2.1 5 = .ok (.invokevirtual 36, 3)) kL_36 rfl rfl (by omega) rfl sp (xrm_f (by omega)) (xrm_l (by omega) (Nat.le_of_ble_eq_true rfl)) (Nat.le_of_ble_eq_true rfl) (by omega) (fun E9 h9 hx9 => ?_) (fun v9 h1 hq9 => ?_)
  · obtain ⟨rfl, q⟩ := tx E9 h9 hx9
    exact ⟨[], ⟨0, 10, 13, 18⟩, [], 4, 2, rfl, (fun z hz => by cases hz), by decide, by decide, cL9_18, Or.inl rfl, (Or.inr ⟨(by decide +kernel : decode mL_rolled.2.1 13 = .ok (.astore 4, 2)), rfl⟩), by decide, (xi_iconst (v := 1) (by decide +kernel : decode mL_rolled.2.1 15 = .ok (.iconst 1, 1)) (by decide) (xi_iretW (by decide +kernel : decode mL_rolled.2.1 16 = .ok (.ireturn, 1)) rfl rfl q) : XW _ _ _ _ _ _ _ 15 _ _)⟩
  obtain ⟨r1, e9, vc⟩ := vc v9 h1 hq9
  subst e9
  show XW _ _ _ _ _ _ _ 8 _ [.int r1, .int 0, .ref 99]
  refine xi_i2l (by decide +kernel : decode mL_rolled.2.1 8 = .ok (.i2l, 1)) (?_ : XW _ _ _ _ _ _ _ 9 _ _)
  refine xi_last (by decide +kernel : decode mL_rolled.2.1 9 = .ok (.lastore, 1)) rfl (by omega) (by unfold vp_in; decide) (?_ : XW _ _ _ _ _ _ (xSL 99 (va_up (xL h1 99) 0 (Int32.toInt64 r1)) h1) 10 _ _)
  refine xi_goto (by decide +kernel : decode mL_rolled.2.1 10 = .ok (.goto 7, 3)) (by decide) (?_ : XW _ _ _ _ _ _ _ 17 _ _)
  refine xi_iconst (v := 0) (by decide +kernel : decode mL_rolled.2.1 17 = .ok (.iconst 0, 1)) (by decide) (?_ : XW _ _ _ _ _ _ _ 18 _ _)
  exact xi_iretW (by decide +kernel : decode mL_rolled.2.1 18 = .ok (.ireturn, 1)) rfl rfl vc

set_option maxRecDepth 20000 in
theorem v_L_fewest_0 {h : XH} {Q : Option Value → XH → Prop} {X : String → XH → Prop}  (a1 : Int32)
    (vc : ∃ Q1 X1, XSpec mX10_fewest 8 1 6 100 100 [.ref 0, .int a1] h Q1 X1 ∧ (∀ E9 h9, X1 E9 h9 → (E9 = eN ∧ Q (some (.int 1)) h9)) ∧ ∀ v h1, Q1 v h1 → ∃ r1 : Int32, v = some (.int r1) ∧ (Q (some (.int 0)) (xSL 99 (va_up (xL h1 99) 0 (Int32.toInt64 r1)) h1))) :
    XW (xrm 9 1 6) mL_fewest (xEW 100 Q 1 6) 100 1 6 h 0 [some (.ref 0), some (.int a1), some (.ref 99), none] [] := by
  refine xi_aload_n (by decide +kernel : decode mL_fewest.2.1 0 = .ok (.aload_n 2, 1)) rfl rfl (?_ : XW _ _ _ _ _ _ _ 1 _ _)
  refine xi_iconst (v := 0) (by decide +kernel : decode mL_fewest.2.1 1 = .ok (.iconst 0, 1)) (by decide) (?_ : XW _ _ _ _ _ _ _ 2 _ _)
  refine xi_aload_n (by decide +kernel : decode mL_fewest.2.1 2 = .ok (.aload_n 0, 1)) rfl rfl (?_ : XW _ _ _ _ _ _ _ 3 _ _)
  refine xi_iload_n (by decide +kernel : decode mL_fewest.2.1 3 = .ok (.iload_n 1, 1)) rfl rfl (?_ : XW _ _ _ _ _ _ _ 4 _ _)
  obtain ⟨Q1, X1, sp, tx, vc⟩ := vc
  refine xi_callVC (b := 0) (bs := 0) (As := [.int a1]) (st := [.int 0, .ref 99]) (by decide +kernel : decode mL_fewest.2.1 4 = .ok (.invokevirtual 39, 3)) kL_39 rfl rfl (by omega) rfl sp (xrm_f (by omega)) (xrm_l (by omega) (Nat.le_of_ble_eq_true rfl)) (Nat.le_of_ble_eq_true rfl) (by omega) (fun E9 h9 hx9 => ?_) (fun v9 h1 hq9 => ?_)
  · obtain ⟨rfl, q⟩ := tx E9 h9 hx9
    exact ⟨[], ⟨0, 9, 12, 18⟩, [], 3, 1, rfl, (fun z hz => by cases hz), by decide, by decide, cL9_18, Or.inl rfl, (Or.inl ⟨3, (by decide +kernel : decode mL_fewest.2.1 12 = .ok (.astore_n 3, 1)), rfl, rfl⟩), by decide, (xi_iconst (v := 1) (by decide +kernel : decode mL_fewest.2.1 13 = .ok (.iconst 1, 1)) (by decide) (xi_iretW (by decide +kernel : decode mL_fewest.2.1 14 = .ok (.ireturn, 1)) rfl rfl q) : XW _ _ _ _ _ _ _ 13 _ _)⟩
  obtain ⟨r1, e9, vc⟩ := vc v9 h1 hq9
  subst e9
  show XW _ _ _ _ _ _ _ 7 _ [.int r1, .int 0, .ref 99]
  refine xi_i2l (by decide +kernel : decode mL_fewest.2.1 7 = .ok (.i2l, 1)) (?_ : XW _ _ _ _ _ _ _ 8 _ _)
  refine xi_last (by decide +kernel : decode mL_fewest.2.1 8 = .ok (.lastore, 1)) rfl (by omega) (by unfold vp_in; decide) (?_ : XW _ _ _ _ _ _ (xSL 99 (va_up (xL h1 99) 0 (Int32.toInt64 r1)) h1) 9 _ _)
  refine xi_goto (by decide +kernel : decode mL_fewest.2.1 9 = .ok (.goto 6, 3)) (by decide) (?_ : XW _ _ _ _ _ _ _ 15 _ _)
  refine xi_iconst (v := 0) (by decide +kernel : decode mL_fewest.2.1 15 = .ok (.iconst 0, 1)) (by decide) (?_ : XW _ _ _ _ _ _ _ 16 _ _)
  exact xi_iretW (by decide +kernel : decode mL_fewest.2.1 16 = .ok (.ireturn, 1)) rfl rfl vc

set_option maxRecDepth 20000 in
theorem v_L_row_0 {h : XH} {Q : Option Value → XH → Prop} {X : String → XH → Prop}  (a1 : Int32)
    (vc : ∃ Q1 X1, XSpec mX10_row 7 1 6 100 100 [.ref 0, .int a1] h Q1 X1 ∧ (∀ E9 h9, X1 E9 h9 → (E9 = eN ∧ Q (some (.int 1)) h9)) ∧ ∀ v h1, Q1 v h1 → ∃ r1 : Int32, v = some (.int r1) ∧ (Q (some (.int 0)) (xSL 99 (va_up (xL h1 99) 0 (Int32.toInt64 r1)) h1))) :
    XW (xrm 8 1 6) mL_row (xEW 100 Q 1 6) 100 1 6 h 0 [some (.ref 0), some (.int a1), some (.ref 99), none] [] := by
  refine xi_aload_n (by decide +kernel : decode mL_row.2.1 0 = .ok (.aload_n 2, 1)) rfl rfl (?_ : XW _ _ _ _ _ _ _ 1 _ _)
  refine xi_iconst (v := 0) (by decide +kernel : decode mL_row.2.1 1 = .ok (.iconst 0, 1)) (by decide) (?_ : XW _ _ _ _ _ _ _ 2 _ _)
  refine xi_aload_n (by decide +kernel : decode mL_row.2.1 2 = .ok (.aload_n 0, 1)) rfl rfl (?_ : XW _ _ _ _ _ _ _ 3 _ _)
  refine xi_iload_n (by decide +kernel : decode mL_row.2.1 3 = .ok (.iload_n 1, 1)) rfl rfl (?_ : XW _ _ _ _ _ _ _ 4 _ _)
  obtain ⟨Q1, X1, sp, tx, vc⟩ := vc
  refine xi_callVC (b := 0) (bs := 0) (As := [.int a1]) (st := [.int 0, .ref 99]) (by decide +kernel : decode mL_row.2.1 4 = .ok (.invokevirtual 42, 3)) kL_42 rfl rfl (by omega) rfl sp (xrm_f (by omega)) (xrm_l (by omega) (Nat.le_of_ble_eq_true rfl)) (Nat.le_of_ble_eq_true rfl) (by omega) (fun E9 h9 hx9 => ?_) (fun v9 h1 hq9 => ?_)
  · obtain ⟨rfl, q⟩ := tx E9 h9 hx9
    exact ⟨[], ⟨0, 9, 12, 18⟩, [], 3, 1, rfl, (fun z hz => by cases hz), by decide, by decide, cL9_18, Or.inl rfl, (Or.inl ⟨3, (by decide +kernel : decode mL_row.2.1 12 = .ok (.astore_n 3, 1)), rfl, rfl⟩), by decide, (xi_iconst (v := 1) (by decide +kernel : decode mL_row.2.1 13 = .ok (.iconst 1, 1)) (by decide) (xi_iretW (by decide +kernel : decode mL_row.2.1 14 = .ok (.ireturn, 1)) rfl rfl q) : XW _ _ _ _ _ _ _ 13 _ _)⟩
  obtain ⟨r1, e9, vc⟩ := vc v9 h1 hq9
  subst e9
  show XW _ _ _ _ _ _ _ 7 _ [.int r1, .int 0, .ref 99]
  refine xi_i2l (by decide +kernel : decode mL_row.2.1 7 = .ok (.i2l, 1)) (?_ : XW _ _ _ _ _ _ _ 8 _ _)
  refine xi_last (by decide +kernel : decode mL_row.2.1 8 = .ok (.lastore, 1)) rfl (by omega) (by unfold vp_in; decide) (?_ : XW _ _ _ _ _ _ (xSL 99 (va_up (xL h1 99) 0 (Int32.toInt64 r1)) h1) 9 _ _)
  refine xi_goto (by decide +kernel : decode mL_row.2.1 9 = .ok (.goto 6, 3)) (by decide) (?_ : XW _ _ _ _ _ _ _ 15 _ _)
  refine xi_iconst (v := 0) (by decide +kernel : decode mL_row.2.1 15 = .ok (.iconst 0, 1)) (by decide) (?_ : XW _ _ _ _ _ _ _ 16 _ _)
  exact xi_iretW (by decide +kernel : decode mL_row.2.1 16 = .ok (.ireturn, 1)) rfl rfl vc

set_option maxRecDepth 20000 in
theorem v_L_never_0 {h : XH} {Q : Option Value → XH → Prop} {X : String → XH → Prop}  (a1 : Int32)
    (vc : ∃ Q1 X1, XSpec mX10_never 8 1 6 100 100 [.ref 0, .int a1] h Q1 X1 ∧ (∀ E9 h9, X1 E9 h9 → (E9 = eN ∧ Q (some (.int 1)) h9)) ∧ ∀ v h1, Q1 v h1 → ∃ r1 : Int32, v = some (.int r1) ∧ ((r1 = 0 → Q (some (.int 0)) (xSL 99 (va_up (xL h1 99) 0 0) h1)) ∧ (¬ r1 = 0 → Q (some (.int 0)) (xSL 99 (va_up (xL h1 99) 0 1) h1)))) :
    XW (xrm 9 1 6) mL_never (xEW 100 Q 1 6) 100 1 6 h 0 [some (.ref 0), some (.int a1), some (.ref 99), none] [] := by
  refine xi_aload_n (by decide +kernel : decode mL_never.2.1 0 = .ok (.aload_n 2, 1)) rfl rfl (?_ : XW _ _ _ _ _ _ _ 1 _ _)
  refine xi_iconst (v := 0) (by decide +kernel : decode mL_never.2.1 1 = .ok (.iconst 0, 1)) (by decide) (?_ : XW _ _ _ _ _ _ _ 2 _ _)
  refine xi_aload_n (by decide +kernel : decode mL_never.2.1 2 = .ok (.aload_n 0, 1)) rfl rfl (?_ : XW _ _ _ _ _ _ _ 3 _ _)
  refine xi_iload_n (by decide +kernel : decode mL_never.2.1 3 = .ok (.iload_n 1, 1)) rfl rfl (?_ : XW _ _ _ _ _ _ _ 4 _ _)
  obtain ⟨Q1, X1, sp, tx, vc⟩ := vc
  refine xi_callVC (b := 0) (bs := 0) (As := [.int a1]) (st := [.int 0, .ref 99]) (by decide +kernel : decode mL_never.2.1 4 = .ok (.invokevirtual 45, 3)) kL_45 rfl rfl (by omega) rfl sp (xrm_f (by omega)) (xrm_l (by omega) (Nat.le_of_ble_eq_true rfl)) (Nat.le_of_ble_eq_true rfl) (by omega) (fun E9 h9 hx9 => ?_) (fun v9 h1 hq9 => ?_)
  · obtain ⟨rfl, q⟩ := tx E9 h9 hx9
    exact ⟨[], ⟨0, 16, 19, 18⟩, [], 3, 1, rfl, (fun z hz => by cases hz), by decide, by decide, cL9_18, Or.inl rfl, (Or.inl ⟨3, (by decide +kernel : decode mL_never.2.1 19 = .ok (.astore_n 3, 1)), rfl, rfl⟩), by decide, (xi_iconst (v := 1) (by decide +kernel : decode mL_never.2.1 20 = .ok (.iconst 1, 1)) (by decide) (xi_iretW (by decide +kernel : decode mL_never.2.1 21 = .ok (.ireturn, 1)) rfl rfl q) : XW _ _ _ _ _ _ _ 20 _ _)⟩
  obtain ⟨r1, e9, vc⟩ := vc v9 h1 hq9
  subst e9
  show XW _ _ _ _ _ _ _ 7 _ [.int r1, .int 0, .ref 99]
  refine xi_if_eq (by decide +kernel : decode mL_never.2.1 7 = .ok (.ifCond .eq 7, 3)) (by decide) (fun c => (?_ : XW _ _ _ _ _ _ _ 14 _ _)) (fun c => (?_ : XW _ _ _ _ _ _ _ 10 _ _))
  · replace vc := vc.1 c
    refine xi_lconst (v := 0) (by decide +kernel : decode mL_never.2.1 14 = .ok (.lconst 0, 1)) (by decide) (?_ : XW _ _ _ _ _ _ _ 15 _ _)
    refine xi_last (by decide +kernel : decode mL_never.2.1 15 = .ok (.lastore, 1)) rfl (by omega) (by unfold vp_in; decide) (?_ : XW _ _ _ _ _ _ (xSL 99 (va_up (xL h1 99) 0 0) h1) 16 _ _)
    refine xi_goto (by decide +kernel : decode mL_never.2.1 16 = .ok (.goto 6, 3)) (by decide) (?_ : XW _ _ _ _ _ _ _ 22 _ _)
    refine xi_iconst (v := 0) (by decide +kernel : decode mL_never.2.1 22 = .ok (.iconst 0, 1)) (by decide) (?_ : XW _ _ _ _ _ _ _ 23 _ _)
    exact xi_iretW (by decide +kernel : decode mL_never.2.1 23 = .ok (.ireturn, 1)) rfl rfl vc
  · replace vc := vc.2 c
    refine xi_lconst (v := 1) (by decide +kernel : decode mL_never.2.1 10 = .ok (.lconst 1, 1)) (by decide) (?_ : XW _ _ _ _ _ _ _ 11 _ _)
    refine xi_goto (by decide +kernel : decode mL_never.2.1 11 = .ok (.goto 4, 3)) (by decide) (?_ : XW _ _ _ _ _ _ _ 15 _ _)
    refine xi_last (by decide +kernel : decode mL_never.2.1 15 = .ok (.lastore, 1)) rfl (by omega) (by unfold vp_in; decide) (?_ : XW _ _ _ _ _ _ (xSL 99 (va_up (xL h1 99) 0 1) h1) 16 _ _)
    refine xi_goto (by decide +kernel : decode mL_never.2.1 16 = .ok (.goto 6, 3)) (by decide) (?_ : XW _ _ _ _ _ _ _ 22 _ _)
    refine xi_iconst (v := 0) (by decide +kernel : decode mL_never.2.1 22 = .ok (.iconst 0, 1)) (by decide) (?_ : XW _ _ _ _ _ _ _ 23 _ _)
    exact xi_iretW (by decide +kernel : decode mL_never.2.1 23 = .ok (.ireturn, 1)) rfl rfl vc

set_option maxRecDepth 20000 in
theorem v_L_lost_0 {h : XH} {Q : Option Value → XH → Prop} {X : String → XH → Prop}  (a1 : Int32)
    (vc : ∃ Q1 X1, XSpec mX10_lost 8 1 6 100 100 [.ref 0, .int a1] h Q1 X1 ∧ (∀ E9 h9, X1 E9 h9 → (E9 = eN ∧ Q (some (.int 1)) h9)) ∧ ∀ v h1, Q1 v h1 → ∃ r1 : Int32, v = some (.int r1) ∧ ((r1 = 0 → Q (some (.int 0)) (xSL 99 (va_up (xL h1 99) 0 0) h1)) ∧ (¬ r1 = 0 → Q (some (.int 0)) (xSL 99 (va_up (xL h1 99) 0 1) h1)))) :
    XW (xrm 9 1 6) mL_lost (xEW 100 Q 1 6) 100 1 6 h 0 [some (.ref 0), some (.int a1), some (.ref 99), none] [] := by
  refine xi_aload_n (by decide +kernel : decode mL_lost.2.1 0 = .ok (.aload_n 2, 1)) rfl rfl (?_ : XW _ _ _ _ _ _ _ 1 _ _)
  refine xi_iconst (v := 0) (by decide +kernel : decode mL_lost.2.1 1 = .ok (.iconst 0, 1)) (by decide) (?_ : XW _ _ _ _ _ _ _ 2 _ _)
  refine xi_aload_n (by decide +kernel : decode mL_lost.2.1 2 = .ok (.aload_n 0, 1)) rfl rfl (?_ : XW _ _ _ _ _ _ _ 3 _ _)
  refine xi_iload_n (by decide +kernel : decode mL_lost.2.1 3 = .ok (.iload_n 1, 1)) rfl rfl (?_ : XW _ _ _ _ _ _ _ 4 _ _)
  obtain ⟨Q1, X1, sp, tx, vc⟩ := vc
  refine xi_callVC (b := 0) (bs := 0) (As := [.int a1]) (st := [.int 0, .ref 99]) (by decide +kernel : decode mL_lost.2.1 4 = .ok (.invokevirtual 49, 3)) kL_49 rfl rfl (by omega) rfl sp (xrm_f (by omega)) (xrm_l (by omega) (Nat.le_of_ble_eq_true rfl)) (Nat.le_of_ble_eq_true rfl) (by omega) (fun E9 h9 hx9 => ?_) (fun v9 h1 hq9 => ?_)
  · obtain ⟨rfl, q⟩ := tx E9 h9 hx9
    exact ⟨[], ⟨0, 16, 19, 18⟩, [], 3, 1, rfl, (fun z hz => by cases hz), by decide, by decide, cL9_18, Or.inl rfl, (Or.inl ⟨3, (by decide +kernel : decode mL_lost.2.1 19 = .ok (.astore_n 3, 1)), rfl, rfl⟩), by decide, (xi_iconst (v := 1) (by decide +kernel : decode mL_lost.2.1 20 = .ok (.iconst 1, 1)) (by decide) (xi_iretW (by decide +kernel : decode mL_lost.2.1 21 = .ok (.ireturn, 1)) rfl rfl q) : XW _ _ _ _ _ _ _ 20 _ _)⟩
  obtain ⟨r1, e9, vc⟩ := vc v9 h1 hq9
  subst e9
  show XW _ _ _ _ _ _ _ 7 _ [.int r1, .int 0, .ref 99]
  refine xi_if_eq (by decide +kernel : decode mL_lost.2.1 7 = .ok (.ifCond .eq 7, 3)) (by decide) (fun c => (?_ : XW _ _ _ _ _ _ _ 14 _ _)) (fun c => (?_ : XW _ _ _ _ _ _ _ 10 _ _))
  · replace vc := vc.1 c
    refine xi_lconst (v := 0) (by decide +kernel : decode mL_lost.2.1 14 = .ok (.lconst 0, 1)) (by decide) (?_ : XW _ _ _ _ _ _ _ 15 _ _)
    refine xi_last (by decide +kernel : decode mL_lost.2.1 15 = .ok (.lastore, 1)) rfl (by omega) (by unfold vp_in; decide) (?_ : XW _ _ _ _ _ _ (xSL 99 (va_up (xL h1 99) 0 0) h1) 16 _ _)
    refine xi_goto (by decide +kernel : decode mL_lost.2.1 16 = .ok (.goto 6, 3)) (by decide) (?_ : XW _ _ _ _ _ _ _ 22 _ _)
    refine xi_iconst (v := 0) (by decide +kernel : decode mL_lost.2.1 22 = .ok (.iconst 0, 1)) (by decide) (?_ : XW _ _ _ _ _ _ _ 23 _ _)
    exact xi_iretW (by decide +kernel : decode mL_lost.2.1 23 = .ok (.ireturn, 1)) rfl rfl vc
  · replace vc := vc.2 c
    refine xi_lconst (v := 1) (by decide +kernel : decode mL_lost.2.1 10 = .ok (.lconst 1, 1)) (by decide) (?_ : XW _ _ _ _ _ _ _ 11 _ _)
    refine xi_goto (by decide +kernel : decode mL_lost.2.1 11 = .ok (.goto 4, 3)) (by decide) (?_ : XW _ _ _ _ _ _ _ 15 _ _)
    refine xi_last (by decide +kernel : decode mL_lost.2.1 15 = .ok (.lastore, 1)) rfl (by omega) (by unfold vp_in; decide) (?_ : XW _ _ _ _ _ _ (xSL 99 (va_up (xL h1 99) 0 1) h1) 16 _ _)
    refine xi_goto (by decide +kernel : decode mL_lost.2.1 16 = .ok (.goto 6, 3)) (by decide) (?_ : XW _ _ _ _ _ _ _ 22 _ _)
    refine xi_iconst (v := 0) (by decide +kernel : decode mL_lost.2.1 22 = .ok (.iconst 0, 1)) (by decide) (?_ : XW _ _ _ _ _ _ _ 23 _ _)
    exact xi_iretW (by decide +kernel : decode mL_lost.2.1 23 = .ok (.ireturn, 1)) rfl rfl vc

set_option maxRecDepth 20000 in
theorem v_L_round_0 {h : XH} {Q : Option Value → XH → Prop} {X : String → XH → Prop}  (a1 : Int32)
    (vc : ∃ Q1 X1, XSpec mX10_round 8 1 6 100 100 [.ref 0, .int a1] h Q1 X1 ∧ (∀ E9 h9, X1 E9 h9 → (E9 = eN ∧ Q (some (.int 1)) h9)) ∧ ∀ v h1, Q1 v h1 → ∃ r1 : Int32, v = some (.int r1) ∧ (Q (some (.int 0)) (xSL 99 (va_up (xL h1 99) 0 (Int32.toInt64 r1)) h1))) :
    XW (xrm 9 1 6) mL_round (xEW 100 Q 1 6) 100 1 6 h 0 [some (.ref 0), some (.int a1), some (.ref 99), none] [] := by
  refine xi_aload_n (by decide +kernel : decode mL_round.2.1 0 = .ok (.aload_n 2, 1)) rfl rfl (?_ : XW _ _ _ _ _ _ _ 1 _ _)
  refine xi_iconst (v := 0) (by decide +kernel : decode mL_round.2.1 1 = .ok (.iconst 0, 1)) (by decide) (?_ : XW _ _ _ _ _ _ _ 2 _ _)
  refine xi_aload_n (by decide +kernel : decode mL_round.2.1 2 = .ok (.aload_n 0, 1)) rfl rfl (?_ : XW _ _ _ _ _ _ _ 3 _ _)
  refine xi_iload_n (by decide +kernel : decode mL_round.2.1 3 = .ok (.iload_n 1, 1)) rfl rfl (?_ : XW _ _ _ _ _ _ _ 4 _ _)
  obtain ⟨Q1, X1, sp, tx, vc⟩ := vc
  refine xi_callVC (b := 0) (bs := 0) (As := [.int a1]) (st := [.int 0, .ref 99]) (by decide +kernel : decode mL_round.2.1 4 = .ok (.invokevirtual 52, 3)) kL_52 rfl rfl (by omega) rfl sp (xrm_f (by omega)) (xrm_l (by omega) (Nat.le_of_ble_eq_true rfl)) (Nat.le_of_ble_eq_true rfl) (by omega) (fun E9 h9 hx9 => ?_) (fun v9 h1 hq9 => ?_)
  · obtain ⟨rfl, q⟩ := tx E9 h9 hx9
    exact ⟨[], ⟨0, 9, 12, 18⟩, [], 3, 1, rfl, (fun z hz => by cases hz), by decide, by decide, cL9_18, Or.inl rfl, (Or.inl ⟨3, (by decide +kernel : decode mL_round.2.1 12 = .ok (.astore_n 3, 1)), rfl, rfl⟩), by decide, (xi_iconst (v := 1) (by decide +kernel : decode mL_round.2.1 13 = .ok (.iconst 1, 1)) (by decide) (xi_iretW (by decide +kernel : decode mL_round.2.1 14 = .ok (.ireturn, 1)) rfl rfl q) : XW _ _ _ _ _ _ _ 13 _ _)⟩
  obtain ⟨r1, e9, vc⟩ := vc v9 h1 hq9
  subst e9
  show XW _ _ _ _ _ _ _ 7 _ [.int r1, .int 0, .ref 99]
  refine xi_i2l (by decide +kernel : decode mL_round.2.1 7 = .ok (.i2l, 1)) (?_ : XW _ _ _ _ _ _ _ 8 _ _)
  refine xi_last (by decide +kernel : decode mL_round.2.1 8 = .ok (.lastore, 1)) rfl (by omega) (by unfold vp_in; decide) (?_ : XW _ _ _ _ _ _ (xSL 99 (va_up (xL h1 99) 0 (Int32.toInt64 r1)) h1) 9 _ _)
  refine xi_goto (by decide +kernel : decode mL_round.2.1 9 = .ok (.goto 6, 3)) (by decide) (?_ : XW _ _ _ _ _ _ _ 15 _ _)
  refine xi_iconst (v := 0) (by decide +kernel : decode mL_round.2.1 15 = .ok (.iconst 0, 1)) (by decide) (?_ : XW _ _ _ _ _ _ _ 16 _ _)
  exact xi_iretW (by decide +kernel : decode mL_round.2.1 16 = .ok (.ireturn, 1)) rfl rfl vc

set_option maxRecDepth 20000 in
theorem v_L_grains_0 {h : XH} {Q : Option Value → XH → Prop} {X : String → XH → Prop}  (a1 : Int32) (a2 : Int32) (a3 : Int32)
    (vc : ∃ Q1 X1, XSpec mX10_grains 8 3 18 100 100 [.ref 0, .int a1, .int a2, .int a3] h Q1 X1 ∧ (∀ E9 h9, X1 E9 h9 → (E9 = eN ∧ Q (some (.int 1)) h9) ∨ (E9 = eA ∧ Q (some (.int 2)) h9)) ∧ ∀ v h1, Q1 v h1 → ∃ r1 : Int64, v = some (.long r1) ∧ (Q (some (.int 0)) (xSL 99 (va_up (xL h1 99) 0 r1) h1))) :
    XW (xrm 9 3 18) mL_grains (xEW 100 Q 3 18) 100 3 18 h 0 [some (.ref 0), some (.int a1), some (.int a2), some (.int a3), some (.ref 99), none] [] := by
  refine xi_aload (by decide +kernel : decode mL_grains.2.1 0 = .ok (.aload 4, 2)) rfl (?_ : XW _ _ _ _ _ _ _ 2 _ _)
  refine xi_iconst (v := 0) (by decide +kernel : decode mL_grains.2.1 2 = .ok (.iconst 0, 1)) (by decide) (?_ : XW _ _ _ _ _ _ _ 3 _ _)
  refine xi_aload_n (by decide +kernel : decode mL_grains.2.1 3 = .ok (.aload_n 0, 1)) rfl rfl (?_ : XW _ _ _ _ _ _ _ 4 _ _)
  refine xi_iload_n (by decide +kernel : decode mL_grains.2.1 4 = .ok (.iload_n 1, 1)) rfl rfl (?_ : XW _ _ _ _ _ _ _ 5 _ _)
  refine xi_iload_n (by decide +kernel : decode mL_grains.2.1 5 = .ok (.iload_n 2, 1)) rfl rfl (?_ : XW _ _ _ _ _ _ _ 6 _ _)
  refine xi_iload_n (by decide +kernel : decode mL_grains.2.1 6 = .ok (.iload_n 3, 1)) rfl rfl (?_ : XW _ _ _ _ _ _ _ 7 _ _)
  obtain ⟨Q1, X1, sp, tx, vc⟩ := vc
  refine xi_callVC (b := 0) (bs := 0) (As := [.int a1, .int a2, .int a3]) (st := [.int 0, .ref 99]) (by decide +kernel : decode mL_grains.2.1 7 = .ok (.invokevirtual 55, 3)) kL_55 rfl rfl (by omega) rfl sp (xrm_f (by omega)) (xrm_l (by omega) (Nat.le_of_ble_eq_true rfl)) (Nat.le_of_ble_eq_true rfl) (by omega) (fun E9 h9 hx9 => ?_) (fun v9 h1 hq9 => ?_)
  · rcases tx E9 h9 hx9 with ⟨rfl, q⟩ | ⟨rfl, q⟩
    · exact ⟨[], ⟨0, 11, 14, 18⟩, [⟨0, 11, 18, 13⟩], 5, 2, rfl, (fun z hz => by cases hz), by decide, by decide, cL9_18, Or.inl rfl, (Or.inr ⟨(by decide +kernel : decode mL_grains.2.1 14 = .ok (.astore 5, 2)), rfl⟩), by decide, (xi_iconst (v := 1) (by decide +kernel : decode mL_grains.2.1 16 = .ok (.iconst 1, 1)) (by decide) (xi_iretW (by decide +kernel : decode mL_grains.2.1 17 = .ok (.ireturn, 1)) rfl rfl q) : XW _ _ _ _ _ _ _ 16 _ _)⟩
    · exact ⟨[⟨0, 11, 14, 18⟩], ⟨0, 11, 18, 13⟩, [], 5, 2, rfl, (fun z hz => by rcases List.mem_singleton.mp hz with rfl; exact Or.inr ⟨by decide, cL9_18, rfl⟩), by decide, by decide, cL9_13, Or.inr rfl, (Or.inr ⟨(by decide +kernel : decode mL_grains.2.1 18 = .ok (.astore 5, 2)), rfl⟩), by decide, (xi_iconst (v := 2) (by decide +kernel : decode mL_grains.2.1 20 = .ok (.iconst 2, 1)) (by decide) (xi_iretW (by decide +kernel : decode mL_grains.2.1 21 = .ok (.ireturn, 1)) rfl rfl q) : XW _ _ _ _ _ _ _ 20 _ _)⟩
  obtain ⟨r1, e9, vc⟩ := vc v9 h1 hq9
  subst e9
  show XW _ _ _ _ _ _ _ 10 _ [.long r1, .int 0, .ref 99]
  refine xi_last (by decide +kernel : decode mL_grains.2.1 10 = .ok (.lastore, 1)) rfl (by omega) (by unfold vp_in; decide) (?_ : XW _ _ _ _ _ _ (xSL 99 (va_up (xL h1 99) 0 r1) h1) 11 _ _)
  refine xi_goto (by decide +kernel : decode mL_grains.2.1 11 = .ok (.goto 11, 3)) (by decide) (?_ : XW _ _ _ _ _ _ _ 22 _ _)
  refine xi_iconst (v := 0) (by decide +kernel : decode mL_grains.2.1 22 = .ok (.iconst 0, 1)) (by decide) (?_ : XW _ _ _ _ _ _ _ 23 _ _)
  exact xi_iretW (by decide +kernel : decode mL_grains.2.1 23 = .ok (.ireturn, 1)) rfl rfl vc

set_option maxRecDepth 20000 in
theorem v_L_stood_0 {h : XH} {Q : Option Value → XH → Prop} {X : String → XH → Prop}  (a1 : Int32) (a2 : Int32) (a3 : Int32)
    (vc : ∃ Q1 X1, XSpec mX10_stood 8 3 18 100 100 [.ref 0, .int a1, .int a2, .int a3] h Q1 X1 ∧ (∀ E9 h9, X1 E9 h9 → (E9 = eN ∧ Q (some (.int 1)) h9) ∨ (E9 = eA ∧ Q (some (.int 2)) h9)) ∧ ∀ v h1, Q1 v h1 → ∃ r1 : Int64, v = some (.long r1) ∧ (Q (some (.int 0)) (xSL 99 (va_up (xL h1 99) 0 r1) h1))) :
    XW (xrm 9 3 18) mL_stood (xEW 100 Q 3 18) 100 3 18 h 0 [some (.ref 0), some (.int a1), some (.int a2), some (.int a3), some (.ref 99), none] [] := by
  refine xi_aload (by decide +kernel : decode mL_stood.2.1 0 = .ok (.aload 4, 2)) rfl (?_ : XW _ _ _ _ _ _ _ 2 _ _)
  refine xi_iconst (v := 0) (by decide +kernel : decode mL_stood.2.1 2 = .ok (.iconst 0, 1)) (by decide) (?_ : XW _ _ _ _ _ _ _ 3 _ _)
  refine xi_aload_n (by decide +kernel : decode mL_stood.2.1 3 = .ok (.aload_n 0, 1)) rfl rfl (?_ : XW _ _ _ _ _ _ _ 4 _ _)
  refine xi_iload_n (by decide +kernel : decode mL_stood.2.1 4 = .ok (.iload_n 1, 1)) rfl rfl (?_ : XW _ _ _ _ _ _ _ 5 _ _)
  refine xi_iload_n (by decide +kernel : decode mL_stood.2.1 5 = .ok (.iload_n 2, 1)) rfl rfl (?_ : XW _ _ _ _ _ _ _ 6 _ _)
  refine xi_iload_n (by decide +kernel : decode mL_stood.2.1 6 = .ok (.iload_n 3, 1)) rfl rfl (?_ : XW _ _ _ _ _ _ _ 7 _ _)
  obtain ⟨Q1, X1, sp, tx, vc⟩ := vc
  refine xi_callVC (b := 0) (bs := 0) (As := [.int a1, .int a2, .int a3]) (st := [.int 0, .ref 99]) (by decide +kernel : decode mL_stood.2.1 7 = .ok (.invokevirtual 59, 3)) kL_59 rfl rfl (by omega) rfl sp (xrm_f (by omega)) (xrm_l (by omega) (Nat.le_of_ble_eq_true rfl)) (Nat.le_of_ble_eq_true rfl) (by omega) (fun E9 h9 hx9 => ?_) (fun v9 h1 hq9 => ?_)
  · rcases tx E9 h9 hx9 with ⟨rfl, q⟩ | ⟨rfl, q⟩
    · exact ⟨[], ⟨0, 11, 14, 18⟩, [⟨0, 11, 18, 13⟩], 5, 2, rfl, (fun z hz => by cases hz), by decide, by decide, cL9_18, Or.inl rfl, (Or.inr ⟨(by decide +kernel : decode mL_stood.2.1 14 = .ok (.astore 5, 2)), rfl⟩), by decide, (xi_iconst (v := 1) (by decide +kernel : decode mL_stood.2.1 16 = .ok (.iconst 1, 1)) (by decide) (xi_iretW (by decide +kernel : decode mL_stood.2.1 17 = .ok (.ireturn, 1)) rfl rfl q) : XW _ _ _ _ _ _ _ 16 _ _)⟩
    · exact ⟨[⟨0, 11, 14, 18⟩], ⟨0, 11, 18, 13⟩, [], 5, 2, rfl, (fun z hz => by rcases List.mem_singleton.mp hz with rfl; exact Or.inr ⟨by decide, cL9_18, rfl⟩), by decide, by decide, cL9_13, Or.inr rfl, (Or.inr ⟨(by decide +kernel : decode mL_stood.2.1 18 = .ok (.astore 5, 2)), rfl⟩), by decide, (xi_iconst (v := 2) (by decide +kernel : decode mL_stood.2.1 20 = .ok (.iconst 2, 1)) (by decide) (xi_iretW (by decide +kernel : decode mL_stood.2.1 21 = .ok (.ireturn, 1)) rfl rfl q) : XW _ _ _ _ _ _ _ 20 _ _)⟩
  obtain ⟨r1, e9, vc⟩ := vc v9 h1 hq9
  subst e9
  show XW _ _ _ _ _ _ _ 10 _ [.long r1, .int 0, .ref 99]
  refine xi_last (by decide +kernel : decode mL_stood.2.1 10 = .ok (.lastore, 1)) rfl (by omega) (by unfold vp_in; decide) (?_ : XW _ _ _ _ _ _ (xSL 99 (va_up (xL h1 99) 0 r1) h1) 11 _ _)
  refine xi_goto (by decide +kernel : decode mL_stood.2.1 11 = .ok (.goto 11, 3)) (by decide) (?_ : XW _ _ _ _ _ _ _ 22 _ _)
  refine xi_iconst (v := 0) (by decide +kernel : decode mL_stood.2.1 22 = .ok (.iconst 0, 1)) (by decide) (?_ : XW _ _ _ _ _ _ _ 23 _ _)
  exact xi_iretW (by decide +kernel : decode mL_stood.2.1 23 = .ok (.ireturn, 1)) rfl rfl vc

set_option maxRecDepth 20000 in
theorem v_L_half_0 {h : XH} {Q : Option Value → XH → Prop} {X : String → XH → Prop}  (a1 : Int32)
    (vc : ∃ Q1 X1, XSpec mX10_half 8 1 6 100 100 [.ref 0, .int a1] h Q1 X1 ∧ (∀ E9 h9, X1 E9 h9 → (E9 = eN ∧ Q (some (.int 1)) h9)) ∧ ∀ v h1, Q1 v h1 → ∃ r1 : Int32, v = some (.int r1) ∧ (Q (some (.int 0)) (xSL 99 (va_up (xL h1 99) 0 (Int32.toInt64 r1)) h1))) :
    XW (xrm 9 1 6) mL_half (xEW 100 Q 1 6) 100 1 6 h 0 [some (.ref 0), some (.int a1), some (.ref 99), none] [] := by
  refine xi_aload_n (by decide +kernel : decode mL_half.2.1 0 = .ok (.aload_n 2, 1)) rfl rfl (?_ : XW _ _ _ _ _ _ _ 1 _ _)
  refine xi_iconst (v := 0) (by decide +kernel : decode mL_half.2.1 1 = .ok (.iconst 0, 1)) (by decide) (?_ : XW _ _ _ _ _ _ _ 2 _ _)
  refine xi_aload_n (by decide +kernel : decode mL_half.2.1 2 = .ok (.aload_n 0, 1)) rfl rfl (?_ : XW _ _ _ _ _ _ _ 3 _ _)
  refine xi_iload_n (by decide +kernel : decode mL_half.2.1 3 = .ok (.iload_n 1, 1)) rfl rfl (?_ : XW _ _ _ _ _ _ _ 4 _ _)
  obtain ⟨Q1, X1, sp, tx, vc⟩ := vc
  refine xi_callVC (b := 0) (bs := 0) (As := [.int a1]) (st := [.int 0, .ref 99]) (by decide +kernel : decode mL_half.2.1 4 = .ok (.invokevirtual 62, 3)) kL_62 rfl rfl (by omega) rfl sp (xrm_f (by omega)) (xrm_l (by omega) (Nat.le_of_ble_eq_true rfl)) (Nat.le_of_ble_eq_true rfl) (by omega) (fun E9 h9 hx9 => ?_) (fun v9 h1 hq9 => ?_)
  · obtain ⟨rfl, q⟩ := tx E9 h9 hx9
    exact ⟨[], ⟨0, 9, 12, 18⟩, [], 3, 1, rfl, (fun z hz => by cases hz), by decide, by decide, cL9_18, Or.inl rfl, (Or.inl ⟨3, (by decide +kernel : decode mL_half.2.1 12 = .ok (.astore_n 3, 1)), rfl, rfl⟩), by decide, (xi_iconst (v := 1) (by decide +kernel : decode mL_half.2.1 13 = .ok (.iconst 1, 1)) (by decide) (xi_iretW (by decide +kernel : decode mL_half.2.1 14 = .ok (.ireturn, 1)) rfl rfl q) : XW _ _ _ _ _ _ _ 13 _ _)⟩
  obtain ⟨r1, e9, vc⟩ := vc v9 h1 hq9
  subst e9
  show XW _ _ _ _ _ _ _ 7 _ [.int r1, .int 0, .ref 99]
  refine xi_i2l (by decide +kernel : decode mL_half.2.1 7 = .ok (.i2l, 1)) (?_ : XW _ _ _ _ _ _ _ 8 _ _)
  refine xi_last (by decide +kernel : decode mL_half.2.1 8 = .ok (.lastore, 1)) rfl (by omega) (by unfold vp_in; decide) (?_ : XW _ _ _ _ _ _ (xSL 99 (va_up (xL h1 99) 0 (Int32.toInt64 r1)) h1) 9 _ _)
  refine xi_goto (by decide +kernel : decode mL_half.2.1 9 = .ok (.goto 6, 3)) (by decide) (?_ : XW _ _ _ _ _ _ _ 15 _ _)
  refine xi_iconst (v := 0) (by decide +kernel : decode mL_half.2.1 15 = .ok (.iconst 0, 1)) (by decide) (?_ : XW _ _ _ _ _ _ _ 16 _ _)
  exact xi_iretW (by decide +kernel : decode mL_half.2.1 16 = .ok (.ireturn, 1)) rfl rfl vc

set_option maxRecDepth 20000 in
theorem v_L_first_0 {h : XH} {Q : Option Value → XH → Prop} {X : String → XH → Prop}  (a1 : Int32) (a2 : Int32) (a3 : Int32) (a4 : Int32)
    (vc : ∃ Q1 X1, XSpec mX10_first 8 4 24 100 100 [.ref 0, .int a1, .int a2, .int a3, .int a4] h Q1 X1 ∧ (∀ E9 h9, X1 E9 h9 → (E9 = eN ∧ Q (some (.int 1)) h9) ∨ (E9 = eA ∧ Q (some (.int 2)) h9)) ∧ ∀ v h1, Q1 v h1 → ∃ r1 : Int64, v = some (.long r1) ∧ (Q (some (.int 0)) (xSL 99 (va_up (xL h1 99) 0 r1) h1))) :
    XW (xrm 9 4 24) mL_first (xEW 100 Q 4 24) 100 4 24 h 0 [some (.ref 0), some (.int a1), some (.int a2), some (.int a3), some (.int a4), some (.ref 99), none] [] := by
  refine xi_aload (by decide +kernel : decode mL_first.2.1 0 = .ok (.aload 5, 2)) rfl (?_ : XW _ _ _ _ _ _ _ 2 _ _)
  refine xi_iconst (v := 0) (by decide +kernel : decode mL_first.2.1 2 = .ok (.iconst 0, 1)) (by decide) (?_ : XW _ _ _ _ _ _ _ 3 _ _)
  refine xi_aload_n (by decide +kernel : decode mL_first.2.1 3 = .ok (.aload_n 0, 1)) rfl rfl (?_ : XW _ _ _ _ _ _ _ 4 _ _)
  refine xi_iload_n (by decide +kernel : decode mL_first.2.1 4 = .ok (.iload_n 1, 1)) rfl rfl (?_ : XW _ _ _ _ _ _ _ 5 _ _)
  refine xi_iload_n (by decide +kernel : decode mL_first.2.1 5 = .ok (.iload_n 2, 1)) rfl rfl (?_ : XW _ _ _ _ _ _ _ 6 _ _)
  refine xi_iload_n (by decide +kernel : decode mL_first.2.1 6 = .ok (.iload_n 3, 1)) rfl rfl (?_ : XW _ _ _ _ _ _ _ 7 _ _)
  refine xi_iload (by decide +kernel : decode mL_first.2.1 7 = .ok (.iload 4, 2)) rfl (?_ : XW _ _ _ _ _ _ _ 9 _ _)
  obtain ⟨Q1, X1, sp, tx, vc⟩ := vc
  refine xi_callVC (b := 0) (bs := 0) (As := [.int a1, .int a2, .int a3, .int a4]) (st := [.int 0, .ref 99]) (by decide +kernel : decode mL_first.2.1 9 = .ok (.invokevirtual 65, 3)) kL_65 rfl rfl (by omega) rfl sp (xrm_f (by omega)) (xrm_l (by omega) (Nat.le_of_ble_eq_true rfl)) (Nat.le_of_ble_eq_true rfl) (by omega) (fun E9 h9 hx9 => ?_) (fun v9 h1 hq9 => ?_)
  · rcases tx E9 h9 hx9 with ⟨rfl, q⟩ | ⟨rfl, q⟩
    · exact ⟨[], ⟨0, 13, 16, 18⟩, [⟨0, 13, 20, 13⟩], 6, 2, rfl, (fun z hz => by cases hz), by decide, by decide, cL9_18, Or.inl rfl, (Or.inr ⟨(by decide +kernel : decode mL_first.2.1 16 = .ok (.astore 6, 2)), rfl⟩), by decide, (xi_iconst (v := 1) (by decide +kernel : decode mL_first.2.1 18 = .ok (.iconst 1, 1)) (by decide) (xi_iretW (by decide +kernel : decode mL_first.2.1 19 = .ok (.ireturn, 1)) rfl rfl q) : XW _ _ _ _ _ _ _ 18 _ _)⟩
    · exact ⟨[⟨0, 13, 16, 18⟩], ⟨0, 13, 20, 13⟩, [], 6, 2, rfl, (fun z hz => by rcases List.mem_singleton.mp hz with rfl; exact Or.inr ⟨by decide, cL9_18, rfl⟩), by decide, by decide, cL9_13, Or.inr rfl, (Or.inr ⟨(by decide +kernel : decode mL_first.2.1 20 = .ok (.astore 6, 2)), rfl⟩), by decide, (xi_iconst (v := 2) (by decide +kernel : decode mL_first.2.1 22 = .ok (.iconst 2, 1)) (by decide) (xi_iretW (by decide +kernel : decode mL_first.2.1 23 = .ok (.ireturn, 1)) rfl rfl q) : XW _ _ _ _ _ _ _ 22 _ _)⟩
  obtain ⟨r1, e9, vc⟩ := vc v9 h1 hq9
  subst e9
  show XW _ _ _ _ _ _ _ 12 _ [.long r1, .int 0, .ref 99]
  refine xi_last (by decide +kernel : decode mL_first.2.1 12 = .ok (.lastore, 1)) rfl (by omega) (by unfold vp_in; decide) (?_ : XW _ _ _ _ _ _ (xSL 99 (va_up (xL h1 99) 0 r1) h1) 13 _ _)
  refine xi_goto (by decide +kernel : decode mL_first.2.1 13 = .ok (.goto 11, 3)) (by decide) (?_ : XW _ _ _ _ _ _ _ 24 _ _)
  refine xi_iconst (v := 0) (by decide +kernel : decode mL_first.2.1 24 = .ok (.iconst 0, 1)) (by decide) (?_ : XW _ _ _ _ _ _ _ 25 _ _)
  exact xi_iretW (by decide +kernel : decode mL_first.2.1 25 = .ok (.ireturn, 1)) rfl rfl vc

set_option maxRecDepth 20000 in
theorem v_L_matters_0 {h : XH} {Q : Option Value → XH → Prop} {X : String → XH → Prop}  (a1 : Int32) (a2 : Int32)
    (vc : ∃ Q1 X1, XSpec mX10_matters 8 2 12 100 100 [.ref 0, .int a1, .int a2] h Q1 X1 ∧ (∀ E9 h9, X1 E9 h9 → (E9 = eN ∧ Q (some (.int 1)) h9) ∨ (E9 = eA ∧ Q (some (.int 2)) h9)) ∧ ∀ v h1, Q1 v h1 → ∃ r1 : Int64, v = some (.long r1) ∧ (Q (some (.int 0)) (xSL 99 (va_up (xL h1 99) 0 r1) h1))) :
    XW (xrm 9 2 12) mL_matters (xEW 100 Q 2 12) 100 2 12 h 0 [some (.ref 0), some (.int a1), some (.int a2), some (.ref 99), none] [] := by
  refine xi_aload_n (by decide +kernel : decode mL_matters.2.1 0 = .ok (.aload_n 3, 1)) rfl rfl (?_ : XW _ _ _ _ _ _ _ 1 _ _)
  refine xi_iconst (v := 0) (by decide +kernel : decode mL_matters.2.1 1 = .ok (.iconst 0, 1)) (by decide) (?_ : XW _ _ _ _ _ _ _ 2 _ _)
  refine xi_aload_n (by decide +kernel : decode mL_matters.2.1 2 = .ok (.aload_n 0, 1)) rfl rfl (?_ : XW _ _ _ _ _ _ _ 3 _ _)
  refine xi_iload_n (by decide +kernel : decode mL_matters.2.1 3 = .ok (.iload_n 1, 1)) rfl rfl (?_ : XW _ _ _ _ _ _ _ 4 _ _)
  refine xi_iload_n (by decide +kernel : decode mL_matters.2.1 4 = .ok (.iload_n 2, 1)) rfl rfl (?_ : XW _ _ _ _ _ _ _ 5 _ _)
  obtain ⟨Q1, X1, sp, tx, vc⟩ := vc
  refine xi_callVC (b := 0) (bs := 0) (As := [.int a1, .int a2]) (st := [.int 0, .ref 99]) (by decide +kernel : decode mL_matters.2.1 5 = .ok (.invokevirtual 69, 3)) kL_69 rfl rfl (by omega) rfl sp (xrm_f (by omega)) (xrm_l (by omega) (Nat.le_of_ble_eq_true rfl)) (Nat.le_of_ble_eq_true rfl) (by omega) (fun E9 h9 hx9 => ?_) (fun v9 h1 hq9 => ?_)
  · rcases tx E9 h9 hx9 with ⟨rfl, q⟩ | ⟨rfl, q⟩
    · exact ⟨[], ⟨0, 9, 12, 18⟩, [⟨0, 9, 16, 13⟩], 4, 2, rfl, (fun z hz => by cases hz), by decide, by decide, cL9_18, Or.inl rfl, (Or.inr ⟨(by decide +kernel : decode mL_matters.2.1 12 = .ok (.astore 4, 2)), rfl⟩), by decide, (xi_iconst (v := 1) (by decide +kernel : decode mL_matters.2.1 14 = .ok (.iconst 1, 1)) (by decide) (xi_iretW (by decide +kernel : decode mL_matters.2.1 15 = .ok (.ireturn, 1)) rfl rfl q) : XW _ _ _ _ _ _ _ 14 _ _)⟩
    · exact ⟨[⟨0, 9, 12, 18⟩], ⟨0, 9, 16, 13⟩, [], 4, 2, rfl, (fun z hz => by rcases List.mem_singleton.mp hz with rfl; exact Or.inr ⟨by decide, cL9_18, rfl⟩), by decide, by decide, cL9_13, Or.inr rfl, (Or.inr ⟨(by decide +kernel : decode mL_matters.2.1 16 = .ok (.astore 4, 2)), rfl⟩), by decide, (xi_iconst (v := 2) (by decide +kernel : decode mL_matters.2.1 18 = .ok (.iconst 2, 1)) (by decide) (xi_iretW (by decide +kernel : decode mL_matters.2.1 19 = .ok (.ireturn, 1)) rfl rfl q) : XW _ _ _ _ _ _ _ 18 _ _)⟩
  obtain ⟨r1, e9, vc⟩ := vc v9 h1 hq9
  subst e9
  show XW _ _ _ _ _ _ _ 8 _ [.long r1, .int 0, .ref 99]
  refine xi_last (by decide +kernel : decode mL_matters.2.1 8 = .ok (.lastore, 1)) rfl (by omega) (by unfold vp_in; decide) (?_ : XW _ _ _ _ _ _ (xSL 99 (va_up (xL h1 99) 0 r1) h1) 9 _ _)
  refine xi_goto (by decide +kernel : decode mL_matters.2.1 9 = .ok (.goto 11, 3)) (by decide) (?_ : XW _ _ _ _ _ _ _ 20 _ _)
  refine xi_iconst (v := 0) (by decide +kernel : decode mL_matters.2.1 20 = .ok (.iconst 0, 1)) (by decide) (?_ : XW _ _ _ _ _ _ _ 21 _ _)
  exact xi_iretW (by decide +kernel : decode mL_matters.2.1 21 = .ok (.ireturn, 1)) rfl rfl vc

set_option maxRecDepth 20000 in
theorem v_L_most_0 {h : XH} {Q : Option Value → XH → Prop} {X : String → XH → Prop}  (a1 : Int32)
    (vc : ∃ Q1 X1, XSpec mX10_most 8 1 6 100 100 [.ref 0, .int a1] h Q1 X1 ∧ (∀ E9 h9, X1 E9 h9 → (E9 = eA ∧ Q (some (.int 1)) h9)) ∧ ∀ v h1, Q1 v h1 → ∃ r1 : Int32, v = some (.int r1) ∧ (Q (some (.int 0)) (xSL 99 (va_up (xL h1 99) 0 (Int32.toInt64 r1)) h1))) :
    XW (xrm 9 1 6) mL_most (xEW 100 Q 1 6) 100 1 6 h 0 [some (.ref 0), some (.int a1), some (.ref 99), none] [] := by
  refine xi_aload_n (by decide +kernel : decode mL_most.2.1 0 = .ok (.aload_n 2, 1)) rfl rfl (?_ : XW _ _ _ _ _ _ _ 1 _ _)
  refine xi_iconst (v := 0) (by decide +kernel : decode mL_most.2.1 1 = .ok (.iconst 0, 1)) (by decide) (?_ : XW _ _ _ _ _ _ _ 2 _ _)
  refine xi_aload_n (by decide +kernel : decode mL_most.2.1 2 = .ok (.aload_n 0, 1)) rfl rfl (?_ : XW _ _ _ _ _ _ _ 3 _ _)
  refine xi_iload_n (by decide +kernel : decode mL_most.2.1 3 = .ok (.iload_n 1, 1)) rfl rfl (?_ : XW _ _ _ _ _ _ _ 4 _ _)
  obtain ⟨Q1, X1, sp, tx, vc⟩ := vc
  refine xi_callVC (b := 0) (bs := 0) (As := [.int a1]) (st := [.int 0, .ref 99]) (by decide +kernel : decode mL_most.2.1 4 = .ok (.invokevirtual 73, 3)) kL_73 rfl rfl (by omega) rfl sp (xrm_f (by omega)) (xrm_l (by omega) (Nat.le_of_ble_eq_true rfl)) (Nat.le_of_ble_eq_true rfl) (by omega) (fun E9 h9 hx9 => ?_) (fun v9 h1 hq9 => ?_)
  · obtain ⟨rfl, q⟩ := tx E9 h9 hx9
    exact ⟨[], ⟨0, 9, 12, 13⟩, [], 3, 1, rfl, (fun z hz => by cases hz), by decide, by decide, cL9_13, Or.inr rfl, (Or.inl ⟨3, (by decide +kernel : decode mL_most.2.1 12 = .ok (.astore_n 3, 1)), rfl, rfl⟩), by decide, (xi_iconst (v := 1) (by decide +kernel : decode mL_most.2.1 13 = .ok (.iconst 1, 1)) (by decide) (xi_iretW (by decide +kernel : decode mL_most.2.1 14 = .ok (.ireturn, 1)) rfl rfl q) : XW _ _ _ _ _ _ _ 13 _ _)⟩
  obtain ⟨r1, e9, vc⟩ := vc v9 h1 hq9
  subst e9
  show XW _ _ _ _ _ _ _ 7 _ [.int r1, .int 0, .ref 99]
  refine xi_i2l (by decide +kernel : decode mL_most.2.1 7 = .ok (.i2l, 1)) (?_ : XW _ _ _ _ _ _ _ 8 _ _)
  refine xi_last (by decide +kernel : decode mL_most.2.1 8 = .ok (.lastore, 1)) rfl (by omega) (by unfold vp_in; decide) (?_ : XW _ _ _ _ _ _ (xSL 99 (va_up (xL h1 99) 0 (Int32.toInt64 r1)) h1) 9 _ _)
  refine xi_goto (by decide +kernel : decode mL_most.2.1 9 = .ok (.goto 6, 3)) (by decide) (?_ : XW _ _ _ _ _ _ _ 15 _ _)
  refine xi_iconst (v := 0) (by decide +kernel : decode mL_most.2.1 15 = .ok (.iconst 0, 1)) (by decide) (?_ : XW _ _ _ _ _ _ _ 16 _ _)
  exact xi_iretW (by decide +kernel : decode mL_most.2.1 16 = .ok (.ireturn, 1)) rfl rfl vc

set_option maxRecDepth 20000 in
theorem v_L_wanted_0 {h : XH} {Q : Option Value → XH → Prop} {X : String → XH → Prop}  (a1 : Int64) (a2 : Int32)
    (vc : ∃ Q1 X1, XSpec mX10_wanted 8 2 12 100 100 [.ref 0, .long a1, .int a2] h Q1 X1 ∧ (∀ E9 h9, X1 E9 h9 → (E9 = eA ∧ Q (some (.int 1)) h9)) ∧ ∀ v h1, Q1 v h1 → ∃ r1 : Int32, v = some (.int r1) ∧ (Q (some (.int 0)) (xSL 99 (va_up (xL h1 99) 0 (Int32.toInt64 r1)) h1))) :
    XW (xrm 9 2 12) mL_wanted (xEW 100 Q 2 12) 100 2 12 h 0 [some (.ref 0), some (.long a1), none, some (.int a2), some (.ref 99), none] [] := by
  refine xi_aload (by decide +kernel : decode mL_wanted.2.1 0 = .ok (.aload 4, 2)) rfl (?_ : XW _ _ _ _ _ _ _ 2 _ _)
  refine xi_iconst (v := 0) (by decide +kernel : decode mL_wanted.2.1 2 = .ok (.iconst 0, 1)) (by decide) (?_ : XW _ _ _ _ _ _ _ 3 _ _)
  refine xi_aload_n (by decide +kernel : decode mL_wanted.2.1 3 = .ok (.aload_n 0, 1)) rfl rfl (?_ : XW _ _ _ _ _ _ _ 4 _ _)
  refine xi_lload_n (by decide +kernel : decode mL_wanted.2.1 4 = .ok (.lload_n 1, 1)) rfl rfl (?_ : XW _ _ _ _ _ _ _ 5 _ _)
  refine xi_iload_n (by decide +kernel : decode mL_wanted.2.1 5 = .ok (.iload_n 3, 1)) rfl rfl (?_ : XW _ _ _ _ _ _ _ 6 _ _)
  obtain ⟨Q1, X1, sp, tx, vc⟩ := vc
  refine xi_callVC (b := 0) (bs := 0) (As := [.long a1, .int a2]) (st := [.int 0, .ref 99]) (by decide +kernel : decode mL_wanted.2.1 6 = .ok (.invokevirtual 76, 3)) kL_76 rfl rfl (by omega) rfl sp (xrm_f (by omega)) (xrm_l (by omega) (Nat.le_of_ble_eq_true rfl)) (Nat.le_of_ble_eq_true rfl) (by omega) (fun E9 h9 hx9 => ?_) (fun v9 h1 hq9 => ?_)
  · obtain ⟨rfl, q⟩ := tx E9 h9 hx9
    exact ⟨[], ⟨0, 11, 14, 13⟩, [], 5, 2, rfl, (fun z hz => by cases hz), by decide, by decide, cL9_13, Or.inr rfl, (Or.inr ⟨(by decide +kernel : decode mL_wanted.2.1 14 = .ok (.astore 5, 2)), rfl⟩), by decide, (xi_iconst (v := 1) (by decide +kernel : decode mL_wanted.2.1 16 = .ok (.iconst 1, 1)) (by decide) (xi_iretW (by decide +kernel : decode mL_wanted.2.1 17 = .ok (.ireturn, 1)) rfl rfl q) : XW _ _ _ _ _ _ _ 16 _ _)⟩
  obtain ⟨r1, e9, vc⟩ := vc v9 h1 hq9
  subst e9
  show XW _ _ _ _ _ _ _ 9 _ [.int r1, .int 0, .ref 99]
  refine xi_i2l (by decide +kernel : decode mL_wanted.2.1 9 = .ok (.i2l, 1)) (?_ : XW _ _ _ _ _ _ _ 10 _ _)
  refine xi_last (by decide +kernel : decode mL_wanted.2.1 10 = .ok (.lastore, 1)) rfl (by omega) (by unfold vp_in; decide) (?_ : XW _ _ _ _ _ _ (xSL 99 (va_up (xL h1 99) 0 (Int32.toInt64 r1)) h1) 11 _ _)
  refine xi_goto (by decide +kernel : decode mL_wanted.2.1 11 = .ok (.goto 7, 3)) (by decide) (?_ : XW _ _ _ _ _ _ _ 18 _ _)
  refine xi_iconst (v := 0) (by decide +kernel : decode mL_wanted.2.1 18 = .ok (.iconst 0, 1)) (by decide) (?_ : XW _ _ _ _ _ _ _ 19 _ _)
  exact xi_iretW (by decide +kernel : decode mL_wanted.2.1 19 = .ok (.ireturn, 1)) rfl rfl vc

set_option maxRecDepth 20000 in
theorem v_L_ahead_0 {h : XH} {Q : Option Value → XH → Prop} {X : String → XH → Prop}  (a1 : Int32) (a2 : Int32)
    (vc : ∃ Q1 X1, XSpec mX10_ahead 8 2 12 100 100 [.ref 0, .int a1, .int a2] h Q1 X1 ∧ (∀ E9 h9, X1 E9 h9 → (E9 = eN ∧ Q (some (.int 1)) h9) ∨ (E9 = eA ∧ Q (some (.int 2)) h9)) ∧ ∀ v h1, Q1 v h1 → ∃ r1 : Int64, v = some (.long r1) ∧ (Q (some (.int 0)) (xSL 99 (va_up (xL h1 99) 0 r1) h1))) :
    XW (xrm 9 2 12) mL_ahead (xEW 100 Q 2 12) 100 2 12 h 0 [some (.ref 0), some (.int a1), some (.int a2), some (.ref 99), none] [] := by
  refine xi_aload_n (by decide +kernel : decode mL_ahead.2.1 0 = .ok (.aload_n 3, 1)) rfl rfl (?_ : XW _ _ _ _ _ _ _ 1 _ _)
  refine xi_iconst (v := 0) (by decide +kernel : decode mL_ahead.2.1 1 = .ok (.iconst 0, 1)) (by decide) (?_ : XW _ _ _ _ _ _ _ 2 _ _)
  refine xi_aload_n (by decide +kernel : decode mL_ahead.2.1 2 = .ok (.aload_n 0, 1)) rfl rfl (?_ : XW _ _ _ _ _ _ _ 3 _ _)
  refine xi_iload_n (by decide +kernel : decode mL_ahead.2.1 3 = .ok (.iload_n 1, 1)) rfl rfl (?_ : XW _ _ _ _ _ _ _ 4 _ _)
  refine xi_iload_n (by decide +kernel : decode mL_ahead.2.1 4 = .ok (.iload_n 2, 1)) rfl rfl (?_ : XW _ _ _ _ _ _ _ 5 _ _)
  obtain ⟨Q1, X1, sp, tx, vc⟩ := vc
  refine xi_callVC (b := 0) (bs := 0) (As := [.int a1, .int a2]) (st := [.int 0, .ref 99]) (by decide +kernel : decode mL_ahead.2.1 5 = .ok (.invokevirtual 80, 3)) kL_80 rfl rfl (by omega) rfl sp (xrm_f (by omega)) (xrm_l (by omega) (Nat.le_of_ble_eq_true rfl)) (Nat.le_of_ble_eq_true rfl) (by omega) (fun E9 h9 hx9 => ?_) (fun v9 h1 hq9 => ?_)
  · rcases tx E9 h9 hx9 with ⟨rfl, q⟩ | ⟨rfl, q⟩
    · exact ⟨[], ⟨0, 9, 12, 18⟩, [⟨0, 9, 16, 13⟩], 4, 2, rfl, (fun z hz => by cases hz), by decide, by decide, cL9_18, Or.inl rfl, (Or.inr ⟨(by decide +kernel : decode mL_ahead.2.1 12 = .ok (.astore 4, 2)), rfl⟩), by decide, (xi_iconst (v := 1) (by decide +kernel : decode mL_ahead.2.1 14 = .ok (.iconst 1, 1)) (by decide) (xi_iretW (by decide +kernel : decode mL_ahead.2.1 15 = .ok (.ireturn, 1)) rfl rfl q) : XW _ _ _ _ _ _ _ 14 _ _)⟩
    · exact ⟨[⟨0, 9, 12, 18⟩], ⟨0, 9, 16, 13⟩, [], 4, 2, rfl, (fun z hz => by rcases List.mem_singleton.mp hz with rfl; exact Or.inr ⟨by decide, cL9_18, rfl⟩), by decide, by decide, cL9_13, Or.inr rfl, (Or.inr ⟨(by decide +kernel : decode mL_ahead.2.1 16 = .ok (.astore 4, 2)), rfl⟩), by decide, (xi_iconst (v := 2) (by decide +kernel : decode mL_ahead.2.1 18 = .ok (.iconst 2, 1)) (by decide) (xi_iretW (by decide +kernel : decode mL_ahead.2.1 19 = .ok (.ireturn, 1)) rfl rfl q) : XW _ _ _ _ _ _ _ 18 _ _)⟩
  obtain ⟨r1, e9, vc⟩ := vc v9 h1 hq9
  subst e9
  show XW _ _ _ _ _ _ _ 8 _ [.long r1, .int 0, .ref 99]
  refine xi_last (by decide +kernel : decode mL_ahead.2.1 8 = .ok (.lastore, 1)) rfl (by omega) (by unfold vp_in; decide) (?_ : XW _ _ _ _ _ _ (xSL 99 (va_up (xL h1 99) 0 r1) h1) 9 _ _)
  refine xi_goto (by decide +kernel : decode mL_ahead.2.1 9 = .ok (.goto 11, 3)) (by decide) (?_ : XW _ _ _ _ _ _ _ 20 _ _)
  refine xi_iconst (v := 0) (by decide +kernel : decode mL_ahead.2.1 20 = .ok (.iconst 0, 1)) (by decide) (?_ : XW _ _ _ _ _ _ _ 21 _ _)
  exact xi_iretW (by decide +kernel : decode mL_ahead.2.1 21 = .ok (.ireturn, 1)) rfl rfl vc

set_option maxRecDepth 20000 in
theorem v_L_choose_0 {h : XH} {Q : Option Value → XH → Prop} {X : String → XH → Prop}  (a1 : Int32) (a2 : Int32) (a3 : Int32) (a4 : Int32)
    (vc : ∃ Q1 X1, XSpec mX10_choose 8 4 24 100 100 [.ref 0, .int a1, .int a2, .int a3, .int a4] h Q1 X1 ∧ (∀ E9 h9, X1 E9 h9 → (E9 = eN ∧ Q (some (.int 1)) h9) ∨ (E9 = eA ∧ Q (some (.int 2)) h9)) ∧ ∀ v h1, Q1 v h1 → ∃ r1 : Int32, v = some (.int r1) ∧ (Q (some (.int 0)) (xSL 99 (va_up (xL h1 99) 0 (Int32.toInt64 r1)) h1))) :
    XW (xrm 9 4 24) mL_choose (xEW 100 Q 4 24) 100 4 24 h 0 [some (.ref 0), some (.int a1), some (.int a2), some (.int a3), some (.int a4), some (.ref 99), none] [] := by
  refine xi_aload (by decide +kernel : decode mL_choose.2.1 0 = .ok (.aload 5, 2)) rfl (?_ : XW _ _ _ _ _ _ _ 2 _ _)
  refine xi_iconst (v := 0) (by decide +kernel : decode mL_choose.2.1 2 = .ok (.iconst 0, 1)) (by decide) (?_ : XW _ _ _ _ _ _ _ 3 _ _)
  refine xi_aload_n (by decide +kernel : decode mL_choose.2.1 3 = .ok (.aload_n 0, 1)) rfl rfl (?_ : XW _ _ _ _ _ _ _ 4 _ _)
  refine xi_iload_n (by decide +kernel : decode mL_choose.2.1 4 = .ok (.iload_n 1, 1)) rfl rfl (?_ : XW _ _ _ _ _ _ _ 5 _ _)
  refine xi_iload_n (by decide +kernel : decode mL_choose.2.1 5 = .ok (.iload_n 2, 1)) rfl rfl (?_ : XW _ _ _ _ _ _ _ 6 _ _)
  refine xi_iload_n (by decide +kernel : decode mL_choose.2.1 6 = .ok (.iload_n 3, 1)) rfl rfl (?_ : XW _ _ _ _ _ _ _ 7 _ _)
  refine xi_iload (by decide +kernel : decode mL_choose.2.1 7 = .ok (.iload 4, 2)) rfl (?_ : XW _ _ _ _ _ _ _ 9 _ _)
  obtain ⟨Q1, X1, sp, tx, vc⟩ := vc
  refine xi_callVC (b := 0) (bs := 0) (As := [.int a1, .int a2, .int a3, .int a4]) (st := [.int 0, .ref 99]) (by decide +kernel : decode mL_choose.2.1 9 = .ok (.invokevirtual 83, 3)) kL_83 rfl rfl (by omega) rfl sp (xrm_f (by omega)) (xrm_l (by omega) (Nat.le_of_ble_eq_true rfl)) (Nat.le_of_ble_eq_true rfl) (by omega) (fun E9 h9 hx9 => ?_) (fun v9 h1 hq9 => ?_)
  · rcases tx E9 h9 hx9 with ⟨rfl, q⟩ | ⟨rfl, q⟩
    · exact ⟨[], ⟨0, 14, 17, 18⟩, [⟨0, 14, 21, 13⟩], 6, 2, rfl, (fun z hz => by cases hz), by decide, by decide, cL9_18, Or.inl rfl, (Or.inr ⟨(by decide +kernel : decode mL_choose.2.1 17 = .ok (.astore 6, 2)), rfl⟩), by decide, (xi_iconst (v := 1) (by decide +kernel : decode mL_choose.2.1 19 = .ok (.iconst 1, 1)) (by decide) (xi_iretW (by decide +kernel : decode mL_choose.2.1 20 = .ok (.ireturn, 1)) rfl rfl q) : XW _ _ _ _ _ _ _ 19 _ _)⟩
    · exact ⟨[⟨0, 14, 17, 18⟩], ⟨0, 14, 21, 13⟩, [], 6, 2, rfl, (fun z hz => by rcases List.mem_singleton.mp hz with rfl; exact Or.inr ⟨by decide, cL9_18, rfl⟩), by decide, by decide, cL9_13, Or.inr rfl, (Or.inr ⟨(by decide +kernel : decode mL_choose.2.1 21 = .ok (.astore 6, 2)), rfl⟩), by decide, (xi_iconst (v := 2) (by decide +kernel : decode mL_choose.2.1 23 = .ok (.iconst 2, 1)) (by decide) (xi_iretW (by decide +kernel : decode mL_choose.2.1 24 = .ok (.ireturn, 1)) rfl rfl q) : XW _ _ _ _ _ _ _ 23 _ _)⟩
  obtain ⟨r1, e9, vc⟩ := vc v9 h1 hq9
  subst e9
  show XW _ _ _ _ _ _ _ 12 _ [.int r1, .int 0, .ref 99]
  refine xi_i2l (by decide +kernel : decode mL_choose.2.1 12 = .ok (.i2l, 1)) (?_ : XW _ _ _ _ _ _ _ 13 _ _)
  refine xi_last (by decide +kernel : decode mL_choose.2.1 13 = .ok (.lastore, 1)) rfl (by omega) (by unfold vp_in; decide) (?_ : XW _ _ _ _ _ _ (xSL 99 (va_up (xL h1 99) 0 (Int32.toInt64 r1)) h1) 14 _ _)
  refine xi_goto (by decide +kernel : decode mL_choose.2.1 14 = .ok (.goto 11, 3)) (by decide) (?_ : XW _ _ _ _ _ _ _ 25 _ _)
  refine xi_iconst (v := 0) (by decide +kernel : decode mL_choose.2.1 25 = .ok (.iconst 0, 1)) (by decide) (?_ : XW _ _ _ _ _ _ _ 26 _ _)
  exact xi_iretW (by decide +kernel : decode mL_choose.2.1 26 = .ok (.ireturn, 1)) rfl rfl vc

set_option maxRecDepth 20000 in
theorem v_L_often_0 {h : XH} {Q : Option Value → XH → Prop} {X : String → XH → Prop}  (a1 : Int32)
    (vc : ∃ Q1 X1, XSpec mX10_often 8 1 6 100 100 [.ref 0, .int a1] h Q1 X1 ∧ (∀ E9 h9, X1 E9 h9 → (E9 = eN ∧ Q (some (.int 1)) h9)) ∧ ∀ v h1, Q1 v h1 → ∃ r1 : Int32, v = some (.int r1) ∧ (Q (some (.int 0)) (xSL 99 (va_up (xL h1 99) 0 (Int32.toInt64 r1)) h1))) :
    XW (xrm 9 1 6) mL_often (xEW 100 Q 1 6) 100 1 6 h 0 [some (.ref 0), some (.int a1), some (.ref 99), none] [] := by
  refine xi_aload_n (by decide +kernel : decode mL_often.2.1 0 = .ok (.aload_n 2, 1)) rfl rfl (?_ : XW _ _ _ _ _ _ _ 1 _ _)
  refine xi_iconst (v := 0) (by decide +kernel : decode mL_often.2.1 1 = .ok (.iconst 0, 1)) (by decide) (?_ : XW _ _ _ _ _ _ _ 2 _ _)
  refine xi_aload_n (by decide +kernel : decode mL_often.2.1 2 = .ok (.aload_n 0, 1)) rfl rfl (?_ : XW _ _ _ _ _ _ _ 3 _ _)
  refine xi_iload_n (by decide +kernel : decode mL_often.2.1 3 = .ok (.iload_n 1, 1)) rfl rfl (?_ : XW _ _ _ _ _ _ _ 4 _ _)
  obtain ⟨Q1, X1, sp, tx, vc⟩ := vc
  refine xi_callVC (b := 0) (bs := 0) (As := [.int a1]) (st := [.int 0, .ref 99]) (by decide +kernel : decode mL_often.2.1 4 = .ok (.invokevirtual 87, 3)) kL_87 rfl rfl (by omega) rfl sp (xrm_f (by omega)) (xrm_l (by omega) (Nat.le_of_ble_eq_true rfl)) (Nat.le_of_ble_eq_true rfl) (by omega) (fun E9 h9 hx9 => ?_) (fun v9 h1 hq9 => ?_)
  · obtain ⟨rfl, q⟩ := tx E9 h9 hx9
    exact ⟨[], ⟨0, 9, 12, 18⟩, [], 3, 1, rfl, (fun z hz => by cases hz), by decide, by decide, cL9_18, Or.inl rfl, (Or.inl ⟨3, (by decide +kernel : decode mL_often.2.1 12 = .ok (.astore_n 3, 1)), rfl, rfl⟩), by decide, (xi_iconst (v := 1) (by decide +kernel : decode mL_often.2.1 13 = .ok (.iconst 1, 1)) (by decide) (xi_iretW (by decide +kernel : decode mL_often.2.1 14 = .ok (.ireturn, 1)) rfl rfl q) : XW _ _ _ _ _ _ _ 13 _ _)⟩
  obtain ⟨r1, e9, vc⟩ := vc v9 h1 hq9
  subst e9
  show XW _ _ _ _ _ _ _ 7 _ [.int r1, .int 0, .ref 99]
  refine xi_i2l (by decide +kernel : decode mL_often.2.1 7 = .ok (.i2l, 1)) (?_ : XW _ _ _ _ _ _ _ 8 _ _)
  refine xi_last (by decide +kernel : decode mL_often.2.1 8 = .ok (.lastore, 1)) rfl (by omega) (by unfold vp_in; decide) (?_ : XW _ _ _ _ _ _ (xSL 99 (va_up (xL h1 99) 0 (Int32.toInt64 r1)) h1) 9 _ _)
  refine xi_goto (by decide +kernel : decode mL_often.2.1 9 = .ok (.goto 6, 3)) (by decide) (?_ : XW _ _ _ _ _ _ _ 15 _ _)
  refine xi_iconst (v := 0) (by decide +kernel : decode mL_often.2.1 15 = .ok (.iconst 0, 1)) (by decide) (?_ : XW _ _ _ _ _ _ _ 16 _ _)
  exact xi_iretW (by decide +kernel : decode mL_often.2.1 16 = .ok (.ireturn, 1)) rfl rfl vc

set_option maxRecDepth 20000 in
theorem v_L_unlike_0 {h : XH} {Q : Option Value → XH → Prop} {X : String → XH → Prop}  (a1 : Int32)
    (vc : ∃ Q1 X1, XSpec mX10_unlike 8 1 6 100 100 [.ref 0, .int a1] h Q1 X1 ∧ (∀ E9 h9, X1 E9 h9 → (E9 = eN ∧ Q (some (.int 1)) h9)) ∧ ∀ v h1, Q1 v h1 → ∃ r1 : Int64, v = some (.long r1) ∧ (Q (some (.int 0)) (xSL 99 (va_up (xL h1 99) 0 r1) h1))) :
    XW (xrm 9 1 6) mL_unlike (xEW 100 Q 1 6) 100 1 6 h 0 [some (.ref 0), some (.int a1), some (.ref 99), none] [] := by
  refine xi_aload_n (by decide +kernel : decode mL_unlike.2.1 0 = .ok (.aload_n 2, 1)) rfl rfl (?_ : XW _ _ _ _ _ _ _ 1 _ _)
  refine xi_iconst (v := 0) (by decide +kernel : decode mL_unlike.2.1 1 = .ok (.iconst 0, 1)) (by decide) (?_ : XW _ _ _ _ _ _ _ 2 _ _)
  refine xi_aload_n (by decide +kernel : decode mL_unlike.2.1 2 = .ok (.aload_n 0, 1)) rfl rfl (?_ : XW _ _ _ _ _ _ _ 3 _ _)
  refine xi_iload_n (by decide +kernel : decode mL_unlike.2.1 3 = .ok (.iload_n 1, 1)) rfl rfl (?_ : XW _ _ _ _ _ _ _ 4 _ _)
  obtain ⟨Q1, X1, sp, tx, vc⟩ := vc
  refine xi_callVC (b := 0) (bs := 0) (As := [.int a1]) (st := [.int 0, .ref 99]) (by decide +kernel : decode mL_unlike.2.1 4 = .ok (.invokevirtual 90, 3)) kL_90 rfl rfl (by omega) rfl sp (xrm_f (by omega)) (xrm_l (by omega) (Nat.le_of_ble_eq_true rfl)) (Nat.le_of_ble_eq_true rfl) (by omega) (fun E9 h9 hx9 => ?_) (fun v9 h1 hq9 => ?_)
  · obtain ⟨rfl, q⟩ := tx E9 h9 hx9
    exact ⟨[], ⟨0, 8, 11, 18⟩, [], 3, 1, rfl, (fun z hz => by cases hz), by decide, by decide, cL9_18, Or.inl rfl, (Or.inl ⟨3, (by decide +kernel : decode mL_unlike.2.1 11 = .ok (.astore_n 3, 1)), rfl, rfl⟩), by decide, (xi_iconst (v := 1) (by decide +kernel : decode mL_unlike.2.1 12 = .ok (.iconst 1, 1)) (by decide) (xi_iretW (by decide +kernel : decode mL_unlike.2.1 13 = .ok (.ireturn, 1)) rfl rfl q) : XW _ _ _ _ _ _ _ 12 _ _)⟩
  obtain ⟨r1, e9, vc⟩ := vc v9 h1 hq9
  subst e9
  show XW _ _ _ _ _ _ _ 7 _ [.long r1, .int 0, .ref 99]
  refine xi_last (by decide +kernel : decode mL_unlike.2.1 7 = .ok (.lastore, 1)) rfl (by omega) (by unfold vp_in; decide) (?_ : XW _ _ _ _ _ _ (xSL 99 (va_up (xL h1 99) 0 r1) h1) 8 _ _)
  refine xi_goto (by decide +kernel : decode mL_unlike.2.1 8 = .ok (.goto 6, 3)) (by decide) (?_ : XW _ _ _ _ _ _ _ 14 _ _)
  refine xi_iconst (v := 0) (by decide +kernel : decode mL_unlike.2.1 14 = .ok (.iconst 0, 1)) (by decide) (?_ : XW _ _ _ _ _ _ _ 15 _ _)
  exact xi_iretW (by decide +kernel : decode mL_unlike.2.1 15 = .ok (.ireturn, 1)) rfl rfl vc

set_option maxRecDepth 20000 in
theorem v_L_draw_0 {h : XH} {Q : Option Value → XH → Prop} {X : String → XH → Prop}  (a1 : Int32) (a2 : Int32) (a3 : Int32)
    (vc : ∃ Q1 X1, XSpec mX10_draw 7 1 6 100 100 [.ref 0, .int a1, .int a2, .int a3] h Q1 X1 ∧ (∀ E9 h9, X1 E9 h9 → (E9 = eA ∧ Q (some (.int 1)) h9)) ∧ ∀ v h1, Q1 v h1 → ∃ r1 : Int32, v = some (.int r1) ∧ (Q (some (.int 0)) (xSL 99 (va_up (xL h1 99) 0 (Int32.toInt64 r1)) h1))) :
    XW (xrm 8 1 6) mL_draw (xEW 100 Q 1 6) 100 1 6 h 0 [some (.ref 0), some (.int a1), some (.int a2), some (.int a3), some (.ref 99), none] [] := by
  refine xi_aload (by decide +kernel : decode mL_draw.2.1 0 = .ok (.aload 4, 2)) rfl (?_ : XW _ _ _ _ _ _ _ 2 _ _)
  refine xi_iconst (v := 0) (by decide +kernel : decode mL_draw.2.1 2 = .ok (.iconst 0, 1)) (by decide) (?_ : XW _ _ _ _ _ _ _ 3 _ _)
  refine xi_aload_n (by decide +kernel : decode mL_draw.2.1 3 = .ok (.aload_n 0, 1)) rfl rfl (?_ : XW _ _ _ _ _ _ _ 4 _ _)
  refine xi_iload_n (by decide +kernel : decode mL_draw.2.1 4 = .ok (.iload_n 1, 1)) rfl rfl (?_ : XW _ _ _ _ _ _ _ 5 _ _)
  refine xi_iload_n (by decide +kernel : decode mL_draw.2.1 5 = .ok (.iload_n 2, 1)) rfl rfl (?_ : XW _ _ _ _ _ _ _ 6 _ _)
  refine xi_iload_n (by decide +kernel : decode mL_draw.2.1 6 = .ok (.iload_n 3, 1)) rfl rfl (?_ : XW _ _ _ _ _ _ _ 7 _ _)
  obtain ⟨Q1, X1, sp, tx, vc⟩ := vc
  refine xi_callVC (b := 0) (bs := 0) (As := [.int a1, .int a2, .int a3]) (st := [.int 0, .ref 99]) (by decide +kernel : decode mL_draw.2.1 7 = .ok (.invokevirtual 94, 3)) kL_94 rfl rfl (by omega) rfl sp (xrm_f (by omega)) (xrm_l (by omega) (Nat.le_of_ble_eq_true rfl)) (Nat.le_of_ble_eq_true rfl) (by omega) (fun E9 h9 hx9 => ?_) (fun v9 h1 hq9 => ?_)
  · obtain ⟨rfl, q⟩ := tx E9 h9 hx9
    exact ⟨[], ⟨0, 12, 15, 13⟩, [], 5, 2, rfl, (fun z hz => by cases hz), by decide, by decide, cL9_13, Or.inr rfl, (Or.inr ⟨(by decide +kernel : decode mL_draw.2.1 15 = .ok (.astore 5, 2)), rfl⟩), by decide, (xi_iconst (v := 1) (by decide +kernel : decode mL_draw.2.1 17 = .ok (.iconst 1, 1)) (by decide) (xi_iretW (by decide +kernel : decode mL_draw.2.1 18 = .ok (.ireturn, 1)) rfl rfl q) : XW _ _ _ _ _ _ _ 17 _ _)⟩
  obtain ⟨r1, e9, vc⟩ := vc v9 h1 hq9
  subst e9
  show XW _ _ _ _ _ _ _ 10 _ [.int r1, .int 0, .ref 99]
  refine xi_i2l (by decide +kernel : decode mL_draw.2.1 10 = .ok (.i2l, 1)) (?_ : XW _ _ _ _ _ _ _ 11 _ _)
  refine xi_last (by decide +kernel : decode mL_draw.2.1 11 = .ok (.lastore, 1)) rfl (by omega) (by unfold vp_in; decide) (?_ : XW _ _ _ _ _ _ (xSL 99 (va_up (xL h1 99) 0 (Int32.toInt64 r1)) h1) 12 _ _)
  refine xi_goto (by decide +kernel : decode mL_draw.2.1 12 = .ok (.goto 7, 3)) (by decide) (?_ : XW _ _ _ _ _ _ _ 19 _ _)
  refine xi_iconst (v := 0) (by decide +kernel : decode mL_draw.2.1 19 = .ok (.iconst 0, 1)) (by decide) (?_ : XW _ _ _ _ _ _ _ 20 _ _)
  exact xi_iretW (by decide +kernel : decode mL_draw.2.1 20 = .ok (.ireturn, 1)) rfl rfl vc

set_option maxRecDepth 20000 in
theorem v_L_ended_0 {h : XH} {Q : Option Value → XH → Prop} {X : String → XH → Prop}  (a1 : Int32) (a2 : Int32)
    (vc : ∃ Q1 X1, XSpec mX10_ended 8 2 12 100 100 [.ref 0, .int a1, .int a2] h Q1 X1 ∧ (∀ E9 h9, X1 E9 h9 → (E9 = eN ∧ Q (some (.int 1)) h9) ∨ (E9 = eA ∧ Q (some (.int 2)) h9)) ∧ ∀ v h1, Q1 v h1 → ∃ r1 : Int64, v = some (.long r1) ∧ (Q (some (.int 0)) (xSL 99 (va_up (xL h1 99) 0 r1) h1))) :
    XW (xrm 9 2 12) mL_ended (xEW 100 Q 2 12) 100 2 12 h 0 [some (.ref 0), some (.int a1), some (.int a2), some (.ref 99), none] [] := by
  refine xi_aload_n (by decide +kernel : decode mL_ended.2.1 0 = .ok (.aload_n 3, 1)) rfl rfl (?_ : XW _ _ _ _ _ _ _ 1 _ _)
  refine xi_iconst (v := 0) (by decide +kernel : decode mL_ended.2.1 1 = .ok (.iconst 0, 1)) (by decide) (?_ : XW _ _ _ _ _ _ _ 2 _ _)
  refine xi_aload_n (by decide +kernel : decode mL_ended.2.1 2 = .ok (.aload_n 0, 1)) rfl rfl (?_ : XW _ _ _ _ _ _ _ 3 _ _)
  refine xi_iload_n (by decide +kernel : decode mL_ended.2.1 3 = .ok (.iload_n 1, 1)) rfl rfl (?_ : XW _ _ _ _ _ _ _ 4 _ _)
  refine xi_iload_n (by decide +kernel : decode mL_ended.2.1 4 = .ok (.iload_n 2, 1)) rfl rfl (?_ : XW _ _ _ _ _ _ _ 5 _ _)
  obtain ⟨Q1, X1, sp, tx, vc⟩ := vc
  refine xi_callVC (b := 0) (bs := 0) (As := [.int a1, .int a2]) (st := [.int 0, .ref 99]) (by decide +kernel : decode mL_ended.2.1 5 = .ok (.invokevirtual 98, 3)) kL_98 rfl rfl (by omega) rfl sp (xrm_f (by omega)) (xrm_l (by omega) (Nat.le_of_ble_eq_true rfl)) (Nat.le_of_ble_eq_true rfl) (by omega) (fun E9 h9 hx9 => ?_) (fun v9 h1 hq9 => ?_)
  · rcases tx E9 h9 hx9 with ⟨rfl, q⟩ | ⟨rfl, q⟩
    · exact ⟨[], ⟨0, 9, 12, 18⟩, [⟨0, 9, 16, 13⟩], 4, 2, rfl, (fun z hz => by cases hz), by decide, by decide, cL9_18, Or.inl rfl, (Or.inr ⟨(by decide +kernel : decode mL_ended.2.1 12 = .ok (.astore 4, 2)), rfl⟩), by decide, (xi_iconst (v := 1) (by decide +kernel : decode mL_ended.2.1 14 = .ok (.iconst 1, 1)) (by decide) (xi_iretW (by decide +kernel : decode mL_ended.2.1 15 = .ok (.ireturn, 1)) rfl rfl q) : XW _ _ _ _ _ _ _ 14 _ _)⟩
    · exact ⟨[⟨0, 9, 12, 18⟩], ⟨0, 9, 16, 13⟩, [], 4, 2, rfl, (fun z hz => by rcases List.mem_singleton.mp hz with rfl; exact Or.inr ⟨by decide, cL9_18, rfl⟩), by decide, by decide, cL9_13, Or.inr rfl, (Or.inr ⟨(by decide +kernel : decode mL_ended.2.1 16 = .ok (.astore 4, 2)), rfl⟩), by decide, (xi_iconst (v := 2) (by decide +kernel : decode mL_ended.2.1 18 = .ok (.iconst 2, 1)) (by decide) (xi_iretW (by decide +kernel : decode mL_ended.2.1 19 = .ok (.ireturn, 1)) rfl rfl q) : XW _ _ _ _ _ _ _ 18 _ _)⟩
  obtain ⟨r1, e9, vc⟩ := vc v9 h1 hq9
  subst e9
  show XW _ _ _ _ _ _ _ 8 _ [.long r1, .int 0, .ref 99]
  refine xi_last (by decide +kernel : decode mL_ended.2.1 8 = .ok (.lastore, 1)) rfl (by omega) (by unfold vp_in; decide) (?_ : XW _ _ _ _ _ _ (xSL 99 (va_up (xL h1 99) 0 r1) h1) 9 _ _)
  refine xi_goto (by decide +kernel : decode mL_ended.2.1 9 = .ok (.goto 11, 3)) (by decide) (?_ : XW _ _ _ _ _ _ _ 20 _ _)
  refine xi_iconst (v := 0) (by decide +kernel : decode mL_ended.2.1 20 = .ok (.iconst 0, 1)) (by decide) (?_ : XW _ _ _ _ _ _ _ 21 _ _)
  exact xi_iretW (by decide +kernel : decode mL_ended.2.1 21 = .ok (.ireturn, 1)) rfl rfl vc

set_option maxRecDepth 20000 in
theorem v_L_together_0 {h : XH} {Q : Option Value → XH → Prop} {X : String → XH → Prop}  (a1 : Int32) (a2 : Int32) (a3 : Int32)
    (vc : ∃ Q1 X1, XSpec mX10_together 8 3 18 100 100 [.ref 0, .int a1, .int a2, .int a3] h Q1 X1 ∧ (∀ E9 h9, X1 E9 h9 → (E9 = eN ∧ Q (some (.int 1)) h9) ∨ (E9 = eA ∧ Q (some (.int 2)) h9)) ∧ ∀ v h1, Q1 v h1 → ∃ r1 : Int64, v = some (.long r1) ∧ (Q (some (.int 0)) (xSL 99 (va_up (xL h1 99) 0 r1) h1))) :
    XW (xrm 9 3 18) mL_together (xEW 100 Q 3 18) 100 3 18 h 0 [some (.ref 0), some (.int a1), some (.int a2), some (.int a3), some (.ref 99), none] [] := by
  refine xi_aload (by decide +kernel : decode mL_together.2.1 0 = .ok (.aload 4, 2)) rfl (?_ : XW _ _ _ _ _ _ _ 2 _ _)
  refine xi_iconst (v := 0) (by decide +kernel : decode mL_together.2.1 2 = .ok (.iconst 0, 1)) (by decide) (?_ : XW _ _ _ _ _ _ _ 3 _ _)
  refine xi_aload_n (by decide +kernel : decode mL_together.2.1 3 = .ok (.aload_n 0, 1)) rfl rfl (?_ : XW _ _ _ _ _ _ _ 4 _ _)
  refine xi_iload_n (by decide +kernel : decode mL_together.2.1 4 = .ok (.iload_n 1, 1)) rfl rfl (?_ : XW _ _ _ _ _ _ _ 5 _ _)
  refine xi_iload_n (by decide +kernel : decode mL_together.2.1 5 = .ok (.iload_n 2, 1)) rfl rfl (?_ : XW _ _ _ _ _ _ _ 6 _ _)
  refine xi_iload_n (by decide +kernel : decode mL_together.2.1 6 = .ok (.iload_n 3, 1)) rfl rfl (?_ : XW _ _ _ _ _ _ _ 7 _ _)
  obtain ⟨Q1, X1, sp, tx, vc⟩ := vc
  refine xi_callVC (b := 0) (bs := 0) (As := [.int a1, .int a2, .int a3]) (st := [.int 0, .ref 99]) (by decide +kernel : decode mL_together.2.1 7 = .ok (.invokevirtual 101, 3)) kL_101 rfl rfl (by omega) rfl sp (xrm_f (by omega)) (xrm_l (by omega) (Nat.le_of_ble_eq_true rfl)) (Nat.le_of_ble_eq_true rfl) (by omega) (fun E9 h9 hx9 => ?_) (fun v9 h1 hq9 => ?_)
  · rcases tx E9 h9 hx9 with ⟨rfl, q⟩ | ⟨rfl, q⟩
    · exact ⟨[], ⟨0, 11, 14, 18⟩, [⟨0, 11, 18, 13⟩], 5, 2, rfl, (fun z hz => by cases hz), by decide, by decide, cL9_18, Or.inl rfl, (Or.inr ⟨(by decide +kernel : decode mL_together.2.1 14 = .ok (.astore 5, 2)), rfl⟩), by decide, (xi_iconst (v := 1) (by decide +kernel : decode mL_together.2.1 16 = .ok (.iconst 1, 1)) (by decide) (xi_iretW (by decide +kernel : decode mL_together.2.1 17 = .ok (.ireturn, 1)) rfl rfl q) : XW _ _ _ _ _ _ _ 16 _ _)⟩
    · exact ⟨[⟨0, 11, 14, 18⟩], ⟨0, 11, 18, 13⟩, [], 5, 2, rfl, (fun z hz => by rcases List.mem_singleton.mp hz with rfl; exact Or.inr ⟨by decide, cL9_18, rfl⟩), by decide, by decide, cL9_13, Or.inr rfl, (Or.inr ⟨(by decide +kernel : decode mL_together.2.1 18 = .ok (.astore 5, 2)), rfl⟩), by decide, (xi_iconst (v := 2) (by decide +kernel : decode mL_together.2.1 20 = .ok (.iconst 2, 1)) (by decide) (xi_iretW (by decide +kernel : decode mL_together.2.1 21 = .ok (.ireturn, 1)) rfl rfl q) : XW _ _ _ _ _ _ _ 20 _ _)⟩
  obtain ⟨r1, e9, vc⟩ := vc v9 h1 hq9
  subst e9
  show XW _ _ _ _ _ _ _ 10 _ [.long r1, .int 0, .ref 99]
  refine xi_last (by decide +kernel : decode mL_together.2.1 10 = .ok (.lastore, 1)) rfl (by omega) (by unfold vp_in; decide) (?_ : XW _ _ _ _ _ _ (xSL 99 (va_up (xL h1 99) 0 r1) h1) 11 _ _)
  refine xi_goto (by decide +kernel : decode mL_together.2.1 11 = .ok (.goto 11, 3)) (by decide) (?_ : XW _ _ _ _ _ _ _ 22 _ _)
  refine xi_iconst (v := 0) (by decide +kernel : decode mL_together.2.1 22 = .ok (.iconst 0, 1)) (by decide) (?_ : XW _ _ _ _ _ _ _ 23 _ _)
  exact xi_iretW (by decide +kernel : decode mL_together.2.1 23 = .ok (.ireturn, 1)) rfl rfl vc

set_option maxRecDepth 20000 in
theorem v_L_whom_0 {h : XH} {Q : Option Value → XH → Prop} {X : String → XH → Prop}  (a1 : Int32) (a2 : Int32) (a3 : Int32) (a4 : Int32)
    (vc : ∃ Q1 X1, XSpec mX10_whom 8 4 24 100 100 [.ref 0, .int a1, .int a2, .int a3, .int a4] h Q1 X1 ∧ (∀ E9 h9, X1 E9 h9 → (E9 = eN ∧ Q (some (.int 1)) h9) ∨ (E9 = eA ∧ Q (some (.int 2)) h9)) ∧ ∀ v h1, Q1 v h1 → ∃ r1 : Int32, v = some (.int r1) ∧ (Q (some (.int 0)) (xSL 99 (va_up (xL h1 99) 0 (Int32.toInt64 r1)) h1))) :
    XW (xrm 9 4 24) mL_whom (xEW 100 Q 4 24) 100 4 24 h 0 [some (.ref 0), some (.int a1), some (.int a2), some (.int a3), some (.int a4), some (.ref 99), none] [] := by
  refine xi_aload (by decide +kernel : decode mL_whom.2.1 0 = .ok (.aload 5, 2)) rfl (?_ : XW _ _ _ _ _ _ _ 2 _ _)
  refine xi_iconst (v := 0) (by decide +kernel : decode mL_whom.2.1 2 = .ok (.iconst 0, 1)) (by decide) (?_ : XW _ _ _ _ _ _ _ 3 _ _)
  refine xi_aload_n (by decide +kernel : decode mL_whom.2.1 3 = .ok (.aload_n 0, 1)) rfl rfl (?_ : XW _ _ _ _ _ _ _ 4 _ _)
  refine xi_iload_n (by decide +kernel : decode mL_whom.2.1 4 = .ok (.iload_n 1, 1)) rfl rfl (?_ : XW _ _ _ _ _ _ _ 5 _ _)
  refine xi_iload_n (by decide +kernel : decode mL_whom.2.1 5 = .ok (.iload_n 2, 1)) rfl rfl (?_ : XW _ _ _ _ _ _ _ 6 _ _)
  refine xi_iload_n (by decide +kernel : decode mL_whom.2.1 6 = .ok (.iload_n 3, 1)) rfl rfl (?_ : XW _ _ _ _ _ _ _ 7 _ _)
  refine xi_iload (by decide +kernel : decode mL_whom.2.1 7 = .ok (.iload 4, 2)) rfl (?_ : XW _ _ _ _ _ _ _ 9 _ _)
  obtain ⟨Q1, X1, sp, tx, vc⟩ := vc
  refine xi_callVC (b := 0) (bs := 0) (As := [.int a1, .int a2, .int a3, .int a4]) (st := [.int 0, .ref 99]) (by decide +kernel : decode mL_whom.2.1 9 = .ok (.invokevirtual 104, 3)) kL_104 rfl rfl (by omega) rfl sp (xrm_f (by omega)) (xrm_l (by omega) (Nat.le_of_ble_eq_true rfl)) (Nat.le_of_ble_eq_true rfl) (by omega) (fun E9 h9 hx9 => ?_) (fun v9 h1 hq9 => ?_)
  · rcases tx E9 h9 hx9 with ⟨rfl, q⟩ | ⟨rfl, q⟩
    · exact ⟨[], ⟨0, 14, 17, 18⟩, [⟨0, 14, 21, 13⟩], 6, 2, rfl, (fun z hz => by cases hz), by decide, by decide, cL9_18, Or.inl rfl, (Or.inr ⟨(by decide +kernel : decode mL_whom.2.1 17 = .ok (.astore 6, 2)), rfl⟩), by decide, (xi_iconst (v := 1) (by decide +kernel : decode mL_whom.2.1 19 = .ok (.iconst 1, 1)) (by decide) (xi_iretW (by decide +kernel : decode mL_whom.2.1 20 = .ok (.ireturn, 1)) rfl rfl q) : XW _ _ _ _ _ _ _ 19 _ _)⟩
    · exact ⟨[⟨0, 14, 17, 18⟩], ⟨0, 14, 21, 13⟩, [], 6, 2, rfl, (fun z hz => by rcases List.mem_singleton.mp hz with rfl; exact Or.inr ⟨by decide, cL9_18, rfl⟩), by decide, by decide, cL9_13, Or.inr rfl, (Or.inr ⟨(by decide +kernel : decode mL_whom.2.1 21 = .ok (.astore 6, 2)), rfl⟩), by decide, (xi_iconst (v := 2) (by decide +kernel : decode mL_whom.2.1 23 = .ok (.iconst 2, 1)) (by decide) (xi_iretW (by decide +kernel : decode mL_whom.2.1 24 = .ok (.ireturn, 1)) rfl rfl q) : XW _ _ _ _ _ _ _ 23 _ _)⟩
  obtain ⟨r1, e9, vc⟩ := vc v9 h1 hq9
  subst e9
  show XW _ _ _ _ _ _ _ 12 _ [.int r1, .int 0, .ref 99]
  refine xi_i2l (by decide +kernel : decode mL_whom.2.1 12 = .ok (.i2l, 1)) (?_ : XW _ _ _ _ _ _ _ 13 _ _)
  refine xi_last (by decide +kernel : decode mL_whom.2.1 13 = .ok (.lastore, 1)) rfl (by omega) (by unfold vp_in; decide) (?_ : XW _ _ _ _ _ _ (xSL 99 (va_up (xL h1 99) 0 (Int32.toInt64 r1)) h1) 14 _ _)
  refine xi_goto (by decide +kernel : decode mL_whom.2.1 14 = .ok (.goto 11, 3)) (by decide) (?_ : XW _ _ _ _ _ _ _ 25 _ _)
  refine xi_iconst (v := 0) (by decide +kernel : decode mL_whom.2.1 25 = .ok (.iconst 0, 1)) (by decide) (?_ : XW _ _ _ _ _ _ _ 26 _ _)
  exact xi_iretW (by decide +kernel : decode mL_whom.2.1 26 = .ok (.ireturn, 1)) rfl rfl vc

set_option maxRecDepth 20000 in
theorem v_L_written_0 {h : XH} {Q : Option Value → XH → Prop} {X : String → XH → Prop}  (a1 : Int32)
    (vc : ∃ Q1 X1, XSpec mX10_written 15 1 6 100 100 [.ref 0, .int a1] h Q1 X1 ∧ (∀ E9 h9, X1 E9 h9 → (E9 = eN ∧ Q (some (.int 1)) h9)) ∧ ∀ v h1, Q1 v h1 → ∃ r1 : Int32, v = some (.int r1) ∧ (Q (some (.int 0)) (xSL 99 (va_up (xL h1 99) 0 (Int32.toInt64 r1)) h1))) :
    XW (xrm 16 1 6) mL_written (xEW 100 Q 1 6) 100 1 6 h 0 [some (.ref 0), some (.int a1), some (.ref 99), none] [] := by
  refine xi_aload_n (by decide +kernel : decode mL_written.2.1 0 = .ok (.aload_n 2, 1)) rfl rfl (?_ : XW _ _ _ _ _ _ _ 1 _ _)
  refine xi_iconst (v := 0) (by decide +kernel : decode mL_written.2.1 1 = .ok (.iconst 0, 1)) (by decide) (?_ : XW _ _ _ _ _ _ _ 2 _ _)
  refine xi_aload_n (by decide +kernel : decode mL_written.2.1 2 = .ok (.aload_n 0, 1)) rfl rfl (?_ : XW _ _ _ _ _ _ _ 3 _ _)
  refine xi_iload_n (by decide +kernel : decode mL_written.2.1 3 = .ok (.iload_n 1, 1)) rfl rfl (?_ : XW _ _ _ _ _ _ _ 4 _ _)
  obtain ⟨Q1, X1, sp, tx, vc⟩ := vc
  refine xi_callVC (b := 0) (bs := 0) (As := [.int a1]) (st := [.int 0, .ref 99]) (by decide +kernel : decode mL_written.2.1 4 = .ok (.invokevirtual 107, 3)) kL_107 rfl rfl (by omega) rfl sp (xrm_f (by omega)) (xrm_l (by omega) (Nat.le_of_ble_eq_true rfl)) (Nat.le_of_ble_eq_true rfl) (by omega) (fun E9 h9 hx9 => ?_) (fun v9 h1 hq9 => ?_)
  · obtain ⟨rfl, q⟩ := tx E9 h9 hx9
    exact ⟨[], ⟨0, 9, 12, 18⟩, [], 3, 1, rfl, (fun z hz => by cases hz), by decide, by decide, cL9_18, Or.inl rfl, (Or.inl ⟨3, (by decide +kernel : decode mL_written.2.1 12 = .ok (.astore_n 3, 1)), rfl, rfl⟩), by decide, (xi_iconst (v := 1) (by decide +kernel : decode mL_written.2.1 13 = .ok (.iconst 1, 1)) (by decide) (xi_iretW (by decide +kernel : decode mL_written.2.1 14 = .ok (.ireturn, 1)) rfl rfl q) : XW _ _ _ _ _ _ _ 13 _ _)⟩
  obtain ⟨r1, e9, vc⟩ := vc v9 h1 hq9
  subst e9
  show XW _ _ _ _ _ _ _ 7 _ [.int r1, .int 0, .ref 99]
  refine xi_i2l (by decide +kernel : decode mL_written.2.1 7 = .ok (.i2l, 1)) (?_ : XW _ _ _ _ _ _ _ 8 _ _)
  refine xi_last (by decide +kernel : decode mL_written.2.1 8 = .ok (.lastore, 1)) rfl (by omega) (by unfold vp_in; decide) (?_ : XW _ _ _ _ _ _ (xSL 99 (va_up (xL h1 99) 0 (Int32.toInt64 r1)) h1) 9 _ _)
  refine xi_goto (by decide +kernel : decode mL_written.2.1 9 = .ok (.goto 6, 3)) (by decide) (?_ : XW _ _ _ _ _ _ _ 15 _ _)
  refine xi_iconst (v := 0) (by decide +kernel : decode mL_written.2.1 15 = .ok (.iconst 0, 1)) (by decide) (?_ : XW _ _ _ _ _ _ _ 16 _ _)
  exact xi_iretW (by decide +kernel : decode mL_written.2.1 16 = .ok (.ireturn, 1)) rfl rfl vc

/-- a call of the class that answers an int, or throws; what its wrapper makes of it -/
def CPi (kd : Nat) (A : Int32 → XH → Prop) : Option Value → XH → Prop := fun v h' => kd = 0 ∧ ∃ w : Int32, v = some (.int w) ∧ A w h'
def CPl (kd : Nat) (A : Int64 → XH → Prop) : Option Value → XH → Prop := fun v h' => kd = 0 ∧ ∃ w : Int64, v = some (.long w) ∧ A w h'
def CXx (kd : Nat) (B : XH → Prop) (e1 e2 : String) : String → XH → Prop := fun E h' => B h' ∧ ((kd = 1 ∧ E = e1) ∨ (kd = 2 ∧ E = e2))
def WPx (kd : Nat) (A : Int64 → XH → Prop) (B : XH → Prop) : Option Value → XH → Prop := fun v h' => v = some (.int (nI kd)) ∧ (kd = 0 → ∃ (w : Int64) (h1 : XH), A w h1 ∧ h' = xSL 99 (va_up (xL h1 99) 0 w) h1) ∧ (kd ≠ 0 → B h')
theorem w_board {h : XH} (a1 : Int32) {kd : Nat} {A : Int64 → XH → Prop} {B : XH → Prop} {e2 : String} (hk : kd ≤ 1) (hsp : XSpec mX10_board 83 1 6 100 100 [.ref 0, .int a1] h (CPi kd (fun w h9 => A w.toInt64 h9)) (CXx kd B eA e2)) : XSpecH mL_board 84 1 6 100 100 [.ref 0, .int a1, .ref 99] h (WPx kd A B) := by
  refine XSpecH.of (by decide) (Nat.le_of_ble_eq_true rfl) rfl (v_L_board_0 (X := xno) a1 ⟨_, _, hsp, ?_, ?_⟩)
  · rintro E9 h9 ⟨b9, ⟨z, e9⟩ | ⟨z, e9⟩⟩
    · exact ⟨e9, by rw [z]; rfl, fun y => absurd (z.symm.trans y) (by decide), fun _ => b9⟩
    · omega
  · rintro v h1 ⟨z, w, rfl, a9⟩
    exact ⟨_, rfl, by rw [z]; rfl, fun _ => ⟨_, _, a9, rfl⟩, fun y => absurd z y⟩
theorem w_count {h : XH} (a1 : Int32) {kd : Nat} {A : Int64 → XH → Prop} {B : XH → Prop} {e2 : String} (hk : kd ≤ 1) (hsp : XSpec mX10_count 7 1 6 100 100 [.ref 0, .int a1] h (CPi kd (fun w h9 => A w.toInt64 h9)) (CXx kd B eN e2)) : XSpecH mL_count 8 1 6 100 100 [.ref 0, .int a1, .ref 99] h (WPx kd A B) := by
  refine XSpecH.of (by decide) (Nat.le_of_ble_eq_true rfl) rfl (v_L_count_0 (X := xno) a1 ⟨_, _, hsp, ?_, ?_⟩)
  · rintro E9 h9 ⟨b9, ⟨z, e9⟩ | ⟨z, e9⟩⟩
    · exact ⟨e9, by rw [z]; rfl, fun y => absurd (z.symm.trans y) (by decide), fun _ => b9⟩
    · omega
  · rintro v h1 ⟨z, w, rfl, a9⟩
    exact ⟨_, rfl, by rw [z]; rfl, fun _ => ⟨_, _, a9, rfl⟩, fun y => absurd z y⟩
theorem w_exit {h : XH} (a1 : Int32) (a2 : Int32) {kd : Nat} {A : Int64 → XH → Prop} {B : XH → Prop} {e2 : String} (hk : kd ≤ 1) (hsp : XSpec mX10_exit 8 2 12 100 100 [.ref 0, .int a1, .int a2] h (CPi kd (fun w h9 => A w.toInt64 h9)) (CXx kd B eN e2)) : XSpecH mL_exit 9 2 12 100 100 [.ref 0, .int a1, .int a2, .ref 99] h (WPx kd A B) := by
  refine XSpecH.of (by decide) (Nat.le_of_ble_eq_true rfl) rfl (v_L_exit_0 (X := xno) a1 a2 ⟨_, _, hsp, ?_, ?_⟩)
  · rintro E9 h9 ⟨b9, ⟨z, e9⟩ | ⟨z, e9⟩⟩
    · exact ⟨e9, by rw [z]; rfl, fun y => absurd (z.symm.trans y) (by decide), fun _ => b9⟩
    · omega
  · rintro v h1 ⟨z, w, rfl, a9⟩
    exact ⟨_, rfl, by rw [z]; rfl, fun _ => ⟨_, _, a9, rfl⟩, fun y => absurd z y⟩
theorem w_goes {h : XH} (a1 : Int32) (a2 : Int32) {kd : Nat} {A : Int64 → XH → Prop} {B : XH → Prop} {e2 : String} (hk : kd ≤ 1) (hsp : XSpec mX10_goes 8 2 12 100 100 [.ref 0, .int a1, .int a2] h (CPi kd (fun w h9 => A w.toInt64 h9)) (CXx kd B eN e2)) : XSpecH mL_goes 9 2 12 100 100 [.ref 0, .int a1, .int a2, .ref 99] h (WPx kd A B) := by
  refine XSpecH.of (by decide) (Nat.le_of_ble_eq_true rfl) rfl (v_L_goes_0 (X := xno) a1 a2 ⟨_, _, hsp, ?_, ?_⟩)
  · rintro E9 h9 ⟨b9, ⟨z, e9⟩ | ⟨z, e9⟩⟩
    · exact ⟨e9, by rw [z]; rfl, fun y => absurd (z.symm.trans y) (by decide), fun _ => b9⟩
    · omega
  · rintro v h1 ⟨z, w, rfl, a9⟩
    exact ⟨_, rfl, by rw [z]; rfl, fun _ => ⟨_, _, a9, rfl⟩, fun y => absurd z y⟩
theorem w_roll {h : XH} (a1 : Int32) {kd : Nat} {A : Int64 → XH → Prop} {B : XH → Prop} {e2 : String} (hk : kd ≤ 1) (hsp : XSpec mX10_roll 8 1 6 100 100 [.ref 0, .int a1] h (CPi kd (fun w h9 => A w.toInt64 h9)) (CXx kd B eN e2)) : XSpecH mL_roll 9 1 6 100 100 [.ref 0, .int a1, .ref 99] h (WPx kd A B) := by
  refine XSpecH.of (by decide) (Nat.le_of_ble_eq_true rfl) rfl (v_L_roll_0 (X := xno) a1 ⟨_, _, hsp, ?_, ?_⟩)
  · rintro E9 h9 ⟨b9, ⟨z, e9⟩ | ⟨z, e9⟩⟩
    · exact ⟨e9, by rw [z]; rfl, fun y => absurd (z.symm.trans y) (by decide), fun _ => b9⟩
    · omega
  · rintro v h1 ⟨z, w, rfl, a9⟩
    exact ⟨_, rfl, by rw [z]; rfl, fun _ => ⟨_, _, a9, rfl⟩, fun y => absurd z y⟩
theorem w_rolls {h : XH} (a1 : Int32) (a2 : Int32) {kd : Nat} {A : Int64 → XH → Prop} {B : XH → Prop} {e2 : String} (hk : kd ≤ 1) (hsp : XSpec mX10_rolls 7 1 6 100 100 [.ref 0, .int a1, .int a2] h (CPi kd (fun w h9 => A w.toInt64 h9)) (CXx kd B eA e2)) : XSpecH mL_rolls 8 1 6 100 100 [.ref 0, .int a1, .int a2, .ref 99] h (WPx kd A B) := by
  refine XSpecH.of (by decide) (Nat.le_of_ble_eq_true rfl) rfl (v_L_rolls_0 (X := xno) a1 a2 ⟨_, _, hsp, ?_, ?_⟩)
  · rintro E9 h9 ⟨b9, ⟨z, e9⟩ | ⟨z, e9⟩⟩
    · exact ⟨e9, by rw [z]; rfl, fun y => absurd (z.symm.trans y) (by decide), fun _ => b9⟩
    · omega
  · rintro v h1 ⟨z, w, rfl, a9⟩
    exact ⟨_, rfl, by rw [z]; rfl, fun _ => ⟨_, _, a9, rfl⟩, fun y => absurd z y⟩
theorem w_piece {h : XH} (a1 : Int32) {kd : Nat} {A : Int64 → XH → Prop} {B : XH → Prop} {e2 : String} (hk : kd ≤ 1) (hsp : XSpec mX10_piece 7 1 6 100 100 [.ref 0, .int a1] h (CPi kd (fun w h9 => A w.toInt64 h9)) (CXx kd B eN e2)) : XSpecH mL_piece 8 1 6 100 100 [.ref 0, .int a1, .ref 99] h (WPx kd A B) := by
  refine XSpecH.of (by decide) (Nat.le_of_ble_eq_true rfl) rfl (v_L_piece_0 (X := xno) a1 ⟨_, _, hsp, ?_, ?_⟩)
  · rintro E9 h9 ⟨b9, ⟨z, e9⟩ | ⟨z, e9⟩⟩
    · exact ⟨e9, by rw [z]; rfl, fun y => absurd (z.symm.trans y) (by decide), fun _ => b9⟩
    · omega
  · rintro v h1 ⟨z, w, rfl, a9⟩
    exact ⟨_, rfl, by rw [z]; rfl, fun _ => ⟨_, _, a9, rfl⟩, fun y => absurd z y⟩
theorem w_rolled {h : XH} (a1 : Int32) (a2 : Int32) {kd : Nat} {A : Int64 → XH → Prop} {B : XH → Prop} {e2 : String} (hk : kd ≤ 1) (hsp : XSpec mX10_rolled 7 1 6 100 100 [.ref 0, .int a1, .int a2] h (CPi kd (fun w h9 => A w.toInt64 h9)) (CXx kd B eN e2)) : XSpecH mL_rolled 8 1 6 100 100 [.ref 0, .int a1, .int a2, .ref 99] h (WPx kd A B) := by
  refine XSpecH.of (by decide) (Nat.le_of_ble_eq_true rfl) rfl (v_L_rolled_0 (X := xno) a1 a2 ⟨_, _, hsp, ?_, ?_⟩)
  · rintro E9 h9 ⟨b9, ⟨z, e9⟩ | ⟨z, e9⟩⟩
    · exact ⟨e9, by rw [z]; rfl, fun y => absurd (z.symm.trans y) (by decide), fun _ => b9⟩
    · omega
  · rintro v h1 ⟨z, w, rfl, a9⟩
    exact ⟨_, rfl, by rw [z]; rfl, fun _ => ⟨_, _, a9, rfl⟩, fun y => absurd z y⟩
theorem w_fewest {h : XH} (a1 : Int32) {kd : Nat} {A : Int64 → XH → Prop} {B : XH → Prop} {e2 : String} (hk : kd ≤ 1) (hsp : XSpec mX10_fewest 8 1 6 100 100 [.ref 0, .int a1] h (CPi kd (fun w h9 => A w.toInt64 h9)) (CXx kd B eN e2)) : XSpecH mL_fewest 9 1 6 100 100 [.ref 0, .int a1, .ref 99] h (WPx kd A B) := by
  refine XSpecH.of (by decide) (Nat.le_of_ble_eq_true rfl) rfl (v_L_fewest_0 (X := xno) a1 ⟨_, _, hsp, ?_, ?_⟩)
  · rintro E9 h9 ⟨b9, ⟨z, e9⟩ | ⟨z, e9⟩⟩
    · exact ⟨e9, by rw [z]; rfl, fun y => absurd (z.symm.trans y) (by decide), fun _ => b9⟩
    · omega
  · rintro v h1 ⟨z, w, rfl, a9⟩
    exact ⟨_, rfl, by rw [z]; rfl, fun _ => ⟨_, _, a9, rfl⟩, fun y => absurd z y⟩
theorem w_row {h : XH} (a1 : Int32) {kd : Nat} {A : Int64 → XH → Prop} {B : XH → Prop} {e2 : String} (hk : kd ≤ 1) (hsp : XSpec mX10_row 7 1 6 100 100 [.ref 0, .int a1] h (CPi kd (fun w h9 => A w.toInt64 h9)) (CXx kd B eN e2)) : XSpecH mL_row 8 1 6 100 100 [.ref 0, .int a1, .ref 99] h (WPx kd A B) := by
  refine XSpecH.of (by decide) (Nat.le_of_ble_eq_true rfl) rfl (v_L_row_0 (X := xno) a1 ⟨_, _, hsp, ?_, ?_⟩)
  · rintro E9 h9 ⟨b9, ⟨z, e9⟩ | ⟨z, e9⟩⟩
    · exact ⟨e9, by rw [z]; rfl, fun y => absurd (z.symm.trans y) (by decide), fun _ => b9⟩
    · omega
  · rintro v h1 ⟨z, w, rfl, a9⟩
    exact ⟨_, rfl, by rw [z]; rfl, fun _ => ⟨_, _, a9, rfl⟩, fun y => absurd z y⟩
theorem w_never {h : XH} (a1 : Int32) {kd : Nat} {A : Int64 → XH → Prop} {B : XH → Prop} {e2 : String} (hk : kd ≤ 1) (hsp : XSpec mX10_never 8 1 6 100 100 [.ref 0, .int a1] h (CPi kd (fun w h9 => (w = 0 ∧ A 0 h9) ∨ (w = 1 ∧ A 1 h9))) (CXx kd B eN e2)) : XSpecH mL_never 9 1 6 100 100 [.ref 0, .int a1, .ref 99] h (WPx kd A B) := by
  refine XSpecH.of (by decide) (Nat.le_of_ble_eq_true rfl) rfl (v_L_never_0 (X := xno) a1 ⟨_, _, hsp, ?_, ?_⟩)
  · rintro E9 h9 ⟨b9, ⟨z, e9⟩ | ⟨z, e9⟩⟩
    · exact ⟨e9, by rw [z]; rfl, fun y => absurd (z.symm.trans y) (by decide), fun _ => b9⟩
    · omega
  · rintro v h1 ⟨z, w, rfl, ⟨rfl, a9⟩ | ⟨rfl, a9⟩⟩
    · exact ⟨_, rfl, fun _ => ⟨by rw [z]; rfl, fun _ => ⟨_, _, a9, rfl⟩, fun y => absurd z y⟩, fun y => absurd rfl y⟩
    · exact ⟨_, rfl, fun y => absurd y (by decide), fun _ => ⟨by rw [z]; rfl, fun _ => ⟨_, _, a9, rfl⟩, fun y => absurd z y⟩⟩
theorem w_lost {h : XH} (a1 : Int32) {kd : Nat} {A : Int64 → XH → Prop} {B : XH → Prop} {e2 : String} (hk : kd ≤ 1) (hsp : XSpec mX10_lost 8 1 6 100 100 [.ref 0, .int a1] h (CPi kd (fun w h9 => (w = 0 ∧ A 0 h9) ∨ (w = 1 ∧ A 1 h9))) (CXx kd B eN e2)) : XSpecH mL_lost 9 1 6 100 100 [.ref 0, .int a1, .ref 99] h (WPx kd A B) := by
  refine XSpecH.of (by decide) (Nat.le_of_ble_eq_true rfl) rfl (v_L_lost_0 (X := xno) a1 ⟨_, _, hsp, ?_, ?_⟩)
  · rintro E9 h9 ⟨b9, ⟨z, e9⟩ | ⟨z, e9⟩⟩
    · exact ⟨e9, by rw [z]; rfl, fun y => absurd (z.symm.trans y) (by decide), fun _ => b9⟩
    · omega
  · rintro v h1 ⟨z, w, rfl, ⟨rfl, a9⟩ | ⟨rfl, a9⟩⟩
    · exact ⟨_, rfl, fun _ => ⟨by rw [z]; rfl, fun _ => ⟨_, _, a9, rfl⟩, fun y => absurd z y⟩, fun y => absurd rfl y⟩
    · exact ⟨_, rfl, fun y => absurd y (by decide), fun _ => ⟨by rw [z]; rfl, fun _ => ⟨_, _, a9, rfl⟩, fun y => absurd z y⟩⟩
theorem w_round {h : XH} (a1 : Int32) {kd : Nat} {A : Int64 → XH → Prop} {B : XH → Prop} {e2 : String} (hk : kd ≤ 1) (hsp : XSpec mX10_round 8 1 6 100 100 [.ref 0, .int a1] h (CPi kd (fun w h9 => A w.toInt64 h9)) (CXx kd B eN e2)) : XSpecH mL_round 9 1 6 100 100 [.ref 0, .int a1, .ref 99] h (WPx kd A B) := by
  refine XSpecH.of (by decide) (Nat.le_of_ble_eq_true rfl) rfl (v_L_round_0 (X := xno) a1 ⟨_, _, hsp, ?_, ?_⟩)
  · rintro E9 h9 ⟨b9, ⟨z, e9⟩ | ⟨z, e9⟩⟩
    · exact ⟨e9, by rw [z]; rfl, fun y => absurd (z.symm.trans y) (by decide), fun _ => b9⟩
    · omega
  · rintro v h1 ⟨z, w, rfl, a9⟩
    exact ⟨_, rfl, by rw [z]; rfl, fun _ => ⟨_, _, a9, rfl⟩, fun y => absurd z y⟩
theorem w_grains {h : XH} (a1 : Int32) (a2 : Int32) (a3 : Int32) {kd : Nat} {A : Int64 → XH → Prop} {B : XH → Prop} (hsp : XSpec mX10_grains 8 3 18 100 100 [.ref 0, .int a1, .int a2, .int a3] h (CPl kd A) (CXx kd B eN eA)) : XSpecH mL_grains 9 3 18 100 100 [.ref 0, .int a1, .int a2, .int a3, .ref 99] h (WPx kd A B) := by
  refine XSpecH.of (by decide) (Nat.le_of_ble_eq_true rfl) rfl (v_L_grains_0 (X := xno) a1 a2 a3 ⟨_, _, hsp, ?_, ?_⟩)
  · rintro E9 h9 ⟨b9, ⟨z, e9⟩ | ⟨z, e9⟩⟩
    · exact Or.inl ⟨e9, by rw [z]; rfl, fun y => absurd (z.symm.trans y) (by decide), fun _ => b9⟩
    · exact Or.inr ⟨e9, by rw [z]; rfl, fun y => absurd (z.symm.trans y) (by decide), fun _ => b9⟩
  · rintro v h1 ⟨z, w, rfl, a9⟩
    exact ⟨_, rfl, by rw [z]; rfl, fun _ => ⟨_, _, a9, rfl⟩, fun y => absurd z y⟩
theorem w_stood {h : XH} (a1 : Int32) (a2 : Int32) (a3 : Int32) {kd : Nat} {A : Int64 → XH → Prop} {B : XH → Prop} (hsp : XSpec mX10_stood 8 3 18 100 100 [.ref 0, .int a1, .int a2, .int a3] h (CPl kd A) (CXx kd B eN eA)) : XSpecH mL_stood 9 3 18 100 100 [.ref 0, .int a1, .int a2, .int a3, .ref 99] h (WPx kd A B) := by
  refine XSpecH.of (by decide) (Nat.le_of_ble_eq_true rfl) rfl (v_L_stood_0 (X := xno) a1 a2 a3 ⟨_, _, hsp, ?_, ?_⟩)
  · rintro E9 h9 ⟨b9, ⟨z, e9⟩ | ⟨z, e9⟩⟩
    · exact Or.inl ⟨e9, by rw [z]; rfl, fun y => absurd (z.symm.trans y) (by decide), fun _ => b9⟩
    · exact Or.inr ⟨e9, by rw [z]; rfl, fun y => absurd (z.symm.trans y) (by decide), fun _ => b9⟩
  · rintro v h1 ⟨z, w, rfl, a9⟩
    exact ⟨_, rfl, by rw [z]; rfl, fun _ => ⟨_, _, a9, rfl⟩, fun y => absurd z y⟩
theorem w_half {h : XH} (a1 : Int32) {kd : Nat} {A : Int64 → XH → Prop} {B : XH → Prop} {e2 : String} (hk : kd ≤ 1) (hsp : XSpec mX10_half 8 1 6 100 100 [.ref 0, .int a1] h (CPi kd (fun w h9 => A w.toInt64 h9)) (CXx kd B eN e2)) : XSpecH mL_half 9 1 6 100 100 [.ref 0, .int a1, .ref 99] h (WPx kd A B) := by
  refine XSpecH.of (by decide) (Nat.le_of_ble_eq_true rfl) rfl (v_L_half_0 (X := xno) a1 ⟨_, _, hsp, ?_, ?_⟩)
  · rintro E9 h9 ⟨b9, ⟨z, e9⟩ | ⟨z, e9⟩⟩
    · exact ⟨e9, by rw [z]; rfl, fun y => absurd (z.symm.trans y) (by decide), fun _ => b9⟩
    · omega
  · rintro v h1 ⟨z, w, rfl, a9⟩
    exact ⟨_, rfl, by rw [z]; rfl, fun _ => ⟨_, _, a9, rfl⟩, fun y => absurd z y⟩
theorem w_first {h : XH} (a1 : Int32) (a2 : Int32) (a3 : Int32) (a4 : Int32) {kd : Nat} {A : Int64 → XH → Prop} {B : XH → Prop} (hsp : XSpec mX10_first 8 4 24 100 100 [.ref 0, .int a1, .int a2, .int a3, .int a4] h (CPl kd A) (CXx kd B eN eA)) : XSpecH mL_first 9 4 24 100 100 [.ref 0, .int a1, .int a2, .int a3, .int a4, .ref 99] h (WPx kd A B) := by
  refine XSpecH.of (by decide) (Nat.le_of_ble_eq_true rfl) rfl (v_L_first_0 (X := xno) a1 a2 a3 a4 ⟨_, _, hsp, ?_, ?_⟩)
  · rintro E9 h9 ⟨b9, ⟨z, e9⟩ | ⟨z, e9⟩⟩
    · exact Or.inl ⟨e9, by rw [z]; rfl, fun y => absurd (z.symm.trans y) (by decide), fun _ => b9⟩
    · exact Or.inr ⟨e9, by rw [z]; rfl, fun y => absurd (z.symm.trans y) (by decide), fun _ => b9⟩
  · rintro v h1 ⟨z, w, rfl, a9⟩
    exact ⟨_, rfl, by rw [z]; rfl, fun _ => ⟨_, _, a9, rfl⟩, fun y => absurd z y⟩
theorem w_matters {h : XH} (a1 : Int32) (a2 : Int32) {kd : Nat} {A : Int64 → XH → Prop} {B : XH → Prop} (hsp : XSpec mX10_matters 8 2 12 100 100 [.ref 0, .int a1, .int a2] h (CPl kd A) (CXx kd B eN eA)) : XSpecH mL_matters 9 2 12 100 100 [.ref 0, .int a1, .int a2, .ref 99] h (WPx kd A B) := by
  refine XSpecH.of (by decide) (Nat.le_of_ble_eq_true rfl) rfl (v_L_matters_0 (X := xno) a1 a2 ⟨_, _, hsp, ?_, ?_⟩)
  · rintro E9 h9 ⟨b9, ⟨z, e9⟩ | ⟨z, e9⟩⟩
    · exact Or.inl ⟨e9, by rw [z]; rfl, fun y => absurd (z.symm.trans y) (by decide), fun _ => b9⟩
    · exact Or.inr ⟨e9, by rw [z]; rfl, fun y => absurd (z.symm.trans y) (by decide), fun _ => b9⟩
  · rintro v h1 ⟨z, w, rfl, a9⟩
    exact ⟨_, rfl, by rw [z]; rfl, fun _ => ⟨_, _, a9, rfl⟩, fun y => absurd z y⟩
theorem w_most {h : XH} (a1 : Int32) {kd : Nat} {A : Int64 → XH → Prop} {B : XH → Prop} {e2 : String} (hk : kd ≤ 1) (hsp : XSpec mX10_most 8 1 6 100 100 [.ref 0, .int a1] h (CPi kd (fun w h9 => A w.toInt64 h9)) (CXx kd B eA e2)) : XSpecH mL_most 9 1 6 100 100 [.ref 0, .int a1, .ref 99] h (WPx kd A B) := by
  refine XSpecH.of (by decide) (Nat.le_of_ble_eq_true rfl) rfl (v_L_most_0 (X := xno) a1 ⟨_, _, hsp, ?_, ?_⟩)
  · rintro E9 h9 ⟨b9, ⟨z, e9⟩ | ⟨z, e9⟩⟩
    · exact ⟨e9, by rw [z]; rfl, fun y => absurd (z.symm.trans y) (by decide), fun _ => b9⟩
    · omega
  · rintro v h1 ⟨z, w, rfl, a9⟩
    exact ⟨_, rfl, by rw [z]; rfl, fun _ => ⟨_, _, a9, rfl⟩, fun y => absurd z y⟩
theorem w_wanted {h : XH} (a1 : Int64) (a2 : Int32) {kd : Nat} {A : Int64 → XH → Prop} {B : XH → Prop} {e2 : String} (hk : kd ≤ 1) (hsp : XSpec mX10_wanted 8 2 12 100 100 [.ref 0, .long a1, .int a2] h (CPi kd (fun w h9 => A w.toInt64 h9)) (CXx kd B eA e2)) : XSpecH mL_wanted 9 2 12 100 100 [.ref 0, .long a1, .int a2, .ref 99] h (WPx kd A B) := by
  refine XSpecH.of (by decide) (Nat.le_of_ble_eq_true rfl) rfl (v_L_wanted_0 (X := xno) a1 a2 ⟨_, _, hsp, ?_, ?_⟩)
  · rintro E9 h9 ⟨b9, ⟨z, e9⟩ | ⟨z, e9⟩⟩
    · exact ⟨e9, by rw [z]; rfl, fun y => absurd (z.symm.trans y) (by decide), fun _ => b9⟩
    · omega
  · rintro v h1 ⟨z, w, rfl, a9⟩
    exact ⟨_, rfl, by rw [z]; rfl, fun _ => ⟨_, _, a9, rfl⟩, fun y => absurd z y⟩
theorem w_ahead {h : XH} (a1 : Int32) (a2 : Int32) {kd : Nat} {A : Int64 → XH → Prop} {B : XH → Prop} (hsp : XSpec mX10_ahead 8 2 12 100 100 [.ref 0, .int a1, .int a2] h (CPl kd A) (CXx kd B eN eA)) : XSpecH mL_ahead 9 2 12 100 100 [.ref 0, .int a1, .int a2, .ref 99] h (WPx kd A B) := by
  refine XSpecH.of (by decide) (Nat.le_of_ble_eq_true rfl) rfl (v_L_ahead_0 (X := xno) a1 a2 ⟨_, _, hsp, ?_, ?_⟩)
  · rintro E9 h9 ⟨b9, ⟨z, e9⟩ | ⟨z, e9⟩⟩
    · exact Or.inl ⟨e9, by rw [z]; rfl, fun y => absurd (z.symm.trans y) (by decide), fun _ => b9⟩
    · exact Or.inr ⟨e9, by rw [z]; rfl, fun y => absurd (z.symm.trans y) (by decide), fun _ => b9⟩
  · rintro v h1 ⟨z, w, rfl, a9⟩
    exact ⟨_, rfl, by rw [z]; rfl, fun _ => ⟨_, _, a9, rfl⟩, fun y => absurd z y⟩
theorem w_choose {h : XH} (a1 : Int32) (a2 : Int32) (a3 : Int32) (a4 : Int32) {kd : Nat} {A : Int64 → XH → Prop} {B : XH → Prop} (hsp : XSpec mX10_choose 8 4 24 100 100 [.ref 0, .int a1, .int a2, .int a3, .int a4] h (CPi kd (fun w h9 => A w.toInt64 h9)) (CXx kd B eN eA)) : XSpecH mL_choose 9 4 24 100 100 [.ref 0, .int a1, .int a2, .int a3, .int a4, .ref 99] h (WPx kd A B) := by
  refine XSpecH.of (by decide) (Nat.le_of_ble_eq_true rfl) rfl (v_L_choose_0 (X := xno) a1 a2 a3 a4 ⟨_, _, hsp, ?_, ?_⟩)
  · rintro E9 h9 ⟨b9, ⟨z, e9⟩ | ⟨z, e9⟩⟩
    · exact Or.inl ⟨e9, by rw [z]; rfl, fun y => absurd (z.symm.trans y) (by decide), fun _ => b9⟩
    · exact Or.inr ⟨e9, by rw [z]; rfl, fun y => absurd (z.symm.trans y) (by decide), fun _ => b9⟩
  · rintro v h1 ⟨z, w, rfl, a9⟩
    exact ⟨_, rfl, by rw [z]; rfl, fun _ => ⟨_, _, a9, rfl⟩, fun y => absurd z y⟩
theorem w_often {h : XH} (a1 : Int32) {kd : Nat} {A : Int64 → XH → Prop} {B : XH → Prop} {e2 : String} (hk : kd ≤ 1) (hsp : XSpec mX10_often 8 1 6 100 100 [.ref 0, .int a1] h (CPi kd (fun w h9 => A w.toInt64 h9)) (CXx kd B eN e2)) : XSpecH mL_often 9 1 6 100 100 [.ref 0, .int a1, .ref 99] h (WPx kd A B) := by
  refine XSpecH.of (by decide) (Nat.le_of_ble_eq_true rfl) rfl (v_L_often_0 (X := xno) a1 ⟨_, _, hsp, ?_, ?_⟩)
  · rintro E9 h9 ⟨b9, ⟨z, e9⟩ | ⟨z, e9⟩⟩
    · exact ⟨e9, by rw [z]; rfl, fun y => absurd (z.symm.trans y) (by decide), fun _ => b9⟩
    · omega
  · rintro v h1 ⟨z, w, rfl, a9⟩
    exact ⟨_, rfl, by rw [z]; rfl, fun _ => ⟨_, _, a9, rfl⟩, fun y => absurd z y⟩
theorem w_unlike {h : XH} (a1 : Int32) {kd : Nat} {A : Int64 → XH → Prop} {B : XH → Prop} {e2 : String} (hk : kd ≤ 1) (hsp : XSpec mX10_unlike 8 1 6 100 100 [.ref 0, .int a1] h (CPl kd A) (CXx kd B eN e2)) : XSpecH mL_unlike 9 1 6 100 100 [.ref 0, .int a1, .ref 99] h (WPx kd A B) := by
  refine XSpecH.of (by decide) (Nat.le_of_ble_eq_true rfl) rfl (v_L_unlike_0 (X := xno) a1 ⟨_, _, hsp, ?_, ?_⟩)
  · rintro E9 h9 ⟨b9, ⟨z, e9⟩ | ⟨z, e9⟩⟩
    · exact ⟨e9, by rw [z]; rfl, fun y => absurd (z.symm.trans y) (by decide), fun _ => b9⟩
    · omega
  · rintro v h1 ⟨z, w, rfl, a9⟩
    exact ⟨_, rfl, by rw [z]; rfl, fun _ => ⟨_, _, a9, rfl⟩, fun y => absurd z y⟩
theorem w_draw {h : XH} (a1 : Int32) (a2 : Int32) (a3 : Int32) {kd : Nat} {A : Int64 → XH → Prop} {B : XH → Prop} {e2 : String} (hk : kd ≤ 1) (hsp : XSpec mX10_draw 7 1 6 100 100 [.ref 0, .int a1, .int a2, .int a3] h (CPi kd (fun w h9 => A w.toInt64 h9)) (CXx kd B eA e2)) : XSpecH mL_draw 8 1 6 100 100 [.ref 0, .int a1, .int a2, .int a3, .ref 99] h (WPx kd A B) := by
  refine XSpecH.of (by decide) (Nat.le_of_ble_eq_true rfl) rfl (v_L_draw_0 (X := xno) a1 a2 a3 ⟨_, _, hsp, ?_, ?_⟩)
  · rintro E9 h9 ⟨b9, ⟨z, e9⟩ | ⟨z, e9⟩⟩
    · exact ⟨e9, by rw [z]; rfl, fun y => absurd (z.symm.trans y) (by decide), fun _ => b9⟩
    · omega
  · rintro v h1 ⟨z, w, rfl, a9⟩
    exact ⟨_, rfl, by rw [z]; rfl, fun _ => ⟨_, _, a9, rfl⟩, fun y => absurd z y⟩
theorem w_ended {h : XH} (a1 : Int32) (a2 : Int32) {kd : Nat} {A : Int64 → XH → Prop} {B : XH → Prop} (hsp : XSpec mX10_ended 8 2 12 100 100 [.ref 0, .int a1, .int a2] h (CPl kd A) (CXx kd B eN eA)) : XSpecH mL_ended 9 2 12 100 100 [.ref 0, .int a1, .int a2, .ref 99] h (WPx kd A B) := by
  refine XSpecH.of (by decide) (Nat.le_of_ble_eq_true rfl) rfl (v_L_ended_0 (X := xno) a1 a2 ⟨_, _, hsp, ?_, ?_⟩)
  · rintro E9 h9 ⟨b9, ⟨z, e9⟩ | ⟨z, e9⟩⟩
    · exact Or.inl ⟨e9, by rw [z]; rfl, fun y => absurd (z.symm.trans y) (by decide), fun _ => b9⟩
    · exact Or.inr ⟨e9, by rw [z]; rfl, fun y => absurd (z.symm.trans y) (by decide), fun _ => b9⟩
  · rintro v h1 ⟨z, w, rfl, a9⟩
    exact ⟨_, rfl, by rw [z]; rfl, fun _ => ⟨_, _, a9, rfl⟩, fun y => absurd z y⟩
theorem w_together {h : XH} (a1 : Int32) (a2 : Int32) (a3 : Int32) {kd : Nat} {A : Int64 → XH → Prop} {B : XH → Prop} (hsp : XSpec mX10_together 8 3 18 100 100 [.ref 0, .int a1, .int a2, .int a3] h (CPl kd A) (CXx kd B eN eA)) : XSpecH mL_together 9 3 18 100 100 [.ref 0, .int a1, .int a2, .int a3, .ref 99] h (WPx kd A B) := by
  refine XSpecH.of (by decide) (Nat.le_of_ble_eq_true rfl) rfl (v_L_together_0 (X := xno) a1 a2 a3 ⟨_, _, hsp, ?_, ?_⟩)
  · rintro E9 h9 ⟨b9, ⟨z, e9⟩ | ⟨z, e9⟩⟩
    · exact Or.inl ⟨e9, by rw [z]; rfl, fun y => absurd (z.symm.trans y) (by decide), fun _ => b9⟩
    · exact Or.inr ⟨e9, by rw [z]; rfl, fun y => absurd (z.symm.trans y) (by decide), fun _ => b9⟩
  · rintro v h1 ⟨z, w, rfl, a9⟩
    exact ⟨_, rfl, by rw [z]; rfl, fun _ => ⟨_, _, a9, rfl⟩, fun y => absurd z y⟩
theorem w_whom {h : XH} (a1 : Int32) (a2 : Int32) (a3 : Int32) (a4 : Int32) {kd : Nat} {A : Int64 → XH → Prop} {B : XH → Prop} (hsp : XSpec mX10_whom 8 4 24 100 100 [.ref 0, .int a1, .int a2, .int a3, .int a4] h (CPi kd (fun w h9 => A w.toInt64 h9)) (CXx kd B eN eA)) : XSpecH mL_whom 9 4 24 100 100 [.ref 0, .int a1, .int a2, .int a3, .int a4, .ref 99] h (WPx kd A B) := by
  refine XSpecH.of (by decide) (Nat.le_of_ble_eq_true rfl) rfl (v_L_whom_0 (X := xno) a1 a2 a3 a4 ⟨_, _, hsp, ?_, ?_⟩)
  · rintro E9 h9 ⟨b9, ⟨z, e9⟩ | ⟨z, e9⟩⟩
    · exact Or.inl ⟨e9, by rw [z]; rfl, fun y => absurd (z.symm.trans y) (by decide), fun _ => b9⟩
    · exact Or.inr ⟨e9, by rw [z]; rfl, fun y => absurd (z.symm.trans y) (by decide), fun _ => b9⟩
  · rintro v h1 ⟨z, w, rfl, a9⟩
    exact ⟨_, rfl, by rw [z]; rfl, fun _ => ⟨_, _, a9, rfl⟩, fun y => absurd z y⟩
theorem w_written {h : XH} (a1 : Int32) {kd : Nat} {A : Int64 → XH → Prop} {B : XH → Prop} {e2 : String} (hk : kd ≤ 1) (hsp : XSpec mX10_written 15 1 6 100 100 [.ref 0, .int a1] h (CPi kd (fun w h9 => A w.toInt64 h9)) (CXx kd B eN e2)) : XSpecH mL_written 16 1 6 100 100 [.ref 0, .int a1, .ref 99] h (WPx kd A B) := by
  refine XSpecH.of (by decide) (Nat.le_of_ble_eq_true rfl) rfl (v_L_written_0 (X := xno) a1 ⟨_, _, hsp, ?_, ?_⟩)
  · rintro E9 h9 ⟨b9, ⟨z, e9⟩ | ⟨z, e9⟩⟩
    · exact ⟨e9, by rw [z]; rfl, fun y => absurd (z.symm.trans y) (by decide), fun _ => b9⟩
    · omega
  · rintro v h1 ⟨z, w, rfl, a9⟩
    exact ⟨_, rfl, by rw [z]; rfl, fun _ => ⟨_, _, a9, rfl⟩, fun y => absurd z y⟩
