/-! FACTS: the methods, the fields, the calls, each out of the tables by its place -/
theorem gt_1 {w : Cond} (j : Nat) (h : tables_1_1[j]? = some w) (hg : goodWord w = true) : w ∈ gtbl := by
  have hh := List.mem_of_getElem? h
  exact List.mem_filter.mpr ⟨List.mem_append_right _ (List.mem_append_left _ hh), hg⟩
theorem gt_2 {w : Cond} (j : Nat) (h : tables_1_2[j]? = some w) (hg : goodWord w = true) : w ∈ gtbl := by
  have hh := List.mem_of_getElem? h
  exact List.mem_filter.mpr ⟨List.mem_append_right _ (List.mem_append_right _ (List.mem_append_left _ hh)), hg⟩
theorem gt_3 {w : Cond} (j : Nat) (h : tables_1_3[j]? = some w) (hg : goodWord w = true) : w ∈ gtbl := by
  have hh := List.mem_of_getElem? h
  exact List.mem_filter.mpr ⟨List.mem_append_right _ (List.mem_append_right _ (List.mem_append_right _ (List.mem_append_left _ hh))), hg⟩
theorem gt_4 {w : Cond} (j : Nat) (h : tables_1_4[j]? = some w) (hg : goodWord w = true) : w ∈ gtbl := by
  have hh := List.mem_of_getElem? h
  exact List.mem_filter.mpr ⟨List.mem_append_right _ (List.mem_append_right _ (List.mem_append_right _ (List.mem_append_right _ (List.mem_append_left _ hh)))), hg⟩
theorem gt_5 {w : Cond} (j : Nat) (h : tables_1_5[j]? = some w) (hg : goodWord w = true) : w ∈ gtbl := by
  have hh := List.mem_of_getElem? h
  exact List.mem_filter.mpr ⟨List.mem_append_right _ (List.mem_append_right _ (List.mem_append_right _ (List.mem_append_right _ (List.mem_append_right _ (List.mem_append_left _ hh))))), hg⟩
theorem gt_6 {w : Cond} (j : Nat) (h : tables_1_6[j]? = some w) (hg : goodWord w = true) : w ∈ gtbl := by
  have hh := List.mem_of_getElem? h
  exact List.mem_filter.mpr ⟨List.mem_append_right _ (List.mem_append_right _ (List.mem_append_right _ (List.mem_append_right _ (List.mem_append_right _ (List.mem_append_right _ (List.mem_append_left _ hh)))))), hg⟩
theorem gt_7 {w : Cond} (j : Nat) (h : tables_1_7[j]? = some w) (hg : goodWord w = true) : w ∈ gtbl := by
  have hh := List.mem_of_getElem? h
  exact List.mem_filter.mpr ⟨List.mem_append_right _ (List.mem_append_right _ (List.mem_append_right _ (List.mem_append_right _ (List.mem_append_right _ (List.mem_append_right _ (List.mem_append_right _ (List.mem_append_left _ hh))))))), hg⟩
theorem gt_8 {w : Cond} (j : Nat) (h : tables_1_8[j]? = some w) (hg : goodWord w = true) : w ∈ gtbl := by
  have hh := List.mem_of_getElem? h
  exact List.mem_filter.mpr ⟨List.mem_append_right _ (List.mem_append_right _ (List.mem_append_right _ (List.mem_append_right _ (List.mem_append_right _ (List.mem_append_right _ (List.mem_append_right _ (List.mem_append_right _ (List.mem_append_left _ hh)))))))), hg⟩
theorem gt_9 {w : Cond} (j : Nat) (h : tables_1_9[j]? = some w) (hg : goodWord w = true) : w ∈ gtbl := by
  have hh := List.mem_of_getElem? h
  exact List.mem_filter.mpr ⟨List.mem_append_right _ (List.mem_append_right _ (List.mem_append_right _ (List.mem_append_right _ (List.mem_append_right _ (List.mem_append_right _ (List.mem_append_right _ (List.mem_append_right _ (List.mem_append_right _ (hh))))))))), hg⟩
theorem gp_1 {q : MethodName × Nat} (j : Nat) (h : lw_privs_1[j]? = some q) : Cond.selects q.1.cls q.1 q.1 ∈ gtbl := by
  have hh := List.mem_of_getElem? h
  have hm : q ∈ lw_privs := List.mem_append_left _ hh
  exact List.mem_filter.mpr ⟨List.mem_append_left _ (List.mem_map.mpr ⟨q, hm, rfl⟩), rfl⟩
theorem gp_2 {q : MethodName × Nat} (j : Nat) (h : lw_privs_2[j]? = some q) : Cond.selects q.1.cls q.1 q.1 ∈ gtbl := by
  have hh := List.mem_of_getElem? h
  have hm : q ∈ lw_privs := List.mem_append_right _ (List.mem_append_left _ hh)
  exact List.mem_filter.mpr ⟨List.mem_append_left _ (List.mem_map.mpr ⟨q, hm, rfl⟩), rfl⟩
theorem gp_3 {q : MethodName × Nat} (j : Nat) (h : lw_privs_3[j]? = some q) : Cond.selects q.1.cls q.1 q.1 ∈ gtbl := by
  have hh := List.mem_of_getElem? h
  have hm : q ∈ lw_privs := List.mem_append_right _ (List.mem_append_right _ (List.mem_append_left _ hh))
  exact List.mem_filter.mpr ⟨List.mem_append_left _ (List.mem_map.mpr ⟨q, hm, rfl⟩), rfl⟩
theorem gp_4 {q : MethodName × Nat} (j : Nat) (h : lw_privs_4[j]? = some q) : Cond.selects q.1.cls q.1 q.1 ∈ gtbl := by
  have hh := List.mem_of_getElem? h
  have hm : q ∈ lw_privs := List.mem_append_right _ (List.mem_append_right _ (List.mem_append_right _ (List.mem_append_left _ hh)))
  exact List.mem_filter.mpr ⟨List.mem_append_left _ (List.mem_map.mpr ⟨q, hm, rfl⟩), rfl⟩
theorem gp_5 {q : MethodName × Nat} (j : Nat) (h : lw_privs_5[j]? = some q) : Cond.selects q.1.cls q.1 q.1 ∈ gtbl := by
  have hh := List.mem_of_getElem? h
  have hm : q ∈ lw_privs := List.mem_append_right _ (List.mem_append_right _ (List.mem_append_right _ (List.mem_append_right _ (List.mem_append_left _ hh))))
  exact List.mem_filter.mpr ⟨List.mem_append_left _ (List.mem_map.mpr ⟨q, hm, rfl⟩), rfl⟩
theorem gp_6 {q : MethodName × Nat} (j : Nat) (h : lw_privs_6[j]? = some q) : Cond.selects q.1.cls q.1 q.1 ∈ gtbl := by
  have hh := List.mem_of_getElem? h
  have hm : q ∈ lw_privs := List.mem_append_right _ (List.mem_append_right _ (List.mem_append_right _ (List.mem_append_right _ (List.mem_append_right _ (List.mem_append_left _ hh)))))
  exact List.mem_filter.mpr ⟨List.mem_append_left _ (List.mem_map.mpr ⟨q, hm, rfl⟩), rfl⟩
theorem gp_7 {q : MethodName × Nat} (j : Nat) (h : lw_privs_7[j]? = some q) : Cond.selects q.1.cls q.1 q.1 ∈ gtbl := by
  have hh := List.mem_of_getElem? h
  have hm : q ∈ lw_privs := List.mem_append_right _ (List.mem_append_right _ (List.mem_append_right _ (List.mem_append_right _ (List.mem_append_right _ (List.mem_append_right _ (List.mem_append_left _ hh))))))
  exact List.mem_filter.mpr ⟨List.mem_append_left _ (List.mem_map.mpr ⟨q, hm, rfl⟩), rfl⟩
theorem gp_8 {q : MethodName × Nat} (j : Nat) (h : lw_privs_8[j]? = some q) : Cond.selects q.1.cls q.1 q.1 ∈ gtbl := by
  have hh := List.mem_of_getElem? h
  have hm : q ∈ lw_privs := List.mem_append_right _ (List.mem_append_right _ (List.mem_append_right _ (List.mem_append_right _ (List.mem_append_right _ (List.mem_append_right _ (List.mem_append_right _ (hh)))))))
  exact List.mem_filter.mpr ⟨List.mem_append_left _ (List.mem_map.mpr ⟨q, hm, rfl⟩), rfl⟩
theorem cN_L : Cond.initialized RL ∈ gtbl := gt_1 0 rfl rfl
theorem cN_X10 : Cond.initialized RX10 ∈ gtbl := gt_1 1 rfl rfl
theorem cN_X5 : Cond.initialized RX5 ∈ gtbl := gt_1 2 rfl rfl
theorem cN_X0 : Cond.initialized RX0 ∈ gtbl := gt_1 3 rfl rfl
theorem cN_X4 : Cond.initialized RX4 ∈ gtbl := gt_1 4 rfl rfl
theorem cN_X3 : Cond.initialized RX3 ∈ gtbl := gt_1 5 rfl rfl
theorem cN_X7 : Cond.initialized RX7 ∈ gtbl := gt_1 6 rfl rfl
theorem cN_X8 : Cond.initialized RX8 ∈ gtbl := gt_1 7 rfl rfl
theorem cN_X6 : Cond.initialized RX6 ∈ gtbl := gt_1 8 rfl rfl
theorem cN_X1 : Cond.initialized RX1 ∈ gtbl := gt_1 9 rfl rfl
theorem cN_X2 : Cond.initialized RX2 ∈ gtbl := gt_1 10 rfl rfl
theorem cN_X9 : Cond.initialized RX9 ∈ gtbl := gt_1 11 rfl rfl
theorem cN_J7 : Cond.initialized RJ7 ∈ gtbl := gt_1 12 rfl rfl
theorem cN_J9 : Cond.initialized RJ9 ∈ gtbl := gt_1 13 rfl rfl
theorem cN_X11 : Cond.initialized RX11 ∈ gtbl := gt_1 14 rfl rfl
theorem cN_J0 : Cond.initialized RJ0 ∈ gtbl := gt_1 19 rfl rfl
theorem cN_J1 : Cond.initialized RJ1 ∈ gtbl := gt_1 20 rfl rfl
theorem cN_J2 : Cond.initialized RJ2 ∈ gtbl := gt_1 21 rfl rfl
theorem cN_J3 : Cond.initialized RJ3 ∈ gtbl := gt_1 22 rfl rfl
theorem cN_J11 : Cond.initialized RJ11 ∈ gtbl := gt_1 23 rfl rfl
theorem cN_J10 : Cond.initialized RJ10 ∈ gtbl := gt_1 25 rfl rfl
abbrev mX10_init : XM := (yX10_init, cX10_init, 1, none, [])
theorem cC_X10_init : Cond.code yX10_init cX10_init 1 none ∈ gtbl := gt_1 30 rfl rfl
theorem cI_X10_init : Cond.instanceMethod yX10_init ∈ gtbl := gt_1 29 rfl rfl
theorem cD_X10_init : xdesc yX10_init 0 := ⟨by decide, by decide, by decide +kernel⟩
abbrev mX5_init : XM := (yX5_init, cX5_init, 1, none, [])
theorem cC_X5_init : Cond.code yX5_init cX5_init 1 none ∈ gtbl := gt_1 38 rfl rfl
theorem cI_X5_init : Cond.instanceMethod yX5_init ∈ gtbl := gt_1 37 rfl rfl
theorem cD_X5_init : xdesc yX5_init 0 := ⟨by decide, by decide, by decide +kernel⟩
abbrev mX0_init : XM := (yX0_init, cX0_init, 1, none, [])
theorem cC_X0_init : Cond.code yX0_init cX0_init 1 none ∈ gtbl := gt_1 44 rfl rfl
theorem cI_X0_init : Cond.instanceMethod yX0_init ∈ gtbl := gt_1 43 rfl rfl
theorem cD_X0_init : xdesc yX0_init 0 := ⟨by decide, by decide, by decide +kernel⟩
abbrev mX5_clear : XM := (yX5_clear, cX5_clear, 2, none, [])
theorem cC_X5_clear : Cond.code yX5_clear cX5_clear 2 none ∈ gtbl := gt_1 73 rfl rfl
theorem cI_X5_clear : Cond.instanceMethod yX5_clear ∈ gtbl := gt_1 71 rfl rfl
theorem cE_X5_clear : Cond.selects RX5 yX5_clear yX5_clear ∈ gtbl := gt_1 72 rfl rfl
theorem cD_X5_clear : xdesc yX5_clear 0 := ⟨by decide, by decide, by decide +kernel⟩
abbrev mX5_clearButDie : XM := (yX5_clearButDie, cX5_clearButDie, 2, none, [])
theorem cC_X5_clearButDie : Cond.code yX5_clearButDie cX5_clearButDie 2 none ∈ gtbl := gt_1 77 rfl rfl
theorem cI_X5_clearButDie : Cond.instanceMethod yX5_clearButDie ∈ gtbl := gt_1 75 rfl rfl
theorem cE_X5_clearButDie : Cond.selects RX5 yX5_clearButDie yX5_clearButDie ∈ gtbl := gt_1 76 rfl rfl
theorem cD_X5_clearButDie : xdesc yX5_clearButDie 0 := ⟨by decide, by decide, by decide +kernel⟩
abbrev mX0_clear : XM := (yX0_clear, cX0_clear, 1, none, [])
theorem cC_X0_clear : Cond.code yX0_clear cX0_clear 1 none ∈ gtbl := gt_1 81 rfl rfl
theorem cI_X0_clear : Cond.instanceMethod yX0_clear ∈ gtbl := gt_1 79 rfl rfl
theorem cE_X0_clear : Cond.selects RX0 yX0_clear yX0_clear ∈ gtbl := gt_1 80 rfl rfl
theorem cD_X0_clear : xdesc yX0_clear 0 := ⟨by decide, by decide, by decide +kernel⟩
abbrev mX0_add : XM := (yX0_add, cX0_add, 2, none, [])
theorem cC_X0_add : Cond.code yX0_add cX0_add 2 none ∈ gtbl := gt_1 85 rfl rfl
theorem cI_X0_add : Cond.instanceMethod yX0_add ∈ gtbl := gt_1 83 rfl rfl
theorem cE_X0_add : Cond.selects RX0 yX0_add yX0_add ∈ gtbl := gt_1 84 rfl rfl
theorem cD_X0_add : xdesc yX0_add 1 := ⟨by decide, by decide, by decide +kernel⟩
abbrev mX5_putOdds : XM := (yX5_putOdds, cX5_putOdds, 3, none, [])
theorem cC_X5_putOdds : Cond.code yX5_putOdds cX5_putOdds 3 none ∈ gtbl := gt_1 89 rfl rfl
theorem cI_X5_putOdds : Cond.instanceMethod yX5_putOdds ∈ gtbl := gt_1 87 rfl rfl
theorem cE_X5_putOdds : Cond.selects RX5 yX5_putOdds yX5_putOdds ∈ gtbl := gt_1 88 rfl rfl
theorem cD_X5_putOdds : xdesc yX5_putOdds 2 := ⟨by decide, by decide, by decide +kernel⟩
abbrev mX5_sumOdds : XM := (yX5_sumOdds, cX5_sumOdds, 2, none, [])
theorem cC_X5_sumOdds : Cond.code yX5_sumOdds cX5_sumOdds 2 none ∈ gtbl := gt_1 93 rfl rfl
theorem cI_X5_sumOdds : Cond.instanceMethod yX5_sumOdds ∈ gtbl := gt_1 91 rfl rfl
theorem cE_X5_sumOdds : Cond.selects RX5 yX5_sumOdds yX5_sumOdds ∈ gtbl := gt_1 92 rfl rfl
theorem cD_X5_sumOdds : xdesc yX5_sumOdds 0 := ⟨by decide, by decide, by decide +kernel⟩
abbrev mX5_oddsOf : XM := (yX5_oddsOf, cX5_oddsOf, 2, (some .int), [])
theorem cC_X5_oddsOf : Cond.code yX5_oddsOf cX5_oddsOf 2 (some .int) ∈ gtbl := gt_1 97 rfl rfl
theorem cI_X5_oddsOf : Cond.instanceMethod yX5_oddsOf ∈ gtbl := gt_1 95 rfl rfl
theorem cE_X5_oddsOf : Cond.selects RX5 yX5_oddsOf yX5_oddsOf ∈ gtbl := gt_1 96 rfl rfl
theorem cD_X5_oddsOf : xdesc yX5_oddsOf 1 := ⟨by decide, by decide, by decide +kernel⟩
abbrev mX4_init : XM := (yX4_init, cX4_init, 2, none, [])
theorem cC_X4_init : Cond.code yX4_init cX4_init 2 none ∈ gtbl := gt_1 179 rfl rfl
theorem cI_X4_init : Cond.instanceMethod yX4_init ∈ gtbl := gt_1 178 rfl rfl
theorem cD_X4_init : xdesc yX4_init 1 := ⟨by decide, by decide, by decide +kernel⟩
abbrev mX3_init : XM := (yX3_init, cX3_init, 1, none, [])
theorem cC_X3_init : Cond.code yX3_init cX3_init 1 none ∈ gtbl := gt_1 213 rfl rfl
theorem cI_X3_init : Cond.instanceMethod yX3_init ∈ gtbl := gt_1 212 rfl rfl
theorem cD_X3_init : xdesc yX3_init 0 := ⟨by decide, by decide, by decide +kernel⟩
abbrev mX7_init : XM := (yX7_init, cX7_init, 1, none, [])
theorem cC_X7_init : Cond.code yX7_init cX7_init 1 none ∈ gtbl := gt_1 230 rfl rfl
theorem cI_X7_init : Cond.instanceMethod yX7_init ∈ gtbl := gt_1 229 rfl rfl
theorem cD_X7_init : xdesc yX7_init 0 := ⟨by decide, by decide, by decide +kernel⟩
abbrev mX8_init : XM := (yX8_init, cX8_init, 1, none, [])
theorem cC_X8_init : Cond.code yX8_init cX8_init 1 none ∈ gtbl := gt_2 25 rfl rfl
theorem cI_X8_init : Cond.instanceMethod yX8_init ∈ gtbl := gt_2 24 rfl rfl
theorem cD_X8_init : xdesc yX8_init 0 := ⟨by decide, by decide, by decide +kernel⟩
abbrev mX6_init : XM := (yX6_init, cX6_init, 1, none, [])
theorem cC_X6_init : Cond.code yX6_init cX6_init 1 none ∈ gtbl := gt_2 49 rfl rfl
theorem cI_X6_init : Cond.instanceMethod yX6_init ∈ gtbl := gt_2 48 rfl rfl
theorem cD_X6_init : xdesc yX6_init 0 := ⟨by decide, by decide, by decide +kernel⟩
abbrev mX1_init : XM := (yX1_init, cX1_init, 1, none, [])
theorem cC_X1_init : Cond.code yX1_init cX1_init 1 none ∈ gtbl := gt_2 66 rfl rfl
theorem cI_X1_init : Cond.instanceMethod yX1_init ∈ gtbl := gt_2 65 rfl rfl
theorem cD_X1_init : xdesc yX1_init 0 := ⟨by decide, by decide, by decide +kernel⟩
abbrev mX2_init : XM := (yX2_init, cX2_init, 1, none, [])
theorem cC_X2_init : Cond.code yX2_init cX2_init 1 none ∈ gtbl := gt_2 79 rfl rfl
theorem cI_X2_init : Cond.instanceMethod yX2_init ∈ gtbl := gt_2 78 rfl rfl
theorem cD_X2_init : xdesc yX2_init 0 := ⟨by decide, by decide, by decide +kernel⟩
abbrev mX9_init : XM := (yX9_init, cX9_init, 1, none, [])
theorem cC_X9_init : Cond.code yX9_init cX9_init 1 none ∈ gtbl := gt_2 95 rfl rfl
theorem cI_X9_init : Cond.instanceMethod yX9_init ∈ gtbl := gt_2 94 rfl rfl
theorem cD_X9_init : xdesc yX9_init 0 := ⟨by decide, by decide, by decide +kernel⟩
abbrev mX10_startAnew : XM := (yX10_startAnew, cX10_startAnew, 1, none, [])
theorem cC_X10_startAnew : Cond.code yX10_startAnew cX10_startAnew 1 none ∈ gtbl := gt_2 112 rfl rfl
theorem cI_X10_startAnew : Cond.instanceMethod yX10_startAnew ∈ gtbl := gt_2 111 rfl rfl
theorem cE_X10_startAnew : Cond.selects RX10 yX10_startAnew yX10_startAnew ∈ gtbl := gp_1 0 rfl
theorem cD_X10_startAnew : xdesc yX10_startAnew 0 := ⟨by decide, by decide, by decide +kernel⟩
abbrev mX3_takeFeet : XM := (yX3_takeFeet, cX3_takeFeet, 3, none, [])
theorem cC_X3_takeFeet : Cond.code yX3_takeFeet cX3_takeFeet 3 none ∈ gtbl := gt_2 116 rfl rfl
theorem cI_X3_takeFeet : Cond.instanceMethod yX3_takeFeet ∈ gtbl := gt_2 114 rfl rfl
theorem cE_X3_takeFeet : Cond.selects RX3 yX3_takeFeet yX3_takeFeet ∈ gtbl := gt_2 115 rfl rfl
theorem cD_X3_takeFeet : xdesc yX3_takeFeet 1 := ⟨by decide, by decide, by decide +kernel⟩
abbrev mJ7_fill_53178 : XM := (yJ7_fill_53178, cJ7_fill_53178, 4, none, [])
theorem cC_J7_fill_53178 : Cond.code yJ7_fill_53178 cJ7_fill_53178 4 none ∈ gtbl := gt_2 119 rfl rfl
theorem cS_J7_fill_53178 : Cond.static yJ7_fill_53178 ∈ gtbl := gt_2 118 rfl rfl
theorem cD_J7_fill_53178 : xdesc yJ7_fill_53178 2 := ⟨by decide, by decide, by decide +kernel⟩
abbrev mX5_footOf : XM := (yX5_footOf, cX5_footOf, 2, (some .int), [])
theorem cC_X5_footOf : Cond.code yX5_footOf cX5_footOf 2 (some .int) ∈ gtbl := gt_2 123 rfl rfl
theorem cI_X5_footOf : Cond.instanceMethod yX5_footOf ∈ gtbl := gt_2 121 rfl rfl
theorem cE_X5_footOf : Cond.selects RX5 yX5_footOf yX5_footOf ∈ gtbl := gt_2 122 rfl rfl
theorem cD_X5_footOf : xdesc yX5_footOf 1 := ⟨by decide, by decide, by decide +kernel⟩
abbrev mX5_headOf : XM := (yX5_headOf, cX5_headOf, 2, (some .int), [])
theorem cC_X5_headOf : Cond.code yX5_headOf cX5_headOf 2 (some .int) ∈ gtbl := gt_2 127 rfl rfl
theorem cI_X5_headOf : Cond.instanceMethod yX5_headOf ∈ gtbl := gt_2 125 rfl rfl
theorem cE_X5_headOf : Cond.selects RX5 yX5_headOf yX5_headOf ∈ gtbl := gt_2 126 rfl rfl
theorem cD_X5_headOf : xdesc yX5_headOf 1 := ⟨by decide, by decide, by decide +kernel⟩
abbrev mX3_putFoot : XM := (yX3_putFoot, cX3_putFoot, 3, none, [])
theorem cC_X3_putFoot : Cond.code yX3_putFoot cX3_putFoot 3 none ∈ gtbl := gt_2 131 rfl rfl
theorem cI_X3_putFoot : Cond.instanceMethod yX3_putFoot ∈ gtbl := gt_2 129 rfl rfl
theorem cE_X3_putFoot : Cond.selects RX3 yX3_putFoot yX3_putFoot ∈ gtbl := gt_2 130 rfl rfl
theorem cD_X3_putFoot : xdesc yX3_putFoot 2 := ⟨by decide, by decide, by decide +kernel⟩
abbrev mX3_measure : XM := (yX3_measure, cX3_measure, 5, none, [])
theorem cC_X3_measure : Cond.code yX3_measure cX3_measure 5 none ∈ gtbl := gt_2 135 rfl rfl
theorem cI_X3_measure : Cond.instanceMethod yX3_measure ∈ gtbl := gt_2 133 rfl rfl
theorem cE_X3_measure : Cond.selects RX3 yX3_measure yX3_measure ∈ gtbl := gt_2 134 rfl rfl
theorem cD_X3_measure : xdesc yX3_measure 1 := ⟨by decide, by decide, by decide +kernel⟩
abbrev mJ9_min_7cf53 : XM := (yJ9_min_7cf53, cJ9_min_7cf53, 2, (some .int), [])
theorem cC_J9_min_7cf53 : Cond.code yJ9_min_7cf53 cJ9_min_7cf53 2 (some .int) ∈ gtbl := gt_2 138 rfl rfl
theorem cS_J9_min_7cf53 : Cond.static yJ9_min_7cf53 ∈ gtbl := gt_2 137 rfl rfl
theorem cD_J9_min_7cf53 : xdesc yJ9_min_7cf53 2 := ⟨by decide, by decide, by decide +kernel⟩
abbrev mX0_howFar : XM := (yX0_howFar, cX0_howFar, 5, (some .int), [])
theorem cC_X0_howFar : Cond.code yX0_howFar cX0_howFar 5 (some .int) ∈ gtbl := gt_2 142 rfl rfl
theorem cI_X0_howFar : Cond.instanceMethod yX0_howFar ∈ gtbl := gt_2 140 rfl rfl
theorem cE_X0_howFar : Cond.selects RX0 yX0_howFar yX0_howFar ∈ gtbl := gt_2 141 rfl rfl
theorem cD_X0_howFar : xdesc yX0_howFar 4 := ⟨by decide, by decide, by decide +kernel⟩
abbrev mX0_value : XM := (yX0_value, cX0_value, 8, (some .int), [])
theorem cC_X0_value : Cond.code yX0_value cX0_value 8 (some .int) ∈ gtbl := gt_2 146 rfl rfl
theorem cI_X0_value : Cond.instanceMethod yX0_value ∈ gtbl := gt_2 145 rfl rfl
theorem cE_X0_value : Cond.selects RX0 yX0_value yX0_value ∈ gtbl := gp_1 1 rfl
theorem cD_X0_value : xdesc yX0_value 4 := ⟨by decide, by decide, by decide +kernel⟩
abbrev mX0_operand : XM := (yX0_operand, cX0_operand, 5, (some .int), [])
theorem cC_X0_operand : Cond.code yX0_operand cX0_operand 5 (some .int) ∈ gtbl := gt_2 149 rfl rfl
theorem cS_X0_operand : Cond.static yX0_operand ∈ gtbl := gt_2 148 rfl rfl
theorem cD_X0_operand : xdesc yX0_operand 5 := ⟨by decide, by decide, by decide +kernel⟩
abbrev mX0_holds : XM := (yX0_holds, cX0_holds, 1, (some .int), [])
theorem cC_X0_holds : Cond.code yX0_holds cX0_holds 1 (some .int) ∈ gtbl := gt_2 152 rfl rfl
theorem cS_X0_holds : Cond.static yX0_holds ∈ gtbl := gt_2 151 rfl rfl
theorem cD_X0_holds : xdesc yX0_holds 1 := ⟨by decide, by decide, by decide +kernel⟩
abbrev mX0_joined : XM := (yX0_joined, cX0_joined, 3, (some .int), [])
theorem cC_X0_joined : Cond.code yX0_joined cX0_joined 3 (some .int) ∈ gtbl := gt_2 155 rfl rfl
theorem cS_X0_joined : Cond.static yX0_joined ∈ gtbl := gt_2 154 rfl rfl
theorem cD_X0_joined : xdesc yX0_joined 3 := ⟨by decide, by decide, by decide +kernel⟩
abbrev mJ9_max_7cf53 : XM := (yJ9_max_7cf53, cJ9_max_7cf53, 2, (some .int), [])
theorem cC_J9_max_7cf53 : Cond.code yJ9_max_7cf53 cJ9_max_7cf53 2 (some .int) ∈ gtbl := gt_2 159 rfl rfl
theorem cS_J9_max_7cf53 : Cond.static yJ9_max_7cf53 ∈ gtbl := gt_2 158 rfl rfl
theorem cD_J9_max_7cf53 : xdesc yJ9_max_7cf53 2 := ⟨by decide, by decide, by decide +kernel⟩
abbrev mX3_lay : XM := (yX3_lay, cX3_lay, 7, none, [])
theorem cC_X3_lay : Cond.code yX3_lay cX3_lay 7 none ∈ gtbl := gt_2 163 rfl rfl
theorem cI_X3_lay : Cond.instanceMethod yX3_lay ∈ gtbl := gt_2 161 rfl rfl
theorem cE_X3_lay : Cond.selects RX3 yX3_lay yX3_lay ∈ gtbl := gt_2 162 rfl rfl
theorem cD_X3_lay : xdesc yX3_lay 2 := ⟨by decide, by decide, by decide +kernel⟩
abbrev mX3_landing : XM := (yX3_landing, cX3_landing, 6, (some .int), [])
theorem cC_X3_landing : Cond.code yX3_landing cX3_landing 6 (some .int) ∈ gtbl := gt_2 167 rfl rfl
theorem cI_X3_landing : Cond.instanceMethod yX3_landing ∈ gtbl := gt_2 166 rfl rfl
theorem cE_X3_landing : Cond.selects RX3 yX3_landing yX3_landing ∈ gtbl := gp_1 2 rfl
theorem cD_X3_landing : xdesc yX3_landing 4 := ⟨by decide, by decide, by decide +kernel⟩
abbrev mX7_begin : XM := (yX7_begin, cX7_begin, 2, none, [])
theorem cC_X7_begin : Cond.code yX7_begin cX7_begin 2 none ∈ gtbl := gt_2 172 rfl rfl
theorem cI_X7_begin : Cond.instanceMethod yX7_begin ∈ gtbl := gt_2 170 rfl rfl
theorem cE_X7_begin : Cond.selects RX7 yX7_begin yX7_begin ∈ gtbl := gt_2 171 rfl rfl
theorem cD_X7_begin : xdesc yX7_begin 1 := ⟨by decide, by decide, by decide +kernel⟩
abbrev mX10_feed : XM := (yX10_feed, cX10_feed, 6, (some .int), [])
theorem cC_X10_feed : Cond.code yX10_feed cX10_feed 6 (some .int) ∈ gtbl := gt_2 228 rfl rfl
theorem cI_X10_feed : Cond.instanceMethod yX10_feed ∈ gtbl := gt_2 226 rfl rfl
theorem cE_X10_feed : Cond.selects RX10 yX10_feed yX10_feed ∈ gtbl := gt_2 227 rfl rfl
theorem cD_X10_feed : xdesc yX10_feed 5 := ⟨by decide, by decide, by decide +kernel⟩
abbrev mX10_feedNumber : XM := (yX10_feedNumber, cX10_feedNumber, 3, none, [])
theorem cC_X10_feedNumber : Cond.code yX10_feedNumber cX10_feedNumber 3 none ∈ gtbl := gt_2 232 rfl rfl
theorem cI_X10_feedNumber : Cond.instanceMethod yX10_feedNumber ∈ gtbl := gt_2 231 rfl rfl
theorem cE_X10_feedNumber : Cond.selects RX10 yX10_feedNumber yX10_feedNumber ∈ gtbl := gp_1 3 rfl
theorem cD_X10_feedNumber : xdesc yX10_feedNumber 1 := ⟨by decide, by decide, by decide +kernel⟩
abbrev mX10_fault : XM := (yX10_fault, cX10_fault, 1, (some .int), [])
theorem cC_X10_fault : Cond.code yX10_fault cX10_fault 1 (some .int) ∈ gtbl := gt_2 236 rfl rfl
theorem cI_X10_fault : Cond.instanceMethod yX10_fault ∈ gtbl := gt_2 234 rfl rfl
theorem cE_X10_fault : Cond.selects RX10 yX10_fault yX10_fault ∈ gtbl := gt_2 235 rfl rfl
theorem cD_X10_fault : xdesc yX10_fault 0 := ⟨by decide, by decide, by decide +kernel⟩
abbrev mX10_undo : XM := (yX10_undo, cX10_undo, 1, (some .int), [])
theorem cC_X10_undo : Cond.code yX10_undo cX10_undo 1 (some .int) ∈ gtbl := gt_3 0 rfl rfl
theorem cI_X10_undo : Cond.instanceMethod yX10_undo ∈ gtbl := gt_2 238 rfl rfl
theorem cE_X10_undo : Cond.selects RX10 yX10_undo yX10_undo ∈ gtbl := gt_2 239 rfl rfl
theorem cD_X10_undo : xdesc yX10_undo 0 := ⟨by decide, by decide, by decide +kernel⟩
abbrev mX7_takeBack : XM := (yX7_takeBack, cX7_takeBack, 3, (some .int), [])
theorem cC_X7_takeBack : Cond.code yX7_takeBack cX7_takeBack 3 (some .int) ∈ gtbl := gt_3 4 rfl rfl
theorem cI_X7_takeBack : Cond.instanceMethod yX7_takeBack ∈ gtbl := gt_3 2 rfl rfl
theorem cE_X7_takeBack : Cond.selects RX7 yX7_takeBack yX7_takeBack ∈ gtbl := gt_3 3 rfl rfl
theorem cD_X7_takeBack : xdesc yX7_takeBack 0 := ⟨by decide, by decide, by decide +kernel⟩
abbrev mX7_logged : XM := (yX7_logged, cX7_logged, 4, (some .int), [])
theorem cC_X7_logged : Cond.code yX7_logged cX7_logged 4 (some .int) ∈ gtbl := gt_3 8 rfl rfl
theorem cI_X7_logged : Cond.instanceMethod yX7_logged ∈ gtbl := gt_3 6 rfl rfl
theorem cE_X7_logged : Cond.selects RX7 yX7_logged yX7_logged ∈ gtbl := gt_3 7 rfl rfl
theorem cD_X7_logged : xdesc yX7_logged 2 := ⟨by decide, by decide, by decide +kernel⟩
abbrev mX7_place : XM := (yX7_place, cX7_place, 3, none, [])
theorem cC_X7_place : Cond.code yX7_place cX7_place 3 none ∈ gtbl := gt_3 12 rfl rfl
theorem cI_X7_place : Cond.instanceMethod yX7_place ∈ gtbl := gt_3 11 rfl rfl
theorem cE_X7_place : Cond.selects RX7 yX7_place yX7_place ∈ gtbl := gp_1 4 rfl
theorem cD_X7_place : xdesc yX7_place 2 := ⟨by decide, by decide, by decide +kernel⟩
abbrev mX10_worn : XM := (yX10_worn, cX10_worn, 3, (some .int), [])
theorem cC_X10_worn : Cond.code yX10_worn cX10_worn 3 (some .int) ∈ gtbl := gt_3 16 rfl rfl
theorem cI_X10_worn : Cond.instanceMethod yX10_worn ∈ gtbl := gt_3 14 rfl rfl
theorem cE_X10_worn : Cond.selects RX10 yX10_worn yX10_worn ∈ gtbl := gt_3 15 rfl rfl
theorem cD_X10_worn : xdesc yX10_worn 0 := ⟨by decide, by decide, by decide +kernel⟩
abbrev mX10_timesMore : XM := (yX10_timesMore, cX10_timesMore, 2, (some .long), [])
theorem cC_X10_timesMore : Cond.code yX10_timesMore cX10_timesMore 2 (some .long) ∈ gtbl := gt_3 20 rfl rfl
theorem cI_X10_timesMore : Cond.instanceMethod yX10_timesMore ∈ gtbl := gt_3 19 rfl rfl
theorem cE_X10_timesMore : Cond.selects RX10 yX10_timesMore yX10_timesMore ∈ gtbl := gp_1 5 rfl
theorem cD_X10_timesMore : xdesc yX10_timesMore 1 := ⟨by decide, by decide, by decide +kernel⟩
abbrev mX7_timesThrown : XM := (yX7_timesThrown, cX7_timesThrown, 4, (some .int), [])
theorem cC_X7_timesThrown : Cond.code yX7_timesThrown cX7_timesThrown 4 (some .int) ∈ gtbl := gt_3 24 rfl rfl
theorem cI_X7_timesThrown : Cond.instanceMethod yX7_timesThrown ∈ gtbl := gt_3 22 rfl rfl
theorem cE_X7_timesThrown : Cond.selects RX7 yX7_timesThrown yX7_timesThrown ∈ gtbl := gt_3 23 rfl rfl
theorem cD_X7_timesThrown : xdesc yX7_timesThrown 1 := ⟨by decide, by decide, by decide +kernel⟩
abbrev mX10_note : XM := (yX10_note, cX10_note, 2, (some .int), [])
theorem cC_X10_note : Cond.code yX10_note cX10_note 2 (some .int) ∈ gtbl := gt_3 29 rfl rfl
theorem cI_X10_note : Cond.instanceMethod yX10_note ∈ gtbl := gt_3 27 rfl rfl
theorem cE_X10_note : Cond.selects RX10 yX10_note yX10_note ∈ gtbl := gt_3 28 rfl rfl
theorem cD_X10_note : xdesc yX10_note 1 := ⟨by decide, by decide, by decide +kernel⟩
abbrev mX7_refuse : XM := (yX7_refuse, cX7_refuse, 2, none, [])
theorem cC_X7_refuse : Cond.code yX7_refuse cX7_refuse 2 none ∈ gtbl := gt_3 33 rfl rfl
theorem cI_X7_refuse : Cond.instanceMethod yX7_refuse ∈ gtbl := gt_3 31 rfl rfl
theorem cE_X7_refuse : Cond.selects RX7 yX7_refuse yX7_refuse ∈ gtbl := gt_3 32 rfl rfl
theorem cD_X7_refuse : xdesc yX7_refuse 1 := ⟨by decide, by decide, by decide +kernel⟩
abbrev mX7_putNote : XM := (yX7_putNote, cX7_putNote, 2, none, [])
theorem cC_X7_putNote : Cond.code yX7_putNote cX7_putNote 2 none ∈ gtbl := gt_3 37 rfl rfl
theorem cI_X7_putNote : Cond.instanceMethod yX7_putNote ∈ gtbl := gt_3 35 rfl rfl
theorem cE_X7_putNote : Cond.selects RX7 yX7_putNote yX7_putNote ∈ gtbl := gt_3 36 rfl rfl
theorem cD_X7_putNote : xdesc yX7_putNote 1 := ⟨by decide, by decide, by decide +kernel⟩
abbrev mX10_forget : XM := (yX10_forget, cX10_forget, 1, (some .int), [])
theorem cC_X10_forget : Cond.code yX10_forget cX10_forget 1 (some .int) ∈ gtbl := gt_3 41 rfl rfl
theorem cI_X10_forget : Cond.instanceMethod yX10_forget ∈ gtbl := gt_3 39 rfl rfl
theorem cE_X10_forget : Cond.selects RX10 yX10_forget yX10_forget ∈ gtbl := gt_3 40 rfl rfl
theorem cD_X10_forget : xdesc yX10_forget 0 := ⟨by decide, by decide, by decide +kernel⟩
abbrev mX10_cannot : XM := (yX10_cannot, cX10_cannot, 1, (some .int), [])
theorem cC_X10_cannot : Cond.code yX10_cannot cX10_cannot 1 (some .int) ∈ gtbl := gt_3 45 rfl rfl
theorem cI_X10_cannot : Cond.instanceMethod yX10_cannot ∈ gtbl := gt_3 43 rfl rfl
theorem cE_X10_cannot : Cond.selects RX10 yX10_cannot yX10_cannot ∈ gtbl := gt_3 44 rfl rfl
theorem cD_X10_cannot : xdesc yX10_cannot 0 := ⟨by decide, by decide, by decide +kernel⟩
abbrev mX2_firstThatCannotBe : XM := (yX2_firstThatCannotBe, cX2_firstThatCannotBe, 5, (some .int), [])
theorem cC_X2_firstThatCannotBe : Cond.code yX2_firstThatCannotBe cX2_firstThatCannotBe 5 (some .int) ∈ gtbl := gt_3 49 rfl rfl
theorem cI_X2_firstThatCannotBe : Cond.instanceMethod yX2_firstThatCannotBe ∈ gtbl := gt_3 47 rfl rfl
theorem cE_X2_firstThatCannotBe : Cond.selects RX2 yX2_firstThatCannotBe yX2_firstThatCannotBe ∈ gtbl := gt_3 48 rfl rfl
theorem cD_X2_firstThatCannotBe : xdesc yX2_firstThatCannotBe 3 := ⟨by decide, by decide, by decide +kernel⟩
abbrev mX2_isAsked : XM := (yX2_isAsked, cX2_isAsked, 2, (some .boolean), [])
theorem cC_X2_isAsked : Cond.code yX2_isAsked cX2_isAsked 2 (some .boolean) ∈ gtbl := gt_3 52 rfl rfl
theorem cS_X2_isAsked : Cond.static yX2_isAsked ∈ gtbl := gt_3 51 rfl rfl
theorem cD_X2_isAsked : xdesc yX2_isAsked 2 := ⟨by decide, by decide, by decide +kernel⟩
abbrev mX7_noteOf : XM := (yX7_noteOf, cX7_noteOf, 2, (some .int), [])
theorem cC_X7_noteOf : Cond.code yX7_noteOf cX7_noteOf 2 (some .int) ∈ gtbl := gt_3 56 rfl rfl
theorem cI_X7_noteOf : Cond.instanceMethod yX7_noteOf ∈ gtbl := gt_3 54 rfl rfl
theorem cE_X7_noteOf : Cond.selects RX7 yX7_noteOf yX7_noteOf ∈ gtbl := gt_3 55 rfl rfl
theorem cD_X7_noteOf : xdesc yX7_noteOf 1 := ⟨by decide, by decide, by decide +kernel⟩
abbrev mX2_canCome : XM := (yX2_canCome, cX2_canCome, 7, (some .boolean), [])
theorem cC_X2_canCome : Cond.code yX2_canCome cX2_canCome 7 (some .boolean) ∈ gtbl := gt_3 59 rfl rfl
theorem cS_X2_canCome : Cond.static yX2_canCome ∈ gtbl := gt_3 58 rfl rfl
theorem cD_X2_canCome : xdesc yX2_canCome 5 := ⟨by decide, by decide, by decide +kernel⟩
abbrev mX3_to : XM := (yX3_to, cX3_to, 4, (some .int), [])
theorem cC_X3_to : Cond.code yX3_to cX3_to 4 (some .int) ∈ gtbl := gt_3 64 rfl rfl
theorem cI_X3_to : Cond.instanceMethod yX3_to ∈ gtbl := gt_3 62 rfl rfl
theorem cE_X3_to : Cond.selects RX3 yX3_to yX3_to ∈ gtbl := gt_3 63 rfl rfl
theorem cD_X3_to : xdesc yX3_to 2 := ⟨by decide, by decide, by decide +kernel⟩
abbrev mX10_fits : XM := (yX10_fits, cX10_fits, 3, (some .long), [])
theorem cC_X10_fits : Cond.code yX10_fits cX10_fits 3 (some .long) ∈ gtbl := gt_3 68 rfl rfl
theorem cI_X10_fits : Cond.instanceMethod yX10_fits ∈ gtbl := gt_3 66 rfl rfl
theorem cE_X10_fits : Cond.selects RX10 yX10_fits yX10_fits ∈ gtbl := gt_3 67 rfl rfl
theorem cD_X10_fits : xdesc yX10_fits 0 := ⟨by decide, by decide, by decide +kernel⟩
abbrev mX2_countFits : XM := (yX2_countFits, cX2_countFits, 6, (some .long), [])
theorem cC_X2_countFits : Cond.code yX2_countFits cX2_countFits 6 (some .long) ∈ gtbl := gt_3 72 rfl rfl
theorem cI_X2_countFits : Cond.instanceMethod yX2_countFits ∈ gtbl := gt_3 70 rfl rfl
theorem cE_X2_countFits : Cond.selects RX2 yX2_countFits yX2_countFits ∈ gtbl := gt_3 71 rfl rfl
theorem cD_X2_countFits : xdesc yX2_countFits 3 := ⟨by decide, by decide, by decide +kernel⟩
abbrev mJ7_fill_d0a16 : XM := (yJ7_fill_d0a16, cJ7_fill_d0a16, 5, none, [])
theorem cC_J7_fill_d0a16 : Cond.code yJ7_fill_d0a16 cJ7_fill_d0a16 5 none ∈ gtbl := gt_3 75 rfl rfl
theorem cS_J7_fill_d0a16 : Cond.static yJ7_fill_d0a16 ∈ gtbl := gt_3 74 rfl rfl
theorem cD_J7_fill_d0a16 : xdesc yJ7_fill_d0a16 2 := ⟨by decide, by decide, by decide +kernel⟩
abbrev mX2_putEarlier : XM := (yX2_putEarlier, cX2_putEarlier, 5, none, [])
theorem cC_X2_putEarlier : Cond.code yX2_putEarlier cX2_putEarlier 5 none ∈ gtbl := gt_3 79 rfl rfl
theorem cI_X2_putEarlier : Cond.instanceMethod yX2_putEarlier ∈ gtbl := gt_3 78 rfl rfl
theorem cE_X2_putEarlier : Cond.selects RX2 yX2_putEarlier yX2_putEarlier ∈ gtbl := gp_1 6 rfl
theorem cD_X2_putEarlier : xdesc yX2_putEarlier 3 := ⟨by decide, by decide, by decide +kernel⟩
abbrev mX2_setOpen : XM := (yX2_setOpen, cX2_setOpen, 4, none, [])
theorem cC_X2_setOpen : Cond.code yX2_setOpen cX2_setOpen 4 none ∈ gtbl := gt_3 83 rfl rfl
theorem cI_X2_setOpen : Cond.instanceMethod yX2_setOpen ∈ gtbl := gt_3 82 rfl rfl
theorem cE_X2_setOpen : Cond.selects RX2 yX2_setOpen yX2_setOpen ∈ gtbl := gp_1 7 rfl
theorem cD_X2_setOpen : xdesc yX2_setOpen 2 := ⟨by decide, by decide, by decide +kernel⟩
abbrev mX2_swap : XM := (yX2_swap, cX2_swap, 2, none, [])
theorem cC_X2_swap : Cond.code yX2_swap cX2_swap 2 none ∈ gtbl := gt_3 87 rfl rfl
theorem cI_X2_swap : Cond.instanceMethod yX2_swap ∈ gtbl := gt_3 86 rfl rfl
theorem cE_X2_swap : Cond.selects RX2 yX2_swap yX2_swap ∈ gtbl := gp_1 8 rfl
theorem cD_X2_swap : xdesc yX2_swap 0 := ⟨by decide, by decide, by decide +kernel⟩
abbrev mX2_sumOfFaces : XM := (yX2_sumOfFaces, cX2_sumOfFaces, 10, (some .long), [])
theorem cC_X2_sumOfFaces : Cond.code yX2_sumOfFaces cX2_sumOfFaces 10 (some .long) ∈ gtbl := gt_3 91 rfl rfl
theorem cI_X2_sumOfFaces : Cond.instanceMethod yX2_sumOfFaces ∈ gtbl := gt_3 90 rfl rfl
theorem cE_X2_sumOfFaces : Cond.selects RX2 yX2_sumOfFaces yX2_sumOfFaces ∈ gtbl := gp_1 9 rfl
theorem cD_X2_sumOfFaces : xdesc yX2_sumOfFaces 5 := ⟨by decide, by decide, by decide +kernel⟩
abbrev mX2_isAsNoted : XM := (yX2_isAsNoted, cX2_isAsNoted, 4, (some .boolean), [])
theorem cC_X2_isAsNoted : Cond.code yX2_isAsNoted cX2_isAsNoted 4 (some .boolean) ∈ gtbl := gt_3 94 rfl rfl
theorem cS_X2_isAsNoted : Cond.static yX2_isAsNoted ∈ gtbl := gt_3 93 rfl rfl
theorem cD_X2_isAsNoted : xdesc yX2_isAsNoted 3 := ⟨by decide, by decide, by decide +kernel⟩
abbrev mX2_ways : XM := (yX2_ways, cX2_ways, 2, (some .long), [])
theorem cC_X2_ways : Cond.code yX2_ways cX2_ways 2 (some .long) ∈ gtbl := gt_3 98 rfl rfl
theorem cI_X2_ways : Cond.instanceMethod yX2_ways ∈ gtbl := gt_3 97 rfl rfl
theorem cE_X2_ways : Cond.selects RX2 yX2_ways yX2_ways ∈ gtbl := gp_1 10 rfl
theorem cD_X2_ways : xdesc yX2_ways 1 := ⟨by decide, by decide, by decide +kernel⟩
abbrev mJ9_min_f86c9 : XM := (yJ9_min_f86c9, cJ9_min_f86c9, 4, (some .long), [])
theorem cC_J9_min_f86c9 : Cond.code yJ9_min_f86c9 cJ9_min_f86c9 4 (some .long) ∈ gtbl := gt_3 102 rfl rfl
theorem cS_J9_min_f86c9 : Cond.static yJ9_min_f86c9 ∈ gtbl := gt_3 101 rfl rfl
theorem cD_J9_min_f86c9 : xdesc yJ9_min_f86c9 2 := ⟨by decide, by decide, by decide +kernel⟩
abbrev mX2_putFirstFit : XM := (yX2_putFirstFit, cX2_putFirstFit, 9, (some .int), [])
theorem cC_X2_putFirstFit : Cond.code yX2_putFirstFit cX2_putFirstFit 9 (some .int) ∈ gtbl := gt_3 106 rfl rfl
theorem cI_X2_putFirstFit : Cond.instanceMethod yX2_putFirstFit ∈ gtbl := gt_3 104 rfl rfl
theorem cE_X2_putFirstFit : Cond.selects RX2 yX2_putFirstFit yX2_putFirstFit ∈ gtbl := gt_3 105 rfl rfl
theorem cD_X2_putFirstFit : xdesc yX2_putFirstFit 4 := ⟨by decide, by decide, by decide +kernel⟩
abbrev mX2_isOpen : XM := (yX2_isOpen, cX2_isOpen, 4, (some .boolean), [])
theorem cC_X2_isOpen : Cond.code yX2_isOpen cX2_isOpen 4 (some .boolean) ∈ gtbl := gt_3 110 rfl rfl
theorem cI_X2_isOpen : Cond.instanceMethod yX2_isOpen ∈ gtbl := gt_3 109 rfl rfl
theorem cE_X2_isOpen : Cond.selects RX2 yX2_isOpen yX2_isOpen ∈ gtbl := gp_1 11 rfl
theorem cD_X2_isOpen : xdesc yX2_isOpen 2 := ⟨by decide, by decide, by decide +kernel⟩
abbrev mX10_less : XM := (yX10_less, cX10_less, 1, (some .int), [])
theorem cC_X10_less : Cond.code yX10_less cX10_less 1 (some .int) ∈ gtbl := gt_3 114 rfl rfl
theorem cI_X10_less : Cond.instanceMethod yX10_less ∈ gtbl := gt_3 112 rfl rfl
theorem cE_X10_less : Cond.selects RX10 yX10_less yX10_less ∈ gtbl := gt_3 113 rfl rfl
theorem cD_X10_less : xdesc yX10_less 0 := ⟨by decide, by decide, by decide +kernel⟩
abbrev mX2_countOneLess : XM := (yX2_countOneLess, cX2_countOneLess, 6, (some .int), [])
theorem cC_X2_countOneLess : Cond.code yX2_countOneLess cX2_countOneLess 6 (some .int) ∈ gtbl := gt_3 118 rfl rfl
theorem cI_X2_countOneLess : Cond.instanceMethod yX2_countOneLess ∈ gtbl := gt_3 116 rfl rfl
theorem cE_X2_countOneLess : Cond.selects RX2 yX2_countOneLess yX2_countOneLess ∈ gtbl := gt_3 117 rfl rfl
theorem cD_X2_countOneLess : xdesc yX2_countOneLess 3 := ⟨by decide, by decide, by decide +kernel⟩
abbrev mX10_image : XM := (yX10_image, cX10_image, 1, none, [])
theorem cC_X10_image : Cond.code yX10_image cX10_image 1 none ∈ gtbl := gt_3 122 rfl rfl
theorem cI_X10_image : Cond.instanceMethod yX10_image ∈ gtbl := gt_3 120 rfl rfl
theorem cE_X10_image : Cond.selects RX10 yX10_image yX10_image ∈ gtbl := gt_3 121 rfl rfl
theorem cD_X10_image : xdesc yX10_image 0 := ⟨by decide, by decide, by decide +kernel⟩
abbrev mX7_takeFrom : XM := (yX7_takeFrom, cX7_takeFrom, 2, none, [])
theorem cC_X7_takeFrom : Cond.code yX7_takeFrom cX7_takeFrom 2 none ∈ gtbl := gt_3 126 rfl rfl
theorem cI_X7_takeFrom : Cond.instanceMethod yX7_takeFrom ∈ gtbl := gt_3 124 rfl rfl
theorem cE_X7_takeFrom : Cond.selects RX7 yX7_takeFrom yX7_takeFrom ∈ gtbl := gt_3 125 rfl rfl
theorem cD_X7_takeFrom : xdesc yX7_takeFrom 1 := ⟨by decide, by decide, by decide +kernel⟩
abbrev mX10_restore : XM := (yX10_restore, cX10_restore, 1, (some .boolean), [])
theorem cC_X10_restore : Cond.code yX10_restore cX10_restore 1 (some .boolean) ∈ gtbl := gt_3 133 rfl rfl
theorem cI_X10_restore : Cond.instanceMethod yX10_restore ∈ gtbl := gt_3 131 rfl rfl
theorem cE_X10_restore : Cond.selects RX10 yX10_restore yX10_restore ∈ gtbl := gt_3 132 rfl rfl
theorem cD_X10_restore : xdesc yX10_restore 0 := ⟨by decide, by decide, by decide +kernel⟩
abbrev mX10_board : XM := (yX10_board, cX10_board, 3, (some .int), [])
theorem cC_X10_board : Cond.code yX10_board cX10_board 3 (some .int) ∈ gtbl := gt_3 141 rfl rfl
theorem cI_X10_board : Cond.instanceMethod yX10_board ∈ gtbl := gt_3 139 rfl rfl
theorem cE_X10_board : Cond.selects RX10 yX10_board yX10_board ∈ gtbl := gt_3 140 rfl rfl
theorem cD_X10_board : xdesc yX10_board 1 := ⟨by decide, by decide, by decide +kernel⟩
abbrev mX4_read : XM := (yX4_read, cX4_read, 4, (some .int), [])
theorem cC_X4_read : Cond.code yX4_read cX4_read 4 (some .int) ∈ gtbl := gt_3 207 rfl rfl
theorem cI_X4_read : Cond.instanceMethod yX4_read ∈ gtbl := gt_3 205 rfl rfl
theorem cE_X4_read : Cond.selects RX4 yX4_read yX4_read ∈ gtbl := gt_3 206 rfl rfl
theorem cD_X4_read : xdesc yX4_read 1 := ⟨by decide, by decide, by decide +kernel⟩
abbrev mX4_readOn : XM := (yX4_readOn, cX4_readOn, 2, none, [])
theorem cC_X4_readOn : Cond.code yX4_readOn cX4_readOn 2 none ∈ gtbl := gt_3 214 rfl rfl
theorem cI_X4_readOn : Cond.instanceMethod yX4_readOn ∈ gtbl := gt_3 213 rfl rfl
theorem cE_X4_readOn : Cond.selects RX4 yX4_readOn yX4_readOn ∈ gtbl := gp_1 13 rfl
theorem cD_X4_readOn : xdesc yX4_readOn 0 := ⟨by decide, by decide, by decide +kernel⟩
abbrev mX4_signAt : XM := (yX4_signAt, cX4_signAt, 2, (some .char), [])
theorem cC_X4_signAt : Cond.code yX4_signAt cX4_signAt 2 (some .char) ∈ gtbl := gt_3 218 rfl rfl
theorem cI_X4_signAt : Cond.instanceMethod yX4_signAt ∈ gtbl := gt_3 217 rfl rfl
theorem cE_X4_signAt : Cond.selects RX4 yX4_signAt yX4_signAt ∈ gtbl := gp_1 14 rfl
theorem cD_X4_signAt : xdesc yX4_signAt 1 := ⟨by decide, by decide, by decide +kernel⟩
abbrev mX4_isBlank : XM := (yX4_isBlank, cX4_isBlank, 1, (some .boolean), [])
theorem cC_X4_isBlank : Cond.code yX4_isBlank cX4_isBlank 1 (some .boolean) ∈ gtbl := gt_3 221 rfl rfl
theorem cS_X4_isBlank : Cond.static yX4_isBlank ∈ gtbl := gt_3 220 rfl rfl
theorem cD_X4_isBlank : xdesc yX4_isBlank 1 := ⟨by decide, by decide, by decide +kernel⟩
abbrev mX4_isLetter : XM := (yX4_isLetter, cX4_isLetter, 1, (some .boolean), [])
theorem cC_X4_isLetter : Cond.code yX4_isLetter cX4_isLetter 1 (some .boolean) ∈ gtbl := gt_3 224 rfl rfl
theorem cS_X4_isLetter : Cond.static yX4_isLetter ∈ gtbl := gt_3 223 rfl rfl
theorem cD_X4_isLetter : xdesc yX4_isLetter 1 := ⟨by decide, by decide, by decide +kernel⟩
abbrev mX4_isDigit : XM := (yX4_isDigit, cX4_isDigit, 1, (some .boolean), [])
theorem cC_X4_isDigit : Cond.code yX4_isDigit cX4_isDigit 1 (some .boolean) ∈ gtbl := gt_3 227 rfl rfl
theorem cS_X4_isDigit : Cond.static yX4_isDigit ∈ gtbl := gt_3 226 rfl rfl
theorem cD_X4_isDigit : xdesc yX4_isDigit 1 := ⟨by decide, by decide, by decide +kernel⟩
abbrev mJ0_indexOf_0f7a4 : XM := (yJ0_indexOf_0f7a4, cJ0_indexOf_0f7a4, 2, (some .int), [])
theorem cC_J0_indexOf_0f7a4 : Cond.code yJ0_indexOf_0f7a4 cJ0_indexOf_0f7a4 2 (some .int) ∈ gtbl := gt_3 232 rfl rfl
theorem cI_J0_indexOf_0f7a4 : Cond.instanceMethod yJ0_indexOf_0f7a4 ∈ gtbl := gt_3 230 rfl rfl
theorem cE_J0_indexOf_0f7a4 : Cond.selects RJ0 yJ0_indexOf_0f7a4 yJ0_indexOf_0f7a4 ∈ gtbl := gt_3 231 rfl rfl
theorem cD_J0_indexOf_0f7a4 : xdesc yJ0_indexOf_0f7a4 1 := ⟨by decide, by decide, by decide +kernel⟩
abbrev mJ0_indexOf_7cf53 : XM := (yJ0_indexOf_7cf53, cJ0_indexOf_7cf53, 3, (some .int), [])
theorem cC_J0_indexOf_7cf53 : Cond.code yJ0_indexOf_7cf53 cJ0_indexOf_7cf53 3 (some .int) ∈ gtbl := gt_3 236 rfl rfl
theorem cI_J0_indexOf_7cf53 : Cond.instanceMethod yJ0_indexOf_7cf53 ∈ gtbl := gt_3 234 rfl rfl
theorem cE_J0_indexOf_7cf53 : Cond.selects RJ0 yJ0_indexOf_7cf53 yJ0_indexOf_7cf53 ∈ gtbl := gt_3 235 rfl rfl
theorem cD_J0_indexOf_7cf53 : xdesc yJ0_indexOf_7cf53 2 := ⟨by decide, by decide, by decide +kernel⟩
abbrev mJ0_isLatin1_aae02 : XM := (yJ0_isLatin1_aae02, cJ0_isLatin1_aae02, 1, (some .boolean), [])
theorem cC_J0_isLatin1_aae02 : Cond.code yJ0_isLatin1_aae02 cJ0_isLatin1_aae02 1 (some .boolean) ∈ gtbl := gt_4 0 rfl rfl
theorem cI_J0_isLatin1_aae02 : Cond.instanceMethod yJ0_isLatin1_aae02 ∈ gtbl := gt_3 238 rfl rfl
theorem cE_J0_isLatin1_aae02 : Cond.selects RJ0 yJ0_isLatin1_aae02 yJ0_isLatin1_aae02 ∈ gtbl := gt_3 239 rfl rfl
theorem cD_J0_isLatin1_aae02 : xdesc yJ0_isLatin1_aae02 0 := ⟨by decide, by decide, by decide +kernel⟩
abbrev mJ0_length_8abf5 : XM := (yJ0_length_8abf5, cJ0_length_8abf5, 1, (some .int), [])
theorem cC_J0_length_8abf5 : Cond.code yJ0_length_8abf5 cJ0_length_8abf5 1 (some .int) ∈ gtbl := gt_4 6 rfl rfl
theorem cI_J0_length_8abf5 : Cond.instanceMethod yJ0_length_8abf5 ∈ gtbl := gt_4 4 rfl rfl
theorem cE_J0_length_8abf5 : Cond.selects RJ0 yJ0_length_8abf5 yJ0_length_8abf5 ∈ gtbl := gt_4 5 rfl rfl
theorem cD_J0_length_8abf5 : xdesc yJ0_length_8abf5 0 := ⟨by decide, by decide, by decide +kernel⟩
abbrev mJ0_coder_7d493 : XM := (yJ0_coder_7d493, cJ0_coder_7d493, 1, (some .byte), [])
theorem cC_J0_coder_7d493 : Cond.code yJ0_coder_7d493 cJ0_coder_7d493 1 (some .byte) ∈ gtbl := gt_4 10 rfl rfl
theorem cI_J0_coder_7d493 : Cond.instanceMethod yJ0_coder_7d493 ∈ gtbl := gt_4 8 rfl rfl
theorem cE_J0_coder_7d493 : Cond.selects RJ0 yJ0_coder_7d493 yJ0_coder_7d493 ∈ gtbl := gt_4 9 rfl rfl
theorem cD_J0_coder_7d493 : xdesc yJ0_coder_7d493 0 := ⟨by decide, by decide, by decide +kernel⟩
abbrev mJ1_indexOf_4cfef : XM := (yJ1_indexOf_4cfef, cJ1_indexOf_4cfef, 4, (some .int), [])
theorem cC_J1_indexOf_4cfef : Cond.code yJ1_indexOf_4cfef cJ1_indexOf_4cfef 4 (some .int) ∈ gtbl := gt_4 13 rfl rfl
theorem cS_J1_indexOf_4cfef : Cond.static yJ1_indexOf_4cfef ∈ gtbl := gt_4 12 rfl rfl
theorem cD_J1_indexOf_4cfef : xdesc yJ1_indexOf_4cfef 4 := ⟨by decide, by decide, by decide +kernel⟩
abbrev mJ1_canEncode_9a6ad : XM := (yJ1_canEncode_9a6ad, cJ1_canEncode_9a6ad, 1, (some .boolean), [])
theorem cC_J1_canEncode_9a6ad : Cond.code yJ1_canEncode_9a6ad cJ1_canEncode_9a6ad 1 (some .boolean) ∈ gtbl := gt_4 16 rfl rfl
theorem cS_J1_canEncode_9a6ad : Cond.static yJ1_canEncode_9a6ad ∈ gtbl := gt_4 15 rfl rfl
theorem cD_J1_canEncode_9a6ad : xdesc yJ1_canEncode_9a6ad 1 := ⟨by decide, by decide, by decide +kernel⟩
abbrev mJ1_indexOfChar_4cfef : XM := (yJ1_indexOfChar_4cfef, cJ1_indexOfChar_4cfef, 6, (some .int), [])
theorem cC_J1_indexOfChar_4cfef : Cond.code yJ1_indexOfChar_4cfef cJ1_indexOfChar_4cfef 6 (some .int) ∈ gtbl := gt_4 21 rfl rfl
theorem cS_J1_indexOfChar_4cfef : Cond.static yJ1_indexOfChar_4cfef ∈ gtbl := gt_4 20 rfl rfl
theorem cD_J1_indexOfChar_4cfef : xdesc yJ1_indexOfChar_4cfef 4 := ⟨by decide, by decide, by decide +kernel⟩
abbrev mJ2_indexOf_4cfef : XM := (yJ2_indexOf_4cfef, cJ2_indexOf_4cfef, 4, (some .int), [])
theorem cC_J2_indexOf_4cfef : Cond.code yJ2_indexOf_4cfef cJ2_indexOf_4cfef 4 (some .int) ∈ gtbl := gt_4 24 rfl rfl
theorem cS_J2_indexOf_4cfef : Cond.static yJ2_indexOf_4cfef ∈ gtbl := gt_4 23 rfl rfl
theorem cD_J2_indexOf_4cfef : xdesc yJ2_indexOf_4cfef 4 := ⟨by decide, by decide, by decide +kernel⟩
abbrev mJ2_indexOfChar_4cfef : XM := (yJ2_indexOfChar_4cfef, cJ2_indexOfChar_4cfef, 4, (some .int), [])
theorem cC_J2_indexOfChar_4cfef : Cond.code yJ2_indexOfChar_4cfef cJ2_indexOfChar_4cfef 4 (some .int) ∈ gtbl := gt_4 30 rfl rfl
theorem cS_J2_indexOfChar_4cfef : Cond.static yJ2_indexOfChar_4cfef ∈ gtbl := gt_4 29 rfl rfl
theorem cD_J2_indexOfChar_4cfef : xdesc yJ2_indexOfChar_4cfef 4 := ⟨by decide, by decide, by decide +kernel⟩
abbrev mJ2_checkBoundsBeginEnd_d044e : XM := (yJ2_checkBoundsBeginEnd_d044e, cJ2_checkBoundsBeginEnd_d044e, 3, none, [])
theorem cC_J2_checkBoundsBeginEnd_d044e : Cond.code yJ2_checkBoundsBeginEnd_d044e cJ2_checkBoundsBeginEnd_d044e 3 none ∈ gtbl := gt_4 33 rfl rfl
theorem cS_J2_checkBoundsBeginEnd_d044e : Cond.static yJ2_checkBoundsBeginEnd_d044e ∈ gtbl := gt_4 32 rfl rfl
theorem cD_J2_checkBoundsBeginEnd_d044e : xdesc yJ2_checkBoundsBeginEnd_d044e 3 := ⟨by decide, by decide, by decide +kernel⟩
abbrev mJ2_length_9d52b : XM := (yJ2_length_9d52b, cJ2_length_9d52b, 1, (some .int), [])
theorem cC_J2_length_9d52b : Cond.code yJ2_length_9d52b cJ2_length_9d52b 1 (some .int) ∈ gtbl := gt_4 36 rfl rfl
theorem cS_J2_length_9d52b : Cond.static yJ2_length_9d52b ∈ gtbl := gt_4 35 rfl rfl
theorem cD_J2_length_9d52b : xdesc yJ2_length_9d52b 1 := ⟨by decide, by decide, by decide +kernel⟩
abbrev mJ0_checkBoundsBeginEnd_23922 : XM := (yJ0_checkBoundsBeginEnd_23922, cJ0_checkBoundsBeginEnd_23922, 3, none, [])
theorem cC_J0_checkBoundsBeginEnd_23922 : Cond.code yJ0_checkBoundsBeginEnd_23922 cJ0_checkBoundsBeginEnd_23922 3 none ∈ gtbl := gt_4 39 rfl rfl
theorem cS_J0_checkBoundsBeginEnd_23922 : Cond.static yJ0_checkBoundsBeginEnd_23922 ∈ gtbl := gt_4 38 rfl rfl
theorem cD_J0_checkBoundsBeginEnd_23922 : xdesc yJ0_checkBoundsBeginEnd_23922 3 := ⟨by decide, by decide, by decide +kernel⟩
abbrev mJ3_checkFromToIndex_8c36e : XM := (yJ3_checkFromToIndex_8c36e, cJ3_checkFromToIndex_8c36e, 4, (some .int), [])
theorem cC_J3_checkFromToIndex_8c36e : Cond.code yJ3_checkFromToIndex_8c36e cJ3_checkFromToIndex_8c36e 4 (some .int) ∈ gtbl := gt_4 44 rfl rfl
theorem cS_J3_checkFromToIndex_8c36e : Cond.static yJ3_checkFromToIndex_8c36e ∈ gtbl := gt_4 43 rfl rfl
theorem cD_J3_checkFromToIndex_8c36e : xdesc yJ3_checkFromToIndex_8c36e 4 := ⟨by decide, by decide, by decide +kernel⟩
abbrev mJ2_indexOfCharUnsafe_4cfef : XM := (yJ2_indexOfCharUnsafe_4cfef, cJ2_indexOfCharUnsafe_4cfef, 5, (some .int), [])
theorem cC_J2_indexOfCharUnsafe_4cfef : Cond.code yJ2_indexOfCharUnsafe_4cfef cJ2_indexOfCharUnsafe_4cfef 5 (some .int) ∈ gtbl := gt_4 47 rfl rfl
theorem cS_J2_indexOfCharUnsafe_4cfef : Cond.static yJ2_indexOfCharUnsafe_4cfef ∈ gtbl := gt_4 46 rfl rfl
theorem cD_J2_indexOfCharUnsafe_4cfef : xdesc yJ2_indexOfCharUnsafe_4cfef 4 := ⟨by decide, by decide, by decide +kernel⟩
abbrev mJ2_getChar_3b067 : XM := (yJ2_getChar_3b067, cJ2_getChar_3b067, 2, (some .char), [])
theorem cC_J2_getChar_3b067 : Cond.code yJ2_getChar_3b067 cJ2_getChar_3b067 2 (some .char) ∈ gtbl := gt_4 50 rfl rfl
theorem cS_J2_getChar_3b067 : Cond.static yJ2_getChar_3b067 ∈ gtbl := gt_4 49 rfl rfl
theorem cD_J2_getChar_3b067 : xdesc yJ2_getChar_3b067 2 := ⟨by decide, by decide, by decide +kernel⟩
abbrev mJ2_indexOfSupplementary_4cfef : XM := (yJ2_indexOfSupplementary_4cfef, cJ2_indexOfSupplementary_4cfef, 7, (some .int), [])
theorem cC_J2_indexOfSupplementary_4cfef : Cond.code yJ2_indexOfSupplementary_4cfef cJ2_indexOfSupplementary_4cfef 7 (some .int) ∈ gtbl := gt_4 59 rfl rfl
theorem cS_J2_indexOfSupplementary_4cfef : Cond.static yJ2_indexOfSupplementary_4cfef ∈ gtbl := gt_4 58 rfl rfl
theorem cD_J2_indexOfSupplementary_4cfef : xdesc yJ2_indexOfSupplementary_4cfef 4 := ⟨by decide, by decide, by decide +kernel⟩
abbrev mJ11_isValidCodePoint_9a6ad : XM := (yJ11_isValidCodePoint_9a6ad, cJ11_isValidCodePoint_9a6ad, 2, (some .boolean), [])
theorem cC_J11_isValidCodePoint_9a6ad : Cond.code yJ11_isValidCodePoint_9a6ad cJ11_isValidCodePoint_9a6ad 2 (some .boolean) ∈ gtbl := gt_4 62 rfl rfl
theorem cS_J11_isValidCodePoint_9a6ad : Cond.static yJ11_isValidCodePoint_9a6ad ∈ gtbl := gt_4 61 rfl rfl
theorem cD_J11_isValidCodePoint_9a6ad : xdesc yJ11_isValidCodePoint_9a6ad 1 := ⟨by decide, by decide, by decide +kernel⟩
abbrev mJ11_highSurrogate_5068e : XM := (yJ11_highSurrogate_5068e, cJ11_highSurrogate_5068e, 1, (some .char), [])
theorem cC_J11_highSurrogate_5068e : Cond.code yJ11_highSurrogate_5068e cJ11_highSurrogate_5068e 1 (some .char) ∈ gtbl := gt_4 65 rfl rfl
theorem cS_J11_highSurrogate_5068e : Cond.static yJ11_highSurrogate_5068e ∈ gtbl := gt_4 64 rfl rfl
theorem cD_J11_highSurrogate_5068e : xdesc yJ11_highSurrogate_5068e 1 := ⟨by decide, by decide, by decide +kernel⟩
abbrev mJ11_lowSurrogate_5068e : XM := (yJ11_lowSurrogate_5068e, cJ11_lowSurrogate_5068e, 1, (some .char), [])
theorem cC_J11_lowSurrogate_5068e : Cond.code yJ11_lowSurrogate_5068e cJ11_lowSurrogate_5068e 1 (some .char) ∈ gtbl := gt_4 69 rfl rfl
theorem cS_J11_lowSurrogate_5068e : Cond.static yJ11_lowSurrogate_5068e ∈ gtbl := gt_4 68 rfl rfl
theorem cD_J11_lowSurrogate_5068e : xdesc yJ11_lowSurrogate_5068e 1 := ⟨by decide, by decide, by decide +kernel⟩
abbrev mX4_isWord : XM := (yX4_isWord, cX4_isWord, 3, (some .boolean), [])
theorem cC_X4_isWord : Cond.code yX4_isWord cX4_isWord 3 (some .boolean) ∈ gtbl := gt_4 75 rfl rfl
theorem cI_X4_isWord : Cond.instanceMethod yX4_isWord ∈ gtbl := gt_4 74 rfl rfl
theorem cE_X4_isWord : Cond.selects RX4 yX4_isWord yX4_isWord ∈ gtbl := gp_1 15 rfl
theorem cD_X4_isWord : xdesc yX4_isWord 1 := ⟨by decide, by decide, by decide +kernel⟩
abbrev mJ0_charAt_5068e : XM := (yJ0_charAt_5068e, cJ0_charAt_5068e, 2, (some .char), [])
theorem cC_J0_charAt_5068e : Cond.code yJ0_charAt_5068e cJ0_charAt_5068e 2 (some .char) ∈ gtbl := gt_4 80 rfl rfl
theorem cI_J0_charAt_5068e : Cond.instanceMethod yJ0_charAt_5068e ∈ gtbl := gt_4 78 rfl rfl
theorem cE_J0_charAt_5068e : Cond.selects RJ0 yJ0_charAt_5068e yJ0_charAt_5068e ∈ gtbl := gt_4 79 rfl rfl
theorem cD_J0_charAt_5068e : xdesc yJ0_charAt_5068e 1 := ⟨by decide, by decide, by decide +kernel⟩
abbrev mJ1_charAt_3b067 : XM := (yJ1_charAt_3b067, cJ1_charAt_3b067, 2, (some .char), [])
theorem cC_J1_charAt_3b067 : Cond.code yJ1_charAt_3b067 cJ1_charAt_3b067 2 (some .char) ∈ gtbl := gt_4 83 rfl rfl
theorem cS_J1_charAt_3b067 : Cond.static yJ1_charAt_3b067 ∈ gtbl := gt_4 82 rfl rfl
theorem cD_J1_charAt_3b067 : xdesc yJ1_charAt_3b067 2 := ⟨by decide, by decide, by decide +kernel⟩
abbrev mJ0_checkIndex_df160 : XM := (yJ0_checkIndex_df160, cJ0_checkIndex_df160, 2, none, [])
theorem cC_J0_checkIndex_df160 : Cond.code yJ0_checkIndex_df160 cJ0_checkIndex_df160 2 none ∈ gtbl := gt_4 86 rfl rfl
theorem cS_J0_checkIndex_df160 : Cond.static yJ0_checkIndex_df160 ∈ gtbl := gt_4 85 rfl rfl
theorem cD_J0_checkIndex_df160 : xdesc yJ0_checkIndex_df160 2 := ⟨by decide, by decide, by decide +kernel⟩
abbrev mJ3_checkIndex_8e157 : XM := (yJ3_checkIndex_8e157, cJ3_checkIndex_8e157, 3, (some .int), [])
theorem cC_J3_checkIndex_8e157 : Cond.code yJ3_checkIndex_8e157 cJ3_checkIndex_8e157 3 (some .int) ∈ gtbl := gt_4 89 rfl rfl
theorem cS_J3_checkIndex_8e157 : Cond.static yJ3_checkIndex_8e157 ∈ gtbl := gt_4 88 rfl rfl
theorem cD_J3_checkIndex_8e157 : xdesc yJ3_checkIndex_8e157 3 := ⟨by decide, by decide, by decide +kernel⟩
abbrev mJ2_charAt_3b067 : XM := (yJ2_charAt_3b067, cJ2_charAt_3b067, 2, (some .char), [])
theorem cC_J2_charAt_3b067 : Cond.code yJ2_charAt_3b067 cJ2_charAt_3b067 2 (some .char) ∈ gtbl := gt_4 92 rfl rfl
theorem cS_J2_charAt_3b067 : Cond.static yJ2_charAt_3b067 ∈ gtbl := gt_4 91 rfl rfl
theorem cD_J2_charAt_3b067 : xdesc yJ2_charAt_3b067 2 := ⟨by decide, by decide, by decide +kernel⟩
abbrev mJ2_checkIndex_2214a : XM := (yJ2_checkIndex_2214a, cJ2_checkIndex_2214a, 2, none, [])
theorem cC_J2_checkIndex_2214a : Cond.code yJ2_checkIndex_2214a cJ2_checkIndex_2214a 2 none ∈ gtbl := gt_4 95 rfl rfl
theorem cS_J2_checkIndex_2214a : Cond.static yJ2_checkIndex_2214a ∈ gtbl := gt_4 94 rfl rfl
theorem cD_J2_checkIndex_2214a : xdesc yJ2_checkIndex_2214a 2 := ⟨by decide, by decide, by decide +kernel⟩
abbrev mX4_readLast : XM := (yX4_readLast, cX4_readLast, 2, (some .boolean), [])
theorem cC_X4_readLast : Cond.code yX4_readLast cX4_readLast 2 (some .boolean) ∈ gtbl := gt_4 100 rfl rfl
theorem cI_X4_readLast : Cond.instanceMethod yX4_readLast ∈ gtbl := gt_4 99 rfl rfl
theorem cE_X4_readLast : Cond.selects RX4 yX4_readLast yX4_readLast ∈ gtbl := gp_2 0 rfl
theorem cD_X4_readLast : xdesc yX4_readLast 0 := ⟨by decide, by decide, by decide +kernel⟩
abbrev mX4_checkedNumber : XM := (yX4_checkedNumber, cX4_checkedNumber, 4, (some .int), [])
theorem cC_X4_checkedNumber : Cond.code yX4_checkedNumber cX4_checkedNumber 4 (some .int) ∈ gtbl := gt_4 104 rfl rfl
theorem cI_X4_checkedNumber : Cond.instanceMethod yX4_checkedNumber ∈ gtbl := gt_4 103 rfl rfl
theorem cE_X4_checkedNumber : Cond.selects RX4 yX4_checkedNumber yX4_checkedNumber ∈ gtbl := gp_2 1 rfl
theorem cD_X4_checkedNumber : xdesc yX4_checkedNumber 2 := ⟨by decide, by decide, by decide +kernel⟩
abbrev mX4_fail : XM := (yX4_fail, cX4_fail, 2, (some .boolean), [])
theorem cC_X4_fail : Cond.code yX4_fail cX4_fail 2 (some .boolean) ∈ gtbl := gt_4 108 rfl rfl
theorem cI_X4_fail : Cond.instanceMethod yX4_fail ∈ gtbl := gt_4 107 rfl rfl
theorem cE_X4_fail : Cond.selects RX4 yX4_fail yX4_fail ∈ gtbl := gp_2 2 rfl
theorem cD_X4_fail : xdesc yX4_fail 1 := ⟨by decide, by decide, by decide +kernel⟩
abbrev mX4_numberHere : XM := (yX4_numberHere, cX4_numberHere, 3, (some .int), [])
theorem cC_X4_numberHere : Cond.code yX4_numberHere cX4_numberHere 3 (some .int) ∈ gtbl := gt_4 112 rfl rfl
theorem cI_X4_numberHere : Cond.instanceMethod yX4_numberHere ∈ gtbl := gt_4 111 rfl rfl
theorem cE_X4_numberHere : Cond.selects RX4 yX4_numberHere yX4_numberHere ∈ gtbl := gp_2 3 rfl
theorem cD_X4_numberHere : xdesc yX4_numberHere 0 := ⟨by decide, by decide, by decide +kernel⟩
abbrev mX4_takeSign : XM := (yX4_takeSign, cX4_takeSign, 2, (some .boolean), [])
theorem cC_X4_takeSign : Cond.code yX4_takeSign cX4_takeSign 2 (some .boolean) ∈ gtbl := gt_4 116 rfl rfl
theorem cI_X4_takeSign : Cond.instanceMethod yX4_takeSign ∈ gtbl := gt_4 115 rfl rfl
theorem cE_X4_takeSign : Cond.selects RX4 yX4_takeSign yX4_takeSign ∈ gtbl := gp_2 4 rfl
theorem cD_X4_takeSign : xdesc yX4_takeSign 1 := ⟨by decide, by decide, by decide +kernel⟩
abbrev mX4_isSign : XM := (yX4_isSign, cX4_isSign, 2, (some .boolean), [])
theorem cC_X4_isSign : Cond.code yX4_isSign cX4_isSign 2 (some .boolean) ∈ gtbl := gt_4 120 rfl rfl
theorem cI_X4_isSign : Cond.instanceMethod yX4_isSign ∈ gtbl := gt_4 119 rfl rfl
theorem cE_X4_isSign : Cond.selects RX4 yX4_isSign yX4_isSign ∈ gtbl := gp_2 5 rfl
theorem cD_X4_isSign : xdesc yX4_isSign 1 := ⟨by decide, by decide, by decide +kernel⟩
abbrev mX4_readLine : XM := (yX4_readLine, cX4_readLine, 3, (some .boolean), [])
theorem cC_X4_readLine : Cond.code yX4_readLine cX4_readLine 3 (some .boolean) ∈ gtbl := gt_4 124 rfl rfl
theorem cI_X4_readLine : Cond.instanceMethod yX4_readLine ∈ gtbl := gt_4 123 rfl rfl
theorem cE_X4_readLine : Cond.selects RX4 yX4_readLine yX4_readLine ∈ gtbl := gp_2 6 rfl
theorem cD_X4_readLine : xdesc yX4_readLine 0 := ⟨by decide, by decide, by decide +kernel⟩
abbrev mX4_lineHere : XM := (yX4_lineHere, cX4_lineHere, 1, (some .int), [])
theorem cC_X4_lineHere : Cond.code yX4_lineHere cX4_lineHere 1 (some .int) ∈ gtbl := gt_4 128 rfl rfl
theorem cI_X4_lineHere : Cond.instanceMethod yX4_lineHere ∈ gtbl := gt_4 127 rfl rfl
theorem cE_X4_lineHere : Cond.selects RX4 yX4_lineHere yX4_lineHere ∈ gtbl := gp_2 7 rfl
theorem cD_X4_lineHere : xdesc yX4_lineHere 0 := ⟨by decide, by decide, by decide +kernel⟩
abbrev mX4_readExit : XM := (yX4_readExit, cX4_readExit, 3, (some .boolean), [])
theorem cC_X4_readExit : Cond.code yX4_readExit cX4_readExit 3 (some .boolean) ∈ gtbl := gt_4 139 rfl rfl
theorem cI_X4_readExit : Cond.instanceMethod yX4_readExit ∈ gtbl := gt_4 138 rfl rfl
theorem cE_X4_readExit : Cond.selects RX4 yX4_readExit yX4_readExit ∈ gtbl := gp_2 8 rfl
theorem cD_X4_readExit : xdesc yX4_readExit 0 := ⟨by decide, by decide, by decide +kernel⟩
abbrev mX5_isFoot : XM := (yX5_isFoot, cX5_isFoot, 2, (some .boolean), [])
theorem cC_X5_isFoot : Cond.code yX5_isFoot cX5_isFoot 2 (some .boolean) ∈ gtbl := gt_4 143 rfl rfl
theorem cI_X5_isFoot : Cond.instanceMethod yX5_isFoot ∈ gtbl := gt_4 141 rfl rfl
theorem cE_X5_isFoot : Cond.selects RX5 yX5_isFoot yX5_isFoot ∈ gtbl := gt_4 142 rfl rfl
theorem cD_X5_isFoot : xdesc yX5_isFoot 1 := ⟨by decide, by decide, by decide +kernel⟩
abbrev mX5_addExit : XM := (yX5_addExit, cX5_addExit, 3, none, [])
theorem cC_X5_addExit : Cond.code yX5_addExit cX5_addExit 3 none ∈ gtbl := gt_4 147 rfl rfl
theorem cI_X5_addExit : Cond.instanceMethod yX5_addExit ∈ gtbl := gt_4 145 rfl rfl
theorem cE_X5_addExit : Cond.selects RX5 yX5_addExit yX5_addExit ∈ gtbl := gt_4 146 rfl rfl
theorem cD_X5_addExit : xdesc yX5_addExit 2 := ⟨by decide, by decide, by decide +kernel⟩
abbrev mX4_readDie : XM := (yX4_readDie, cX4_readDie, 3, (some .boolean), [])
theorem cC_X4_readDie : Cond.code yX4_readDie cX4_readDie 3 (some .boolean) ∈ gtbl := gt_4 151 rfl rfl
theorem cI_X4_readDie : Cond.instanceMethod yX4_readDie ∈ gtbl := gt_4 150 rfl rfl
theorem cE_X4_readDie : Cond.selects RX4 yX4_readDie yX4_readDie ∈ gtbl := gp_2 9 rfl
theorem cD_X4_readDie : xdesc yX4_readDie 0 := ⟨by decide, by decide, by decide +kernel⟩
abbrev mX4_readEnd : XM := (yX4_readEnd, cX4_readEnd, 1, (some .boolean), [])
theorem cC_X4_readEnd : Cond.code yX4_readEnd cX4_readEnd 1 (some .boolean) ∈ gtbl := gt_4 157 rfl rfl
theorem cI_X4_readEnd : Cond.instanceMethod yX4_readEnd ∈ gtbl := gt_4 156 rfl rfl
theorem cE_X4_readEnd : Cond.selects RX4 yX4_readEnd yX4_readEnd ∈ gtbl := gp_2 10 rfl
theorem cD_X4_readEnd : xdesc yX4_readEnd 0 := ⟨by decide, by decide, by decide +kernel⟩
abbrev mX4_readAgain : XM := (yX4_readAgain, cX4_readAgain, 2, (some .boolean), [])
theorem cC_X4_readAgain : Cond.code yX4_readAgain cX4_readAgain 2 (some .boolean) ∈ gtbl := gt_4 164 rfl rfl
theorem cI_X4_readAgain : Cond.instanceMethod yX4_readAgain ∈ gtbl := gt_4 163 rfl rfl
theorem cE_X4_readAgain : Cond.selects RX4 yX4_readAgain yX4_readAgain ∈ gtbl := gp_2 11 rfl
theorem cD_X4_readAgain : xdesc yX4_readAgain 0 := ⟨by decide, by decide, by decide +kernel⟩
abbrev mX4_readPieces : XM := (yX4_readPieces, cX4_readPieces, 2, (some .boolean), [])
theorem cC_X4_readPieces : Cond.code yX4_readPieces cX4_readPieces 2 (some .boolean) ∈ gtbl := gt_4 168 rfl rfl
theorem cI_X4_readPieces : Cond.instanceMethod yX4_readPieces ∈ gtbl := gt_4 167 rfl rfl
theorem cE_X4_readPieces : Cond.selects RX4 yX4_readPieces yX4_readPieces ∈ gtbl := gp_2 12 rfl
theorem cD_X4_readPieces : xdesc yX4_readPieces 0 := ⟨by decide, by decide, by decide +kernel⟩
abbrev mX4_readGoes : XM := (yX4_readGoes, cX4_readGoes, 2, (some .boolean), [])
theorem cC_X4_readGoes : Cond.code yX4_readGoes cX4_readGoes 2 (some .boolean) ∈ gtbl := gt_4 172 rfl rfl
theorem cI_X4_readGoes : Cond.instanceMethod yX4_readGoes ∈ gtbl := gt_4 171 rfl rfl
theorem cE_X4_readGoes : Cond.selects RX4 yX4_readGoes yX4_readGoes ∈ gtbl := gp_2 13 rfl
theorem cD_X4_readGoes : xdesc yX4_readGoes 0 := ⟨by decide, by decide, by decide +kernel⟩
abbrev mX0_begin : XM := (yX0_begin, cX0_begin, 1, none, [])
theorem cC_X0_begin : Cond.code yX0_begin cX0_begin 1 none ∈ gtbl := gt_4 176 rfl rfl
theorem cI_X0_begin : Cond.instanceMethod yX0_begin ∈ gtbl := gt_4 174 rfl rfl
theorem cE_X0_begin : Cond.selects RX0 yX0_begin yX0_begin ∈ gtbl := gt_4 175 rfl rfl
theorem cD_X0_begin : xdesc yX0_begin 0 := ⟨by decide, by decide, by decide +kernel⟩
abbrev mX4_readExpr : XM := (yX4_readExpr, cX4_readExpr, 3, (some .boolean), [])
theorem cC_X4_readExpr : Cond.code yX4_readExpr cX4_readExpr 3 (some .boolean) ∈ gtbl := gt_4 180 rfl rfl
theorem cI_X4_readExpr : Cond.instanceMethod yX4_readExpr ∈ gtbl := gt_4 179 rfl rfl
theorem cE_X4_readExpr : Cond.selects RX4 yX4_readExpr yX4_readExpr ∈ gtbl := gp_2 14 rfl
theorem cD_X4_readExpr : xdesc yX4_readExpr 1 := ⟨by decide, by decide, by decide +kernel⟩
abbrev mX4_readAnd : XM := (yX4_readAnd, cX4_readAnd, 3, (some .boolean), [])
theorem cC_X4_readAnd : Cond.code yX4_readAnd cX4_readAnd 3 (some .boolean) ∈ gtbl := gt_4 184 rfl rfl
theorem cI_X4_readAnd : Cond.instanceMethod yX4_readAnd ∈ gtbl := gt_4 183 rfl rfl
theorem cE_X4_readAnd : Cond.selects RX4 yX4_readAnd yX4_readAnd ∈ gtbl := gp_2 15 rfl
theorem cD_X4_readAnd : xdesc yX4_readAnd 1 := ⟨by decide, by decide, by decide +kernel⟩
abbrev mX4_readNot : XM := (yX4_readNot, cX4_readNot, 4, (some .boolean), [])
theorem cC_X4_readNot : Cond.code yX4_readNot cX4_readNot 4 (some .boolean) ∈ gtbl := gt_4 188 rfl rfl
theorem cI_X4_readNot : Cond.instanceMethod yX4_readNot ∈ gtbl := gt_4 187 rfl rfl
theorem cE_X4_readNot : Cond.selects RX4 yX4_readNot yX4_readNot ∈ gtbl := gp_3 0 rfl
theorem cD_X4_readNot : xdesc yX4_readNot 1 := ⟨by decide, by decide, by decide +kernel⟩
abbrev mX4_readTest : XM := (yX4_readTest, cX4_readTest, 3, (some .boolean), [])
theorem cC_X4_readTest : Cond.code yX4_readTest cX4_readTest 3 (some .boolean) ∈ gtbl := gt_4 193 rfl rfl
theorem cI_X4_readTest : Cond.instanceMethod yX4_readTest ∈ gtbl := gt_4 192 rfl rfl
theorem cE_X4_readTest : Cond.selects RX4 yX4_readTest yX4_readTest ∈ gtbl := gp_3 1 rfl
theorem cD_X4_readTest : xdesc yX4_readTest 1 := ⟨by decide, by decide, by decide +kernel⟩
abbrev mX4_readSum : XM := (yX4_readSum, cX4_readSum, 4, (some .boolean), [])
theorem cC_X4_readSum : Cond.code yX4_readSum cX4_readSum 4 (some .boolean) ∈ gtbl := gt_4 197 rfl rfl
theorem cI_X4_readSum : Cond.instanceMethod yX4_readSum ∈ gtbl := gt_4 196 rfl rfl
theorem cE_X4_readSum : Cond.selects RX4 yX4_readSum yX4_readSum ∈ gtbl := gp_3 2 rfl
theorem cD_X4_readSum : xdesc yX4_readSum 1 := ⟨by decide, by decide, by decide +kernel⟩
abbrev mX4_readProduct : XM := (yX4_readProduct, cX4_readProduct, 4, (some .boolean), [])
theorem cC_X4_readProduct : Cond.code yX4_readProduct cX4_readProduct 4 (some .boolean) ∈ gtbl := gt_4 201 rfl rfl
theorem cI_X4_readProduct : Cond.instanceMethod yX4_readProduct ∈ gtbl := gt_4 200 rfl rfl
theorem cE_X4_readProduct : Cond.selects RX4 yX4_readProduct yX4_readProduct ∈ gtbl := gp_3 3 rfl
theorem cD_X4_readProduct : xdesc yX4_readProduct 1 := ⟨by decide, by decide, by decide +kernel⟩
abbrev mX4_readPart : XM := (yX4_readPart, cX4_readPart, 3, (some .boolean), [])
theorem cC_X4_readPart : Cond.code yX4_readPart cX4_readPart 3 (some .boolean) ∈ gtbl := gt_4 205 rfl rfl
theorem cI_X4_readPart : Cond.instanceMethod yX4_readPart ∈ gtbl := gt_4 204 rfl rfl
theorem cE_X4_readPart : Cond.selects RX4 yX4_readPart yX4_readPart ∈ gtbl := gp_3 4 rfl
theorem cD_X4_readPart : xdesc yX4_readPart 1 := ⟨by decide, by decide, by decide +kernel⟩
abbrev mX4_readValue : XM := (yX4_readValue, cX4_readValue, 1, (some .boolean), [])
theorem cC_X4_readValue : Cond.code yX4_readValue cX4_readValue 1 (some .boolean) ∈ gtbl := gt_4 209 rfl rfl
theorem cI_X4_readValue : Cond.instanceMethod yX4_readValue ∈ gtbl := gt_4 208 rfl rfl
theorem cE_X4_readValue : Cond.selects RX4 yX4_readValue yX4_readValue ∈ gtbl := gp_3 5 rfl
theorem cD_X4_readValue : xdesc yX4_readValue 0 := ⟨by decide, by decide, by decide +kernel⟩
abbrev mX4_keepText : XM := (yX4_keepText, cX4_keepText, 8, none, [])
theorem cC_X4_keepText : Cond.code yX4_keepText cX4_keepText 8 none ∈ gtbl := gt_4 219 rfl rfl
theorem cI_X4_keepText : Cond.instanceMethod yX4_keepText ∈ gtbl := gt_4 218 rfl rfl
theorem cE_X4_keepText : Cond.selects RX4 yX4_keepText yX4_keepText ∈ gtbl := gp_3 6 rfl
theorem cD_X4_keepText : xdesc yX4_keepText 2 := ⟨by decide, by decide, by decide +kernel⟩
abbrev mX0_addSign : XM := (yX0_addSign, cX0_addSign, 2, none, [])
theorem cC_X0_addSign : Cond.code yX0_addSign cX0_addSign 2 none ∈ gtbl := gt_4 223 rfl rfl
theorem cI_X0_addSign : Cond.instanceMethod yX0_addSign ∈ gtbl := gt_4 221 rfl rfl
theorem cE_X0_addSign : Cond.selects RX0 yX0_addSign yX0_addSign ∈ gtbl := gt_4 222 rfl rfl
theorem cD_X0_addSign : xdesc yX0_addSign 1 := ⟨by decide, by decide, by decide +kernel⟩
abbrev mX4_exchange : XM := (yX4_exchange, cX4_exchange, 3, (some (.object "SnakeBoard$Rules")), [])
theorem cC_X4_exchange : Cond.code yX4_exchange cX4_exchange 3 (some (.object "SnakeBoard$Rules")) ∈ gtbl := gt_4 227 rfl rfl
theorem cI_X4_exchange : Cond.instanceMethod yX4_exchange ∈ gtbl := gt_4 225 rfl rfl
theorem cE_X4_exchange : Cond.selects RX4 yX4_exchange yX4_exchange ∈ gtbl := gt_4 226 rfl rfl
theorem cD_X4_exchange : xdesc yX4_exchange 1 := ⟨by decide, by decide, by decide +kernel⟩
abbrev mX10_count : XM := (yX10_count, cX10_count, 2, (some .int), [])
theorem cC_X10_count : Cond.code yX10_count cX10_count 2 (some .int) ∈ gtbl := gt_4 236 rfl rfl
theorem cI_X10_count : Cond.instanceMethod yX10_count ∈ gtbl := gt_4 234 rfl rfl
theorem cE_X10_count : Cond.selects RX10 yX10_count yX10_count ∈ gtbl := gt_4 235 rfl rfl
theorem cD_X10_count : xdesc yX10_count 1 := ⟨by decide, by decide, by decide +kernel⟩
abbrev mX7_refusedOf : XM := (yX7_refusedOf, cX7_refusedOf, 2, (some .int), [])
theorem cC_X7_refusedOf : Cond.code yX7_refusedOf cX7_refusedOf 2 (some .int) ∈ gtbl := gt_5 0 rfl rfl
theorem cI_X7_refusedOf : Cond.instanceMethod yX7_refusedOf ∈ gtbl := gt_4 238 rfl rfl
theorem cE_X7_refusedOf : Cond.selects RX7 yX7_refusedOf yX7_refusedOf ∈ gtbl := gt_4 239 rfl rfl
theorem cD_X7_refusedOf : xdesc yX7_refusedOf 1 := ⟨by decide, by decide, by decide +kernel⟩
abbrev mX10_exit : XM := (yX10_exit, cX10_exit, 3, (some .int), [])
theorem cC_X10_exit : Cond.code yX10_exit cX10_exit 3 (some .int) ∈ gtbl := gt_5 22 rfl rfl
theorem cI_X10_exit : Cond.instanceMethod yX10_exit ∈ gtbl := gt_5 20 rfl rfl
theorem cE_X10_exit : Cond.selects RX10 yX10_exit yX10_exit ∈ gtbl := gt_5 21 rfl rfl
theorem cD_X10_exit : xdesc yX10_exit 2 := ⟨by decide, by decide, by decide +kernel⟩
abbrev mX10_needExit : XM := (yX10_needExit, cX10_needExit, 2, none, [])
theorem cC_X10_needExit : Cond.code yX10_needExit cX10_needExit 2 none ∈ gtbl := gt_5 26 rfl rfl
theorem cI_X10_needExit : Cond.instanceMethod yX10_needExit ∈ gtbl := gt_5 25 rfl rfl
theorem cE_X10_needExit : Cond.selects RX10 yX10_needExit yX10_needExit ∈ gtbl := gp_3 7 rfl
theorem cD_X10_needExit : xdesc yX10_needExit 1 := ⟨by decide, by decide, by decide +kernel⟩
abbrev mX10_goes : XM := (yX10_goes, cX10_goes, 3, (some .int), [])
theorem cC_X10_goes : Cond.code yX10_goes cX10_goes 3 (some .int) ∈ gtbl := gt_5 35 rfl rfl
theorem cI_X10_goes : Cond.instanceMethod yX10_goes ∈ gtbl := gt_5 33 rfl rfl
theorem cE_X10_goes : Cond.selects RX10 yX10_goes yX10_goes ∈ gtbl := gt_5 34 rfl rfl
theorem cD_X10_goes : xdesc yX10_goes 2 := ⟨by decide, by decide, by decide +kernel⟩
abbrev mX10_needSquare : XM := (yX10_needSquare, cX10_needSquare, 2, none, [])
theorem cC_X10_needSquare : Cond.code yX10_needSquare cX10_needSquare 2 none ∈ gtbl := gt_5 39 rfl rfl
theorem cI_X10_needSquare : Cond.instanceMethod yX10_needSquare ∈ gtbl := gt_5 38 rfl rfl
theorem cE_X10_needSquare : Cond.selects RX10 yX10_needSquare yX10_needSquare ∈ gtbl := gp_3 8 rfl
theorem cD_X10_needSquare : xdesc yX10_needSquare 1 := ⟨by decide, by decide, by decide +kernel⟩
abbrev mX10_needFace : XM := (yX10_needFace, cX10_needFace, 2, none, [])
theorem cC_X10_needFace : Cond.code yX10_needFace cX10_needFace 2 none ∈ gtbl := gt_5 43 rfl rfl
theorem cI_X10_needFace : Cond.instanceMethod yX10_needFace ∈ gtbl := gt_5 42 rfl rfl
theorem cE_X10_needFace : Cond.selects RX10 yX10_needFace yX10_needFace ∈ gtbl := gp_3 9 rfl
theorem cD_X10_needFace : xdesc yX10_needFace 1 := ⟨by decide, by decide, by decide +kernel⟩
abbrev mX10_roll : XM := (yX10_roll, cX10_roll, 3, (some .int), [])
theorem cC_X10_roll : Cond.code yX10_roll cX10_roll 3 (some .int) ∈ gtbl := gt_5 51 rfl rfl
theorem cI_X10_roll : Cond.instanceMethod yX10_roll ∈ gtbl := gt_5 49 rfl rfl
theorem cE_X10_roll : Cond.selects RX10 yX10_roll yX10_roll ∈ gtbl := gt_5 50 rfl rfl
theorem cD_X10_roll : xdesc yX10_roll 1 := ⟨by decide, by decide, by decide +kernel⟩
abbrev mX7_move : XM := (yX7_move, cX7_move, 6, (some .int), [])
theorem cC_X7_move : Cond.code yX7_move cX7_move 6 (some .int) ∈ gtbl := gt_5 55 rfl rfl
theorem cI_X7_move : Cond.instanceMethod yX7_move ∈ gtbl := gt_5 53 rfl rfl
theorem cE_X7_move : Cond.selects RX7 yX7_move yX7_move ∈ gtbl := gt_5 54 rfl rfl
theorem cD_X7_move : xdesc yX7_move 3 := ⟨by decide, by decide, by decide +kernel⟩
abbrev mX7_canMove : XM := (yX7_canMove, cX7_canMove, 1, (some .boolean), [])
theorem cC_X7_canMove : Cond.code yX7_canMove cX7_canMove 1 (some .boolean) ∈ gtbl := gt_5 59 rfl rfl
theorem cI_X7_canMove : Cond.instanceMethod yX7_canMove ∈ gtbl := gt_5 57 rfl rfl
theorem cE_X7_canMove : Cond.selects RX7 yX7_canMove yX7_canMove ∈ gtbl := gt_5 58 rfl rfl
theorem cD_X7_canMove : xdesc yX7_canMove 0 := ⟨by decide, by decide, by decide +kernel⟩
abbrev mX7_placeOf : XM := (yX7_placeOf, cX7_placeOf, 2, (some .int), [])
theorem cC_X7_placeOf : Cond.code yX7_placeOf cX7_placeOf 2 (some .int) ∈ gtbl := gt_5 63 rfl rfl
theorem cI_X7_placeOf : Cond.instanceMethod yX7_placeOf ∈ gtbl := gt_5 61 rfl rfl
theorem cE_X7_placeOf : Cond.selects RX7 yX7_placeOf yX7_placeOf ∈ gtbl := gt_5 62 rfl rfl
theorem cD_X7_placeOf : xdesc yX7_placeOf 1 := ⟨by decide, by decide, by decide +kernel⟩
abbrev mX7_putLog : XM := (yX7_putLog, cX7_putLog, 4, none, [])
theorem cC_X7_putLog : Cond.code yX7_putLog cX7_putLog 4 none ∈ gtbl := gt_5 68 rfl rfl
theorem cI_X7_putLog : Cond.instanceMethod yX7_putLog ∈ gtbl := gt_5 67 rfl rfl
theorem cE_X7_putLog : Cond.selects RX7 yX7_putLog yX7_putLog ∈ gtbl := gp_3 10 rfl
theorem cD_X7_putLog : xdesc yX7_putLog 2 := ⟨by decide, by decide, by decide +kernel⟩
abbrev mX7_sendBack : XM := (yX7_sendBack, cX7_sendBack, 4, (some .int), [])
theorem cC_X7_sendBack : Cond.code yX7_sendBack cX7_sendBack 4 (some .int) ∈ gtbl := gt_5 72 rfl rfl
theorem cI_X7_sendBack : Cond.instanceMethod yX7_sendBack ∈ gtbl := gt_5 71 rfl rfl
theorem cE_X7_sendBack : Cond.selects RX7 yX7_sendBack yX7_sendBack ∈ gtbl := gp_3 11 rfl
theorem cD_X7_sendBack : xdesc yX7_sendBack 1 := ⟨by decide, by decide, by decide +kernel⟩
abbrev mX7_nextTurn : XM := (yX7_nextTurn, cX7_nextTurn, 5, (some .int), [])
theorem cC_X7_nextTurn : Cond.code yX7_nextTurn cX7_nextTurn 5 (some .int) ∈ gtbl := gt_5 76 rfl rfl
theorem cI_X7_nextTurn : Cond.instanceMethod yX7_nextTurn ∈ gtbl := gt_5 75 rfl rfl
theorem cE_X7_nextTurn : Cond.selects RX7 yX7_nextTurn yX7_nextTurn ∈ gtbl := gp_3 12 rfl
theorem cD_X7_nextTurn : xdesc yX7_nextTurn 2 := ⟨by decide, by decide, by decide +kernel⟩
abbrev mX10_rolls : XM := (yX10_rolls, cX10_rolls, 6, (some .int), [])
theorem cC_X10_rolls : Cond.code yX10_rolls cX10_rolls 6 (some .int) ∈ gtbl := gt_5 83 rfl rfl
theorem cI_X10_rolls : Cond.instanceMethod yX10_rolls ∈ gtbl := gt_5 81 rfl rfl
theorem cE_X10_rolls : Cond.selects RX10 yX10_rolls yX10_rolls ∈ gtbl := gt_5 82 rfl rfl
theorem cD_X10_rolls : xdesc yX10_rolls 2 := ⟨by decide, by decide, by decide +kernel⟩
abbrev mX10_nextSeed : XM := (yX10_nextSeed, cX10_nextSeed, 1, (some .int), [])
theorem cC_X10_nextSeed : Cond.code yX10_nextSeed cX10_nextSeed 1 (some .int) ∈ gtbl := gt_5 87 rfl rfl
theorem cS_X10_nextSeed : Cond.static yX10_nextSeed ∈ gtbl := gt_5 86 rfl rfl
theorem cD_X10_nextSeed : xdesc yX10_nextSeed 1 := ⟨by decide, by decide, by decide +kernel⟩
abbrev mX10_drawn : XM := (yX10_drawn, cX10_drawn, 2, (some .int), [])
theorem cC_X10_drawn : Cond.code yX10_drawn cX10_drawn 2 (some .int) ∈ gtbl := gt_5 91 rfl rfl
theorem cS_X10_drawn : Cond.static yX10_drawn ∈ gtbl := gt_5 90 rfl rfl
theorem cD_X10_drawn : xdesc yX10_drawn 2 := ⟨by decide, by decide, by decide +kernel⟩
abbrev mX5_faceOf : XM := (yX5_faceOf, cX5_faceOf, 4, (some .int), [])
theorem cC_X5_faceOf : Cond.code yX5_faceOf cX5_faceOf 4 (some .int) ∈ gtbl := gt_5 95 rfl rfl
theorem cI_X5_faceOf : Cond.instanceMethod yX5_faceOf ∈ gtbl := gt_5 93 rfl rfl
theorem cE_X5_faceOf : Cond.selects RX5 yX5_faceOf yX5_faceOf ∈ gtbl := gt_5 94 rfl rfl
theorem cD_X5_faceOf : xdesc yX5_faceOf 1 := ⟨by decide, by decide, by decide +kernel⟩
abbrev mX10_piece : XM := (yX10_piece, cX10_piece, 2, (some .int), [])
theorem cC_X10_piece : Cond.code yX10_piece cX10_piece 2 (some .int) ∈ gtbl := gt_5 102 rfl rfl
theorem cI_X10_piece : Cond.instanceMethod yX10_piece ∈ gtbl := gt_5 100 rfl rfl
theorem cE_X10_piece : Cond.selects RX10 yX10_piece yX10_piece ∈ gtbl := gt_5 101 rfl rfl
theorem cD_X10_piece : xdesc yX10_piece 1 := ⟨by decide, by decide, by decide +kernel⟩
abbrev mX10_rolled : XM := (yX10_rolled, cX10_rolled, 3, (some .int), [])
theorem cC_X10_rolled : Cond.code yX10_rolled cX10_rolled 3 (some .int) ∈ gtbl := gt_5 110 rfl rfl
theorem cI_X10_rolled : Cond.instanceMethod yX10_rolled ∈ gtbl := gt_5 108 rfl rfl
theorem cE_X10_rolled : Cond.selects RX10 yX10_rolled yX10_rolled ∈ gtbl := gt_5 109 rfl rfl
theorem cD_X10_rolled : xdesc yX10_rolled 2 := ⟨by decide, by decide, by decide +kernel⟩
abbrev mX10_fewest : XM := (yX10_fewest, cX10_fewest, 2, (some .int), [])
theorem cC_X10_fewest : Cond.code yX10_fewest cX10_fewest 2 (some .int) ∈ gtbl := gt_5 118 rfl rfl
theorem cI_X10_fewest : Cond.instanceMethod yX10_fewest ∈ gtbl := gt_5 116 rfl rfl
theorem cE_X10_fewest : Cond.selects RX10 yX10_fewest yX10_fewest ∈ gtbl := gt_5 117 rfl rfl
theorem cD_X10_fewest : xdesc yX10_fewest 1 := ⟨by decide, by decide, by decide +kernel⟩
abbrev mX8_findHome : XM := (yX8_findHome, cX8_findHome, 6, none, [])
theorem cC_X8_findHome : Cond.code yX8_findHome cX8_findHome 6 none ∈ gtbl := gt_5 122 rfl rfl
theorem cI_X8_findHome : Cond.instanceMethod yX8_findHome ∈ gtbl := gt_5 120 rfl rfl
theorem cE_X8_findHome : Cond.selects RX8 yX8_findHome yX8_findHome ∈ gtbl := gt_5 121 rfl rfl
theorem cD_X8_findHome : xdesc yX8_findHome 2 := ⟨by decide, by decide, by decide +kernel⟩
abbrev mX8_reach : XM := (yX8_reach, cX8_reach, 3, none, [])
theorem cC_X8_reach : Cond.code yX8_reach cX8_reach 3 none ∈ gtbl := gt_5 127 rfl rfl
theorem cI_X8_reach : Cond.instanceMethod yX8_reach ∈ gtbl := gt_5 126 rfl rfl
theorem cE_X8_reach : Cond.selects RX8 yX8_reach yX8_reach ∈ gtbl := gp_3 13 rfl
theorem cD_X8_reach : xdesc yX8_reach 2 := ⟨by decide, by decide, by decide +kernel⟩
abbrev mX8_throwsOf : XM := (yX8_throwsOf, cX8_throwsOf, 2, (some .int), [])
theorem cC_X8_throwsOf : Cond.code yX8_throwsOf cX8_throwsOf 2 (some .int) ∈ gtbl := gt_5 131 rfl rfl
theorem cI_X8_throwsOf : Cond.instanceMethod yX8_throwsOf ∈ gtbl := gt_5 129 rfl rfl
theorem cE_X8_throwsOf : Cond.selects RX8 yX8_throwsOf yX8_throwsOf ∈ gtbl := gt_5 130 rfl rfl
theorem cD_X8_throwsOf : xdesc yX8_throwsOf 1 := ⟨by decide, by decide, by decide +kernel⟩
abbrev mX8_enqueue : XM := (yX8_enqueue, cX8_enqueue, 2, none, [])
theorem cC_X8_enqueue : Cond.code yX8_enqueue cX8_enqueue 2 none ∈ gtbl := gt_5 135 rfl rfl
theorem cI_X8_enqueue : Cond.instanceMethod yX8_enqueue ∈ gtbl := gt_5 134 rfl rfl
theorem cE_X8_enqueue : Cond.selects RX8 yX8_enqueue yX8_enqueue ∈ gtbl := gp_3 14 rfl
theorem cD_X8_enqueue : xdesc yX8_enqueue 1 := ⟨by decide, by decide, by decide +kernel⟩
abbrev mX8_faceTo : XM := (yX8_faceTo, cX8_faceTo, 5, (some .int), [])
theorem cC_X8_faceTo : Cond.code yX8_faceTo cX8_faceTo 5 (some .int) ∈ gtbl := gt_5 138 rfl rfl
theorem cS_X8_faceTo : Cond.static yX8_faceTo ∈ gtbl := gt_5 137 rfl rfl
theorem cD_X8_faceTo : xdesc yX8_faceTo 4 := ⟨by decide, by decide, by decide +kernel⟩
abbrev mX8_keepFewest : XM := (yX8_keepFewest, cX8_keepFewest, 8, (some .int), [])
theorem cC_X8_keepFewest : Cond.code yX8_keepFewest cX8_keepFewest 8 (some .int) ∈ gtbl := gt_5 144 rfl rfl
theorem cI_X8_keepFewest : Cond.instanceMethod yX8_keepFewest ∈ gtbl := gt_5 142 rfl rfl
theorem cE_X8_keepFewest : Cond.selects RX8 yX8_keepFewest yX8_keepFewest ∈ gtbl := gt_5 143 rfl rfl
theorem cD_X8_keepFewest : xdesc yX8_keepFewest 3 := ⟨by decide, by decide, by decide +kernel⟩
abbrev mX8_faceNearer : XM := (yX8_faceNearer, cX8_faceNearer, 5, (some .int), [])
theorem cC_X8_faceNearer : Cond.code yX8_faceNearer cX8_faceNearer 5 (some .int) ∈ gtbl := gt_5 148 rfl rfl
theorem cI_X8_faceNearer : Cond.instanceMethod yX8_faceNearer ∈ gtbl := gt_5 147 rfl rfl
theorem cE_X8_faceNearer : Cond.selects RX8 yX8_faceNearer yX8_faceNearer ∈ gtbl := gp_3 15 rfl
theorem cD_X8_faceNearer : xdesc yX8_faceNearer 3 := ⟨by decide, by decide, by decide +kernel⟩
abbrev mX10_row : XM := (yX10_row, cX10_row, 2, (some .int), [])
theorem cC_X10_row : Cond.code yX10_row cX10_row 2 (some .int) ∈ gtbl := gt_5 155 rfl rfl
theorem cI_X10_row : Cond.instanceMethod yX10_row ∈ gtbl := gt_5 153 rfl rfl
theorem cE_X10_row : Cond.selects RX10 yX10_row yX10_row ∈ gtbl := gt_5 154 rfl rfl
theorem cD_X10_row : xdesc yX10_row 1 := ⟨by decide, by decide, by decide +kernel⟩
abbrev mX10_never : XM := (yX10_never, cX10_never, 2, (some .boolean), [])
theorem cC_X10_never : Cond.code yX10_never cX10_never 2 (some .boolean) ∈ gtbl := gt_5 162 rfl rfl
theorem cI_X10_never : Cond.instanceMethod yX10_never ∈ gtbl := gt_5 160 rfl rfl
theorem cE_X10_never : Cond.selects RX10 yX10_never yX10_never ∈ gtbl := gt_5 161 rfl rfl
theorem cD_X10_never : xdesc yX10_never 1 := ⟨by decide, by decide, by decide +kernel⟩
abbrev mX8_findFrom : XM := (yX8_findFrom, cX8_findFrom, 8, none, [])
theorem cC_X8_findFrom : Cond.code yX8_findFrom cX8_findFrom 8 none ∈ gtbl := gt_5 166 rfl rfl
theorem cI_X8_findFrom : Cond.instanceMethod yX8_findFrom ∈ gtbl := gt_5 164 rfl rfl
theorem cE_X8_findFrom : Cond.selects RX8 yX8_findFrom yX8_findFrom ∈ gtbl := gt_5 165 rfl rfl
theorem cD_X8_findFrom : xdesc yX8_findFrom 3 := ⟨by decide, by decide, by decide +kernel⟩
abbrev mX10_lost : XM := (yX10_lost, cX10_lost, 2, (some .boolean), [])
theorem cC_X10_lost : Cond.code yX10_lost cX10_lost 2 (some .boolean) ∈ gtbl := gt_5 174 rfl rfl
theorem cI_X10_lost : Cond.instanceMethod yX10_lost ∈ gtbl := gt_5 172 rfl rfl
theorem cE_X10_lost : Cond.selects RX10 yX10_lost yX10_lost ∈ gtbl := gt_5 173 rfl rfl
theorem cD_X10_lost : xdesc yX10_lost 1 := ⟨by decide, by decide, by decide +kernel⟩
abbrev mX10_round : XM := (yX10_round, cX10_round, 2, (some .int), [])
theorem cC_X10_round : Cond.code yX10_round cX10_round 2 (some .int) ∈ gtbl := gt_5 181 rfl rfl
theorem cI_X10_round : Cond.instanceMethod yX10_round ∈ gtbl := gt_5 179 rfl rfl
theorem cE_X10_round : Cond.selects RX10 yX10_round yX10_round ∈ gtbl := gt_5 180 rfl rfl
theorem cD_X10_round : xdesc yX10_round 1 := ⟨by decide, by decide, by decide +kernel⟩
abbrev mX10_grains : XM := (yX10_grains, cX10_grains, 7, (some .long), [])
theorem cC_X10_grains : Cond.code yX10_grains cX10_grains 7 (some .long) ∈ gtbl := gt_5 188 rfl rfl
theorem cI_X10_grains : Cond.instanceMethod yX10_grains ∈ gtbl := gt_5 186 rfl rfl
theorem cE_X10_grains : Cond.selects RX10 yX10_grains yX10_grains ∈ gtbl := gt_5 187 rfl rfl
theorem cD_X10_grains : xdesc yX10_grains 3 := ⟨by decide, by decide, by decide +kernel⟩
abbrev mX10_needWhat : XM := (yX10_needWhat, cX10_needWhat, 3, none, [])
theorem cC_X10_needWhat : Cond.code yX10_needWhat cX10_needWhat 3 none ∈ gtbl := gt_5 192 rfl rfl
theorem cI_X10_needWhat : Cond.instanceMethod yX10_needWhat ∈ gtbl := gt_5 191 rfl rfl
theorem cE_X10_needWhat : Cond.selects RX10 yX10_needWhat yX10_needWhat ∈ gtbl := gp_4 0 rfl
theorem cD_X10_needWhat : xdesc yX10_needWhat 2 := ⟨by decide, by decide, by decide +kernel⟩
abbrev mX10_needThrows : XM := (yX10_needThrows, cX10_needThrows, 2, none, [])
theorem cC_X10_needThrows : Cond.code yX10_needThrows cX10_needThrows 2 none ∈ gtbl := gt_5 196 rfl rfl
theorem cI_X10_needThrows : Cond.instanceMethod yX10_needThrows ∈ gtbl := gt_5 195 rfl rfl
theorem cE_X10_needThrows : Cond.selects RX10 yX10_needThrows yX10_needThrows ∈ gtbl := gp_4 1 rfl
theorem cD_X10_needThrows : xdesc yX10_needThrows 1 := ⟨by decide, by decide, by decide +kernel⟩
abbrev mX6_sumOut : XM := (yX6_sumOut, cX6_sumOut, 8, (some .long), [])
theorem cC_X6_sumOut : Cond.code yX6_sumOut cX6_sumOut 8 (some .long) ∈ gtbl := gt_5 200 rfl rfl
theorem cI_X6_sumOut : Cond.instanceMethod yX6_sumOut ∈ gtbl := gt_5 198 rfl rfl
theorem cE_X6_sumOut : Cond.selects RX6 yX6_sumOut yX6_sumOut ∈ gtbl := gt_5 199 rfl rfl
theorem cD_X6_sumOut : xdesc yX6_sumOut 4 := ⟨by decide, by decide, by decide +kernel⟩
abbrev mX6_pour : XM := (yX6_pour, cX6_pour, 3, none, [])
theorem cC_X6_pour : Cond.code yX6_pour cX6_pour 3 none ∈ gtbl := gt_5 204 rfl rfl
theorem cI_X6_pour : Cond.instanceMethod yX6_pour ∈ gtbl := gt_5 202 rfl rfl
theorem cE_X6_pour : Cond.selects RX6 yX6_pour yX6_pour ∈ gtbl := gt_5 203 rfl rfl
theorem cD_X6_pour : xdesc yX6_pour 2 := ⟨by decide, by decide, by decide +kernel⟩
abbrev mX6_add : XM := (yX6_add, cX6_add, 4, none, [])
theorem cC_X6_add : Cond.code yX6_add cX6_add 4 none ∈ gtbl := gt_5 209 rfl rfl
theorem cS_X6_add : Cond.static yX6_add ∈ gtbl := gt_5 208 rfl rfl
theorem cD_X6_add : xdesc yX6_add 3 := ⟨by decide, by decide, by decide +kernel⟩
abbrev mX6_out : XM := (yX6_out, cX6_out, 1, (some .long), [])
theorem cC_X6_out : Cond.code yX6_out cX6_out 1 (some .long) ∈ gtbl := gt_5 213 rfl rfl
theorem cI_X6_out : Cond.instanceMethod yX6_out ∈ gtbl := gt_5 211 rfl rfl
theorem cE_X6_out : Cond.selects RX6 yX6_out yX6_out ∈ gtbl := gt_5 212 rfl rfl
theorem cD_X6_out : xdesc yX6_out 0 := ⟨by decide, by decide, by decide +kernel⟩
abbrev mX6_on : XM := (yX6_on, cX6_on, 2, (some .long), [])
theorem cC_X6_on : Cond.code yX6_on cX6_on 2 (some .long) ∈ gtbl := gt_5 217 rfl rfl
theorem cI_X6_on : Cond.instanceMethod yX6_on ∈ gtbl := gt_5 215 rfl rfl
theorem cE_X6_on : Cond.selects RX6 yX6_on yX6_on ∈ gtbl := gt_5 216 rfl rfl
theorem cD_X6_on : xdesc yX6_on 1 := ⟨by decide, by decide, by decide +kernel⟩
abbrev mX6_share : XM := (yX6_share, cX6_share, 4, none, [])
theorem cC_X6_share : Cond.code yX6_share cX6_share 4 none ∈ gtbl := gt_5 221 rfl rfl
theorem cI_X6_share : Cond.instanceMethod yX6_share ∈ gtbl := gt_5 219 rfl rfl
theorem cE_X6_share : Cond.selects RX6 yX6_share yX6_share ∈ gtbl := gt_5 220 rfl rfl
theorem cD_X6_share : xdesc yX6_share 2 := ⟨by decide, by decide, by decide +kernel⟩
abbrev mX6_shareOut : XM := (yX6_shareOut, cX6_shareOut, 17, none, [])
theorem cC_X6_shareOut : Cond.code yX6_shareOut cX6_shareOut 17 none ∈ gtbl := gt_5 225 rfl rfl
theorem cI_X6_shareOut : Cond.instanceMethod yX6_shareOut ∈ gtbl := gt_5 224 rfl rfl
theorem cE_X6_shareOut : Cond.selects RX6 yX6_shareOut yX6_shareOut ∈ gtbl := gp_4 2 rfl
theorem cD_X6_shareOut : xdesc yX6_shareOut 4 := ⟨by decide, by decide, by decide +kernel⟩
abbrev mX10_stood : XM := (yX10_stood, cX10_stood, 7, (some .long), [])
theorem cC_X10_stood : Cond.code yX10_stood cX10_stood 7 (some .long) ∈ gtbl := gt_5 236 rfl rfl
theorem cI_X10_stood : Cond.instanceMethod yX10_stood ∈ gtbl := gt_5 234 rfl rfl
theorem cE_X10_stood : Cond.selects RX10 yX10_stood yX10_stood ∈ gtbl := gt_5 235 rfl rfl
theorem cD_X10_stood : xdesc yX10_stood 3 := ⟨by decide, by decide, by decide +kernel⟩
abbrev mX10_half : XM := (yX10_half, cX10_half, 3, (some .int), [])
theorem cC_X10_half : Cond.code yX10_half cX10_half 3 (some .int) ∈ gtbl := gt_6 4 rfl rfl
theorem cI_X10_half : Cond.instanceMethod yX10_half ∈ gtbl := gt_6 2 rfl rfl
theorem cE_X10_half : Cond.selects RX10 yX10_half yX10_half ∈ gtbl := gt_6 3 rfl rfl
theorem cD_X10_half : xdesc yX10_half 1 := ⟨by decide, by decide, by decide +kernel⟩
abbrev mX10_first : XM := (yX10_first, cX10_first, 14, (some .long), [])
theorem cC_X10_first : Cond.code yX10_first cX10_first 14 (some .long) ∈ gtbl := gt_6 12 rfl rfl
theorem cI_X10_first : Cond.instanceMethod yX10_first ∈ gtbl := gt_6 10 rfl rfl
theorem cE_X10_first : Cond.selects RX10 yX10_first yX10_first ∈ gtbl := gt_6 11 rfl rfl
theorem cD_X10_first : xdesc yX10_first 4 := ⟨by decide, by decide, by decide +kernel⟩
abbrev mX10_matters : XM := (yX10_matters, cX10_matters, 3, (some .long), [])
theorem cC_X10_matters : Cond.code yX10_matters cX10_matters 3 (some .long) ∈ gtbl := gt_6 20 rfl rfl
theorem cI_X10_matters : Cond.instanceMethod yX10_matters ∈ gtbl := gt_6 18 rfl rfl
theorem cE_X10_matters : Cond.selects RX10 yX10_matters yX10_matters ∈ gtbl := gt_6 19 rfl rfl
theorem cD_X10_matters : xdesc yX10_matters 2 := ⟨by decide, by decide, by decide +kernel⟩
abbrev mX10_sumWithout : XM := (yX10_sumWithout, cX10_sumWithout, 3, (some .long), [])
theorem cC_X10_sumWithout : Cond.code yX10_sumWithout cX10_sumWithout 3 (some .long) ∈ gtbl := gt_6 24 rfl rfl
theorem cI_X10_sumWithout : Cond.instanceMethod yX10_sumWithout ∈ gtbl := gt_6 23 rfl rfl
theorem cE_X10_sumWithout : Cond.selects RX10 yX10_sumWithout yX10_sumWithout ∈ gtbl := gp_4 3 rfl
theorem cD_X10_sumWithout : xdesc yX10_sumWithout 2 := ⟨by decide, by decide, by decide +kernel⟩
abbrev mX10_most : XM := (yX10_most, cX10_most, 10, (some .int), [])
theorem cC_X10_most : Cond.code yX10_most cX10_most 10 (some .int) ∈ gtbl := gt_6 32 rfl rfl
theorem cI_X10_most : Cond.instanceMethod yX10_most ∈ gtbl := gt_6 30 rfl rfl
theorem cE_X10_most : Cond.selects RX10 yX10_most yX10_most ∈ gtbl := gt_6 31 rfl rfl
theorem cD_X10_most : xdesc yX10_most 1 := ⟨by decide, by decide, by decide +kernel⟩
abbrev mJ9_abs_067f4 : XM := (yJ9_abs_067f4, cJ9_abs_067f4, 2, (some .long), [])
theorem cC_J9_abs_067f4 : Cond.code yJ9_abs_067f4 cJ9_abs_067f4 2 (some .long) ∈ gtbl := gt_6 36 rfl rfl
theorem cS_J9_abs_067f4 : Cond.static yJ9_abs_067f4 ∈ gtbl := gt_6 35 rfl rfl
theorem cD_J9_abs_067f4 : xdesc yJ9_abs_067f4 1 := ⟨by decide, by decide, by decide +kernel⟩
abbrev mX10_wanted : XM := (yX10_wanted, cX10_wanted, 4, (some .int), [])
theorem cC_X10_wanted : Cond.code yX10_wanted cX10_wanted 4 (some .int) ∈ gtbl := gt_6 43 rfl rfl
theorem cI_X10_wanted : Cond.instanceMethod yX10_wanted ∈ gtbl := gt_6 41 rfl rfl
theorem cE_X10_wanted : Cond.selects RX10 yX10_wanted yX10_wanted ∈ gtbl := gt_6 42 rfl rfl
theorem cD_X10_wanted : xdesc yX10_wanted 2 := ⟨by decide, by decide, by decide +kernel⟩
abbrev mX10_isSpent : XM := (yX10_isSpent, cX10_isSpent, 2, (some .boolean), [])
theorem cC_X10_isSpent : Cond.code yX10_isSpent cX10_isSpent 2 (some .boolean) ∈ gtbl := gt_6 47 rfl rfl
theorem cI_X10_isSpent : Cond.instanceMethod yX10_isSpent ∈ gtbl := gt_6 46 rfl rfl
theorem cE_X10_isSpent : Cond.selects RX10 yX10_isSpent yX10_isSpent ∈ gtbl := gp_4 4 rfl
theorem cD_X10_isSpent : xdesc yX10_isSpent 1 := ⟨by decide, by decide, by decide +kernel⟩
abbrev mX10_nearest : XM := (yX10_nearest, cX10_nearest, 11, (some .int), [])
theorem cC_X10_nearest : Cond.code yX10_nearest cX10_nearest 11 (some .int) ∈ gtbl := gt_6 51 rfl rfl
theorem cI_X10_nearest : Cond.instanceMethod yX10_nearest ∈ gtbl := gt_6 50 rfl rfl
theorem cE_X10_nearest : Cond.selects RX10 yX10_nearest yX10_nearest ∈ gtbl := gp_4 5 rfl
theorem cD_X10_nearest : xdesc yX10_nearest 2 := ⟨by decide, by decide, by decide +kernel⟩
abbrev mX10_ahead : XM := (yX10_ahead, cX10_ahead, 3, (some .long), [])
theorem cC_X10_ahead : Cond.code yX10_ahead cX10_ahead 3 (some .long) ∈ gtbl := gt_6 59 rfl rfl
theorem cI_X10_ahead : Cond.instanceMethod yX10_ahead ∈ gtbl := gt_6 57 rfl rfl
theorem cE_X10_ahead : Cond.selects RX10 yX10_ahead yX10_ahead ∈ gtbl := gt_6 58 rfl rfl
theorem cD_X10_ahead : xdesc yX10_ahead 2 := ⟨by decide, by decide, by decide +kernel⟩
abbrev mX10_needToCome : XM := (yX10_needToCome, cX10_needToCome, 3, none, [])
theorem cC_X10_needToCome : Cond.code yX10_needToCome cX10_needToCome 3 none ∈ gtbl := gt_6 63 rfl rfl
theorem cI_X10_needToCome : Cond.instanceMethod yX10_needToCome ∈ gtbl := gt_6 62 rfl rfl
theorem cE_X10_needToCome : Cond.selects RX10 yX10_needToCome yX10_needToCome ∈ gtbl := gp_4 6 rfl
theorem cD_X10_needToCome : xdesc yX10_needToCome 2 := ⟨by decide, by decide, by decide +kernel⟩
abbrev mX1_lookAhead : XM := (yX1_lookAhead, cX1_lookAhead, 8, none, [])
theorem cC_X1_lookAhead : Cond.code yX1_lookAhead cX1_lookAhead 8 none ∈ gtbl := gt_6 67 rfl rfl
theorem cI_X1_lookAhead : Cond.instanceMethod yX1_lookAhead ∈ gtbl := gt_6 65 rfl rfl
theorem cE_X1_lookAhead : Cond.selects RX1 yX1_lookAhead yX1_lookAhead ∈ gtbl := gt_6 66 rfl rfl
theorem cD_X1_lookAhead : xdesc yX1_lookAhead 3 := ⟨by decide, by decide, by decide +kernel⟩
abbrev mX1_sumOfTwo : XM := (yX1_sumOfTwo, cX1_sumOfTwo, 14, (some .long), [])
theorem cC_X1_sumOfTwo : Cond.code yX1_sumOfTwo cX1_sumOfTwo 14 (some .long) ∈ gtbl := gt_6 73 rfl rfl
theorem cI_X1_sumOfTwo : Cond.instanceMethod yX1_sumOfTwo ∈ gtbl := gt_6 72 rfl rfl
theorem cE_X1_sumOfTwo : Cond.selects RX1 yX1_sumOfTwo yX1_sumOfTwo ∈ gtbl := gp_4 7 rfl
theorem cD_X1_sumOfTwo : xdesc yX1_sumOfTwo 3 := ⟨by decide, by decide, by decide +kernel⟩
abbrev mX1_at : XM := (yX1_at, cX1_at, 2, (some .long), [])
theorem cC_X1_at : Cond.code yX1_at cX1_at 2 (some .long) ∈ gtbl := gt_6 79 rfl rfl
theorem cI_X1_at : Cond.instanceMethod yX1_at ∈ gtbl := gt_6 77 rfl rfl
theorem cE_X1_at : Cond.selects RX1 yX1_at yX1_at ∈ gtbl := gt_6 78 rfl rfl
theorem cD_X1_at : xdesc yX1_at 1 := ⟨by decide, by decide, by decide +kernel⟩
abbrev mX1_putNext : XM := (yX1_putNext, cX1_putNext, 4, none, [])
theorem cC_X1_putNext : Cond.code yX1_putNext cX1_putNext 4 none ∈ gtbl := gt_6 85 rfl rfl
theorem cI_X1_putNext : Cond.instanceMethod yX1_putNext ∈ gtbl := gt_6 84 rfl rfl
theorem cE_X1_putNext : Cond.selects RX1 yX1_putNext yX1_putNext ∈ gtbl := gp_4 8 rfl
theorem cD_X1_putNext : xdesc yX1_putNext 2 := ⟨by decide, by decide, by decide +kernel⟩
abbrev mX1_swap : XM := (yX1_swap, cX1_swap, 2, none, [])
theorem cC_X1_swap : Cond.code yX1_swap cX1_swap 2 none ∈ gtbl := gt_6 89 rfl rfl
theorem cI_X1_swap : Cond.instanceMethod yX1_swap ∈ gtbl := gt_6 88 rfl rfl
theorem cE_X1_swap : Cond.selects RX1 yX1_swap yX1_swap ∈ gtbl := gp_4 9 rfl
theorem cD_X1_swap : xdesc yX1_swap 0 := ⟨by decide, by decide, by decide +kernel⟩
abbrev mX10_choose : XM := (yX10_choose, cX10_choose, 5, (some .int), [])
theorem cC_X10_choose : Cond.code yX10_choose cX10_choose 5 (some .int) ∈ gtbl := gt_6 97 rfl rfl
theorem cI_X10_choose : Cond.instanceMethod yX10_choose ∈ gtbl := gt_6 95 rfl rfl
theorem cE_X10_choose : Cond.selects RX10 yX10_choose yX10_choose ∈ gtbl := gt_6 96 rfl rfl
theorem cD_X10_choose : xdesc yX10_choose 4 := ⟨by decide, by decide, by decide +kernel⟩
abbrev mX10_often : XM := (yX10_often, cX10_often, 2, (some .int), [])
theorem cC_X10_often : Cond.code yX10_often cX10_often 2 (some .int) ∈ gtbl := gt_6 104 rfl rfl
theorem cI_X10_often : Cond.instanceMethod yX10_often ∈ gtbl := gt_6 102 rfl rfl
theorem cE_X10_often : Cond.selects RX10 yX10_often yX10_often ∈ gtbl := gt_6 103 rfl rfl
theorem cD_X10_often : xdesc yX10_often 1 := ⟨by decide, by decide, by decide +kernel⟩
abbrev mX10_unlike : XM := (yX10_unlike, cX10_unlike, 8, (some .long), [])
theorem cC_X10_unlike : Cond.code yX10_unlike cX10_unlike 8 (some .long) ∈ gtbl := gt_6 111 rfl rfl
theorem cI_X10_unlike : Cond.instanceMethod yX10_unlike ∈ gtbl := gt_6 109 rfl rfl
theorem cE_X10_unlike : Cond.selects RX10 yX10_unlike yX10_unlike ∈ gtbl := gt_6 110 rfl rfl
theorem cD_X10_unlike : xdesc yX10_unlike 1 := ⟨by decide, by decide, by decide +kernel⟩
abbrev mX10_commonDivisor : XM := (yX10_commonDivisor, cX10_commonDivisor, 11, (some .long), [])
theorem cC_X10_commonDivisor : Cond.code yX10_commonDivisor cX10_commonDivisor 11 (some .long) ∈ gtbl := gt_6 115 rfl rfl
theorem cS_X10_commonDivisor : Cond.static yX10_commonDivisor ∈ gtbl := gt_6 114 rfl rfl
theorem cD_X10_commonDivisor : xdesc yX10_commonDivisor 2 := ⟨by decide, by decide, by decide +kernel⟩
abbrev mX10_draw : XM := (yX10_draw, cX10_draw, 8, (some .int), [])
theorem cC_X10_draw : Cond.code yX10_draw cX10_draw 8 (some .int) ∈ gtbl := gt_6 122 rfl rfl
theorem cI_X10_draw : Cond.instanceMethod yX10_draw ∈ gtbl := gt_6 120 rfl rfl
theorem cE_X10_draw : Cond.selects RX10 yX10_draw yX10_draw ∈ gtbl := gt_6 121 rfl rfl
theorem cD_X10_draw : xdesc yX10_draw 3 := ⟨by decide, by decide, by decide +kernel⟩
abbrev mX10_ended : XM := (yX10_ended, cX10_ended, 3, (some .long), [])
theorem cC_X10_ended : Cond.code yX10_ended cX10_ended 3 (some .long) ∈ gtbl := gt_6 131 rfl rfl
theorem cI_X10_ended : Cond.instanceMethod yX10_ended ∈ gtbl := gt_6 129 rfl rfl
theorem cE_X10_ended : Cond.selects RX10 yX10_ended yX10_ended ∈ gtbl := gt_6 130 rfl rfl
theorem cD_X10_ended : xdesc yX10_ended 2 := ⟨by decide, by decide, by decide +kernel⟩
abbrev mX10_together : XM := (yX10_together, cX10_together, 4, (some .long), [])
theorem cC_X10_together : Cond.code yX10_together cX10_together 4 (some .long) ∈ gtbl := gt_6 138 rfl rfl
theorem cI_X10_together : Cond.instanceMethod yX10_together ∈ gtbl := gt_6 136 rfl rfl
theorem cE_X10_together : Cond.selects RX10 yX10_together yX10_together ∈ gtbl := gt_6 137 rfl rfl
theorem cD_X10_together : xdesc yX10_together 3 := ⟨by decide, by decide, by decide +kernel⟩
abbrev mX1_lookTogether : XM := (yX1_lookTogether, cX1_lookTogether, 10, none, [])
theorem cC_X1_lookTogether : Cond.code yX1_lookTogether cX1_lookTogether 10 none ∈ gtbl := gt_6 143 rfl rfl
theorem cI_X1_lookTogether : Cond.instanceMethod yX1_lookTogether ∈ gtbl := gt_6 141 rfl rfl
theorem cE_X1_lookTogether : Cond.selects RX1 yX1_lookTogether yX1_lookTogether ∈ gtbl := gt_6 142 rfl rfl
theorem cD_X1_lookTogether : xdesc yX1_lookTogether 3 := ⟨by decide, by decide, by decide +kernel⟩
abbrev mX1_pair : XM := (yX1_pair, cX1_pair, 3, (some .int), [])
theorem cC_X1_pair : Cond.code yX1_pair cX1_pair 3 (some .int) ∈ gtbl := gt_6 146 rfl rfl
theorem cS_X1_pair : Cond.static yX1_pair ∈ gtbl := gt_6 145 rfl rfl
theorem cD_X1_pair : xdesc yX1_pair 2 := ⟨by decide, by decide, by decide +kernel⟩
abbrev mX1_sumOfBoth : XM := (yX1_sumOfBoth, cX1_sumOfBoth, 13, (some .long), [])
theorem cC_X1_sumOfBoth : Cond.code yX1_sumOfBoth cX1_sumOfBoth 13 (some .long) ∈ gtbl := gt_6 152 rfl rfl
theorem cI_X1_sumOfBoth : Cond.instanceMethod yX1_sumOfBoth ∈ gtbl := gt_6 151 rfl rfl
theorem cE_X1_sumOfBoth : Cond.selects RX1 yX1_sumOfBoth yX1_sumOfBoth ∈ gtbl := gp_4 10 rfl
theorem cD_X1_sumOfBoth : xdesc yX1_sumOfBoth 4 := ⟨by decide, by decide, by decide +kernel⟩
abbrev mX1_atBoth : XM := (yX1_atBoth, cX1_atBoth, 3, (some .long), [])
theorem cC_X1_atBoth : Cond.code yX1_atBoth cX1_atBoth 3 (some .long) ∈ gtbl := gt_6 156 rfl rfl
theorem cI_X1_atBoth : Cond.instanceMethod yX1_atBoth ∈ gtbl := gt_6 154 rfl rfl
theorem cE_X1_atBoth : Cond.selects RX1 yX1_atBoth yX1_atBoth ∈ gtbl := gt_6 155 rfl rfl
theorem cD_X1_atBoth : xdesc yX1_atBoth 2 := ⟨by decide, by decide, by decide +kernel⟩
abbrev mX10_whom : XM := (yX10_whom, cX10_whom, 9, (some .int), [])
theorem cC_X10_whom : Cond.code yX10_whom cX10_whom 9 (some .int) ∈ gtbl := gt_6 164 rfl rfl
theorem cI_X10_whom : Cond.instanceMethod yX10_whom ∈ gtbl := gt_6 162 rfl rfl
theorem cE_X10_whom : Cond.selects RX10 yX10_whom yX10_whom ∈ gtbl := gt_6 163 rfl rfl
theorem cD_X10_whom : xdesc yX10_whom 4 := ⟨by decide, by decide, by decide +kernel⟩
abbrev mX10_written : XM := (yX10_written, cX10_written, 2, (some .int), [])
theorem cC_X10_written : Cond.code yX10_written cX10_written 2 (some .int) ∈ gtbl := gt_6 171 rfl rfl
theorem cI_X10_written : Cond.instanceMethod yX10_written ∈ gtbl := gt_6 169 rfl rfl
theorem cE_X10_written : Cond.selects RX10 yX10_written yX10_written ∈ gtbl := gt_6 170 rfl rfl
theorem cD_X10_written : xdesc yX10_written 1 := ⟨by decide, by decide, by decide +kernel⟩
abbrev mX9_write : XM := (yX9_write, cX9_write, 4, none, [])
theorem cC_X9_write : Cond.code yX9_write cX9_write 4 none ∈ gtbl := gt_6 175 rfl rfl
theorem cI_X9_write : Cond.instanceMethod yX9_write ∈ gtbl := gt_6 173 rfl rfl
theorem cE_X9_write : Cond.selects RX9 yX9_write yX9_write ∈ gtbl := gt_6 174 rfl rfl
theorem cD_X9_write : xdesc yX9_write 2 := ⟨by decide, by decide, by decide +kernel⟩
abbrev mX9_putLine : XM := (yX9_putLine, cX9_putLine, 3, none, [])
theorem cC_X9_putLine : Cond.code yX9_putLine cX9_putLine 3 none ∈ gtbl := gt_6 180 rfl rfl
theorem cI_X9_putLine : Cond.instanceMethod yX9_putLine ∈ gtbl := gt_6 179 rfl rfl
theorem cE_X9_putLine : Cond.selects RX9 yX9_putLine yX9_putLine ∈ gtbl := gp_4 11 rfl
theorem cD_X9_putLine : xdesc yX9_putLine 2 := ⟨by decide, by decide, by decide +kernel⟩
abbrev mX9_putText : XM := (yX9_putText, cX9_putText, 3, none, [])
theorem cC_X9_putText : Cond.code yX9_putText cX9_putText 3 none ∈ gtbl := gt_6 184 rfl rfl
theorem cI_X9_putText : Cond.instanceMethod yX9_putText ∈ gtbl := gt_6 183 rfl rfl
theorem cE_X9_putText : Cond.selects RX9 yX9_putText yX9_putText ∈ gtbl := gp_4 12 rfl
theorem cD_X9_putText : xdesc yX9_putText 1 := ⟨by decide, by decide, by decide +kernel⟩
abbrev mX9_put : XM := (yX9_put, cX9_put, 2, none, [])
theorem cC_X9_put : Cond.code yX9_put cX9_put 2 none ∈ gtbl := gt_6 190 rfl rfl
theorem cI_X9_put : Cond.instanceMethod yX9_put ∈ gtbl := gt_6 189 rfl rfl
theorem cE_X9_put : Cond.selects RX9 yX9_put yX9_put ∈ gtbl := gp_4 13 rfl
theorem cD_X9_put : xdesc yX9_put 1 := ⟨by decide, by decide, by decide +kernel⟩
abbrev mX9_putNumber : XM := (yX9_putNumber, cX9_putNumber, 2, none, [])
theorem cC_X9_putNumber : Cond.code yX9_putNumber cX9_putNumber 2 none ∈ gtbl := gt_6 194 rfl rfl
theorem cI_X9_putNumber : Cond.instanceMethod yX9_putNumber ∈ gtbl := gt_6 193 rfl rfl
theorem cE_X9_putNumber : Cond.selects RX9 yX9_putNumber yX9_putNumber ∈ gtbl := gp_4 14 rfl
theorem cD_X9_putNumber : xdesc yX9_putNumber 1 := ⟨by decide, by decide, by decide +kernel⟩
abbrev mX9_endLine : XM := (yX9_endLine, cX9_endLine, 1, (some (.object "java/lang/String")), [])
theorem cC_X9_endLine : Cond.code yX9_endLine cX9_endLine 1 (some (.object "java/lang/String")) ∈ gtbl := gt_6 203 rfl rfl
theorem cS_X9_endLine : Cond.static yX9_endLine ∈ gtbl := gt_6 202 rfl rfl
theorem cD_X9_endLine : xdesc yX9_endLine 1 := ⟨by decide, by decide, by decide +kernel⟩
abbrev mX9_putGoes : XM := (yX9_putGoes, cX9_putGoes, 3, none, [])
theorem cC_X9_putGoes : Cond.code yX9_putGoes cX9_putGoes 3 none ∈ gtbl := gt_6 213 rfl rfl
theorem cI_X9_putGoes : Cond.instanceMethod yX9_putGoes ∈ gtbl := gt_6 212 rfl rfl
theorem cE_X9_putGoes : Cond.selects RX9 yX9_putGoes yX9_putGoes ∈ gtbl := gp_4 15 rfl
theorem cD_X9_putGoes : xdesc yX9_putGoes 1 := ⟨by decide, by decide, by decide +kernel⟩
abbrev mX11_init : XM := (yX11_init, cX11_init, 1, none, [])
theorem cC_X11_init : Cond.code yX11_init cX11_init 1 none ∈ gtbl := gt_6 219 rfl rfl
theorem cI_X11_init : Cond.instanceMethod yX11_init ∈ gtbl := gt_6 218 rfl rfl
theorem cD_X11_init : xdesc yX11_init 0 := ⟨by decide, by decide, by decide +kernel⟩
abbrev mX11_thrown : XM := (yX11_thrown, cX11_thrown, 1, (some .int), [])
theorem cC_X11_thrown : Cond.code yX11_thrown cX11_thrown 1 (some .int) ∈ gtbl := gt_7 183 rfl rfl
theorem cI_X11_thrown : Cond.instanceMethod yX11_thrown ∈ gtbl := gt_7 181 rfl rfl
theorem cE_X11_thrown : Cond.selects RX11 yX11_thrown yX11_thrown ∈ gtbl := gt_7 182 rfl rfl
theorem cD_X11_thrown : xdesc yX11_thrown 0 := ⟨by decide, by decide, by decide +kernel⟩
abbrev mX11_feed : XM := (yX11_feed, cX11_feed, 8, (some .int), [])
theorem cC_X11_feed : Cond.code yX11_feed cX11_feed 8 (some .int) ∈ gtbl := gt_7 187 rfl rfl
theorem cI_X11_feed : Cond.instanceMethod yX11_feed ∈ gtbl := gt_7 185 rfl rfl
theorem cE_X11_feed : Cond.selects RX11 yX11_feed yX11_feed ∈ gtbl := gt_7 186 rfl rfl
theorem cD_X11_feed : xdesc yX11_feed 5 := ⟨by decide, by decide, by decide +kernel⟩
abbrev mX11_board : XM := (yX11_board, cX11_board, 3, (some .int), [])
theorem cC_X11_board : Cond.code yX11_board cX11_board 3 (some .int) ∈ gtbl := gt_7 191 rfl rfl
theorem cI_X11_board : Cond.instanceMethod yX11_board ∈ gtbl := gt_7 189 rfl rfl
theorem cE_X11_board : Cond.selects RX11 yX11_board yX11_board ∈ gtbl := gt_7 190 rfl rfl
theorem cD_X11_board : xdesc yX11_board 1 := ⟨by decide, by decide, by decide +kernel⟩
abbrev mX11_fail : XM := (yX11_fail, cX11_fail, 2, (some .int), [])
theorem cC_X11_fail : Cond.code yX11_fail cX11_fail 2 (some .int) ∈ gtbl := gt_7 195 rfl rfl
theorem cI_X11_fail : Cond.instanceMethod yX11_fail ∈ gtbl := gt_7 194 rfl rfl
theorem cE_X11_fail : Cond.selects RX11 yX11_fail yX11_fail ∈ gtbl := gp_5 0 rfl
theorem cD_X11_fail : xdesc yX11_fail 1 := ⟨by decide, by decide, by decide +kernel⟩
abbrev mX11_begin : XM := (yX11_begin, cX11_begin, 2, none, [])
theorem cC_X11_begin : Cond.code yX11_begin cX11_begin 2 none ∈ gtbl := gt_7 199 rfl rfl
theorem cI_X11_begin : Cond.instanceMethod yX11_begin ∈ gtbl := gt_7 198 rfl rfl
theorem cE_X11_begin : Cond.selects RX11 yX11_begin yX11_begin ∈ gtbl := gp_5 1 rfl
theorem cD_X11_begin : xdesc yX11_begin 0 := ⟨by decide, by decide, by decide +kernel⟩
abbrev mX11_stepOn : XM := (yX11_stepOn, cX11_stepOn, 2, none, [])
theorem cC_X11_stepOn : Cond.code yX11_stepOn cX11_stepOn 2 none ∈ gtbl := gt_7 203 rfl rfl
theorem cI_X11_stepOn : Cond.instanceMethod yX11_stepOn ∈ gtbl := gt_7 202 rfl rfl
theorem cE_X11_stepOn : Cond.selects RX11 yX11_stepOn yX11_stepOn ∈ gtbl := gp_5 2 rfl
theorem cD_X11_stepOn : xdesc yX11_stepOn 0 := ⟨by decide, by decide, by decide +kernel⟩
abbrev mX11_byteAt : XM := (yX11_byteAt, cX11_byteAt, 2, (some .int), [])
theorem cC_X11_byteAt : Cond.code yX11_byteAt cX11_byteAt 2 (some .int) ∈ gtbl := gt_7 207 rfl rfl
theorem cI_X11_byteAt : Cond.instanceMethod yX11_byteAt ∈ gtbl := gt_7 206 rfl rfl
theorem cE_X11_byteAt : Cond.selects RX11 yX11_byteAt yX11_byteAt ∈ gtbl := gp_5 3 rfl
theorem cD_X11_byteAt : xdesc yX11_byteAt 1 := ⟨by decide, by decide, by decide +kernel⟩
abbrev mX11_isLetter : XM := (yX11_isLetter, cX11_isLetter, 1, (some .boolean), [])
theorem cC_X11_isLetter : Cond.code yX11_isLetter cX11_isLetter 1 (some .boolean) ∈ gtbl := gt_7 210 rfl rfl
theorem cS_X11_isLetter : Cond.static yX11_isLetter ∈ gtbl := gt_7 209 rfl rfl
theorem cD_X11_isLetter : xdesc yX11_isLetter 1 := ⟨by decide, by decide, by decide +kernel⟩
abbrev mX11_isDigit : XM := (yX11_isDigit, cX11_isDigit, 1, (some .boolean), [])
theorem cC_X11_isDigit : Cond.code yX11_isDigit cX11_isDigit 1 (some .boolean) ∈ gtbl := gt_7 213 rfl rfl
theorem cS_X11_isDigit : Cond.static yX11_isDigit ∈ gtbl := gt_7 212 rfl rfl
theorem cD_X11_isDigit : xdesc yX11_isDigit 1 := ⟨by decide, by decide, by decide +kernel⟩
abbrev mX11_isMark : XM := (yX11_isMark, cX11_isMark, 1, (some .boolean), [])
theorem cC_X11_isMark : Cond.code yX11_isMark cX11_isMark 1 (some .boolean) ∈ gtbl := gt_7 218 rfl rfl
theorem cS_X11_isMark : Cond.static yX11_isMark ∈ gtbl := gt_7 217 rfl rfl
theorem cD_X11_isMark : xdesc yX11_isMark 1 := ⟨by decide, by decide, by decide +kernel⟩
abbrev mX11_is : XM := (yX11_is, cX11_is, 4, (some .boolean), [])
theorem cC_X11_is : Cond.code yX11_is cX11_is 4 (some .boolean) ∈ gtbl := gt_7 222 rfl rfl
theorem cI_X11_is : Cond.instanceMethod yX11_is ∈ gtbl := gt_7 221 rfl rfl
theorem cE_X11_is : Cond.selects RX11 yX11_is yX11_is ∈ gtbl := gp_5 4 rfl
theorem cD_X11_is : xdesc yX11_is 1 := ⟨by decide, by decide, by decide +kernel⟩
abbrev mX11_readNumber : XM := (yX11_readNumber, cX11_readNumber, 4, (some .int), [])
theorem cC_X11_readNumber : Cond.code yX11_readNumber cX11_readNumber 4 (some .int) ∈ gtbl := gt_7 228 rfl rfl
theorem cI_X11_readNumber : Cond.instanceMethod yX11_readNumber ∈ gtbl := gt_7 227 rfl rfl
theorem cE_X11_readNumber : Cond.selects RX11 yX11_readNumber yX11_readNumber ∈ gtbl := gp_5 5 rfl
theorem cD_X11_readNumber : xdesc yX11_readNumber 2 := ⟨by decide, by decide, by decide +kernel⟩
abbrev mX11_numberNow : XM := (yX11_numberNow, cX11_numberNow, 3, (some .int), [])
theorem cC_X11_numberNow : Cond.code yX11_numberNow cX11_numberNow 3 (some .int) ∈ gtbl := gt_7 232 rfl rfl
theorem cI_X11_numberNow : Cond.instanceMethod yX11_numberNow ∈ gtbl := gt_7 231 rfl rfl
theorem cE_X11_numberNow : Cond.selects RX11 yX11_numberNow yX11_numberNow ∈ gtbl := gp_5 6 rfl
theorem cD_X11_numberNow : xdesc yX11_numberNow 2 := ⟨by decide, by decide, by decide +kernel⟩
abbrev mX11_wrong : XM := (yX11_wrong, cX11_wrong, 2, none, [])
theorem cC_X11_wrong : Cond.code yX11_wrong cX11_wrong 2 none ∈ gtbl := gt_7 236 rfl rfl
theorem cI_X11_wrong : Cond.instanceMethod yX11_wrong ∈ gtbl := gt_7 235 rfl rfl
theorem cE_X11_wrong : Cond.selects RX11 yX11_wrong yX11_wrong ∈ gtbl := gp_5 7 rfl
theorem cD_X11_wrong : xdesc yX11_wrong 1 := ⟨by decide, by decide, by decide +kernel⟩
abbrev mX11_mark : XM := (yX11_mark, cX11_mark, 2, none, [])
theorem cC_X11_mark : Cond.code yX11_mark cX11_mark 2 none ∈ gtbl := gt_8 0 rfl rfl
theorem cI_X11_mark : Cond.instanceMethod yX11_mark ∈ gtbl := gt_7 239 rfl rfl
theorem cE_X11_mark : Cond.selects RX11 yX11_mark yX11_mark ∈ gtbl := gp_5 8 rfl
theorem cD_X11_mark : xdesc yX11_mark 1 := ⟨by decide, by decide, by decide +kernel⟩
abbrev mX11_isMarked : XM := (yX11_isMarked, cX11_isMarked, 2, (some .boolean), [])
theorem cC_X11_isMarked : Cond.code yX11_isMarked cX11_isMarked 2 (some .boolean) ∈ gtbl := gt_8 4 rfl rfl
theorem cI_X11_isMarked : Cond.instanceMethod yX11_isMarked ∈ gtbl := gt_8 3 rfl rfl
theorem cE_X11_isMarked : Cond.selects RX11 yX11_isMarked yX11_isMarked ∈ gtbl := gp_5 9 rfl
theorem cD_X11_isMarked : xdesc yX11_isMarked 1 := ⟨by decide, by decide, by decide +kernel⟩
abbrev mX11_readLine : XM := (yX11_readLine, cX11_readLine, 3, (some .int), [])
theorem cC_X11_readLine : Cond.code yX11_readLine cX11_readLine 3 (some .int) ∈ gtbl := gt_8 8 rfl rfl
theorem cI_X11_readLine : Cond.instanceMethod yX11_readLine ∈ gtbl := gt_8 7 rfl rfl
theorem cE_X11_readLine : Cond.selects RX11 yX11_readLine yX11_readLine ∈ gtbl := gp_5 10 rfl
theorem cD_X11_readLine : xdesc yX11_readLine 1 := ⟨by decide, by decide, by decide +kernel⟩
abbrev mX11_readExit : XM := (yX11_readExit, cX11_readExit, 3, none, [])
theorem cC_X11_readExit : Cond.code yX11_readExit cX11_readExit 3 none ∈ gtbl := gt_8 19 rfl rfl
theorem cI_X11_readExit : Cond.instanceMethod yX11_readExit ∈ gtbl := gt_8 18 rfl rfl
theorem cE_X11_readExit : Cond.selects RX11 yX11_readExit yX11_readExit ∈ gtbl := gp_5 11 rfl
theorem cD_X11_readExit : xdesc yX11_readExit 0 := ⟨by decide, by decide, by decide +kernel⟩
abbrev mX11_isFoot : XM := (yX11_isFoot, cX11_isFoot, 3, (some .boolean), [])
theorem cC_X11_isFoot : Cond.code yX11_isFoot cX11_isFoot 3 (some .boolean) ∈ gtbl := gt_8 23 rfl rfl
theorem cI_X11_isFoot : Cond.instanceMethod yX11_isFoot ∈ gtbl := gt_8 22 rfl rfl
theorem cE_X11_isFoot : Cond.selects RX11 yX11_isFoot yX11_isFoot ∈ gtbl := gp_5 12 rfl
theorem cD_X11_isFoot : xdesc yX11_isFoot 1 := ⟨by decide, by decide, by decide +kernel⟩
abbrev mX11_readDie : XM := (yX11_readDie, cX11_readDie, 3, none, [])
theorem cC_X11_readDie : Cond.code yX11_readDie cX11_readDie 3 none ∈ gtbl := gt_8 27 rfl rfl
theorem cI_X11_readDie : Cond.instanceMethod yX11_readDie ∈ gtbl := gt_8 26 rfl rfl
theorem cE_X11_readDie : Cond.selects RX11 yX11_readDie yX11_readDie ∈ gtbl := gp_5 13 rfl
theorem cD_X11_readDie : xdesc yX11_readDie 0 := ⟨by decide, by decide, by decide +kernel⟩
abbrev mX11_which : XM := (yX11_which, cX11_which, 3, (some .int), [])
theorem cC_X11_which : Cond.code yX11_which cX11_which 3 (some .int) ∈ gtbl := gt_8 31 rfl rfl
theorem cI_X11_which : Cond.instanceMethod yX11_which ∈ gtbl := gt_8 30 rfl rfl
theorem cE_X11_which : Cond.selects RX11 yX11_which yX11_which ∈ gtbl := gp_5 14 rfl
theorem cD_X11_which : xdesc yX11_which 1 := ⟨by decide, by decide, by decide +kernel⟩
abbrev mX11_readGoes : XM := (yX11_readGoes, cX11_readGoes, 2, none, [])
theorem cC_X11_readGoes : Cond.code yX11_readGoes cX11_readGoes 2 none ∈ gtbl := gt_8 35 rfl rfl
theorem cI_X11_readGoes : Cond.instanceMethod yX11_readGoes ∈ gtbl := gt_8 34 rfl rfl
theorem cE_X11_readGoes : Cond.selects RX11 yX11_readGoes yX11_readGoes ∈ gtbl := gp_5 15 rfl
theorem cD_X11_readGoes : xdesc yX11_readGoes 0 := ⟨by decide, by decide, by decide +kernel⟩
abbrev mX11_readExpression : XM := (yX11_readExpression, cX11_readExpression, 3, none, [])
theorem cC_X11_readExpression : Cond.code yX11_readExpression cX11_readExpression 3 none ∈ gtbl := gt_8 39 rfl rfl
theorem cI_X11_readExpression : Cond.instanceMethod yX11_readExpression ∈ gtbl := gt_8 38 rfl rfl
theorem cE_X11_readExpression : Cond.selects RX11 yX11_readExpression yX11_readExpression ∈ gtbl := gp_6 0 rfl
theorem cD_X11_readExpression : xdesc yX11_readExpression 1 := ⟨by decide, by decide, by decide +kernel⟩
abbrev mX11_readAnd : XM := (yX11_readAnd, cX11_readAnd, 2, none, [])
theorem cC_X11_readAnd : Cond.code yX11_readAnd cX11_readAnd 2 none ∈ gtbl := gt_8 43 rfl rfl
theorem cI_X11_readAnd : Cond.instanceMethod yX11_readAnd ∈ gtbl := gt_8 42 rfl rfl
theorem cE_X11_readAnd : Cond.selects RX11 yX11_readAnd yX11_readAnd ∈ gtbl := gp_6 1 rfl
theorem cD_X11_readAnd : xdesc yX11_readAnd 1 := ⟨by decide, by decide, by decide +kernel⟩
abbrev mX11_readNot : XM := (yX11_readNot, cX11_readNot, 4, none, [])
theorem cC_X11_readNot : Cond.code yX11_readNot cX11_readNot 4 none ∈ gtbl := gt_8 47 rfl rfl
theorem cI_X11_readNot : Cond.instanceMethod yX11_readNot ∈ gtbl := gt_8 46 rfl rfl
theorem cE_X11_readNot : Cond.selects RX11 yX11_readNot yX11_readNot ∈ gtbl := gp_6 2 rfl
theorem cD_X11_readNot : xdesc yX11_readNot 1 := ⟨by decide, by decide, by decide +kernel⟩
abbrev mX11_readSum : XM := (yX11_readSum, cX11_readSum, 3, none, [])
theorem cC_X11_readSum : Cond.code yX11_readSum cX11_readSum 3 none ∈ gtbl := gt_8 52 rfl rfl
theorem cI_X11_readSum : Cond.instanceMethod yX11_readSum ∈ gtbl := gt_8 51 rfl rfl
theorem cE_X11_readSum : Cond.selects RX11 yX11_readSum yX11_readSum ∈ gtbl := gp_6 3 rfl
theorem cD_X11_readSum : xdesc yX11_readSum 1 := ⟨by decide, by decide, by decide +kernel⟩
abbrev mX11_readProduct : XM := (yX11_readProduct, cX11_readProduct, 3, none, [])
theorem cC_X11_readProduct : Cond.code yX11_readProduct cX11_readProduct 3 none ∈ gtbl := gt_8 56 rfl rfl
theorem cI_X11_readProduct : Cond.instanceMethod yX11_readProduct ∈ gtbl := gt_8 55 rfl rfl
theorem cE_X11_readProduct : Cond.selects RX11 yX11_readProduct yX11_readProduct ∈ gtbl := gp_6 4 rfl
theorem cD_X11_readProduct : xdesc yX11_readProduct 1 := ⟨by decide, by decide, by decide +kernel⟩
abbrev mX11_readPart : XM := (yX11_readPart, cX11_readPart, 3, none, [])
theorem cC_X11_readPart : Cond.code yX11_readPart cX11_readPart 3 none ∈ gtbl := gt_8 60 rfl rfl
theorem cI_X11_readPart : Cond.instanceMethod yX11_readPart ∈ gtbl := gt_8 59 rfl rfl
theorem cE_X11_readPart : Cond.selects RX11 yX11_readPart yX11_readPart ∈ gtbl := gp_6 5 rfl
theorem cD_X11_readPart : xdesc yX11_readPart 1 := ⟨by decide, by decide, by decide +kernel⟩
abbrev mX11_lay : XM := (yX11_lay, cX11_lay, 2, none, [])
theorem cC_X11_lay : Cond.code yX11_lay cX11_lay 2 none ∈ gtbl := gt_8 64 rfl rfl
theorem cI_X11_lay : Cond.instanceMethod yX11_lay ∈ gtbl := gt_8 63 rfl rfl
theorem cE_X11_lay : Cond.selects RX11 yX11_lay yX11_lay ∈ gtbl := gp_6 6 rfl
theorem cD_X11_lay : xdesc yX11_lay 1 := ⟨by decide, by decide, by decide +kernel⟩
abbrev mX11_keepRule : XM := (yX11_keepRule, cX11_keepRule, 8, none, [])
theorem cC_X11_keepRule : Cond.code yX11_keepRule cX11_keepRule 8 none ∈ gtbl := gt_8 70 rfl rfl
theorem cI_X11_keepRule : Cond.instanceMethod yX11_keepRule ∈ gtbl := gt_8 69 rfl rfl
theorem cE_X11_keepRule : Cond.selects RX11 yX11_keepRule yX11_keepRule ∈ gtbl := gp_6 7 rfl
theorem cD_X11_keepRule : xdesc yX11_keepRule 2 := ⟨by decide, by decide, by decide +kernel⟩
abbrev mX11_isInWord : XM := (yX11_isInWord, cX11_isInWord, 1, (some .boolean), [])
theorem cC_X11_isInWord : Cond.code yX11_isInWord cX11_isInWord 1 (some .boolean) ∈ gtbl := gt_8 73 rfl rfl
theorem cS_X11_isInWord : Cond.static yX11_isInWord ∈ gtbl := gt_8 72 rfl rfl
theorem cD_X11_isInWord : xdesc yX11_isInWord 1 := ⟨by decide, by decide, by decide +kernel⟩
abbrev mX11_take : XM := (yX11_take, cX11_take, 2, none, [])
theorem cC_X11_take : Cond.code yX11_take cX11_take 2 none ∈ gtbl := gt_8 77 rfl rfl
theorem cI_X11_take : Cond.instanceMethod yX11_take ∈ gtbl := gt_8 76 rfl rfl
theorem cE_X11_take : Cond.selects RX11 yX11_take yX11_take ∈ gtbl := gp_6 8 rfl
theorem cD_X11_take : xdesc yX11_take 0 := ⟨by decide, by decide, by decide +kernel⟩
abbrev mX11_takeHalf : XM := (yX11_takeHalf, cX11_takeHalf, 2, none, [])
theorem cC_X11_takeHalf : Cond.code yX11_takeHalf cX11_takeHalf 2 none ∈ gtbl := gt_8 80 rfl rfl
theorem cS_X11_takeHalf : Cond.static yX11_takeHalf ∈ gtbl := gt_8 79 rfl rfl
theorem cD_X11_takeHalf : xdesc yX11_takeHalf 1 := ⟨by decide, by decide, by decide +kernel⟩
abbrev mX11_fault : XM := (yX11_fault, cX11_fault, 1, (some .int), [])
theorem cC_X11_fault : Cond.code yX11_fault cX11_fault 1 (some .int) ∈ gtbl := gt_8 84 rfl rfl
theorem cI_X11_fault : Cond.instanceMethod yX11_fault ∈ gtbl := gt_8 82 rfl rfl
theorem cE_X11_fault : Cond.selects RX11 yX11_fault yX11_fault ∈ gtbl := gt_8 83 rfl rfl
theorem cD_X11_fault : xdesc yX11_fault 0 := ⟨by decide, by decide, by decide +kernel⟩
abbrev mX11_count : XM := (yX11_count, cX11_count, 2, (some .int), [])
theorem cC_X11_count : Cond.code yX11_count cX11_count 2 (some .int) ∈ gtbl := gt_8 88 rfl rfl
theorem cI_X11_count : Cond.instanceMethod yX11_count ∈ gtbl := gt_8 86 rfl rfl
theorem cE_X11_count : Cond.selects RX11 yX11_count yX11_count ∈ gtbl := gt_8 87 rfl rfl
theorem cD_X11_count : xdesc yX11_count 1 := ⟨by decide, by decide, by decide +kernel⟩
abbrev mX11_isIn : XM := (yX11_isIn, cX11_isIn, 6, (some .boolean), [])
theorem cC_X11_isIn : Cond.code yX11_isIn cX11_isIn 6 (some .boolean) ∈ gtbl := gt_8 92 rfl rfl
theorem cS_X11_isIn : Cond.static yX11_isIn ∈ gtbl := gt_8 91 rfl rfl
theorem cD_X11_isIn : xdesc yX11_isIn 3 := ⟨by decide, by decide, by decide +kernel⟩
abbrev mX11_isOver : XM := (yX11_isOver, cX11_isOver, 2, (some .boolean), [])
theorem cC_X11_isOver : Cond.code yX11_isOver cX11_isOver 2 (some .boolean) ∈ gtbl := gt_8 98 rfl rfl
theorem cI_X11_isOver : Cond.instanceMethod yX11_isOver ∈ gtbl := gt_8 97 rfl rfl
theorem cE_X11_isOver : Cond.selects RX11 yX11_isOver yX11_isOver ∈ gtbl := gp_6 9 rfl
theorem cD_X11_isOver : xdesc yX11_isOver 0 := ⟨by decide, by decide, by decide +kernel⟩
abbrev mX11_exit : XM := (yX11_exit, cX11_exit, 3, (some .int), [])
theorem cC_X11_exit : Cond.code yX11_exit cX11_exit 3 (some .int) ∈ gtbl := gt_8 102 rfl rfl
theorem cI_X11_exit : Cond.instanceMethod yX11_exit ∈ gtbl := gt_8 100 rfl rfl
theorem cE_X11_exit : Cond.selects RX11 yX11_exit yX11_exit ∈ gtbl := gt_8 101 rfl rfl
theorem cD_X11_exit : xdesc yX11_exit 2 := ⟨by decide, by decide, by decide +kernel⟩
abbrev mX11_goes : XM := (yX11_goes, cX11_goes, 3, (some .int), [])
theorem cC_X11_goes : Cond.code yX11_goes cX11_goes 3 (some .int) ∈ gtbl := gt_8 106 rfl rfl
theorem cI_X11_goes : Cond.instanceMethod yX11_goes ∈ gtbl := gt_8 104 rfl rfl
theorem cE_X11_goes : Cond.selects RX11 yX11_goes yX11_goes ∈ gtbl := gt_8 105 rfl rfl
theorem cD_X11_goes : xdesc yX11_goes 2 := ⟨by decide, by decide, by decide +kernel⟩
abbrev mX11_isSquare : XM := (yX11_isSquare, cX11_isSquare, 2, (some .boolean), [])
theorem cC_X11_isSquare : Cond.code yX11_isSquare cX11_isSquare 2 (some .boolean) ∈ gtbl := gt_8 110 rfl rfl
theorem cI_X11_isSquare : Cond.instanceMethod yX11_isSquare ∈ gtbl := gt_8 109 rfl rfl
theorem cE_X11_isSquare : Cond.selects RX11 yX11_isSquare yX11_isSquare ∈ gtbl := gp_6 10 rfl
theorem cD_X11_isSquare : xdesc yX11_isSquare 1 := ⟨by decide, by decide, by decide +kernel⟩
abbrev mX11_isFace : XM := (yX11_isFace, cX11_isFace, 1, (some .boolean), [])
theorem cC_X11_isFace : Cond.code yX11_isFace cX11_isFace 1 (some .boolean) ∈ gtbl := gt_8 113 rfl rfl
theorem cS_X11_isFace : Cond.static yX11_isFace ∈ gtbl := gt_8 112 rfl rfl
theorem cD_X11_isFace : xdesc yX11_isFace 1 := ⟨by decide, by decide, by decide +kernel⟩
abbrev mX11_tellBoard : XM := (yX11_tellBoard, cX11_tellBoard, 1, none, [])
theorem cC_X11_tellBoard : Cond.code yX11_tellBoard cX11_tellBoard 1 none ∈ gtbl := gt_8 118 rfl rfl
theorem cI_X11_tellBoard : Cond.instanceMethod yX11_tellBoard ∈ gtbl := gt_8 117 rfl rfl
theorem cE_X11_tellBoard : Cond.selects RX11 yX11_tellBoard yX11_tellBoard ∈ gtbl := gp_6 11 rfl
theorem cD_X11_tellBoard : xdesc yX11_tellBoard 0 := ⟨by decide, by decide, by decide +kernel⟩
abbrev mX11_tellTable : XM := (yX11_tellTable, cX11_tellTable, 7, none, [])
theorem cC_X11_tellTable : Cond.code yX11_tellTable cX11_tellTable 7 none ∈ gtbl := gt_8 122 rfl rfl
theorem cI_X11_tellTable : Cond.instanceMethod yX11_tellTable ∈ gtbl := gt_8 121 rfl rfl
theorem cE_X11_tellTable : Cond.selects RX11 yX11_tellTable yX11_tellTable ∈ gtbl := gp_6 12 rfl
theorem cD_X11_tellTable : xdesc yX11_tellTable 4 := ⟨by decide, by decide, by decide +kernel⟩
abbrev mX11_leads : XM := (yX11_leads, cX11_leads, 5, (some .int), [])
theorem cC_X11_leads : Cond.code yX11_leads cX11_leads 5 (some .int) ∈ gtbl := gt_8 126 rfl rfl
theorem cI_X11_leads : Cond.instanceMethod yX11_leads ∈ gtbl := gt_8 125 rfl rfl
theorem cE_X11_leads : Cond.selects RX11 yX11_leads yX11_leads ∈ gtbl := gp_6 13 rfl
theorem cD_X11_leads : xdesc yX11_leads 3 := ⟨by decide, by decide, by decide +kernel⟩
abbrev mX11_farBy : XM := (yX11_farBy, cX11_farBy, 6, (some .int), [])
theorem cC_X11_farBy : Cond.code yX11_farBy cX11_farBy 6 (some .int) ∈ gtbl := gt_8 130 rfl rfl
theorem cI_X11_farBy : Cond.instanceMethod yX11_farBy ∈ gtbl := gt_8 129 rfl rfl
theorem cE_X11_farBy : Cond.selects RX11 yX11_farBy yX11_farBy ∈ gtbl := gp_6 14 rfl
theorem cD_X11_farBy : xdesc yX11_farBy 2 := ⟨by decide, by decide, by decide +kernel⟩
abbrev mX11_reckon : XM := (yX11_reckon, cX11_reckon, 3, (some .int), [])
theorem cC_X11_reckon : Cond.code yX11_reckon cX11_reckon 3 (some .int) ∈ gtbl := gt_8 133 rfl rfl
theorem cS_X11_reckon : Cond.static yX11_reckon ∈ gtbl := gt_8 132 rfl rfl
theorem cD_X11_reckon : xdesc yX11_reckon 3 := ⟨by decide, by decide, by decide +kernel⟩
abbrev mX11_roll : XM := (yX11_roll, cX11_roll, 2, (some .int), [])
theorem cC_X11_roll : Cond.code yX11_roll cX11_roll 2 (some .int) ∈ gtbl := gt_8 138 rfl rfl
theorem cI_X11_roll : Cond.instanceMethod yX11_roll ∈ gtbl := gt_8 136 rfl rfl
theorem cE_X11_roll : Cond.selects RX11 yX11_roll yX11_roll ∈ gtbl := gt_8 137 rfl rfl
theorem cD_X11_roll : xdesc yX11_roll 1 := ⟨by decide, by decide, by decide +kernel⟩
abbrev mX11_throwOnce : XM := (yX11_throwOnce, cX11_throwOnce, 5, (some .int), [])
theorem cC_X11_throwOnce : Cond.code yX11_throwOnce cX11_throwOnce 5 (some .int) ∈ gtbl := gt_8 142 rfl rfl
theorem cI_X11_throwOnce : Cond.instanceMethod yX11_throwOnce ∈ gtbl := gt_8 141 rfl rfl
theorem cE_X11_throwOnce : Cond.selects RX11 yX11_throwOnce yX11_throwOnce ∈ gtbl := gp_6 15 rfl
theorem cD_X11_throwOnce : xdesc yX11_throwOnce 1 := ⟨by decide, by decide, by decide +kernel⟩
abbrev mX11_pass : XM := (yX11_pass, cX11_pass, 4, none, [])
theorem cC_X11_pass : Cond.code yX11_pass cX11_pass 4 none ∈ gtbl := gt_8 146 rfl rfl
theorem cI_X11_pass : Cond.instanceMethod yX11_pass ∈ gtbl := gt_8 145 rfl rfl
theorem cE_X11_pass : Cond.selects RX11 yX11_pass yX11_pass ∈ gtbl := gp_7 0 rfl
theorem cD_X11_pass : xdesc yX11_pass 1 := ⟨by decide, by decide, by decide +kernel⟩
abbrev mX11_rolls : XM := (yX11_rolls, cX11_rolls, 6, (some .int), [])
theorem cC_X11_rolls : Cond.code yX11_rolls cX11_rolls 6 (some .int) ∈ gtbl := gt_8 150 rfl rfl
theorem cI_X11_rolls : Cond.instanceMethod yX11_rolls ∈ gtbl := gt_8 148 rfl rfl
theorem cE_X11_rolls : Cond.selects RX11 yX11_rolls yX11_rolls ∈ gtbl := gt_8 149 rfl rfl
theorem cD_X11_rolls : xdesc yX11_rolls 2 := ⟨by decide, by decide, by decide +kernel⟩
abbrev mX11_allOdds : XM := (yX11_allOdds, cX11_allOdds, 3, (some .int), [])
theorem cC_X11_allOdds : Cond.code yX11_allOdds cX11_allOdds 3 (some .int) ∈ gtbl := gt_8 155 rfl rfl
theorem cI_X11_allOdds : Cond.instanceMethod yX11_allOdds ∈ gtbl := gt_8 154 rfl rfl
theorem cE_X11_allOdds : Cond.selects RX11 yX11_allOdds yX11_allOdds ∈ gtbl := gp_7 1 rfl
theorem cD_X11_allOdds : xdesc yX11_allOdds 0 := ⟨by decide, by decide, by decide +kernel⟩
abbrev mX11_drawOf : XM := (yX11_drawOf, cX11_drawOf, 2, (some .int), [])
theorem cC_X11_drawOf : Cond.code yX11_drawOf cX11_drawOf 2 (some .int) ∈ gtbl := gt_8 159 rfl rfl
theorem cI_X11_drawOf : Cond.instanceMethod yX11_drawOf ∈ gtbl := gt_8 158 rfl rfl
theorem cE_X11_drawOf : Cond.selects RX11 yX11_drawOf yX11_drawOf ∈ gtbl := gp_7 2 rfl
theorem cD_X11_drawOf : xdesc yX11_drawOf 1 := ⟨by decide, by decide, by decide +kernel⟩
abbrev mX11_undo : XM := (yX11_undo, cX11_undo, 3, (some .int), [])
theorem cC_X11_undo : Cond.code yX11_undo cX11_undo 3 (some .int) ∈ gtbl := gt_8 164 rfl rfl
theorem cI_X11_undo : Cond.instanceMethod yX11_undo ∈ gtbl := gt_8 162 rfl rfl
theorem cE_X11_undo : Cond.selects RX11 yX11_undo yX11_undo ∈ gtbl := gt_8 163 rfl rfl
theorem cD_X11_undo : xdesc yX11_undo 0 := ⟨by decide, by decide, by decide +kernel⟩
abbrev mX11_piece : XM := (yX11_piece, cX11_piece, 2, (some .int), [])
theorem cC_X11_piece : Cond.code yX11_piece cX11_piece 2 (some .int) ∈ gtbl := gt_8 168 rfl rfl
theorem cI_X11_piece : Cond.instanceMethod yX11_piece ∈ gtbl := gt_8 166 rfl rfl
theorem cE_X11_piece : Cond.selects RX11 yX11_piece yX11_piece ∈ gtbl := gt_8 167 rfl rfl
theorem cD_X11_piece : xdesc yX11_piece 1 := ⟨by decide, by decide, by decide +kernel⟩
abbrev mX11_rolled : XM := (yX11_rolled, cX11_rolled, 3, (some .int), [])
theorem cC_X11_rolled : Cond.code yX11_rolled cX11_rolled 3 (some .int) ∈ gtbl := gt_8 172 rfl rfl
theorem cI_X11_rolled : Cond.instanceMethod yX11_rolled ∈ gtbl := gt_8 170 rfl rfl
theorem cE_X11_rolled : Cond.selects RX11 yX11_rolled yX11_rolled ∈ gtbl := gt_8 171 rfl rfl
theorem cD_X11_rolled : xdesc yX11_rolled 2 := ⟨by decide, by decide, by decide +kernel⟩
abbrev mX11_fewest : XM := (yX11_fewest, cX11_fewest, 5, (some .int), [])
theorem cC_X11_fewest : Cond.code yX11_fewest cX11_fewest 5 (some .int) ∈ gtbl := gt_8 176 rfl rfl
theorem cI_X11_fewest : Cond.instanceMethod yX11_fewest ∈ gtbl := gt_8 174 rfl rfl
theorem cE_X11_fewest : Cond.selects RX11 yX11_fewest yX11_fewest ∈ gtbl := gt_8 175 rfl rfl
theorem cD_X11_fewest : xdesc yX11_fewest 1 := ⟨by decide, by decide, by decide +kernel⟩
abbrev mX11_tellAway : XM := (yX11_tellAway, cX11_tellAway, 5, none, [])
theorem cC_X11_tellAway : Cond.code yX11_tellAway cX11_tellAway 5 none ∈ gtbl := gt_8 180 rfl rfl
theorem cI_X11_tellAway : Cond.instanceMethod yX11_tellAway ∈ gtbl := gt_8 179 rfl rfl
theorem cE_X11_tellAway : Cond.selects RX11 yX11_tellAway yX11_tellAway ∈ gtbl := gp_7 3 rfl
theorem cD_X11_tellAway : xdesc yX11_tellAway 1 := ⟨by decide, by decide, by decide +kernel⟩
abbrev mX11_comes : XM := (yX11_comes, cX11_comes, 4, (some .boolean), [])
theorem cC_X11_comes : Cond.code yX11_comes cX11_comes 4 (some .boolean) ∈ gtbl := gt_8 184 rfl rfl
theorem cI_X11_comes : Cond.instanceMethod yX11_comes ∈ gtbl := gt_8 183 rfl rfl
theorem cE_X11_comes : Cond.selects RX11 yX11_comes yX11_comes ∈ gtbl := gp_7 4 rfl
theorem cD_X11_comes : xdesc yX11_comes 2 := ⟨by decide, by decide, by decide +kernel⟩
abbrev mX11_row : XM := (yX11_row, cX11_row, 2, (some .int), [])
theorem cC_X11_row : Cond.code yX11_row cX11_row 2 (some .int) ∈ gtbl := gt_8 188 rfl rfl
theorem cI_X11_row : Cond.instanceMethod yX11_row ∈ gtbl := gt_8 186 rfl rfl
theorem cE_X11_row : Cond.selects RX11 yX11_row yX11_row ∈ gtbl := gt_8 187 rfl rfl
theorem cD_X11_row : xdesc yX11_row 1 := ⟨by decide, by decide, by decide +kernel⟩
abbrev mX11_never : XM := (yX11_never, cX11_never, 2, (some .boolean), [])
theorem cC_X11_never : Cond.code yX11_never cX11_never 2 (some .boolean) ∈ gtbl := gt_8 192 rfl rfl
theorem cI_X11_never : Cond.instanceMethod yX11_never ∈ gtbl := gt_8 190 rfl rfl
theorem cE_X11_never : Cond.selects RX11 yX11_never yX11_never ∈ gtbl := gt_8 191 rfl rfl
theorem cD_X11_never : xdesc yX11_never 1 := ⟨by decide, by decide, by decide +kernel⟩
abbrev mX11_lost : XM := (yX11_lost, cX11_lost, 2, (some .boolean), [])
theorem cC_X11_lost : Cond.code yX11_lost cX11_lost 2 (some .boolean) ∈ gtbl := gt_8 196 rfl rfl
theorem cI_X11_lost : Cond.instanceMethod yX11_lost ∈ gtbl := gt_8 194 rfl rfl
theorem cE_X11_lost : Cond.selects RX11 yX11_lost yX11_lost ∈ gtbl := gt_8 195 rfl rfl
theorem cD_X11_lost : xdesc yX11_lost 1 := ⟨by decide, by decide, by decide +kernel⟩
abbrev mX11_round : XM := (yX11_round, cX11_round, 5, (some .int), [])
theorem cC_X11_round : Cond.code yX11_round cX11_round 5 (some .int) ∈ gtbl := gt_8 200 rfl rfl
theorem cI_X11_round : Cond.instanceMethod yX11_round ∈ gtbl := gt_8 198 rfl rfl
theorem cE_X11_round : Cond.selects RX11 yX11_round yX11_round ∈ gtbl := gt_8 199 rfl rfl
theorem cD_X11_round : xdesc yX11_round 1 := ⟨by decide, by decide, by decide +kernel⟩
abbrev mX11_grains : XM := (yX11_grains, cX11_grains, 7, (some .long), [])
theorem cC_X11_grains : Cond.code yX11_grains cX11_grains 7 (some .long) ∈ gtbl := gt_8 204 rfl rfl
theorem cI_X11_grains : Cond.instanceMethod yX11_grains ∈ gtbl := gt_8 202 rfl rfl
theorem cE_X11_grains : Cond.selects RX11 yX11_grains yX11_grains ∈ gtbl := gt_8 203 rfl rfl
theorem cD_X11_grains : xdesc yX11_grains 3 := ⟨by decide, by decide, by decide +kernel⟩
abbrev mX11_isLong : XM := (yX11_isLong, cX11_isLong, 1, (some .boolean), [])
theorem cC_X11_isLong : Cond.code yX11_isLong cX11_isLong 1 (some .boolean) ∈ gtbl := gt_8 208 rfl rfl
theorem cS_X11_isLong : Cond.static yX11_isLong ∈ gtbl := gt_8 207 rfl rfl
theorem cD_X11_isLong : xdesc yX11_isLong 1 := ⟨by decide, by decide, by decide +kernel⟩
abbrev mX11_longBy : XM := (yX11_longBy, cX11_longBy, 6, (some .long), [])
theorem cC_X11_longBy : Cond.code yX11_longBy cX11_longBy 6 (some .long) ∈ gtbl := gt_8 213 rfl rfl
theorem cI_X11_longBy : Cond.instanceMethod yX11_longBy ∈ gtbl := gt_8 212 rfl rfl
theorem cE_X11_longBy : Cond.selects RX11 yX11_longBy yX11_longBy ∈ gtbl := gp_7 5 rfl
theorem cD_X11_longBy : xdesc yX11_longBy 2 := ⟨by decide, by decide, by decide +kernel⟩
abbrev mX11_pour : XM := (yX11_pour, cX11_pour, 3, none, [])
theorem cC_X11_pour : Cond.code yX11_pour cX11_pour 3 none ∈ gtbl := gt_8 217 rfl rfl
theorem cI_X11_pour : Cond.instanceMethod yX11_pour ∈ gtbl := gt_8 216 rfl rfl
theorem cE_X11_pour : Cond.selects RX11 yX11_pour yX11_pour ∈ gtbl := gp_7 6 rfl
theorem cD_X11_pour : xdesc yX11_pour 1 := ⟨by decide, by decide, by decide +kernel⟩
abbrev mX11_out : XM := (yX11_out, cX11_out, 1, (some .long), [])
theorem cC_X11_out : Cond.code yX11_out cX11_out 1 (some .long) ∈ gtbl := gt_8 222 rfl rfl
theorem cI_X11_out : Cond.instanceMethod yX11_out ∈ gtbl := gt_8 221 rfl rfl
theorem cE_X11_out : Cond.selects RX11 yX11_out yX11_out ∈ gtbl := gp_7 7 rfl
theorem cD_X11_out : xdesc yX11_out 0 := ⟨by decide, by decide, by decide +kernel⟩
abbrev mX11_share : XM := (yX11_share, cX11_share, 9, none, [])
theorem cC_X11_share : Cond.code yX11_share cX11_share 9 none ∈ gtbl := gt_8 226 rfl rfl
theorem cI_X11_share : Cond.instanceMethod yX11_share ∈ gtbl := gt_8 225 rfl rfl
theorem cE_X11_share : Cond.selects RX11 yX11_share yX11_share ∈ gtbl := gp_7 8 rfl
theorem cD_X11_share : xdesc yX11_share 0 := ⟨by decide, by decide, by decide +kernel⟩
abbrev mX11_stood : XM := (yX11_stood, cX11_stood, 7, (some .long), [])
theorem cC_X11_stood : Cond.code yX11_stood cX11_stood 7 (some .long) ∈ gtbl := gt_8 230 rfl rfl
theorem cI_X11_stood : Cond.instanceMethod yX11_stood ∈ gtbl := gt_8 228 rfl rfl
theorem cE_X11_stood : Cond.selects RX11 yX11_stood yX11_stood ∈ gtbl := gt_8 229 rfl rfl
theorem cD_X11_stood : xdesc yX11_stood 3 := ⟨by decide, by decide, by decide +kernel⟩
abbrev mX11_half : XM := (yX11_half, cX11_half, 3, (some .int), [])
theorem cC_X11_half : Cond.code yX11_half cX11_half 3 (some .int) ∈ gtbl := gt_8 234 rfl rfl
theorem cI_X11_half : Cond.instanceMethod yX11_half ∈ gtbl := gt_8 232 rfl rfl
theorem cE_X11_half : Cond.selects RX11 yX11_half yX11_half ∈ gtbl := gt_8 233 rfl rfl
theorem cD_X11_half : xdesc yX11_half 1 := ⟨by decide, by decide, by decide +kernel⟩
abbrev mX11_first : XM := (yX11_first, cX11_first, 10, (some .long), [])
theorem cC_X11_first : Cond.code yX11_first cX11_first 10 (some .long) ∈ gtbl := gt_8 238 rfl rfl
theorem cI_X11_first : Cond.instanceMethod yX11_first ∈ gtbl := gt_8 236 rfl rfl
theorem cE_X11_first : Cond.selects RX11 yX11_first yX11_first ∈ gtbl := gt_8 237 rfl rfl
theorem cD_X11_first : xdesc yX11_first 4 := ⟨by decide, by decide, by decide +kernel⟩
abbrev mX11_tellOuts : XM := (yX11_tellOuts, cX11_tellOuts, 5, none, [])
theorem cC_X11_tellOuts : Cond.code yX11_tellOuts cX11_tellOuts 5 none ∈ gtbl := gt_9 2 rfl rfl
theorem cI_X11_tellOuts : Cond.instanceMethod yX11_tellOuts ∈ gtbl := gt_9 1 rfl rfl
theorem cE_X11_tellOuts : Cond.selects RX11 yX11_tellOuts yX11_tellOuts ∈ gtbl := gp_7 9 rfl
theorem cD_X11_tellOuts : xdesc yX11_tellOuts 3 := ⟨by decide, by decide, by decide +kernel⟩
abbrev mX11_matters : XM := (yX11_matters, cX11_matters, 3, (some .long), [])
theorem cC_X11_matters : Cond.code yX11_matters cX11_matters 3 (some .long) ∈ gtbl := gt_9 6 rfl rfl
theorem cI_X11_matters : Cond.instanceMethod yX11_matters ∈ gtbl := gt_9 4 rfl rfl
theorem cE_X11_matters : Cond.selects RX11 yX11_matters yX11_matters ∈ gtbl := gt_9 5 rfl rfl
theorem cD_X11_matters : xdesc yX11_matters 2 := ⟨by decide, by decide, by decide +kernel⟩
abbrev mX11_changeBy : XM := (yX11_changeBy, cX11_changeBy, 5, (some .long), [])
theorem cC_X11_changeBy : Cond.code yX11_changeBy cX11_changeBy 5 (some .long) ∈ gtbl := gt_9 10 rfl rfl
theorem cI_X11_changeBy : Cond.instanceMethod yX11_changeBy ∈ gtbl := gt_9 9 rfl rfl
theorem cE_X11_changeBy : Cond.selects RX11 yX11_changeBy yX11_changeBy ∈ gtbl := gp_7 10 rfl
theorem cD_X11_changeBy : xdesc yX11_changeBy 2 := ⟨by decide, by decide, by decide +kernel⟩
abbrev mX11_most : XM := (yX11_most, cX11_most, 8, (some .int), [])
theorem cC_X11_most : Cond.code yX11_most cX11_most 8 (some .int) ∈ gtbl := gt_9 14 rfl rfl
theorem cI_X11_most : Cond.instanceMethod yX11_most ∈ gtbl := gt_9 12 rfl rfl
theorem cE_X11_most : Cond.selects RX11 yX11_most yX11_most ∈ gtbl := gt_9 13 rfl rfl
theorem cD_X11_most : xdesc yX11_most 1 := ⟨by decide, by decide, by decide +kernel⟩
abbrev mX11_wanted : XM := (yX11_wanted, cX11_wanted, 11, (some .int), [])
theorem cC_X11_wanted : Cond.code yX11_wanted cX11_wanted 11 (some .int) ∈ gtbl := gt_9 19 rfl rfl
theorem cI_X11_wanted : Cond.instanceMethod yX11_wanted ∈ gtbl := gt_9 17 rfl rfl
theorem cE_X11_wanted : Cond.selects RX11 yX11_wanted yX11_wanted ∈ gtbl := gt_9 18 rfl rfl
theorem cD_X11_wanted : xdesc yX11_wanted 2 := ⟨by decide, by decide, by decide +kernel⟩
abbrev mX11_ended : XM := (yX11_ended, cX11_ended, 3, (some .long), [])
theorem cC_X11_ended : Cond.code yX11_ended cX11_ended 3 (some .long) ∈ gtbl := gt_9 23 rfl rfl
theorem cI_X11_ended : Cond.instanceMethod yX11_ended ∈ gtbl := gt_9 21 rfl rfl
theorem cE_X11_ended : Cond.selects RX11 yX11_ended yX11_ended ∈ gtbl := gt_9 22 rfl rfl
theorem cD_X11_ended : xdesc yX11_ended 2 := ⟨by decide, by decide, by decide +kernel⟩
abbrev mX11_ahead : XM := (yX11_ahead, cX11_ahead, 3, (some .long), [])
theorem cC_X11_ahead : Cond.code yX11_ahead cX11_ahead 3 (some .long) ∈ gtbl := gt_9 27 rfl rfl
theorem cI_X11_ahead : Cond.instanceMethod yX11_ahead ∈ gtbl := gt_9 25 rfl rfl
theorem cE_X11_ahead : Cond.selects RX11 yX11_ahead yX11_ahead ∈ gtbl := gt_9 26 rfl rfl
theorem cD_X11_ahead : xdesc yX11_ahead 2 := ⟨by decide, by decide, by decide +kernel⟩
abbrev mX11_tellAhead : XM := (yX11_tellAhead, cX11_tellAhead, 9, none, [])
theorem cC_X11_tellAhead : Cond.code yX11_tellAhead cX11_tellAhead 9 none ∈ gtbl := gt_9 32 rfl rfl
theorem cI_X11_tellAhead : Cond.instanceMethod yX11_tellAhead ∈ gtbl := gt_9 31 rfl rfl
theorem cE_X11_tellAhead : Cond.selects RX11 yX11_tellAhead yX11_tellAhead ∈ gtbl := gp_7 11 rfl
theorem cD_X11_tellAhead : xdesc yX11_tellAhead 1 := ⟨by decide, by decide, by decide +kernel⟩
abbrev mX11_choose : XM := (yX11_choose, cX11_choose, 5, (some .int), [])
theorem cC_X11_choose : Cond.code yX11_choose cX11_choose 5 (some .int) ∈ gtbl := gt_9 37 rfl rfl
theorem cI_X11_choose : Cond.instanceMethod yX11_choose ∈ gtbl := gt_9 35 rfl rfl
theorem cE_X11_choose : Cond.selects RX11 yX11_choose yX11_choose ∈ gtbl := gt_9 36 rfl rfl
theorem cD_X11_choose : xdesc yX11_choose 4 := ⟨by decide, by decide, by decide +kernel⟩
abbrev mX11_together : XM := (yX11_together, cX11_together, 4, (some .long), [])
theorem cC_X11_together : Cond.code yX11_together cX11_together 4 (some .long) ∈ gtbl := gt_9 41 rfl rfl
theorem cI_X11_together : Cond.instanceMethod yX11_together ∈ gtbl := gt_9 39 rfl rfl
theorem cE_X11_together : Cond.selects RX11 yX11_together yX11_together ∈ gtbl := gt_9 40 rfl rfl
theorem cD_X11_together : xdesc yX11_together 3 := ⟨by decide, by decide, by decide +kernel⟩
abbrev mX11_tellBoth : XM := (yX11_tellBoth, cX11_tellBoth, 10, none, [])
theorem cC_X11_tellBoth : Cond.code yX11_tellBoth cX11_tellBoth 10 none ∈ gtbl := gt_9 46 rfl rfl
theorem cI_X11_tellBoth : Cond.instanceMethod yX11_tellBoth ∈ gtbl := gt_9 45 rfl rfl
theorem cE_X11_tellBoth : Cond.selects RX11 yX11_tellBoth yX11_tellBoth ∈ gtbl := gp_7 12 rfl
theorem cD_X11_tellBoth : xdesc yX11_tellBoth 1 := ⟨by decide, by decide, by decide +kernel⟩
abbrev mX11_lessBy : XM := (yX11_lessBy, cX11_lessBy, 8, (some .long), [])
theorem cC_X11_lessBy : Cond.code yX11_lessBy cX11_lessBy 8 (some .long) ∈ gtbl := gt_9 50 rfl rfl
theorem cI_X11_lessBy : Cond.instanceMethod yX11_lessBy ∈ gtbl := gt_9 49 rfl rfl
theorem cE_X11_lessBy : Cond.selects RX11 yX11_lessBy yX11_lessBy ∈ gtbl := gp_7 13 rfl
theorem cD_X11_lessBy : xdesc yX11_lessBy 3 := ⟨by decide, by decide, by decide +kernel⟩
abbrev mX11_whom : XM := (yX11_whom, cX11_whom, 5, (some .int), [])
theorem cC_X11_whom : Cond.code yX11_whom cX11_whom 5 (some .int) ∈ gtbl := gt_9 55 rfl rfl
theorem cI_X11_whom : Cond.instanceMethod yX11_whom ∈ gtbl := gt_9 53 rfl rfl
theorem cE_X11_whom : Cond.selects RX11 yX11_whom yX11_whom ∈ gtbl := gt_9 54 rfl rfl
theorem cD_X11_whom : xdesc yX11_whom 4 := ⟨by decide, by decide, by decide +kernel⟩
abbrev mX11_often : XM := (yX11_often, cX11_often, 2, (some .int), [])
theorem cC_X11_often : Cond.code yX11_often cX11_often 2 (some .int) ∈ gtbl := gt_9 59 rfl rfl
theorem cI_X11_often : Cond.instanceMethod yX11_often ∈ gtbl := gt_9 57 rfl rfl
theorem cE_X11_often : Cond.selects RX11 yX11_often yX11_often ∈ gtbl := gt_9 58 rfl rfl
theorem cD_X11_often : xdesc yX11_often 1 := ⟨by decide, by decide, by decide +kernel⟩
abbrev mX11_oftenOf : XM := (yX11_oftenOf, cX11_oftenOf, 4, (some .int), [])
theorem cC_X11_oftenOf : Cond.code yX11_oftenOf cX11_oftenOf 4 (some .int) ∈ gtbl := gt_9 63 rfl rfl
theorem cI_X11_oftenOf : Cond.instanceMethod yX11_oftenOf ∈ gtbl := gt_9 62 rfl rfl
theorem cE_X11_oftenOf : Cond.selects RX11 yX11_oftenOf yX11_oftenOf ∈ gtbl := gp_7 14 rfl
theorem cD_X11_oftenOf : xdesc yX11_oftenOf 1 := ⟨by decide, by decide, by decide +kernel⟩
abbrev mX11_unlike : XM := (yX11_unlike, cX11_unlike, 8, (some .long), [])
theorem cC_X11_unlike : Cond.code yX11_unlike cX11_unlike 8 (some .long) ∈ gtbl := gt_9 67 rfl rfl
theorem cI_X11_unlike : Cond.instanceMethod yX11_unlike ∈ gtbl := gt_9 65 rfl rfl
theorem cE_X11_unlike : Cond.selects RX11 yX11_unlike yX11_unlike ∈ gtbl := gt_9 66 rfl rfl
theorem cD_X11_unlike : xdesc yX11_unlike 1 := ⟨by decide, by decide, by decide +kernel⟩
abbrev mX11_moreOf : XM := (yX11_moreOf, cX11_moreOf, 2, (some .long), [])
theorem cC_X11_moreOf : Cond.code yX11_moreOf cX11_moreOf 2 (some .long) ∈ gtbl := gt_9 71 rfl rfl
theorem cI_X11_moreOf : Cond.instanceMethod yX11_moreOf ∈ gtbl := gt_9 70 rfl rfl
theorem cE_X11_moreOf : Cond.selects RX11 yX11_moreOf yX11_moreOf ∈ gtbl := gp_7 15 rfl
theorem cD_X11_moreOf : xdesc yX11_moreOf 1 := ⟨by decide, by decide, by decide +kernel⟩
abbrev mX11_common : XM := (yX11_common, cX11_common, 10, (some .long), [])
theorem cC_X11_common : Cond.code yX11_common cX11_common 10 (some .long) ∈ gtbl := gt_9 75 rfl rfl
theorem cS_X11_common : Cond.static yX11_common ∈ gtbl := gt_9 74 rfl rfl
theorem cD_X11_common : xdesc yX11_common 2 := ⟨by decide, by decide, by decide +kernel⟩
abbrev mX11_worn : XM := (yX11_worn, cX11_worn, 3, (some .int), [])
theorem cC_X11_worn : Cond.code yX11_worn cX11_worn 3 (some .int) ∈ gtbl := gt_9 79 rfl rfl
theorem cI_X11_worn : Cond.instanceMethod yX11_worn ∈ gtbl := gt_9 77 rfl rfl
theorem cE_X11_worn : Cond.selects RX11 yX11_worn yX11_worn ∈ gtbl := gt_9 78 rfl rfl
theorem cD_X11_worn : xdesc yX11_worn 0 := ⟨by decide, by decide, by decide +kernel⟩
abbrev mX11_note : XM := (yX11_note, cX11_note, 2, (some .int), [])
theorem cC_X11_note : Cond.code yX11_note cX11_note 2 (some .int) ∈ gtbl := gt_9 83 rfl rfl
theorem cI_X11_note : Cond.instanceMethod yX11_note ∈ gtbl := gt_9 81 rfl rfl
theorem cE_X11_note : Cond.selects RX11 yX11_note yX11_note ∈ gtbl := gt_9 82 rfl rfl
theorem cD_X11_note : xdesc yX11_note 1 := ⟨by decide, by decide, by decide +kernel⟩
abbrev mX11_forget : XM := (yX11_forget, cX11_forget, 1, (some .int), [])
theorem cC_X11_forget : Cond.code yX11_forget cX11_forget 1 (some .int) ∈ gtbl := gt_9 87 rfl rfl
theorem cI_X11_forget : Cond.instanceMethod yX11_forget ∈ gtbl := gt_9 85 rfl rfl
theorem cE_X11_forget : Cond.selects RX11 yX11_forget yX11_forget ∈ gtbl := gt_9 86 rfl rfl
theorem cD_X11_forget : xdesc yX11_forget 0 := ⟨by decide, by decide, by decide +kernel⟩
abbrev mX11_cannot : XM := (yX11_cannot, cX11_cannot, 2, (some .int), [])
theorem cC_X11_cannot : Cond.code yX11_cannot cX11_cannot 2 (some .int) ∈ gtbl := gt_9 91 rfl rfl
theorem cI_X11_cannot : Cond.instanceMethod yX11_cannot ∈ gtbl := gt_9 89 rfl rfl
theorem cE_X11_cannot : Cond.selects RX11 yX11_cannot yX11_cannot ∈ gtbl := gt_9 90 rfl rfl
theorem cD_X11_cannot : xdesc yX11_cannot 0 := ⟨by decide, by decide, by decide +kernel⟩
abbrev mX11_canCome : XM := (yX11_canCome, cX11_canCome, 5, (some .boolean), [])
theorem cC_X11_canCome : Cond.code yX11_canCome cX11_canCome 5 (some .boolean) ∈ gtbl := gt_9 95 rfl rfl
theorem cI_X11_canCome : Cond.instanceMethod yX11_canCome ∈ gtbl := gt_9 94 rfl rfl
theorem cE_X11_canCome : Cond.selects RX11 yX11_canCome yX11_canCome ∈ gtbl := gp_8 0 rfl
theorem cD_X11_canCome : xdesc yX11_canCome 2 := ⟨by decide, by decide, by decide +kernel⟩
abbrev mX11_less : XM := (yX11_less, cX11_less, 3, (some .int), [])
theorem cC_X11_less : Cond.code yX11_less cX11_less 3 (some .int) ∈ gtbl := gt_9 99 rfl rfl
theorem cI_X11_less : Cond.instanceMethod yX11_less ∈ gtbl := gt_9 97 rfl rfl
theorem cE_X11_less : Cond.selects RX11 yX11_less yX11_less ∈ gtbl := gt_9 98 rfl rfl
theorem cD_X11_less : xdesc yX11_less 0 := ⟨by decide, by decide, by decide +kernel⟩
abbrev mX11_fits : XM := (yX11_fits, cX11_fits, 6, (some .long), [])
theorem cC_X11_fits : Cond.code yX11_fits cX11_fits 6 (some .long) ∈ gtbl := gt_9 103 rfl rfl
theorem cI_X11_fits : Cond.instanceMethod yX11_fits ∈ gtbl := gt_9 101 rfl rfl
theorem cE_X11_fits : Cond.selects RX11 yX11_fits yX11_fits ∈ gtbl := gt_9 102 rfl rfl
theorem cD_X11_fits : xdesc yX11_fits 0 := ⟨by decide, by decide, by decide +kernel⟩
abbrev mX11_tellWays : XM := (yX11_tellWays, cX11_tellWays, 7, none, [])
theorem cC_X11_tellWays : Cond.code yX11_tellWays cX11_tellWays 7 none ∈ gtbl := gt_9 107 rfl rfl
theorem cI_X11_tellWays : Cond.instanceMethod yX11_tellWays ∈ gtbl := gt_9 106 rfl rfl
theorem cE_X11_tellWays : Cond.selects RX11 yX11_tellWays yX11_tellWays ∈ gtbl := gp_8 1 rfl
theorem cD_X11_tellWays : xdesc yX11_tellWays 0 := ⟨by decide, by decide, by decide +kernel⟩
abbrev mX11_isStep : XM := (yX11_isStep, cX11_isStep, 5, (some .boolean), [])
theorem cC_X11_isStep : Cond.code yX11_isStep cX11_isStep 5 (some .boolean) ∈ gtbl := gt_9 112 rfl rfl
theorem cI_X11_isStep : Cond.instanceMethod yX11_isStep ∈ gtbl := gt_9 111 rfl rfl
theorem cE_X11_isStep : Cond.selects RX11 yX11_isStep yX11_isStep ∈ gtbl := gp_8 2 rfl
theorem cD_X11_isStep : xdesc yX11_isStep 3 := ⟨by decide, by decide, by decide +kernel⟩
abbrev mX11_draw : XM := (yX11_draw, cX11_draw, 7, (some .int), [])
theorem cC_X11_draw : Cond.code yX11_draw cX11_draw 7 (some .int) ∈ gtbl := gt_9 116 rfl rfl
theorem cI_X11_draw : Cond.instanceMethod yX11_draw ∈ gtbl := gt_9 114 rfl rfl
theorem cE_X11_draw : Cond.selects RX11 yX11_draw yX11_draw ∈ gtbl := gt_9 115 rfl rfl
theorem cD_X11_draw : xdesc yX11_draw 3 := ⟨by decide, by decide, by decide +kernel⟩
abbrev mX11_written : XM := (yX11_written, cX11_written, 2, (some .int), [])
theorem cC_X11_written : Cond.code yX11_written cX11_written 2 (some .int) ∈ gtbl := gt_9 122 rfl rfl
theorem cI_X11_written : Cond.instanceMethod yX11_written ∈ gtbl := gt_9 120 rfl rfl
theorem cE_X11_written : Cond.selects RX11 yX11_written yX11_written ∈ gtbl := gt_9 121 rfl rfl
theorem cD_X11_written : xdesc yX11_written 1 := ⟨by decide, by decide, by decide +kernel⟩
abbrev mX11_tellText : XM := (yX11_tellText, cX11_tellText, 2, none, [])
theorem cC_X11_tellText : Cond.code yX11_tellText cX11_tellText 2 none ∈ gtbl := gt_9 126 rfl rfl
theorem cI_X11_tellText : Cond.instanceMethod yX11_tellText ∈ gtbl := gt_9 125 rfl rfl
theorem cE_X11_tellText : Cond.selects RX11 yX11_tellText yX11_tellText ∈ gtbl := gp_8 3 rfl
theorem cD_X11_tellText : xdesc yX11_tellText 0 := ⟨by decide, by decide, by decide +kernel⟩
abbrev mX11_sayLine : XM := (yX11_sayLine, cX11_sayLine, 3, none, [])
theorem cC_X11_sayLine : Cond.code yX11_sayLine cX11_sayLine 3 none ∈ gtbl := gt_9 130 rfl rfl
theorem cI_X11_sayLine : Cond.instanceMethod yX11_sayLine ∈ gtbl := gt_9 129 rfl rfl
theorem cE_X11_sayLine : Cond.selects RX11 yX11_sayLine yX11_sayLine ∈ gtbl := gp_8 4 rfl
theorem cD_X11_sayLine : xdesc yX11_sayLine 2 := ⟨by decide, by decide, by decide +kernel⟩
abbrev mX11_sayWord : XM := (yX11_sayWord, cX11_sayWord, 3, none, [])
theorem cC_X11_sayWord : Cond.code yX11_sayWord cX11_sayWord 3 none ∈ gtbl := gt_9 134 rfl rfl
theorem cI_X11_sayWord : Cond.instanceMethod yX11_sayWord ∈ gtbl := gt_9 133 rfl rfl
theorem cE_X11_sayWord : Cond.selects RX11 yX11_sayWord yX11_sayWord ∈ gtbl := gp_8 5 rfl
theorem cD_X11_sayWord : xdesc yX11_sayWord 1 := ⟨by decide, by decide, by decide +kernel⟩
abbrev mX11_say : XM := (yX11_say, cX11_say, 2, none, [])
theorem cC_X11_say : Cond.code yX11_say cX11_say 2 none ∈ gtbl := gt_9 138 rfl rfl
theorem cI_X11_say : Cond.instanceMethod yX11_say ∈ gtbl := gt_9 137 rfl rfl
theorem cE_X11_say : Cond.selects RX11 yX11_say yX11_say ∈ gtbl := gp_8 6 rfl
theorem cD_X11_say : xdesc yX11_say 1 := ⟨by decide, by decide, by decide +kernel⟩
abbrev mX11_sayNumber : XM := (yX11_sayNumber, cX11_sayNumber, 4, none, [])
theorem cC_X11_sayNumber : Cond.code yX11_sayNumber cX11_sayNumber 4 none ∈ gtbl := gt_9 142 rfl rfl
theorem cI_X11_sayNumber : Cond.instanceMethod yX11_sayNumber ∈ gtbl := gt_9 141 rfl rfl
theorem cE_X11_sayNumber : Cond.selects RX11 yX11_sayNumber yX11_sayNumber ∈ gtbl := gp_8 7 rfl
theorem cD_X11_sayNumber : xdesc yX11_sayNumber 1 := ⟨by decide, by decide, by decide +kernel⟩
abbrev mX11_image : XM := (yX11_image, cX11_image, 1, none, [])
theorem cC_X11_image : Cond.code yX11_image cX11_image 1 none ∈ gtbl := gt_9 149 rfl rfl
theorem cI_X11_image : Cond.instanceMethod yX11_image ∈ gtbl := gt_9 147 rfl rfl
theorem cE_X11_image : Cond.selects RX11 yX11_image yX11_image ∈ gtbl := gt_9 148 rfl rfl
theorem cD_X11_image : xdesc yX11_image 0 := ⟨by decide, by decide, by decide +kernel⟩
abbrev mX11_be : XM := (yX11_be, cX11_be, 3, none, [])
theorem cC_X11_be : Cond.code yX11_be cX11_be 3 none ∈ gtbl := gt_9 152 rfl rfl
theorem cS_X11_be : Cond.static yX11_be ∈ gtbl := gt_9 151 rfl rfl
theorem cD_X11_be : xdesc yX11_be 2 := ⟨by decide, by decide, by decide +kernel⟩
abbrev mX11_restore : XM := (yX11_restore, cX11_restore, 1, (some .boolean), [])
theorem cC_X11_restore : Cond.code yX11_restore cX11_restore 1 (some .boolean) ∈ gtbl := gt_9 156 rfl rfl
theorem cI_X11_restore : Cond.instanceMethod yX11_restore ∈ gtbl := gt_9 154 rfl rfl
theorem cE_X11_restore : Cond.selects RX11 yX11_restore yX11_restore ∈ gtbl := gt_9 155 rfl rfl
theorem cD_X11_restore : xdesc yX11_restore 0 := ⟨by decide, by decide, by decide +kernel⟩
theorem fX0_22 : xF RX0 22 0 0 false := ⟨RX0, TX0, 6, rfl, by decide, gt_1 46 rfl rfl, rfl, rfl⟩
theorem fX9_97 : xF RX9 97 0 0 false := ⟨RX0, TX0, 6, rfl, by decide, gt_1 47 rfl rfl, rfl, rfl⟩
theorem fX0_26 : xF RX0 26 0 1 false := ⟨RX0, TX0, 6, rfl, by decide, gt_1 48 rfl rfl, rfl, rfl⟩
theorem fX9_114 : xF RX9 114 0 1 false := ⟨RX0, TX0, 6, rfl, by decide, gt_1 49 rfl rfl, rfl, rfl⟩
theorem fX0_9 : xF RX0 9 0 2 true := ⟨RX0, TX0, 6, rfl, by decide, gt_1 50 rfl rfl, rfl, rfl⟩
theorem fX9_117 : xF RX9 117 0 2 true := ⟨RX0, TX0, 6, rfl, by decide, gt_1 51 rfl rfl, rfl, rfl⟩
theorem fX0_30 : xF RX0 30 0 3 false := ⟨RX0, TX0, 6, rfl, by decide, gt_1 52 rfl rfl, rfl, rfl⟩
theorem fX0_15 : xF RX0 15 0 4 true := ⟨RX0, TX0, 6, rfl, by decide, gt_1 53 rfl rfl, rfl, rfl⟩
theorem fX0_19 : xF RX0 19 0 5 true := ⟨RX0, TX0, 6, rfl, by decide, gt_1 54 rfl rfl, rfl, rfl⟩
theorem fX6_18 : xF RX6 18 5 0 false := ⟨RX5, TX5, 13, rfl, by decide, gt_1 98 rfl rfl, rfl, rfl⟩
theorem fX5_45 : xF RX5 45 5 0 false := ⟨RX5, TX5, 13, rfl, by decide, gt_1 99 rfl rfl, rfl, rfl⟩
theorem fX3_44 : xF RX3 44 5 0 false := ⟨RX5, TX5, 13, rfl, by decide, gt_1 100 rfl rfl, rfl, rfl⟩
theorem fX9_45 : xF RX9 45 5 0 false := ⟨RX5, TX5, 13, rfl, by decide, gt_1 101 rfl rfl, rfl, rfl⟩
theorem fX8_57 : xF RX8 57 5 0 false := ⟨RX5, TX5, 13, rfl, by decide, gt_1 102 rfl rfl, rfl, rfl⟩
theorem fX1_46 : xF RX1 46 5 0 false := ⟨RX5, TX5, 13, rfl, by decide, gt_1 103 rfl rfl, rfl, rfl⟩
theorem fX10_148 : xF RX10 148 5 0 false := ⟨RX5, TX5, 13, rfl, by decide, gt_1 104 rfl rfl, rfl, rfl⟩
theorem fX2_56 : xF RX2 56 5 0 false := ⟨RX5, TX5, 13, rfl, by decide, gt_1 105 rfl rfl, rfl, rfl⟩
theorem fX7_84 : xF RX7 84 5 0 false := ⟨RX5, TX5, 13, rfl, by decide, gt_1 106 rfl rfl, rfl, rfl⟩
theorem fX4_111 : xF RX4 111 5 0 false := ⟨RX5, TX5, 13, rfl, by decide, gt_1 107 rfl rfl, rfl, rfl⟩
theorem fX5_66 : xF RX5 66 5 1 false := ⟨RX5, TX5, 13, rfl, by decide, gt_1 108 rfl rfl, rfl, rfl⟩
theorem fX1_34 : xF RX1 34 5 1 false := ⟨RX5, TX5, 13, rfl, by decide, gt_1 109 rfl rfl, rfl, rfl⟩
theorem fX6_56 : xF RX6 56 5 1 false := ⟨RX5, TX5, 13, rfl, by decide, gt_1 110 rfl rfl, rfl, rfl⟩
theorem fX10_205 : xF RX10 205 5 1 false := ⟨RX5, TX5, 13, rfl, by decide, gt_1 111 rfl rfl, rfl, rfl⟩
theorem fX4_169 : xF RX4 169 5 1 false := ⟨RX5, TX5, 13, rfl, by decide, gt_1 112 rfl rfl, rfl, rfl⟩
theorem fX5_69 : xF RX5 69 5 2 false := ⟨RX5, TX5, 13, rfl, by decide, gt_1 113 rfl rfl, rfl, rfl⟩
theorem fX6_59 : xF RX6 59 5 2 false := ⟨RX5, TX5, 13, rfl, by decide, gt_1 114 rfl rfl, rfl, rfl⟩
theorem fX5_49 : xF RX5 49 5 3 false := ⟨RX5, TX5, 13, rfl, by decide, gt_1 115 rfl rfl, rfl, rfl⟩
theorem fX10_129 : xF RX10 129 5 3 false := ⟨RX5, TX5, 13, rfl, by decide, gt_1 116 rfl rfl, rfl, rfl⟩
theorem fX9_72 : xF RX9 72 5 3 false := ⟨RX5, TX5, 13, rfl, by decide, gt_1 117 rfl rfl, rfl, rfl⟩
theorem fX4_174 : xF RX4 174 5 3 false := ⟨RX5, TX5, 13, rfl, by decide, gt_1 118 rfl rfl, rfl, rfl⟩
theorem fX5_52 : xF RX5 52 5 4 false := ⟨RX5, TX5, 13, rfl, by decide, gt_1 119 rfl rfl, rfl, rfl⟩
theorem fX9_79 : xF RX9 79 5 4 false := ⟨RX5, TX5, 13, rfl, by decide, gt_1 120 rfl rfl, rfl, rfl⟩
theorem fX10_154 : xF RX10 154 5 4 false := ⟨RX5, TX5, 13, rfl, by decide, gt_1 121 rfl rfl, rfl, rfl⟩
theorem fX7_94 : xF RX7 94 5 4 false := ⟨RX5, TX5, 13, rfl, by decide, gt_1 122 rfl rfl, rfl, rfl⟩
theorem fX4_179 : xF RX4 179 5 4 false := ⟨RX5, TX5, 13, rfl, by decide, gt_1 123 rfl rfl, rfl, rfl⟩
theorem fX5_55 : xF RX5 55 5 5 false := ⟨RX5, TX5, 13, rfl, by decide, gt_1 124 rfl rfl, rfl, rfl⟩
theorem fX9_83 : xF RX9 83 5 5 false := ⟨RX5, TX5, 13, rfl, by decide, gt_1 125 rfl rfl, rfl, rfl⟩
theorem fX10_157 : xF RX10 157 5 5 false := ⟨RX5, TX5, 13, rfl, by decide, gt_1 126 rfl rfl, rfl, rfl⟩
theorem fX7_78 : xF RX7 78 5 5 false := ⟨RX5, TX5, 13, rfl, by decide, gt_1 127 rfl rfl, rfl, rfl⟩
theorem fX4_140 : xF RX4 140 5 5 false := ⟨RX5, TX5, 13, rfl, by decide, gt_1 128 rfl rfl, rfl, rfl⟩
theorem fX5_59 : xF RX5 59 5 6 false := ⟨RX5, TX5, 13, rfl, by decide, gt_1 129 rfl rfl, rfl, rfl⟩
theorem fX10_136 : xF RX10 136 5 6 false := ⟨RX5, TX5, 13, rfl, by decide, gt_1 130 rfl rfl, rfl, rfl⟩
theorem fX9_91 : xF RX9 91 5 6 false := ⟨RX5, TX5, 13, rfl, by decide, gt_1 131 rfl rfl, rfl, rfl⟩
theorem fX4_181 : xF RX4 181 5 6 false := ⟨RX5, TX5, 13, rfl, by decide, gt_1 132 rfl rfl, rfl, rfl⟩
theorem fX3_27 : xF RX3 27 5 7 false := ⟨RX5, TX5, 13, rfl, by decide, gt_1 133 rfl rfl, rfl, rfl⟩
theorem fX5_62 : xF RX5 62 5 7 false := ⟨RX5, TX5, 13, rfl, by decide, gt_1 134 rfl rfl, rfl, rfl⟩
theorem fX9_59 : xF RX9 59 5 7 false := ⟨RX5, TX5, 13, rfl, by decide, gt_1 135 rfl rfl, rfl, rfl⟩
theorem fX10_151 : xF RX10 151 5 7 false := ⟨RX5, TX5, 13, rfl, by decide, gt_1 136 rfl rfl, rfl, rfl⟩
theorem fX4_119 : xF RX4 119 5 7 false := ⟨RX5, TX5, 13, rfl, by decide, gt_1 137 rfl rfl, rfl, rfl⟩
theorem fX5_12 : xF RX5 12 5 8 true := ⟨RX5, TX5, 13, rfl, by decide, gt_1 138 rfl rfl, rfl, rfl⟩
theorem fX3_53 : xF RX3 53 5 8 true := ⟨RX5, TX5, 13, rfl, by decide, gt_1 139 rfl rfl, rfl, rfl⟩
theorem fX9_93 : xF RX9 93 5 8 true := ⟨RX5, TX5, 13, rfl, by decide, gt_1 140 rfl rfl, rfl, rfl⟩
theorem fX4_183 : xF RX4 183 5 8 true := ⟨RX5, TX5, 13, rfl, by decide, gt_1 141 rfl rfl, rfl, rfl⟩
theorem fX5_18 : xF RX5 18 5 9 true := ⟨RX5, TX5, 13, rfl, by decide, gt_1 142 rfl rfl, rfl, rfl⟩
theorem fX6_47 : xF RX6 47 5 9 true := ⟨RX5, TX5, 13, rfl, by decide, gt_1 143 rfl rfl, rfl, rfl⟩
theorem fX5_22 : xF RX5 22 5 10 true := ⟨RX5, TX5, 13, rfl, by decide, gt_1 144 rfl rfl, rfl, rfl⟩
theorem fX5_25 : xF RX5 25 5 11 true := ⟨RX5, TX5, 13, rfl, by decide, gt_1 145 rfl rfl, rfl, rfl⟩
theorem fX5_28 : xF RX5 28 5 12 true := ⟨RX5, TX5, 13, rfl, by decide, gt_1 146 rfl rfl, rfl, rfl⟩
theorem fX10_112 : xF RX10 112 4 0 false := ⟨RX4, TX4, 8, rfl, by decide, gt_1 183 rfl rfl, rfl, rfl⟩
theorem fX4_66 : xF RX4 66 4 0 false := ⟨RX4, TX4, 8, rfl, by decide, gt_1 184 rfl rfl, rfl, rfl⟩
theorem fX4_18 : xF RX4 18 4 1 true := ⟨RX4, TX4, 8, rfl, by decide, gt_1 185 rfl rfl, rfl, rfl⟩
theorem fX4_31 : xF RX4 31 4 2 false := ⟨RX4, TX4, 8, rfl, by decide, gt_1 186 rfl rfl, rfl, rfl⟩
theorem fX4_44 : xF RX4 44 4 3 false := ⟨RX4, TX4, 8, rfl, by decide, gt_1 187 rfl rfl, rfl, rfl⟩
theorem fX4_60 : xF RX4 60 4 4 false := ⟨RX4, TX4, 8, rfl, by decide, gt_1 188 rfl rfl, rfl, rfl⟩
theorem fX4_38 : xF RX4 38 4 5 false := ⟨RX4, TX4, 8, rfl, by decide, gt_1 189 rfl rfl, rfl, rfl⟩
theorem fX4_41 : xF RX4 41 4 6 false := ⟨RX4, TX4, 8, rfl, by decide, gt_1 190 rfl rfl, rfl, rfl⟩
theorem fX4_12 : xF RX4 12 4 7 false := ⟨RX4, TX4, 8, rfl, by decide, gt_1 191 rfl rfl, rfl, rfl⟩
theorem fX3_9 : xF RX3 9 3 0 true := ⟨RX3, TX3, 3, rfl, by decide, gt_1 215 rfl rfl, rfl, rfl⟩
theorem fX3_15 : xF RX3 15 3 1 true := ⟨RX3, TX3, 3, rfl, by decide, gt_1 216 rfl rfl, rfl, rfl⟩
theorem fX3_18 : xF RX3 18 3 2 true := ⟨RX3, TX3, 3, rfl, by decide, gt_1 217 rfl rfl, rfl, rfl⟩
theorem fX6_51 : xF RX6 51 3 2 true := ⟨RX3, TX3, 3, rfl, by decide, gt_1 218 rfl rfl, rfl, rfl⟩
theorem fX7_43 : xF RX7 43 7 0 false := ⟨RX7, TX7, 8, rfl, by decide, gt_1 232 rfl rfl, rfl, rfl⟩
theorem fX10_163 : xF RX10 163 7 0 false := ⟨RX7, TX7, 8, rfl, by decide, gt_1 233 rfl rfl, rfl, rfl⟩
theorem fX7_46 : xF RX7 46 7 1 false := ⟨RX7, TX7, 8, rfl, by decide, gt_1 234 rfl rfl, rfl, rfl⟩
theorem fX10_160 : xF RX10 160 7 1 false := ⟨RX7, TX7, 8, rfl, by decide, gt_1 235 rfl rfl, rfl, rfl⟩
theorem fX7_49 : xF RX7 49 7 2 false := ⟨RX7, TX7, 8, rfl, by decide, gt_1 236 rfl rfl, rfl, rfl⟩
theorem fX2_38 : xF RX2 38 7 2 false := ⟨RX7, TX7, 8, rfl, by decide, gt_1 237 rfl rfl, rfl, rfl⟩
theorem fX10_166 : xF RX10 166 7 2 false := ⟨RX7, TX7, 8, rfl, by decide, gt_1 238 rfl rfl, rfl, rfl⟩
theorem fX7_33 : xF RX7 33 7 3 false := ⟨RX7, TX7, 8, rfl, by decide, gt_1 239 rfl rfl, rfl, rfl⟩
theorem fX7_9 : xF RX7 9 7 4 true := ⟨RX7, TX7, 8, rfl, by decide, gt_2 0 rfl rfl, rfl, rfl⟩
theorem fX7_15 : xF RX7 15 7 5 true := ⟨RX7, TX7, 8, rfl, by decide, gt_2 1 rfl rfl, rfl, rfl⟩
theorem fX7_18 : xF RX7 18 7 6 true := ⟨RX7, TX7, 8, rfl, by decide, gt_2 2 rfl rfl, rfl, rfl⟩
theorem fX7_21 : xF RX7 21 7 7 true := ⟨RX7, TX7, 8, rfl, by decide, gt_2 3 rfl rfl, rfl, rfl⟩
theorem fX8_9 : xF RX8 9 8 0 false := ⟨RX8, TX8, 5, rfl, by decide, gt_2 27 rfl rfl, rfl, rfl⟩
theorem fX10_142 : xF RX10 142 8 0 false := ⟨RX8, TX8, 5, rfl, by decide, gt_2 28 rfl rfl, rfl, rfl⟩
theorem fX8_15 : xF RX8 15 8 1 true := ⟨RX8, TX8, 5, rfl, by decide, gt_2 29 rfl rfl, rfl, rfl⟩
theorem fX10_232 : xF RX10 232 8 1 true := ⟨RX8, TX8, 5, rfl, by decide, gt_2 30 rfl rfl, rfl, rfl⟩
theorem fX8_19 : xF RX8 19 8 2 true := ⟨RX8, TX8, 5, rfl, by decide, gt_2 31 rfl rfl, rfl, rfl⟩
theorem fX8_22 : xF RX8 22 8 3 true := ⟨RX8, TX8, 5, rfl, by decide, gt_2 32 rfl rfl, rfl, rfl⟩
theorem fX8_33 : xF RX8 33 8 4 false := ⟨RX8, TX8, 5, rfl, by decide, gt_2 33 rfl rfl, rfl, rfl⟩
theorem fX6_24 : xF RX6 24 6 0 false := ⟨RX6, TX6, 3, rfl, by decide, gt_2 51 rfl rfl, rfl, rfl⟩
theorem fX6_9 : xF RX6 9 6 1 false := ⟨RX6, TX6, 3, rfl, by decide, gt_2 52 rfl rfl, rfl, rfl⟩
theorem fX6_15 : xF RX6 15 6 2 false := ⟨RX6, TX6, 3, rfl, by decide, gt_2 53 rfl rfl, rfl, rfl⟩
theorem fX1_11 : xF RX1 11 1 0 false := ⟨RX1, TX1, 2, rfl, by decide, gt_2 68 rfl rfl, rfl, rfl⟩
theorem fX1_15 : xF RX1 15 1 1 false := ⟨RX1, TX1, 2, rfl, by decide, gt_2 69 rfl rfl, rfl, rfl⟩
theorem fX2_9 : xF RX2 9 2 0 false := ⟨RX2, TX2, 3, rfl, by decide, gt_2 81 rfl rfl, rfl, rfl⟩
theorem fX2_15 : xF RX2 15 2 1 false := ⟨RX2, TX2, 3, rfl, by decide, gt_2 82 rfl rfl, rfl, rfl⟩
theorem fX2_18 : xF RX2 18 2 2 true := ⟨RX2, TX2, 3, rfl, by decide, gt_2 83 rfl rfl, rfl, rfl⟩
theorem fX9_9 : xF RX9 9 9 0 false := ⟨RX9, TX9, 3, rfl, by decide, gt_2 97 rfl rfl, rfl, rfl⟩
theorem fX10_354 : xF RX10 354 9 0 false := ⟨RX9, TX9, 3, rfl, by decide, gt_2 98 rfl rfl, rfl, rfl⟩
theorem fX9_15 : xF RX9 15 9 1 false := ⟨RX9, TX9, 3, rfl, by decide, gt_2 99 rfl rfl, rfl, rfl⟩
theorem fX10_357 : xF RX10 357 9 1 false := ⟨RX9, TX9, 3, rfl, by decide, gt_2 100 rfl rfl, rfl, rfl⟩
theorem fX9_19 : xF RX9 19 9 2 false := ⟨RX9, TX9, 3, rfl, by decide, gt_2 101 rfl rfl, rfl, rfl⟩
theorem fX10_9 : xF RX10 9 10 0 true := ⟨RX10, TX10, 16, rfl, by decide, gt_2 176 rfl rfl, rfl, rfl⟩
theorem fX10_13 : xF RX10 13 10 1 false := ⟨RX10, TX10, 16, rfl, by decide, gt_2 177 rfl rfl, rfl, rfl⟩
theorem fX10_17 : xF RX10 17 10 2 false := ⟨RX10, TX10, 16, rfl, by decide, gt_2 178 rfl rfl, rfl, rfl⟩
theorem fX10_23 : xF RX10 23 10 3 false := ⟨RX10, TX10, 16, rfl, by decide, gt_2 179 rfl rfl, rfl, rfl⟩
theorem fX10_32 : xF RX10 32 10 4 true := ⟨RX10, TX10, 16, rfl, by decide, gt_2 180 rfl rfl, rfl, rfl⟩
theorem fX10_39 : xF RX10 39 10 5 true := ⟨RX10, TX10, 16, rfl, by decide, gt_2 181 rfl rfl, rfl, rfl⟩
theorem fX10_43 : xF RX10 43 10 6 true := ⟨RX10, TX10, 16, rfl, by decide, gt_2 182 rfl rfl, rfl, rfl⟩
theorem fX10_49 : xF RX10 49 10 7 true := ⟨RX10, TX10, 16, rfl, by decide, gt_2 183 rfl rfl, rfl, rfl⟩
theorem fX10_53 : xF RX10 53 10 8 true := ⟨RX10, TX10, 16, rfl, by decide, gt_2 184 rfl rfl, rfl, rfl⟩
theorem fX10_56 : xF RX10 56 10 9 false := ⟨RX10, TX10, 16, rfl, by decide, gt_2 185 rfl rfl, rfl, rfl⟩
theorem fX10_63 : xF RX10 63 10 10 true := ⟨RX10, TX10, 16, rfl, by decide, gt_2 186 rfl rfl, rfl, rfl⟩
theorem fX10_70 : xF RX10 70 10 11 true := ⟨RX10, TX10, 16, rfl, by decide, gt_2 187 rfl rfl, rfl, rfl⟩
theorem fX10_74 : xF RX10 74 10 12 true := ⟨RX10, TX10, 16, rfl, by decide, gt_2 188 rfl rfl, rfl, rfl⟩
theorem fX10_80 : xF RX10 80 10 13 true := ⟨RX10, TX10, 16, rfl, by decide, gt_2 189 rfl rfl, rfl, rfl⟩
theorem fX10_87 : xF RX10 87 10 14 true := ⟨RX10, TX10, 16, rfl, by decide, gt_2 190 rfl rfl, rfl, rfl⟩
theorem fX10_94 : xF RX10 94 10 15 true := ⟨RX10, TX10, 16, rfl, by decide, gt_2 191 rfl rfl, rfl, rfl⟩
theorem fX11_15 : xF RX11 15 11 0 true := ⟨RX11, TX11, 63, rfl, by decide, gt_6 230 rfl rfl, rfl, rfl⟩
theorem fX11_29 : xF RX11 29 11 1 true := ⟨RX11, TX11, 63, rfl, by decide, gt_6 231 rfl rfl, rfl, rfl⟩
theorem fX11_161 : xF RX11 161 11 2 false := ⟨RX11, TX11, 63, rfl, by decide, gt_6 232 rfl rfl, rfl, rfl⟩
theorem fX11_32 : xF RX11 32 11 3 true := ⟨RX11, TX11, 63, rfl, by decide, gt_6 233 rfl rfl, rfl, rfl⟩
theorem fX11_36 : xF RX11 36 11 4 true := ⟨RX11, TX11, 63, rfl, by decide, gt_6 234 rfl rfl, rfl, rfl⟩
theorem fX11_39 : xF RX11 39 11 5 true := ⟨RX11, TX11, 63, rfl, by decide, gt_6 235 rfl rfl, rfl, rfl⟩
theorem fX11_42 : xF RX11 42 11 6 true := ⟨RX11, TX11, 63, rfl, by decide, gt_6 236 rfl rfl, rfl, rfl⟩
theorem fX11_45 : xF RX11 45 11 7 true := ⟨RX11, TX11, 63, rfl, by decide, gt_6 237 rfl rfl, rfl, rfl⟩
theorem fX11_48 : xF RX11 48 11 8 true := ⟨RX11, TX11, 63, rfl, by decide, gt_6 238 rfl rfl, rfl, rfl⟩
theorem fX11_51 : xF RX11 51 11 9 true := ⟨RX11, TX11, 63, rfl, by decide, gt_6 239 rfl rfl, rfl, rfl⟩
theorem fX11_54 : xF RX11 54 11 10 true := ⟨RX11, TX11, 63, rfl, by decide, gt_7 0 rfl rfl, rfl, rfl⟩
theorem fX11_170 : xF RX11 170 11 11 false := ⟨RX11, TX11, 63, rfl, by decide, gt_7 1 rfl rfl, rfl, rfl⟩
theorem fX11_176 : xF RX11 176 11 12 false := ⟨RX11, TX11, 63, rfl, by decide, gt_7 2 rfl rfl, rfl, rfl⟩
theorem fX11_173 : xF RX11 173 11 13 false := ⟨RX11, TX11, 63, rfl, by decide, gt_7 3 rfl rfl, rfl, rfl⟩
theorem fX11_185 : xF RX11 185 11 14 false := ⟨RX11, TX11, 63, rfl, by decide, gt_7 4 rfl rfl, rfl, rfl⟩
theorem fX11_195 : xF RX11 195 11 15 false := ⟨RX11, TX11, 63, rfl, by decide, gt_7 5 rfl rfl, rfl, rfl⟩
theorem fX11_182 : xF RX11 182 11 16 false := ⟨RX11, TX11, 63, rfl, by decide, gt_7 6 rfl rfl, rfl, rfl⟩
theorem fX11_208 : xF RX11 208 11 17 false := ⟨RX11, TX11, 63, rfl, by decide, gt_7 7 rfl rfl, rfl, rfl⟩
theorem fX11_211 : xF RX11 211 11 18 false := ⟨RX11, TX11, 63, rfl, by decide, gt_7 8 rfl rfl, rfl, rfl⟩
theorem fX11_214 : xF RX11 214 11 19 false := ⟨RX11, TX11, 63, rfl, by decide, gt_7 9 rfl rfl, rfl, rfl⟩
theorem fX11_57 : xF RX11 57 11 20 false := ⟨RX11, TX11, 63, rfl, by decide, gt_7 10 rfl rfl, rfl, rfl⟩
theorem fX11_61 : xF RX11 61 11 21 true := ⟨RX11, TX11, 63, rfl, by decide, gt_7 11 rfl rfl, rfl, rfl⟩
theorem fX11_64 : xF RX11 64 11 22 true := ⟨RX11, TX11, 63, rfl, by decide, gt_7 12 rfl rfl, rfl, rfl⟩
theorem fX11_67 : xF RX11 67 11 23 true := ⟨RX11, TX11, 63, rfl, by decide, gt_7 13 rfl rfl, rfl, rfl⟩
theorem fX11_70 : xF RX11 70 11 24 true := ⟨RX11, TX11, 63, rfl, by decide, gt_7 14 rfl rfl, rfl, rfl⟩
theorem fX11_73 : xF RX11 73 11 25 true := ⟨RX11, TX11, 63, rfl, by decide, gt_7 15 rfl rfl, rfl, rfl⟩
theorem fX11_76 : xF RX11 76 11 26 true := ⟨RX11, TX11, 63, rfl, by decide, gt_7 16 rfl rfl, rfl, rfl⟩
theorem fX11_79 : xF RX11 79 11 27 true := ⟨RX11, TX11, 63, rfl, by decide, gt_7 17 rfl rfl, rfl, rfl⟩
theorem fX11_82 : xF RX11 82 11 28 true := ⟨RX11, TX11, 63, rfl, by decide, gt_7 18 rfl rfl, rfl, rfl⟩
theorem fX11_85 : xF RX11 85 11 29 true := ⟨RX11, TX11, 63, rfl, by decide, gt_7 19 rfl rfl, rfl, rfl⟩
theorem fX11_88 : xF RX11 88 11 30 true := ⟨RX11, TX11, 63, rfl, by decide, gt_7 20 rfl rfl, rfl, rfl⟩
theorem fX11_91 : xF RX11 91 11 31 true := ⟨RX11, TX11, 63, rfl, by decide, gt_7 21 rfl rfl, rfl, rfl⟩
theorem fX11_94 : xF RX11 94 11 32 true := ⟨RX11, TX11, 63, rfl, by decide, gt_7 22 rfl rfl, rfl, rfl⟩
theorem fX11_327 : xF RX11 327 11 33 false := ⟨RX11, TX11, 63, rfl, by decide, gt_7 23 rfl rfl, rfl, rfl⟩
theorem fX11_330 : xF RX11 330 11 34 false := ⟨RX11, TX11, 63, rfl, by decide, gt_7 24 rfl rfl, rfl, rfl⟩
theorem fX11_382 : xF RX11 382 11 35 false := ⟨RX11, TX11, 63, rfl, by decide, gt_7 25 rfl rfl, rfl, rfl⟩
theorem fX11_97 : xF RX11 97 11 36 true := ⟨RX11, TX11, 63, rfl, by decide, gt_7 26 rfl rfl, rfl, rfl⟩
theorem fX11_100 : xF RX11 100 11 37 true := ⟨RX11, TX11, 63, rfl, by decide, gt_7 27 rfl rfl, rfl, rfl⟩
theorem fX11_103 : xF RX11 103 11 38 false := ⟨RX11, TX11, 63, rfl, by decide, gt_7 28 rfl rfl, rfl, rfl⟩
theorem fX11_106 : xF RX11 106 11 39 true := ⟨RX11, TX11, 63, rfl, by decide, gt_7 29 rfl rfl, rfl, rfl⟩
theorem fX11_110 : xF RX11 110 11 40 true := ⟨RX11, TX11, 63, rfl, by decide, gt_7 30 rfl rfl, rfl, rfl⟩
theorem fX11_113 : xF RX11 113 11 41 true := ⟨RX11, TX11, 63, rfl, by decide, gt_7 31 rfl rfl, rfl, rfl⟩
theorem fX11_116 : xF RX11 116 11 42 true := ⟨RX11, TX11, 63, rfl, by decide, gt_7 32 rfl rfl, rfl, rfl⟩
theorem fX11_119 : xF RX11 119 11 43 true := ⟨RX11, TX11, 63, rfl, by decide, gt_7 33 rfl rfl, rfl, rfl⟩
theorem fX11_122 : xF RX11 122 11 44 true := ⟨RX11, TX11, 63, rfl, by decide, gt_7 34 rfl rfl, rfl, rfl⟩
theorem fX11_125 : xF RX11 125 11 45 true := ⟨RX11, TX11, 63, rfl, by decide, gt_7 35 rfl rfl, rfl, rfl⟩
theorem fX11_333 : xF RX11 333 11 46 false := ⟨RX11, TX11, 63, rfl, by decide, gt_7 36 rfl rfl, rfl, rfl⟩
theorem fX11_128 : xF RX11 128 11 47 true := ⟨RX11, TX11, 63, rfl, by decide, gt_7 37 rfl rfl, rfl, rfl⟩
theorem fX11_131 : xF RX11 131 11 48 true := ⟨RX11, TX11, 63, rfl, by decide, gt_7 38 rfl rfl, rfl, rfl⟩
theorem fX11_482 : xF RX11 482 11 49 false := ⟨RX11, TX11, 63, rfl, by decide, gt_7 39 rfl rfl, rfl, rfl⟩
theorem fX11_336 : xF RX11 336 11 50 false := ⟨RX11, TX11, 63, rfl, by decide, gt_7 40 rfl rfl, rfl, rfl⟩
theorem fX11_508 : xF RX11 508 11 51 false := ⟨RX11, TX11, 63, rfl, by decide, gt_7 41 rfl rfl, rfl, rfl⟩
theorem fX11_511 : xF RX11 511 11 52 false := ⟨RX11, TX11, 63, rfl, by decide, gt_7 42 rfl rfl, rfl, rfl⟩
theorem fX11_514 : xF RX11 514 11 53 false := ⟨RX11, TX11, 63, rfl, by decide, gt_7 43 rfl rfl, rfl, rfl⟩
theorem fX11_134 : xF RX11 134 11 54 true := ⟨RX11, TX11, 63, rfl, by decide, gt_7 44 rfl rfl, rfl, rfl⟩
theorem fX11_137 : xF RX11 137 11 55 true := ⟨RX11, TX11, 63, rfl, by decide, gt_7 45 rfl rfl, rfl, rfl⟩
theorem fX11_140 : xF RX11 140 11 56 true := ⟨RX11, TX11, 63, rfl, by decide, gt_7 46 rfl rfl, rfl, rfl⟩
theorem fX11_143 : xF RX11 143 11 57 true := ⟨RX11, TX11, 63, rfl, by decide, gt_7 47 rfl rfl, rfl, rfl⟩
theorem fX11_146 : xF RX11 146 11 58 true := ⟨RX11, TX11, 63, rfl, by decide, gt_7 48 rfl rfl, rfl, rfl⟩
theorem fX11_149 : xF RX11 149 11 59 true := ⟨RX11, TX11, 63, rfl, by decide, gt_7 49 rfl rfl, rfl, rfl⟩
theorem fX11_152 : xF RX11 152 11 60 true := ⟨RX11, TX11, 63, rfl, by decide, gt_7 50 rfl rfl, rfl, rfl⟩
theorem fX11_155 : xF RX11 155 11 61 true := ⟨RX11, TX11, 63, rfl, by decide, gt_7 51 rfl rfl, rfl, rfl⟩
theorem fX11_158 : xF RX11 158 11 62 true := ⟨RX11, TX11, 63, rfl, by decide, gt_7 52 rfl rfl, rfl, rfl⟩
theorem cM_L_110 : Cond.methodLink RL 110 yX10_init ∈ gtbl := gt_1 28 rfl rfl
theorem cM_X10_22 : Cond.methodLink RX10 22 yX5_init ∈ gtbl := gt_1 36 rfl rfl
theorem cA_char : Cond.arrayClass .char ∈ gtbl := gt_1 68 rfl rfl
theorem cA_int : Cond.arrayClass .int ∈ gtbl := gt_1 69 rfl rfl
theorem kX5_32 : xV RX5 32 mX5_clear 5 0 := xV.of (T := TX5) (N := 13) (gt_1 70 rfl rfl) cI_X5_clear cE_X5_clear cN_X5 cC_X5_clear cD_X5_clear rfl
theorem kX5_35 : xV RX5 35 mX5_clearButDie 5 0 := xV.of (T := TX5) (N := 13) (gt_1 74 rfl rfl) cI_X5_clearButDie cE_X5_clearButDie cN_X5 cC_X5_clearButDie cD_X5_clearButDie rfl
theorem kX5_65 : xV RX5 65 mX0_clear 0 0 := xV.of (T := TX0) (N := 6) (gt_1 78 rfl rfl) cI_X0_clear cE_X0_clear cN_X0 cC_X0_clear cD_X0_clear rfl
theorem kX0_33 : xV RX0 33 mX0_add 0 1 := xV.of (T := TX0) (N := 6) (gt_1 82 rfl rfl) cI_X0_add cE_X0_add cN_X0 cC_X0_add cD_X0_add rfl
theorem kX5_38 : xV RX5 38 mX5_putOdds 5 2 := xV.of (T := TX5) (N := 13) (gt_1 86 rfl rfl) cI_X5_putOdds cE_X5_putOdds cN_X5 cC_X5_putOdds cD_X5_putOdds rfl
theorem kX5_42 : xV RX5 42 mX5_sumOdds 5 0 := xV.of (T := TX5) (N := 13) (gt_1 90 rfl rfl) cI_X5_sumOdds cE_X5_sumOdds cN_X5 cC_X5_sumOdds cD_X5_sumOdds rfl
theorem kX5_72 : xV RX5 72 mX5_oddsOf 5 1 := xV.of (T := TX5) (N := 13) (gt_1 94 rfl rfl) cI_X5_oddsOf cE_X5_oddsOf cN_X5 cC_X5_oddsOf cD_X5_oddsOf rfl
theorem cA_boolean : Cond.arrayClass .boolean ∈ gtbl := gt_1 174 rfl rfl
theorem cM_X10_29 : Cond.methodLink RX10 29 yX4_init ∈ gtbl := gt_1 177 rfl rfl
theorem cM_X4_11 : Cond.methodLink RX4 11 yX5_init ∈ gtbl := gt_1 182 rfl rfl
theorem cA_long : Cond.arrayClass .long ∈ gtbl := gt_2 61 rfl rfl
theorem kX10_98 : xV RX10 98 mX10_startAnew 10 0 := xV.of (T := TX10) (N := 16) (gt_2 109 rfl rfl) cI_X10_startAnew cE_X10_startAnew cN_X10 cC_X10_startAnew cD_X10_startAnew rfl
theorem kX10_122 : xV RX10 122 mX3_takeFeet 3 1 := xV.of (T := TX3) (N := 3) (gt_2 113 rfl rfl) cI_X3_takeFeet cE_X3_takeFeet cN_X3 cC_X3_takeFeet cD_X3_takeFeet rfl
theorem kX3_21 : xS RX3 21 mJ7_fill_53178 2 := xS.of (gt_2 117 rfl rfl) cS_J7_fill_53178 cN_J7 cC_J7_fill_53178 cD_J7_fill_53178
theorem kX3_33 : xV RX3 33 mX5_footOf 5 1 := xV.of (T := TX5) (N := 13) (gt_2 120 rfl rfl) cI_X5_footOf cE_X5_footOf cN_X5 cC_X5_footOf cD_X5_footOf rfl
theorem kX3_37 : xV RX3 37 mX5_headOf 5 1 := xV.of (T := TX5) (N := 13) (gt_2 124 rfl rfl) cI_X5_headOf cE_X5_headOf cN_X5 cC_X5_headOf cD_X5_headOf rfl
theorem kX3_40 : xV RX3 40 mX3_putFoot 3 2 := xV.of (T := TX3) (N := 3) (gt_2 128 rfl rfl) cI_X3_putFoot cE_X3_putFoot cN_X3 cC_X3_putFoot cD_X3_putFoot rfl
theorem kX10_126 : xV RX10 126 mX3_measure 3 1 := xV.of (T := TX3) (N := 3) (gt_2 132 rfl rfl) cI_X3_measure cE_X3_measure cN_X3 cC_X3_measure cD_X3_measure rfl
theorem kX3_47 : xS RX3 47 mJ9_min_7cf53 2 := xS.of (gt_2 136 rfl rfl) cS_J9_min_7cf53 cN_J9 cC_J9_min_7cf53 cD_J9_min_7cf53
theorem kX3_57 : xV RX3 57 mX0_howFar 0 4 := xV.of (T := TX0) (N := 6) (gt_2 139 rfl rfl) cI_X0_howFar cE_X0_howFar cN_X0 cC_X0_howFar cD_X0_howFar rfl
theorem kX0_37 : xV RX0 37 mX0_value 0 4 := xV.of (T := TX0) (N := 6) (gt_2 143 rfl rfl) cI_X0_value cE_X0_value cN_X0 cC_X0_value cD_X0_value rfl
theorem kX0_50 : xS RX0 50 mX0_operand 5 := xS.of (gt_2 147 rfl rfl) cS_X0_operand cN_X0 cC_X0_operand cD_X0_operand
theorem kX0_54 : xS RX0 54 mX0_holds 1 := xS.of (gt_2 150 rfl rfl) cS_X0_holds cN_X0 cC_X0_holds cD_X0_holds
theorem kX0_58 : xS RX0 58 mX0_joined 3 := xS.of (gt_2 153 rfl rfl) cS_X0_joined cN_X0 cC_X0_joined cD_X0_joined
theorem kX0_41 : xS RX0 41 mJ9_min_7cf53 2 := xS.of (gt_2 156 rfl rfl) cS_J9_min_7cf53 cN_J9 cC_J9_min_7cf53 cD_J9_min_7cf53
theorem kX0_47 : xS RX0 47 mJ9_max_7cf53 2 := xS.of (gt_2 157 rfl rfl) cS_J9_max_7cf53 cN_J9 cC_J9_max_7cf53 cD_J9_max_7cf53
theorem kX10_132 : xV RX10 132 mX3_lay 3 2 := xV.of (T := TX3) (N := 3) (gt_2 160 rfl rfl) cI_X3_lay cE_X3_lay cN_X3 cC_X3_lay cD_X3_lay rfl
theorem kX3_63 : xV RX3 63 mX3_landing 3 4 := xV.of (T := TX3) (N := 3) (gt_2 164 rfl rfl) cI_X3_landing cE_X3_landing cN_X3 cC_X3_landing cD_X3_landing rfl
theorem kX3_66 : xS RX3 66 mJ9_max_7cf53 2 := xS.of (gt_2 168 rfl rfl) cS_J9_max_7cf53 cN_J9 cC_J9_max_7cf53 cD_J9_max_7cf53
theorem kX10_139 : xV RX10 139 mX7_begin 7 1 := xV.of (T := TX7) (N := 8) (gt_2 169 rfl rfl) cI_X7_begin cE_X7_begin cN_X7 cC_X7_begin cD_X7_begin rfl
theorem kX7_24 : xS RX7 24 mJ9_min_7cf53 2 := xS.of (gt_2 173 rfl rfl) cS_J9_min_7cf53 cN_J9 cC_J9_min_7cf53 cD_J9_min_7cf53
theorem kX7_30 : xS RX7 30 mJ9_max_7cf53 2 := xS.of (gt_2 174 rfl rfl) cS_J9_max_7cf53 cN_J9 cC_J9_max_7cf53 cD_J9_max_7cf53
theorem kX7_37 : xS RX7 37 mJ7_fill_53178 2 := xS.of (gt_2 175 rfl rfl) cS_J7_fill_53178 cN_J7 cC_J7_fill_53178 cD_J7_fill_53178
theorem kL_114 : xV RL 114 mX10_feed 10 5 := xV.of (T := TX10) (N := 16) (gt_2 225 rfl rfl) cI_X10_feed cE_X10_feed cN_X10 cC_X10_feed cD_X10_feed rfl
theorem kX10_101 : xV RX10 101 mX10_feedNumber 10 1 := xV.of (T := TX10) (N := 16) (gt_2 229 rfl rfl) cI_X10_feedNumber cE_X10_feedNumber cN_X10 cC_X10_feedNumber cD_X10_feedNumber rfl
theorem kL_129 : xV RL 129 mX10_fault 10 0 := xV.of (T := TX10) (N := 16) (gt_2 233 rfl rfl) cI_X10_fault cE_X10_fault cN_X10 cC_X10_fault cD_X10_fault rfl
theorem kL_149 : xV RL 149 mX10_undo 10 0 := xV.of (T := TX10) (N := 16) (gt_2 237 rfl rfl) cI_X10_undo cE_X10_undo cN_X10 cC_X10_undo cD_X10_undo rfl
theorem kX10_215 : xV RX10 215 mX7_takeBack 7 0 := xV.of (T := TX7) (N := 8) (gt_3 1 rfl rfl) cI_X7_takeBack cE_X7_takeBack cN_X7 cC_X7_takeBack cD_X7_takeBack rfl
theorem kX7_97 : xV RX7 97 mX7_logged 7 2 := xV.of (T := TX7) (N := 8) (gt_3 5 rfl rfl) cI_X7_logged cE_X7_logged cN_X7 cC_X7_logged cD_X7_logged rfl
theorem kX7_71 : xV RX7 71 mX7_place 7 2 := xV.of (T := TX7) (N := 8) (gt_3 9 rfl rfl) cI_X7_place cE_X7_place cN_X7 cC_X7_place cD_X7_place rfl
theorem kL_212 : xV RL 212 mX10_worn 10 0 := xV.of (T := TX10) (N := 16) (gt_3 13 rfl rfl) cI_X10_worn cE_X10_worn cN_X10 cC_X10_worn cD_X10_worn rfl
theorem kX10_310 : xV RX10 310 mX10_timesMore 10 1 := xV.of (T := TX10) (N := 16) (gt_3 17 rfl rfl) cI_X10_timesMore cE_X10_timesMore cN_X10 cC_X10_timesMore cD_X10_timesMore rfl
theorem kX10_307 : xV RX10 307 mX7_timesThrown 7 1 := xV.of (T := TX7) (N := 8) (gt_3 21 rfl rfl) cI_X7_timesThrown cE_X7_timesThrown cN_X7 cC_X7_timesThrown cD_X7_timesThrown rfl
theorem kX10_145 : xV RX10 145 mX5_oddsOf 5 1 := xV.of (T := TX5) (N := 13) (gt_3 25 rfl rfl) cI_X5_oddsOf cE_X5_oddsOf cN_X5 cC_X5_oddsOf cD_X5_oddsOf rfl
theorem kL_216 : xV RL 216 mX10_note 10 1 := xV.of (T := TX10) (N := 16) (gt_3 26 rfl rfl) cI_X10_note cE_X10_note cN_X10 cC_X10_note cD_X10_note rfl
theorem kX10_115 : xV RX10 115 mX7_refuse 7 1 := xV.of (T := TX7) (N := 8) (gt_3 30 rfl rfl) cI_X7_refuse cE_X7_refuse cN_X7 cC_X7_refuse cD_X7_refuse rfl
theorem kX10_319 : xV RX10 319 mX7_putNote 7 1 := xV.of (T := TX7) (N := 8) (gt_3 34 rfl rfl) cI_X7_putNote cE_X7_putNote cN_X7 cC_X7_putNote cD_X7_putNote rfl
theorem kL_220 : xV RL 220 mX10_forget 10 0 := xV.of (T := TX10) (N := 16) (gt_3 38 rfl rfl) cI_X10_forget cE_X10_forget cN_X10 cC_X10_forget cD_X10_forget rfl
theorem kL_224 : xV RL 224 mX10_cannot 10 0 := xV.of (T := TX10) (N := 16) (gt_3 42 rfl rfl) cI_X10_cannot cE_X10_cannot cN_X10 cC_X10_cannot cD_X10_cannot rfl
theorem kX10_322 : xV RX10 322 mX2_firstThatCannotBe 2 3 := xV.of (T := TX2) (N := 3) (gt_3 46 rfl rfl) cI_X2_firstThatCannotBe cE_X2_firstThatCannotBe cN_X2 cC_X2_firstThatCannotBe cD_X2_firstThatCannotBe rfl
theorem kX2_42 : xS RX2 42 mX2_isAsked 2 := xS.of (gt_3 50 rfl rfl) cS_X2_isAsked cN_X2 cC_X2_isAsked cD_X2_isAsked
theorem kX2_21 : xV RX2 21 mX7_noteOf 7 1 := xV.of (T := TX7) (N := 8) (gt_3 53 rfl rfl) cI_X7_noteOf cE_X7_noteOf cN_X7 cC_X7_noteOf cD_X7_noteOf rfl
theorem kX2_46 : xS RX2 46 mX2_canCome 5 := xS.of (gt_3 57 rfl rfl) cS_X2_canCome cN_X2 cC_X2_canCome cD_X2_canCome
theorem kX2_27 : xV RX2 27 mX5_oddsOf 5 1 := xV.of (T := TX5) (N := 13) (gt_3 60 rfl rfl) cI_X5_oddsOf cE_X5_oddsOf cN_X5 cC_X5_oddsOf cD_X5_oddsOf rfl
theorem kX2_32 : xV RX2 32 mX3_to 3 2 := xV.of (T := TX3) (N := 3) (gt_3 61 rfl rfl) cI_X3_to cE_X3_to cN_X3 cC_X3_to cD_X3_to rfl
theorem kL_228 : xV RL 228 mX10_fits 10 0 := xV.of (T := TX10) (N := 16) (gt_3 65 rfl rfl) cI_X10_fits cE_X10_fits cN_X10 cC_X10_fits cD_X10_fits rfl
theorem kX10_326 : xV RX10 326 mX2_countFits 2 3 := xV.of (T := TX2) (N := 3) (gt_3 69 rfl rfl) cI_X2_countFits cE_X2_countFits cN_X2 cC_X2_countFits cD_X2_countFits rfl
theorem kX2_50 : xS RX2 50 mJ7_fill_d0a16 2 := xS.of (gt_3 73 rfl rfl) cS_J7_fill_d0a16 cN_J7 cC_J7_fill_d0a16 cD_J7_fill_d0a16
theorem kX2_59 : xV RX2 59 mX2_putEarlier 2 3 := xV.of (T := TX2) (N := 3) (gt_3 76 rfl rfl) cI_X2_putEarlier cE_X2_putEarlier cN_X2 cC_X2_putEarlier cD_X2_putEarlier rfl
theorem kX2_74 : xV RX2 74 mX2_setOpen 2 2 := xV.of (T := TX2) (N := 3) (gt_3 80 rfl rfl) cI_X2_setOpen cE_X2_setOpen cN_X2 cC_X2_setOpen cD_X2_setOpen rfl
theorem kX2_63 : xV RX2 63 mX2_swap 2 0 := xV.of (T := TX2) (N := 3) (gt_3 84 rfl rfl) cI_X2_swap cE_X2_swap cN_X2 cC_X2_swap cD_X2_swap rfl
theorem kX2_66 : xV RX2 66 mX2_sumOfFaces 2 5 := xV.of (T := TX2) (N := 3) (gt_3 88 rfl rfl) cI_X2_sumOfFaces cE_X2_sumOfFaces cN_X2 cC_X2_sumOfFaces cD_X2_sumOfFaces rfl
theorem kX2_78 : xS RX2 78 mX2_isAsNoted 3 := xS.of (gt_3 92 rfl rfl) cS_X2_isAsNoted cN_X2 cC_X2_isAsNoted cD_X2_isAsNoted
theorem kX2_70 : xV RX2 70 mX2_ways 2 1 := xV.of (T := TX2) (N := 3) (gt_3 95 rfl rfl) cI_X2_ways cE_X2_ways cN_X2 cC_X2_ways cD_X2_ways rfl
theorem cK_X2_82 : Cond.constantLong RX2 82 (1000000000000000000 : Int64) ∈ gtbl := gt_3 99 rfl rfl
theorem kX2_84 : xS RX2 84 mJ9_min_f86c9 2 := xS.of (gt_3 100 rfl rfl) cS_J9_min_f86c9 cN_J9 cC_J9_min_f86c9 cD_J9_min_f86c9
theorem kX10_330 : xV RX10 330 mX2_putFirstFit 2 4 := xV.of (T := TX2) (N := 3) (gt_3 103 rfl rfl) cI_X2_putFirstFit cE_X2_putFirstFit cN_X2 cC_X2_putFirstFit cD_X2_putFirstFit rfl
theorem kX2_90 : xV RX2 90 mX2_isOpen 2 2 := xV.of (T := TX2) (N := 3) (gt_3 107 rfl rfl) cI_X2_isOpen cE_X2_isOpen cN_X2 cC_X2_isOpen cD_X2_isOpen rfl
theorem kL_233 : xV RL 233 mX10_less 10 0 := xV.of (T := TX10) (N := 16) (gt_3 111 rfl rfl) cI_X10_less cE_X10_less cN_X10 cC_X10_less cD_X10_less rfl
theorem kX10_334 : xV RX10 334 mX2_countOneLess 2 3 := xV.of (T := TX2) (N := 3) (gt_3 115 rfl rfl) cI_X2_countOneLess cE_X2_countOneLess cN_X2 cC_X2_countOneLess cD_X2_countOneLess rfl
theorem kL_252 : xV RL 252 mX10_image 10 0 := xV.of (T := TX10) (N := 16) (gt_3 119 rfl rfl) cI_X10_image cE_X10_image cN_X10 cC_X10_image cD_X10_image rfl
theorem kX10_361 : xV RX10 361 mX7_takeFrom 7 1 := xV.of (T := TX7) (N := 8) (gt_3 123 rfl rfl) cI_X7_takeFrom cE_X7_takeFrom cN_X7 cC_X7_takeFrom cD_X7_takeFrom rfl
theorem kL_256 : xV RL 256 mX10_restore 10 0 := xV.of (T := TX10) (N := 16) (gt_3 130 rfl rfl) cI_X10_restore cE_X10_restore cN_X10 cC_X10_restore cD_X10_restore rfl
theorem kL_7 : xV RL 7 mX10_board 10 1 := xV.of (T := TX10) (N := 16) (gt_3 138 rfl rfl) cI_X10_board cE_X10_board cN_X10 cC_X10_board cD_X10_board rfl
theorem kX10_108 : xV RX10 108 mX4_read 4 1 := xV.of (T := TX4) (N := 8) (gt_3 204 rfl rfl) cI_X4_read cE_X4_read cN_X4 cC_X4_read cD_X4_read rfl
theorem kX4_22 : xS RX4 22 mJ9_min_7cf53 2 := xS.of (gt_3 208 rfl rfl) cS_J9_min_7cf53 cN_J9 cC_J9_min_7cf53 cD_J9_min_7cf53
theorem kX4_28 : xS RX4 28 mJ9_max_7cf53 2 := xS.of (gt_3 209 rfl rfl) cS_J9_max_7cf53 cN_J9 cC_J9_max_7cf53 cD_J9_max_7cf53
theorem kX4_35 : xV RX4 35 mX5_clear 5 0 := xV.of (T := TX5) (N := 13) (gt_3 210 rfl rfl) cI_X5_clear cE_X5_clear cN_X5 cC_X5_clear cD_X5_clear rfl
theorem kX4_47 : xV RX4 47 mX4_readOn 4 0 := xV.of (T := TX4) (N := 8) (gt_3 211 rfl rfl) cI_X4_readOn cE_X4_readOn cN_X4 cC_X4_readOn cD_X4_readOn rfl
theorem kX4_69 : xV RX4 69 mX4_signAt 4 1 := xV.of (T := TX4) (N := 8) (gt_3 215 rfl rfl) cI_X4_signAt cE_X4_signAt cN_X4 cC_X4_signAt cD_X4_signAt rfl
theorem kX4_73 : xS RX4 73 mX4_isBlank 1 := xS.of (gt_3 219 rfl rfl) cS_X4_isBlank cN_X4 cC_X4_isBlank cD_X4_isBlank
theorem kX4_77 : xS RX4 77 mX4_isLetter 1 := xS.of (gt_3 222 rfl rfl) cS_X4_isLetter cN_X4 cC_X4_isLetter cD_X4_isLetter
theorem kX4_80 : xS RX4 80 mX4_isDigit 1 := xS.of (gt_3 225 rfl rfl) cS_X4_isDigit cN_X4 cC_X4_isDigit cD_X4_isDigit
theorem cM_X4_85 : Cond.methodLink RX4 85 yJ0_indexOf_0f7a4 ∈ gtbl := gt_3 229 rfl rfl
theorem cM_J0_633 : Cond.methodLink RJ0 633 yJ0_indexOf_7cf53 ∈ gtbl := gt_3 233 rfl rfl
theorem cM_J0_492 : Cond.methodLink RJ0 492 yJ0_isLatin1_aae02 ∈ gtbl := gt_3 237 rfl rfl
theorem cM_J0_505 : Cond.methodLink RJ0 505 yJ0_length_8abf5 ∈ gtbl := gt_4 3 rfl rfl
theorem cM_J0_335 : Cond.methodLink RJ0 335 yJ0_coder_7d493 ∈ gtbl := gt_4 7 rfl rfl
theorem kJ0_637 : xS RJ0 637 mJ1_indexOf_4cfef 4 := xS.of (gt_4 11 rfl rfl) cS_J1_indexOf_4cfef cN_J1 cC_J1_indexOf_4cfef cD_J1_indexOf_4cfef
theorem kJ1_88 : xS RJ1 88 mJ1_canEncode_9a6ad 1 := xS.of (gt_4 14 rfl rfl) cS_J1_canEncode_9a6ad cN_J1 cC_J1_canEncode_9a6ad cD_J1_canEncode_9a6ad
theorem kJ1_92 : xS RJ1 92 mJ9_max_7cf53 2 := xS.of (gt_4 17 rfl rfl) cS_J9_max_7cf53 cN_J9 cC_J9_max_7cf53 cD_J9_max_7cf53
theorem kJ1_38 : xS RJ1 38 mJ9_min_7cf53 2 := xS.of (gt_4 18 rfl rfl) cS_J9_min_7cf53 cN_J9 cC_J9_min_7cf53 cD_J9_min_7cf53
theorem kJ1_95 : xS RJ1 95 mJ1_indexOfChar_4cfef 4 := xS.of (gt_4 19 rfl rfl) cS_J1_indexOfChar_4cfef cN_J1 cC_J1_indexOfChar_4cfef cD_J1_indexOfChar_4cfef
theorem kJ0_640 : xS RJ0 640 mJ2_indexOf_4cfef 4 := xS.of (gt_4 22 rfl rfl) cS_J2_indexOf_4cfef cN_J2 cC_J2_indexOf_4cfef cD_J2_indexOf_4cfef
theorem kJ2_224 : xS RJ2 224 mJ9_max_7cf53 2 := xS.of (gt_4 25 rfl rfl) cS_J9_max_7cf53 cN_J9 cC_J9_max_7cf53 cD_J9_max_7cf53
theorem kJ2_183 : xS RJ2 183 mJ9_min_7cf53 2 := xS.of (gt_4 26 rfl rfl) cS_J9_min_7cf53 cN_J9 cC_J9_min_7cf53 cD_J9_min_7cf53
theorem cK_J2_227 : Cond.constant RJ2 227 (65536 : Int32) ∈ gtbl := gt_4 27 rfl rfl
theorem kJ2_228 : xS RJ2 228 mJ2_indexOfChar_4cfef 4 := xS.of (gt_4 28 rfl rfl) cS_J2_indexOfChar_4cfef cN_J2 cC_J2_indexOfChar_4cfef cD_J2_indexOfChar_4cfef
theorem kJ2_96 : xS RJ2 96 mJ2_checkBoundsBeginEnd_d044e 3 := xS.of (gt_4 31 rfl rfl) cS_J2_checkBoundsBeginEnd_d044e cN_J2 cC_J2_checkBoundsBeginEnd_d044e cD_J2_checkBoundsBeginEnd_d044e
theorem kJ2_48 : xS RJ2 48 mJ2_length_9d52b 1 := xS.of (gt_4 34 rfl rfl) cS_J2_length_9d52b cN_J2 cC_J2_length_9d52b cD_J2_length_9d52b
theorem kJ2_241 : xS RJ2 241 mJ0_checkBoundsBeginEnd_23922 3 := xS.of (gt_4 37 rfl rfl) cS_J0_checkBoundsBeginEnd_23922 cN_J0 cC_J0_checkBoundsBeginEnd_23922 cD_J0_checkBoundsBeginEnd_23922
theorem kJ0_1062 : xS RJ0 1062 mJ3_checkFromToIndex_8c36e 4 := xS.of (gt_4 42 rfl rfl) cS_J3_checkFromToIndex_8c36e cN_J3 cC_J3_checkFromToIndex_8c36e cD_J3_checkFromToIndex_8c36e
theorem kJ2_244 : xS RJ2 244 mJ2_indexOfCharUnsafe_4cfef 4 := xS.of (gt_4 45 rfl rfl) cS_J2_indexOfCharUnsafe_4cfef cN_J2 cC_J2_indexOfCharUnsafe_4cfef cD_J2_indexOfCharUnsafe_4cfef
theorem kJ2_71 : xS RJ2 71 mJ2_getChar_3b067 2 := xS.of (gt_4 48 rfl rfl) cS_J2_getChar_3b067 cN_J2 cC_J2_getChar_3b067 cD_J2_getChar_3b067
theorem kJ2_232 : xS RJ2 232 mJ2_indexOfSupplementary_4cfef 4 := xS.of (gt_4 57 rfl rfl) cS_J2_indexOfSupplementary_4cfef cN_J2 cC_J2_indexOfSupplementary_4cfef cD_J2_indexOfSupplementary_4cfef
theorem kJ2_164 : xS RJ2 164 mJ11_isValidCodePoint_9a6ad 1 := xS.of (gt_4 60 rfl rfl) cS_J11_isValidCodePoint_9a6ad cN_J11 cC_J11_isValidCodePoint_9a6ad cD_J11_isValidCodePoint_9a6ad
theorem kJ2_157 : xS RJ2 157 mJ11_highSurrogate_5068e 1 := xS.of (gt_4 63 rfl rfl) cS_J11_highSurrogate_5068e cN_J11 cC_J11_highSurrogate_5068e cD_J11_highSurrogate_5068e
theorem cK_J11_110 : Cond.constant RJ11 110 (55232 : Int32) ∈ gtbl := gt_4 66 rfl rfl
theorem kJ2_161 : xS RJ2 161 mJ11_lowSurrogate_5068e 1 := xS.of (gt_4 67 rfl rfl) cS_J11_lowSurrogate_5068e cN_J11 cC_J11_lowSurrogate_5068e cD_J11_lowSurrogate_5068e
theorem cK_J11_76 : Cond.constant RJ11 76 (56320 : Int32) ∈ gtbl := gt_4 70 rfl rfl
theorem kX4_52 : xV RX4 52 mX4_isWord 4 1 := xV.of (T := TX4) (N := 8) (gt_4 72 rfl rfl) cI_X4_isWord cE_X4_isWord cN_X4 cC_X4_isWord cD_X4_isWord rfl
theorem cM_X4_91 : Cond.methodLink RX4 91 yJ0_length_8abf5 ∈ gtbl := gt_4 76 rfl rfl
theorem cM_X4_95 : Cond.methodLink RX4 95 yJ0_charAt_5068e ∈ gtbl := gt_4 77 rfl rfl
theorem kJ0_495 : xS RJ0 495 mJ1_charAt_3b067 2 := xS.of (gt_4 81 rfl rfl) cS_J1_charAt_3b067 cN_J1 cC_J1_charAt_3b067 cD_J1_charAt_3b067
theorem kJ1_9 : xS RJ1 9 mJ0_checkIndex_df160 2 := xS.of (gt_4 84 rfl rfl) cS_J0_checkIndex_df160 cN_J0 cC_J0_checkIndex_df160 cD_J0_checkIndex_df160
theorem kJ0_1059 : xS RJ0 1059 mJ3_checkIndex_8e157 3 := xS.of (gt_4 87 rfl rfl) cS_J3_checkIndex_8e157 cN_J3 cC_J3_checkIndex_8e157 cD_J3_checkIndex_8e157
theorem kJ0_498 : xS RJ0 498 mJ2_charAt_3b067 2 := xS.of (gt_4 90 rfl rfl) cS_J2_charAt_3b067 cN_J2 cC_J2_charAt_3b067 cD_J2_charAt_3b067
theorem kJ2_67 : xS RJ2 67 mJ2_checkIndex_2214a 2 := xS.of (gt_4 93 rfl rfl) cS_J2_checkIndex_2214a cN_J2 cC_J2_checkIndex_2214a cD_J2_checkIndex_2214a
theorem kJ2_414 : xS RJ2 414 mJ0_checkIndex_df160 2 := xS.of (gt_4 96 rfl rfl) cS_J0_checkIndex_df160 cN_J0 cC_J0_checkIndex_df160 cD_J0_checkIndex_df160
theorem kX4_56 : xV RX4 56 mX4_readLast 4 0 := xV.of (T := TX4) (N := 8) (gt_4 97 rfl rfl) cI_X4_readLast cE_X4_readLast cN_X4 cC_X4_readLast cD_X4_readLast rfl
theorem kX4_108 : xV RX4 108 mX4_checkedNumber 4 2 := xV.of (T := TX4) (N := 8) (gt_4 101 rfl rfl) cI_X4_checkedNumber cE_X4_checkedNumber cN_X4 cC_X4_checkedNumber cD_X4_checkedNumber rfl
theorem kX4_101 : xV RX4 101 mX4_fail 4 1 := xV.of (T := TX4) (N := 8) (gt_4 105 rfl rfl) cI_X4_fail cE_X4_fail cN_X4 cC_X4_fail cD_X4_fail rfl
theorem kX4_105 : xV RX4 105 mX4_numberHere 4 0 := xV.of (T := TX4) (N := 8) (gt_4 109 rfl rfl) cI_X4_numberHere cE_X4_numberHere cN_X4 cC_X4_numberHere cD_X4_numberHere rfl
theorem kX4_113 : xV RX4 113 mX4_takeSign 4 1 := xV.of (T := TX4) (N := 8) (gt_4 113 rfl rfl) cI_X4_takeSign cE_X4_takeSign cN_X4 cC_X4_takeSign cD_X4_takeSign rfl
theorem kX4_98 : xV RX4 98 mX4_isSign 4 1 := xV.of (T := TX4) (N := 8) (gt_4 117 rfl rfl) cI_X4_isSign cE_X4_isSign cN_X4 cC_X4_isSign cD_X4_isSign rfl
theorem kX4_63 : xV RX4 63 mX4_readLine 4 0 := xV.of (T := TX4) (N := 8) (gt_4 121 rfl rfl) cI_X4_readLine cE_X4_readLine cN_X4 cC_X4_readLine cD_X4_readLine rfl
theorem kX4_116 : xV RX4 116 mX4_lineHere 4 0 := xV.of (T := TX4) (N := 8) (gt_4 125 rfl rfl) cI_X4_lineHere cE_X4_lineHere cN_X4 cC_X4_lineHere cD_X4_lineHere rfl
theorem kX4_122 : xV RX4 122 mX4_readExit 4 0 := xV.of (T := TX4) (N := 8) (gt_4 136 rfl rfl) cI_X4_readExit cE_X4_readExit cN_X4 cC_X4_readExit cD_X4_readExit rfl
theorem kX4_156 : xV RX4 156 mX5_isFoot 5 1 := xV.of (T := TX5) (N := 13) (gt_4 140 rfl rfl) cI_X5_isFoot cE_X5_isFoot cN_X5 cC_X5_isFoot cD_X5_isFoot rfl
theorem kX4_159 : xV RX4 159 mX5_addExit 5 2 := xV.of (T := TX5) (N := 13) (gt_4 144 rfl rfl) cI_X5_addExit cE_X5_addExit cN_X5 cC_X5_addExit cD_X5_addExit rfl
theorem kX4_125 : xV RX4 125 mX4_readDie 4 0 := xV.of (T := TX4) (N := 8) (gt_4 148 rfl rfl) cI_X4_readDie cE_X4_readDie cN_X4 cC_X4_readDie cD_X4_readDie rfl
theorem kX4_163 : xV RX4 163 mX5_putOdds 5 2 := xV.of (T := TX5) (N := 13) (gt_4 152 rfl rfl) cI_X5_putOdds cE_X5_putOdds cN_X5 cC_X5_putOdds cD_X5_putOdds rfl
theorem kX4_166 : xV RX4 166 mX5_sumOdds 5 0 := xV.of (T := TX5) (N := 13) (gt_4 153 rfl rfl) cI_X5_sumOdds cE_X5_sumOdds cN_X5 cC_X5_sumOdds cD_X5_sumOdds rfl
theorem kX4_128 : xV RX4 128 mX4_readEnd 4 0 := xV.of (T := TX4) (N := 8) (gt_4 154 rfl rfl) cI_X4_readEnd cE_X4_readEnd cN_X4 cC_X4_readEnd cD_X4_readEnd rfl
theorem kX4_131 : xV RX4 131 mX4_readAgain 4 0 := xV.of (T := TX4) (N := 8) (gt_4 161 rfl rfl) cI_X4_readAgain cE_X4_readAgain cN_X4 cC_X4_readAgain cD_X4_readAgain rfl
theorem kX4_134 : xV RX4 134 mX4_readPieces 4 0 := xV.of (T := TX4) (N := 8) (gt_4 165 rfl rfl) cI_X4_readPieces cE_X4_readPieces cN_X4 cC_X4_readPieces cD_X4_readPieces rfl
theorem kX4_137 : xV RX4 137 mX4_readGoes 4 0 := xV.of (T := TX4) (N := 8) (gt_4 169 rfl rfl) cI_X4_readGoes cE_X4_readGoes cN_X4 cC_X4_readGoes cD_X4_readGoes rfl
theorem kX4_187 : xV RX4 187 mX0_begin 0 0 := xV.of (T := TX0) (N := 6) (gt_4 173 rfl rfl) cI_X0_begin cE_X0_begin cN_X0 cC_X0_begin cD_X0_begin rfl
theorem kX4_192 : xV RX4 192 mX4_readExpr 4 1 := xV.of (T := TX4) (N := 8) (gt_4 177 rfl rfl) cI_X4_readExpr cE_X4_readExpr cN_X4 cC_X4_readExpr cD_X4_readExpr rfl
theorem kX4_202 : xV RX4 202 mX4_readAnd 4 1 := xV.of (T := TX4) (N := 8) (gt_4 181 rfl rfl) cI_X4_readAnd cE_X4_readAnd cN_X4 cC_X4_readAnd cD_X4_readAnd rfl
theorem kX4_211 : xV RX4 211 mX4_readNot 4 1 := xV.of (T := TX4) (N := 8) (gt_4 185 rfl rfl) cI_X4_readNot cE_X4_readNot cN_X4 cC_X4_readNot cD_X4_readNot rfl
theorem kX4_218 : xV RX4 218 mX4_readTest 4 1 := xV.of (T := TX4) (N := 8) (gt_4 190 rfl rfl) cI_X4_readTest cE_X4_readTest cN_X4 cC_X4_readTest cD_X4_readTest rfl
theorem kX4_221 : xV RX4 221 mX4_readSum 4 1 := xV.of (T := TX4) (N := 8) (gt_4 194 rfl rfl) cI_X4_readSum cE_X4_readSum cN_X4 cC_X4_readSum cD_X4_readSum rfl
theorem kX4_224 : xV RX4 224 mX4_readProduct 4 1 := xV.of (T := TX4) (N := 8) (gt_4 198 rfl rfl) cI_X4_readProduct cE_X4_readProduct cN_X4 cC_X4_readProduct cD_X4_readProduct rfl
theorem kX4_227 : xV RX4 227 mX4_readPart 4 1 := xV.of (T := TX4) (N := 8) (gt_4 202 rfl rfl) cI_X4_readPart cE_X4_readPart cN_X4 cC_X4_readPart cD_X4_readPart rfl
theorem kX4_230 : xV RX4 230 mX4_readValue 4 0 := xV.of (T := TX4) (N := 8) (gt_4 206 rfl rfl) cI_X4_readValue cE_X4_readValue cN_X4 cC_X4_readValue cD_X4_readValue rfl
theorem kX4_207 : xV RX4 207 mX0_add 0 1 := xV.of (T := TX0) (N := 6) (gt_4 211 rfl rfl) cI_X0_add cE_X0_add cN_X0 cC_X0_add cD_X0_add rfl
theorem kX4_195 : xV RX4 195 mX4_keepText 4 2 := xV.of (T := TX4) (N := 8) (gt_4 216 rfl rfl) cI_X4_keepText cE_X4_keepText cN_X4 cC_X4_keepText cD_X4_keepText rfl
theorem kX4_198 : xV RX4 198 mX0_addSign 0 1 := xV.of (T := TX0) (N := 6) (gt_4 220 rfl rfl) cI_X0_addSign cE_X0_addSign cN_X0 cC_X0_addSign cD_X0_addSign rfl
theorem kX10_118 : xV RX10 118 mX4_exchange 4 1 := xV.of (T := TX4) (N := 8) (gt_4 224 rfl rfl) cI_X4_exchange cE_X4_exchange cN_X4 cC_X4_exchange cD_X4_exchange rfl
theorem cA_byte : Cond.arrayClass .byte ∈ gtbl := gt_4 228 rfl rfl
theorem kL_15 : xV RL 15 mX10_count 10 1 := xV.of (T := TX10) (N := 16) (gt_4 233 rfl rfl) cI_X10_count cE_X10_count cN_X10 cC_X10_count cD_X10_count rfl
theorem kX10_169 : xV RX10 169 mX7_refusedOf 7 1 := xV.of (T := TX7) (N := 8) (gt_4 237 rfl rfl) cI_X7_refusedOf cE_X7_refusedOf cN_X7 cC_X7_refusedOf cD_X7_refusedOf rfl
theorem kL_20 : xV RL 20 mX10_exit 10 2 := xV.of (T := TX10) (N := 16) (gt_5 19 rfl rfl) cI_X10_exit cE_X10_exit cN_X10 cC_X10_exit cD_X10_exit rfl
theorem kX10_175 : xV RX10 175 mX10_needExit 10 1 := xV.of (T := TX10) (N := 16) (gt_5 23 rfl rfl) cI_X10_needExit cE_X10_needExit cN_X10 cC_X10_needExit cD_X10_needExit rfl
theorem kX10_178 : xV RX10 178 mX5_footOf 5 1 := xV.of (T := TX5) (N := 13) (gt_5 27 rfl rfl) cI_X5_footOf cE_X5_footOf cN_X5 cC_X5_footOf cD_X5_footOf rfl
theorem kX10_181 : xV RX10 181 mX5_headOf 5 1 := xV.of (T := TX5) (N := 13) (gt_5 28 rfl rfl) cI_X5_headOf cE_X5_headOf cN_X5 cC_X5_headOf cD_X5_headOf rfl
theorem kL_24 : xV RL 24 mX10_goes 10 2 := xV.of (T := TX10) (N := 16) (gt_5 32 rfl rfl) cI_X10_goes cE_X10_goes cN_X10 cC_X10_goes cD_X10_goes rfl
theorem kX10_184 : xV RX10 184 mX10_needSquare 10 1 := xV.of (T := TX10) (N := 16) (gt_5 36 rfl rfl) cI_X10_needSquare cE_X10_needSquare cN_X10 cC_X10_needSquare cD_X10_needSquare rfl
theorem kX10_187 : xV RX10 187 mX10_needFace 10 1 := xV.of (T := TX10) (N := 16) (gt_5 40 rfl rfl) cI_X10_needFace cE_X10_needFace cN_X10 cC_X10_needFace cD_X10_needFace rfl
theorem kX10_190 : xV RX10 190 mX3_to 3 2 := xV.of (T := TX3) (N := 3) (gt_5 44 rfl rfl) cI_X3_to cE_X3_to cN_X3 cC_X3_to cD_X3_to rfl
theorem kL_27 : xV RL 27 mX10_roll 10 1 := xV.of (T := TX10) (N := 16) (gt_5 48 rfl rfl) cI_X10_roll cE_X10_roll cN_X10 cC_X10_roll cD_X10_roll rfl
theorem kX10_194 : xV RX10 194 mX7_move 7 3 := xV.of (T := TX7) (N := 8) (gt_5 52 rfl rfl) cI_X7_move cE_X7_move cN_X7 cC_X7_move cD_X7_move rfl
theorem kX7_58 : xV RX7 58 mX7_canMove 7 0 := xV.of (T := TX7) (N := 8) (gt_5 56 rfl rfl) cI_X7_canMove cE_X7_canMove cN_X7 cC_X7_canMove cD_X7_canMove rfl
theorem kX7_62 : xV RX7 62 mX7_placeOf 7 1 := xV.of (T := TX7) (N := 8) (gt_5 60 rfl rfl) cI_X7_placeOf cE_X7_placeOf cN_X7 cC_X7_placeOf cD_X7_placeOf rfl
theorem kX7_66 : xV RX7 66 mX3_to 3 2 := xV.of (T := TX3) (N := 3) (gt_5 64 rfl rfl) cI_X3_to cE_X3_to cN_X3 cC_X3_to cD_X3_to rfl
theorem kX7_75 : xV RX7 75 mX7_putLog 7 2 := xV.of (T := TX7) (N := 8) (gt_5 65 rfl rfl) cI_X7_putLog cE_X7_putLog cN_X7 cC_X7_putLog cD_X7_putLog rfl
theorem kX7_87 : xV RX7 87 mX7_sendBack 7 1 := xV.of (T := TX7) (N := 8) (gt_5 69 rfl rfl) cI_X7_sendBack cE_X7_sendBack cN_X7 cC_X7_sendBack cD_X7_sendBack rfl
theorem kX7_90 : xV RX7 90 mX7_nextTurn 7 2 := xV.of (T := TX7) (N := 8) (gt_5 73 rfl rfl) cI_X7_nextTurn cE_X7_nextTurn cN_X7 cC_X7_nextTurn cD_X7_nextTurn rfl
theorem kL_30 : xV RL 30 mX10_rolls 10 2 := xV.of (T := TX10) (N := 16) (gt_5 80 rfl rfl) cI_X10_rolls cE_X10_rolls cN_X10 cC_X10_rolls cD_X10_rolls rfl
theorem kX10_198 : xV RX10 198 mX7_canMove 7 0 := xV.of (T := TX7) (N := 8) (gt_5 84 rfl rfl) cI_X7_canMove cE_X7_canMove cN_X7 cC_X7_canMove cD_X7_canMove rfl
theorem kX10_202 : xS RX10 202 mX10_nextSeed 1 := xS.of (gt_5 85 rfl rfl) cS_X10_nextSeed cN_X10 cC_X10_nextSeed cD_X10_nextSeed
theorem cK_X10_214 : Cond.constant RX10 214 (1103515245 : Int32) ∈ gtbl := gt_5 88 rfl rfl
theorem kX10_208 : xS RX10 208 mX10_drawn 2 := xS.of (gt_5 89 rfl rfl) cS_X10_drawn cN_X10 cC_X10_drawn cD_X10_drawn
theorem kX10_211 : xV RX10 211 mX5_faceOf 5 1 := xV.of (T := TX5) (N := 13) (gt_5 92 rfl rfl) cI_X5_faceOf cE_X5_faceOf cN_X5 cC_X5_faceOf cD_X5_faceOf rfl
theorem kL_33 : xV RL 33 mX10_piece 10 1 := xV.of (T := TX10) (N := 16) (gt_5 99 rfl rfl) cI_X10_piece cE_X10_piece cN_X10 cC_X10_piece cD_X10_piece rfl
theorem kX10_219 : xV RX10 219 mX7_placeOf 7 1 := xV.of (T := TX7) (N := 8) (gt_5 103 rfl rfl) cI_X7_placeOf cE_X7_placeOf cN_X7 cC_X7_placeOf cD_X7_placeOf rfl
theorem kL_36 : xV RL 36 mX10_rolled 10 2 := xV.of (T := TX10) (N := 16) (gt_5 107 rfl rfl) cI_X10_rolled cE_X10_rolled cN_X10 cC_X10_rolled cD_X10_rolled rfl
theorem kX10_222 : xV RX10 222 mX7_logged 7 2 := xV.of (T := TX7) (N := 8) (gt_5 111 rfl rfl) cI_X7_logged cE_X7_logged cN_X7 cC_X7_logged cD_X7_logged rfl
theorem kL_39 : xV RL 39 mX10_fewest 10 1 := xV.of (T := TX10) (N := 16) (gt_5 115 rfl rfl) cI_X10_fewest cE_X10_fewest cN_X10 cC_X10_fewest cD_X10_fewest rfl
theorem kX10_225 : xV RX10 225 mX8_findHome 8 2 := xV.of (T := TX8) (N := 5) (gt_5 119 rfl rfl) cI_X8_findHome cE_X8_findHome cN_X8 cC_X8_findHome cD_X8_findHome rfl
theorem kX8_36 : xS RX8 36 mJ7_fill_53178 2 := xS.of (gt_5 123 rfl rfl) cS_J7_fill_53178 cN_J7 cC_J7_fill_53178 cD_J7_fill_53178
theorem kX8_53 : xV RX8 53 mX8_reach 8 2 := xV.of (T := TX8) (N := 5) (gt_5 124 rfl rfl) cI_X8_reach cE_X8_reach cN_X8 cC_X8_reach cD_X8_reach rfl
theorem kX8_25 : xV RX8 25 mX8_throwsOf 8 1 := xV.of (T := TX8) (N := 5) (gt_5 128 rfl rfl) cI_X8_throwsOf cE_X8_throwsOf cN_X8 cC_X8_throwsOf cD_X8_throwsOf rfl
theorem kX8_29 : xV RX8 29 mX8_enqueue 8 1 := xV.of (T := TX8) (N := 5) (gt_5 132 rfl rfl) cI_X8_enqueue cE_X8_enqueue cN_X8 cC_X8_enqueue cD_X8_enqueue rfl
theorem kX8_60 : xS RX8 60 mX8_faceTo 4 := xS.of (gt_5 136 rfl rfl) cS_X8_faceTo cN_X8 cC_X8_faceTo cD_X8_faceTo
theorem kX8_42 : xV RX8 42 mX5_oddsOf 5 1 := xV.of (T := TX5) (N := 13) (gt_5 139 rfl rfl) cI_X5_oddsOf cE_X5_oddsOf cN_X5 cC_X5_oddsOf cD_X5_oddsOf rfl
theorem kX8_47 : xV RX8 47 mX3_to 3 2 := xV.of (T := TX3) (N := 3) (gt_5 140 rfl rfl) cI_X3_to cE_X3_to cN_X3 cC_X3_to cD_X3_to rfl
theorem kX10_229 : xV RX10 229 mX8_keepFewest 8 3 := xV.of (T := TX8) (N := 5) (gt_5 141 rfl rfl) cI_X8_keepFewest cE_X8_keepFewest cN_X8 cC_X8_keepFewest cD_X8_keepFewest rfl
theorem kX8_64 : xV RX8 64 mX8_faceNearer 8 3 := xV.of (T := TX8) (N := 5) (gt_5 145 rfl rfl) cI_X8_faceNearer cE_X8_faceNearer cN_X8 cC_X8_faceNearer cD_X8_faceNearer rfl
theorem kL_42 : xV RL 42 mX10_row 10 1 := xV.of (T := TX10) (N := 16) (gt_5 152 rfl rfl) cI_X10_row cE_X10_row cN_X10 cC_X10_row cD_X10_row rfl
theorem kL_45 : xV RL 45 mX10_never 10 1 := xV.of (T := TX10) (N := 16) (gt_5 159 rfl rfl) cI_X10_never cE_X10_never cN_X10 cC_X10_never cD_X10_never rfl
theorem kX10_236 : xV RX10 236 mX8_findFrom 8 3 := xV.of (T := TX8) (N := 5) (gt_5 163 rfl rfl) cI_X8_findFrom cE_X8_findFrom cN_X8 cC_X8_findFrom cD_X8_findFrom rfl
theorem kX10_240 : xV RX10 240 mX8_throwsOf 8 1 := xV.of (T := TX8) (N := 5) (gt_5 167 rfl rfl) cI_X8_throwsOf cE_X8_throwsOf cN_X8 cC_X8_throwsOf cD_X8_throwsOf rfl
theorem kL_49 : xV RL 49 mX10_lost 10 1 := xV.of (T := TX10) (N := 16) (gt_5 171 rfl rfl) cI_X10_lost cE_X10_lost cN_X10 cC_X10_lost cD_X10_lost rfl
theorem kL_52 : xV RL 52 mX10_round 10 1 := xV.of (T := TX10) (N := 16) (gt_5 178 rfl rfl) cI_X10_round cE_X10_round cN_X10 cC_X10_round cD_X10_round rfl
theorem kL_55 : xV RL 55 mX10_grains 10 3 := xV.of (T := TX10) (N := 16) (gt_5 185 rfl rfl) cI_X10_grains cE_X10_grains cN_X10 cC_X10_grains cD_X10_grains rfl
theorem kX10_243 : xV RX10 243 mX10_needWhat 10 2 := xV.of (T := TX10) (N := 16) (gt_5 189 rfl rfl) cI_X10_needWhat cE_X10_needWhat cN_X10 cC_X10_needWhat cD_X10_needWhat rfl
theorem kX10_247 : xV RX10 247 mX10_needThrows 10 1 := xV.of (T := TX10) (N := 16) (gt_5 193 rfl rfl) cI_X10_needThrows cE_X10_needThrows cN_X10 cC_X10_needThrows cD_X10_needThrows rfl
theorem kX10_250 : xV RX10 250 mX6_sumOut 6 4 := xV.of (T := TX6) (N := 3) (gt_5 197 rfl rfl) cI_X6_sumOut cE_X6_sumOut cN_X6 cC_X6_sumOut cD_X6_sumOut rfl
theorem kX6_66 : xV RX6 66 mX6_pour 6 2 := xV.of (T := TX6) (N := 3) (gt_5 201 rfl rfl) cI_X6_pour cE_X6_pour cN_X6 cC_X6_pour cD_X6_pour rfl
theorem kX6_27 : xS RX6 27 mJ7_fill_d0a16 2 := xS.of (gt_5 205 rfl rfl) cS_J7_fill_d0a16 cN_J7 cC_J7_fill_d0a16 cD_J7_fill_d0a16
theorem cK_X6_33 : Cond.constantLong RX6 33 (1000000000 : Int64) ∈ gtbl := gt_5 206 rfl rfl
theorem kX6_35 : xS RX6 35 mX6_add 3 := xS.of (gt_5 207 rfl rfl) cS_X6_add cN_X6 cC_X6_add cD_X6_add
theorem kX6_70 : xV RX6 70 mX6_out 6 0 := xV.of (T := TX6) (N := 3) (gt_5 210 rfl rfl) cI_X6_out cE_X6_out cN_X6 cC_X6_out cD_X6_out rfl
theorem kX6_39 : xV RX6 39 mX6_on 6 1 := xV.of (T := TX6) (N := 3) (gt_5 214 rfl rfl) cI_X6_on cE_X6_on cN_X6 cC_X6_on cD_X6_on rfl
theorem kX6_74 : xV RX6 74 mX6_share 6 2 := xV.of (T := TX6) (N := 3) (gt_5 218 rfl rfl) cI_X6_share cE_X6_share cN_X6 cC_X6_share cD_X6_share rfl
theorem kX6_43 : xV RX6 43 mX6_shareOut 6 4 := xV.of (T := TX6) (N := 3) (gt_5 222 rfl rfl) cI_X6_shareOut cE_X6_shareOut cN_X6 cC_X6_shareOut cD_X6_shareOut rfl
theorem kX6_62 : xV RX6 62 mX3_to 3 2 := xV.of (T := TX3) (N := 3) (gt_5 226 rfl rfl) cI_X3_to cE_X3_to cN_X3 cC_X3_to cD_X3_to rfl
theorem kX10_254 : xV RX10 254 mX6_pour 6 2 := xV.of (T := TX6) (N := 3) (gt_5 227 rfl rfl) cI_X6_pour cE_X6_pour cN_X6 cC_X6_pour cD_X6_pour rfl
theorem kX10_257 : xV RX10 257 mX6_out 6 0 := xV.of (T := TX6) (N := 3) (gt_5 228 rfl rfl) cI_X6_out cE_X6_out cN_X6 cC_X6_out cD_X6_out rfl
theorem kX10_261 : xV RX10 261 mX6_share 6 2 := xV.of (T := TX6) (N := 3) (gt_5 229 rfl rfl) cI_X6_share cE_X6_share cN_X6 cC_X6_share cD_X6_share rfl
theorem kL_59 : xV RL 59 mX10_stood 10 3 := xV.of (T := TX10) (N := 16) (gt_5 233 rfl rfl) cI_X10_stood cE_X10_stood cN_X10 cC_X10_stood cD_X10_stood rfl
theorem kX10_264 : xV RX10 264 mX6_on 6 1 := xV.of (T := TX6) (N := 3) (gt_5 237 rfl rfl) cI_X6_on cE_X6_on cN_X6 cC_X6_on cD_X6_on rfl
theorem kL_62 : xV RL 62 mX10_half 10 1 := xV.of (T := TX10) (N := 16) (gt_6 1 rfl rfl) cI_X10_half cE_X10_half cN_X10 cC_X10_half cD_X10_half rfl
theorem cK_X10_268 : Cond.constantLong RX10 268 (500000000 : Int64) ∈ gtbl := gt_6 5 rfl rfl
theorem kL_65 : xV RL 65 mX10_first 10 4 := xV.of (T := TX10) (N := 16) (gt_6 9 rfl rfl) cI_X10_first cE_X10_first cN_X10 cC_X10_first cD_X10_first rfl
theorem cK_X10_270 : Cond.constantLong RX10 270 (1000000000 : Int64) ∈ gtbl := gt_6 13 rfl rfl
theorem kL_69 : xV RL 69 mX10_matters 10 2 := xV.of (T := TX10) (N := 16) (gt_6 17 rfl rfl) cI_X10_matters cE_X10_matters cN_X10 cC_X10_matters cD_X10_matters rfl
theorem kX10_272 : xV RX10 272 mX10_sumWithout 10 2 := xV.of (T := TX10) (N := 16) (gt_6 21 rfl rfl) cI_X10_sumWithout cE_X10_sumWithout cN_X10 cC_X10_sumWithout cD_X10_sumWithout rfl
theorem kX10_276 : xV RX10 276 mX3_putFoot 3 2 := xV.of (T := TX3) (N := 3) (gt_6 25 rfl rfl) cI_X3_putFoot cE_X3_putFoot cN_X3 cC_X3_putFoot cD_X3_putFoot rfl
theorem kL_73 : xV RL 73 mX10_most 10 1 := xV.of (T := TX10) (N := 16) (gt_6 29 rfl rfl) cI_X10_most cE_X10_most cN_X10 cC_X10_most cD_X10_most rfl
theorem cK_X10_279 : Cond.constantLong RX10 279 (-1 : Int64) ∈ gtbl := gt_6 33 rfl rfl
theorem kX10_281 : xS RX10 281 mJ9_abs_067f4 1 := xS.of (gt_6 34 rfl rfl) cS_J9_abs_067f4 cN_J9 cC_J9_abs_067f4 cD_J9_abs_067f4
theorem kL_76 : xV RL 76 mX10_wanted 10 2 := xV.of (T := TX10) (N := 16) (gt_6 40 rfl rfl) cI_X10_wanted cE_X10_wanted cN_X10 cC_X10_wanted cD_X10_wanted rfl
theorem kX10_287 : xV RX10 287 mX10_isSpent 10 1 := xV.of (T := TX10) (N := 16) (gt_6 44 rfl rfl) cI_X10_isSpent cE_X10_isSpent cN_X10 cC_X10_isSpent cD_X10_isSpent rfl
theorem kX10_291 : xV RX10 291 mX10_nearest 10 2 := xV.of (T := TX10) (N := 16) (gt_6 48 rfl rfl) cI_X10_nearest cE_X10_nearest cN_X10 cC_X10_nearest cD_X10_nearest rfl
theorem kX10_295 : xV RX10 295 mX5_isFoot 5 1 := xV.of (T := TX5) (N := 13) (gt_6 52 rfl rfl) cI_X5_isFoot cE_X5_isFoot cN_X5 cC_X5_isFoot cD_X5_isFoot rfl
theorem kL_80 : xV RL 80 mX10_ahead 10 2 := xV.of (T := TX10) (N := 16) (gt_6 56 rfl rfl) cI_X10_ahead cE_X10_ahead cN_X10 cC_X10_ahead cD_X10_ahead rfl
theorem kX10_298 : xV RX10 298 mX10_needToCome 10 2 := xV.of (T := TX10) (N := 16) (gt_6 60 rfl rfl) cI_X10_needToCome cE_X10_needToCome cN_X10 cC_X10_needToCome cD_X10_needToCome rfl
theorem kX10_301 : xV RX10 301 mX1_lookAhead 1 3 := xV.of (T := TX1) (N := 2) (gt_6 64 rfl rfl) cI_X1_lookAhead cE_X1_lookAhead cN_X1 cC_X1_lookAhead cD_X1_lookAhead rfl
theorem kX1_40 : xS RX1 40 mJ7_fill_d0a16 2 := xS.of (gt_6 68 rfl rfl) cS_J7_fill_d0a16 cN_J7 cC_J7_fill_d0a16 cD_J7_fill_d0a16
theorem cK_X1_49 : Cond.constantLong RX1 49 (1000000000 : Int64) ∈ gtbl := gt_6 69 rfl rfl
theorem kX1_51 : xV RX1 51 mX1_sumOfTwo 1 3 := xV.of (T := TX1) (N := 2) (gt_6 70 rfl rfl) cI_X1_sumOfTwo cE_X1_sumOfTwo cN_X1 cC_X1_sumOfTwo cD_X1_sumOfTwo rfl
theorem kX1_62 : xV RX1 62 mX5_oddsOf 5 1 := xV.of (T := TX5) (N := 13) (gt_6 74 rfl rfl) cI_X5_oddsOf cE_X5_oddsOf cN_X5 cC_X5_oddsOf cD_X5_oddsOf rfl
theorem kX1_66 : xV RX1 66 mX3_to 3 2 := xV.of (T := TX3) (N := 3) (gt_6 75 rfl rfl) cI_X3_to cE_X3_to cN_X3 cC_X3_to cD_X3_to rfl
theorem kX1_30 : xV RX1 30 mX1_at 1 1 := xV.of (T := TX1) (N := 2) (gt_6 76 rfl rfl) cI_X1_at cE_X1_at cN_X1 cC_X1_at cD_X1_at rfl
theorem cK_X1_71 : Cond.constantLong RX1 71 (2 : Int64) ∈ gtbl := gt_6 80 rfl rfl
theorem kX1_73 : xS RX1 73 mJ9_min_f86c9 2 := xS.of (gt_6 81 rfl rfl) cS_J9_min_f86c9 cN_J9 cC_J9_min_f86c9 cD_J9_min_f86c9
theorem kX1_55 : xV RX1 55 mX1_putNext 1 2 := xV.of (T := TX1) (N := 2) (gt_6 82 rfl rfl) cI_X1_putNext cE_X1_putNext cN_X1 cC_X1_putNext cD_X1_putNext rfl
theorem kX1_59 : xV RX1 59 mX1_swap 1 0 := xV.of (T := TX1) (N := 2) (gt_6 86 rfl rfl) cI_X1_swap cE_X1_swap cN_X1 cC_X1_swap cD_X1_swap rfl
theorem kX10_304 : xV RX10 304 mX1_at 1 1 := xV.of (T := TX1) (N := 2) (gt_6 90 rfl rfl) cI_X1_at cE_X1_at cN_X1 cC_X1_at cD_X1_at rfl
theorem kL_83 : xV RL 83 mX10_choose 10 4 := xV.of (T := TX10) (N := 16) (gt_6 94 rfl rfl) cI_X10_choose cE_X10_choose cN_X10 cC_X10_choose cD_X10_choose rfl
theorem kL_87 : xV RL 87 mX10_often 10 1 := xV.of (T := TX10) (N := 16) (gt_6 101 rfl rfl) cI_X10_often cE_X10_often cN_X10 cC_X10_often cD_X10_often rfl
theorem kL_90 : xV RL 90 mX10_unlike 10 1 := xV.of (T := TX10) (N := 16) (gt_6 108 rfl rfl) cI_X10_unlike cE_X10_unlike cN_X10 cC_X10_unlike cD_X10_unlike rfl
theorem cK_X10_313 : Cond.constantLong RX10 313 (2520 : Int64) ∈ gtbl := gt_6 112 rfl rfl
theorem kX10_315 : xS RX10 315 mX10_commonDivisor 2 := xS.of (gt_6 113 rfl rfl) cS_X10_commonDivisor cN_X10 cC_X10_commonDivisor cD_X10_commonDivisor
theorem kL_94 : xV RL 94 mX10_draw 10 3 := xV.of (T := TX10) (N := 16) (gt_6 119 rfl rfl) cI_X10_draw cE_X10_draw cN_X10 cC_X10_draw cD_X10_draw rfl
theorem kX10_337 : xV RX10 337 mX5_clearButDie 5 0 := xV.of (T := TX5) (N := 13) (gt_6 123 rfl rfl) cI_X5_clearButDie cE_X5_clearButDie cN_X5 cC_X5_clearButDie cD_X5_clearButDie rfl
theorem kX10_340 : xV RX10 340 mX5_addExit 5 2 := xV.of (T := TX5) (N := 13) (gt_6 124 rfl rfl) cI_X5_addExit cE_X5_addExit cN_X5 cC_X5_addExit cD_X5_addExit rfl
theorem kL_98 : xV RL 98 mX10_ended 10 2 := xV.of (T := TX10) (N := 16) (gt_6 128 rfl rfl) cI_X10_ended cE_X10_ended cN_X10 cC_X10_ended cD_X10_ended rfl
theorem kL_101 : xV RL 101 mX10_together 10 3 := xV.of (T := TX10) (N := 16) (gt_6 135 rfl rfl) cI_X10_together cE_X10_together cN_X10 cC_X10_together cD_X10_together rfl
theorem cK_X10_343 : Cond.constantLong RX10 343 (-2 : Int64) ∈ gtbl := gt_6 139 rfl rfl
theorem kX10_345 : xV RX10 345 mX1_lookTogether 1 3 := xV.of (T := TX1) (N := 2) (gt_6 140 rfl rfl) cI_X1_lookTogether cE_X1_lookTogether cN_X1 cC_X1_lookTogether cD_X1_lookTogether rfl
theorem kX1_27 : xS RX1 27 mX1_pair 2 := xS.of (gt_6 144 rfl rfl) cS_X1_pair cN_X1 cC_X1_pair cD_X1_pair
theorem kX1_18 : xS RX1 18 mJ9_max_7cf53 2 := xS.of (gt_6 147 rfl rfl) cS_J9_max_7cf53 cN_J9 cC_J9_max_7cf53 cD_J9_max_7cf53
theorem kX1_24 : xS RX1 24 mJ9_min_7cf53 2 := xS.of (gt_6 148 rfl rfl) cS_J9_min_7cf53 cN_J9 cC_J9_min_7cf53 cD_J9_min_7cf53
theorem kX1_76 : xV RX1 76 mX1_sumOfBoth 1 4 := xV.of (T := TX1) (N := 2) (gt_6 149 rfl rfl) cI_X1_sumOfBoth cE_X1_sumOfBoth cN_X1 cC_X1_sumOfBoth cD_X1_sumOfBoth rfl
theorem kX1_80 : xV RX1 80 mX1_atBoth 1 2 := xV.of (T := TX1) (N := 2) (gt_6 153 rfl rfl) cI_X1_atBoth cE_X1_atBoth cN_X1 cC_X1_atBoth cD_X1_atBoth rfl
theorem kX10_348 : xV RX10 348 mX1_atBoth 1 2 := xV.of (T := TX1) (N := 2) (gt_6 157 rfl rfl) cI_X1_atBoth cE_X1_atBoth cN_X1 cC_X1_atBoth cD_X1_atBoth rfl
theorem kL_104 : xV RL 104 mX10_whom 10 4 := xV.of (T := TX10) (N := 16) (gt_6 161 rfl rfl) cI_X10_whom cE_X10_whom cN_X10 cC_X10_whom cD_X10_whom rfl
theorem kL_107 : xV RL 107 mX10_written 10 1 := xV.of (T := TX10) (N := 16) (gt_6 168 rfl rfl) cI_X10_written cE_X10_written cN_X10 cC_X10_written cD_X10_written rfl
theorem kX10_351 : xV RX10 351 mX9_write 9 2 := xV.of (T := TX9) (N := 3) (gt_6 172 rfl rfl) cI_X9_write cE_X9_write cN_X9 cC_X9_write cD_X9_write rfl
theorem kX9_49 : xV RX9 49 mX9_putLine 9 2 := xV.of (T := TX9) (N := 3) (gt_6 177 rfl rfl) cI_X9_putLine cE_X9_putLine cN_X9 cC_X9_putLine cD_X9_putLine rfl
theorem kX9_35 : xV RX9 35 mX9_putText 9 1 := xV.of (T := TX9) (N := 3) (gt_6 181 rfl rfl) cI_X9_putText cE_X9_putText cN_X9 cC_X9_putText cD_X9_putText rfl
theorem cM_X9_22 : Cond.methodLink RX9 22 yJ0_length_8abf5 ∈ gtbl := gt_6 185 rfl rfl
theorem cM_X9_27 : Cond.methodLink RX9 27 yJ0_charAt_5068e ∈ gtbl := gt_6 186 rfl rfl
theorem kX9_31 : xV RX9 31 mX9_put 9 1 := xV.of (T := TX9) (N := 3) (gt_6 187 rfl rfl) cI_X9_put cE_X9_put cN_X9 cC_X9_put cD_X9_put rfl
theorem kX9_39 : xV RX9 39 mX9_putNumber 9 1 := xV.of (T := TX9) (N := 3) (gt_6 191 rfl rfl) cI_X9_putNumber cE_X9_putNumber cN_X9 cC_X9_putNumber cD_X9_putNumber rfl
theorem kX9_55 : xV RX9 55 mX5_oddsOf 5 1 := xV.of (T := TX5) (N := 13) (gt_6 196 rfl rfl) cI_X5_oddsOf cE_X5_oddsOf cN_X5 cC_X5_oddsOf cD_X5_oddsOf rfl
theorem kX9_64 : xV RX9 64 mX5_footOf 5 1 := xV.of (T := TX5) (N := 13) (gt_6 198 rfl rfl) cI_X5_footOf cE_X5_footOf cN_X5 cC_X5_footOf cD_X5_footOf rfl
theorem kX9_69 : xV RX9 69 mX5_headOf 5 1 := xV.of (T := TX5) (N := 13) (gt_6 200 rfl rfl) cI_X5_headOf cE_X5_headOf cN_X5 cC_X5_headOf cD_X5_headOf rfl
theorem kX9_75 : xS RX9 75 mX9_endLine 1 := xS.of (gt_6 201 rfl rfl) cS_X9_endLine cN_X9 cC_X9_endLine cD_X9_endLine
theorem kX9_102 : xV RX9 102 mX9_putGoes 9 1 := xV.of (T := TX9) (N := 3) (gt_6 210 rfl rfl) cI_X9_putGoes cE_X9_putGoes cN_X9 cC_X9_putGoes cD_X9_putGoes rfl
theorem cM_L_113 : Cond.methodLink RL 113 yX11_init ∈ gtbl := gt_6 217 rfl rfl
theorem kL_125 : xV RL 125 mX11_thrown 11 0 := xV.of (T := TX11) (N := 63) (gt_7 180 rfl rfl) cI_X11_thrown cE_X11_thrown cN_X11 cC_X11_thrown cD_X11_thrown rfl
theorem kL_118 : xV RL 118 mX11_feed 11 5 := xV.of (T := TX11) (N := 63) (gt_7 184 rfl rfl) cI_X11_feed cE_X11_feed cN_X11 cC_X11_feed cD_X11_feed rfl
theorem kL_124 : xV RL 124 mX11_board 11 1 := xV.of (T := TX11) (N := 63) (gt_7 188 rfl rfl) cI_X11_board cE_X11_board cN_X11 cC_X11_board cD_X11_board rfl
theorem kX11_311 : xV RX11 311 mX11_fail 11 1 := xV.of (T := TX11) (N := 63) (gt_7 192 rfl rfl) cI_X11_fail cE_X11_fail cN_X11 cC_X11_fail cD_X11_fail rfl
theorem kX11_314 : xV RX11 314 mX11_begin 11 0 := xV.of (T := TX11) (N := 63) (gt_7 196 rfl rfl) cI_X11_begin cE_X11_begin cN_X11 cC_X11_begin cD_X11_begin rfl
theorem kX11_236 : xV RX11 236 mX11_stepOn 11 0 := xV.of (T := TX11) (N := 63) (gt_7 200 rfl rfl) cI_X11_stepOn cE_X11_stepOn cN_X11 cC_X11_stepOn cD_X11_stepOn rfl
theorem kX11_178 : xV RX11 178 mX11_byteAt 11 1 := xV.of (T := TX11) (N := 63) (gt_7 204 rfl rfl) cI_X11_byteAt cE_X11_byteAt cN_X11 cC_X11_byteAt cD_X11_byteAt rfl
theorem kX11_188 : xS RX11 188 mX11_isLetter 1 := xS.of (gt_7 208 rfl rfl) cS_X11_isLetter cN_X11 cC_X11_isLetter cD_X11_isLetter
theorem kX11_192 : xS RX11 192 mX11_isDigit 1 := xS.of (gt_7 211 rfl rfl) cS_X11_isDigit cN_X11 cC_X11_isDigit cD_X11_isDigit
theorem cK_X11_198 : Cond.constant RX11 198 (100000 : Int32) ∈ gtbl := gt_7 214 rfl rfl
theorem kX11_199 : xS RX11 199 mJ9_min_7cf53 2 := xS.of (gt_7 215 rfl rfl) cS_J9_min_7cf53 cN_J9 cC_J9_min_7cf53 cD_J9_min_7cf53
theorem kX11_205 : xS RX11 205 mX11_isMark 1 := xS.of (gt_7 216 rfl rfl) cS_X11_isMark cN_X11 cC_X11_isMark cD_X11_isMark
theorem kX11_225 : xV RX11 225 mX11_is 11 1 := xV.of (T := TX11) (N := 63) (gt_7 219 rfl rfl) cI_X11_is cE_X11_is cN_X11 cC_X11_is cD_X11_is rfl
theorem cM_X11_217 : Cond.methodLink RX11 217 yJ0_length_8abf5 ∈ gtbl := gt_7 223 rfl rfl
theorem cM_X11_221 : Cond.methodLink RX11 221 yJ0_charAt_5068e ∈ gtbl := gt_7 224 rfl rfl
theorem kX11_242 : xV RX11 242 mX11_readNumber 11 2 := xV.of (T := TX11) (N := 63) (gt_7 225 rfl rfl) cI_X11_readNumber cE_X11_readNumber cN_X11 cC_X11_readNumber cD_X11_readNumber rfl
theorem kX11_239 : xV RX11 239 mX11_numberNow 11 2 := xV.of (T := TX11) (N := 63) (gt_7 229 rfl rfl) cI_X11_numberNow cE_X11_numberNow cN_X11 cC_X11_numberNow cD_X11_numberNow rfl
theorem kX11_232 : xV RX11 232 mX11_wrong 11 1 := xV.of (T := TX11) (N := 63) (gt_7 233 rfl rfl) cI_X11_wrong cE_X11_wrong cN_X11 cC_X11_wrong cD_X11_wrong rfl
theorem kX11_252 : xV RX11 252 mX11_mark 11 1 := xV.of (T := TX11) (N := 63) (gt_7 237 rfl rfl) cI_X11_mark cE_X11_mark cN_X11 cC_X11_mark cD_X11_mark rfl
theorem kX11_229 : xV RX11 229 mX11_isMarked 11 1 := xV.of (T := TX11) (N := 63) (gt_8 1 rfl rfl) cI_X11_isMarked cE_X11_isMarked cN_X11 cC_X11_isMarked cD_X11_isMarked rfl
theorem kX11_317 : xV RX11 317 mX11_readLine 11 1 := xV.of (T := TX11) (N := 63) (gt_8 5 rfl rfl) cI_X11_readLine cE_X11_readLine cN_X11 cC_X11_readLine cD_X11_readLine rfl
theorem kX11_302 : xV RX11 302 mX11_readExit 11 0 := xV.of (T := TX11) (N := 63) (gt_8 16 rfl rfl) cI_X11_readExit cE_X11_readExit cN_X11 cC_X11_readExit cD_X11_readExit rfl
theorem kX11_279 : xV RX11 279 mX11_isFoot 11 1 := xV.of (T := TX11) (N := 63) (gt_8 20 rfl rfl) cI_X11_isFoot cE_X11_isFoot cN_X11 cC_X11_isFoot cD_X11_isFoot rfl
theorem kX11_305 : xV RX11 305 mX11_readDie 11 0 := xV.of (T := TX11) (N := 63) (gt_8 24 rfl rfl) cI_X11_readDie cE_X11_readDie cN_X11 cC_X11_readDie cD_X11_readDie rfl
theorem kX11_248 : xV RX11 248 mX11_which 11 1 := xV.of (T := TX11) (N := 63) (gt_8 28 rfl rfl) cI_X11_which cE_X11_which cN_X11 cC_X11_which cD_X11_which rfl
theorem kX11_308 : xV RX11 308 mX11_readGoes 11 0 := xV.of (T := TX11) (N := 63) (gt_8 32 rfl rfl) cI_X11_readGoes cE_X11_readGoes cN_X11 cC_X11_readGoes cD_X11_readGoes rfl
theorem kX11_255 : xV RX11 255 mX11_readExpression 11 1 := xV.of (T := TX11) (N := 63) (gt_8 36 rfl rfl) cI_X11_readExpression cE_X11_readExpression cN_X11 cC_X11_readExpression cD_X11_readExpression rfl
theorem kX11_274 : xV RX11 274 mX11_readAnd 11 1 := xV.of (T := TX11) (N := 63) (gt_8 40 rfl rfl) cI_X11_readAnd cE_X11_readAnd cN_X11 cC_X11_readAnd cD_X11_readAnd rfl
theorem kX11_269 : xV RX11 269 mX11_readNot 11 1 := xV.of (T := TX11) (N := 63) (gt_8 44 rfl rfl) cI_X11_readNot cE_X11_readNot cN_X11 cC_X11_readNot cD_X11_readNot rfl
theorem kX11_266 : xV RX11 266 mX11_readSum 11 1 := xV.of (T := TX11) (N := 63) (gt_8 49 rfl rfl) cI_X11_readSum cE_X11_readSum cN_X11 cC_X11_readSum cD_X11_readSum rfl
theorem kX11_261 : xV RX11 261 mX11_readProduct 11 1 := xV.of (T := TX11) (N := 63) (gt_8 53 rfl rfl) cI_X11_readProduct cE_X11_readProduct cN_X11 cC_X11_readProduct cD_X11_readProduct rfl
theorem kX11_258 : xV RX11 258 mX11_readPart 11 1 := xV.of (T := TX11) (N := 63) (gt_8 57 rfl rfl) cI_X11_readPart cE_X11_readPart cN_X11 cC_X11_readPart cD_X11_readPart rfl
theorem kX11_245 : xV RX11 245 mX11_lay 11 1 := xV.of (T := TX11) (N := 63) (gt_8 61 rfl rfl) cI_X11_lay cE_X11_lay cN_X11 cC_X11_lay cD_X11_lay rfl
theorem kX11_285 : xV RX11 285 mX11_keepRule 11 2 := xV.of (T := TX11) (N := 63) (gt_8 67 rfl rfl) cI_X11_keepRule cE_X11_keepRule cN_X11 cC_X11_keepRule cD_X11_keepRule rfl
theorem kX11_282 : xS RX11 282 mX11_isInWord 1 := xS.of (gt_8 71 rfl rfl) cS_X11_isInWord cN_X11 cC_X11_isInWord cD_X11_isInWord
theorem kX11_320 : xV RX11 320 mX11_take 11 0 := xV.of (T := TX11) (N := 63) (gt_8 74 rfl rfl) cI_X11_take cE_X11_take cN_X11 cC_X11_take cD_X11_take rfl
theorem kX11_323 : xS RX11 323 mX11_takeHalf 1 := xS.of (gt_8 78 rfl rfl) cS_X11_takeHalf cN_X11 cC_X11_takeHalf cD_X11_takeHalf
theorem kL_132 : xV RL 132 mX11_fault 11 0 := xV.of (T := TX11) (N := 63) (gt_8 81 rfl rfl) cI_X11_fault cE_X11_fault cN_X11 cC_X11_fault cD_X11_fault rfl
theorem kL_135 : xV RL 135 mX11_count 11 1 := xV.of (T := TX11) (N := 63) (gt_8 85 rfl rfl) cI_X11_count cE_X11_count cN_X11 cC_X11_count cD_X11_count rfl
theorem cK_X11_357 : Cond.constantLong RX11 357 (5 : Int64) ∈ gtbl := gt_8 89 rfl rfl
theorem kX11_164 : xS RX11 164 mX11_isIn 3 := xS.of (gt_8 90 rfl rfl) cS_X11_isIn cN_X11 cC_X11_isIn cD_X11_isIn
theorem cK_X11_359 : Cond.constantLong RX11 359 (21 : Int64) ∈ gtbl := gt_8 93 rfl rfl
theorem cK_X11_361 : Cond.constantLong RX11 361 (26 : Int64) ∈ gtbl := gt_8 94 rfl rfl
theorem kX11_363 : xV RX11 363 mX11_isOver 11 0 := xV.of (T := TX11) (N := 63) (gt_8 95 rfl rfl) cI_X11_isOver cE_X11_isOver cN_X11 cC_X11_isOver cD_X11_isOver rfl
theorem kL_139 : xV RL 139 mX11_exit 11 2 := xV.of (T := TX11) (N := 63) (gt_8 99 rfl rfl) cI_X11_exit cE_X11_exit cN_X11 cC_X11_exit cD_X11_exit rfl
theorem kL_142 : xV RL 142 mX11_goes 11 2 := xV.of (T := TX11) (N := 63) (gt_8 103 rfl rfl) cI_X11_goes cE_X11_goes cN_X11 cC_X11_goes cD_X11_goes rfl
theorem kX11_367 : xV RX11 367 mX11_isSquare 11 1 := xV.of (T := TX11) (N := 63) (gt_8 107 rfl rfl) cI_X11_isSquare cE_X11_isSquare cN_X11 cC_X11_isSquare cD_X11_isSquare rfl
theorem kX11_370 : xS RX11 370 mX11_isFace 1 := xS.of (gt_8 111 rfl rfl) cS_X11_isFace cN_X11 cC_X11_isFace cD_X11_isFace
theorem cK_X11_168 : Cond.constantLong RX11 168 (6 : Int64) ∈ gtbl := gt_8 114 rfl rfl
theorem kX11_373 : xV RX11 373 mX11_tellBoard 11 0 := xV.of (T := TX11) (N := 63) (gt_8 115 rfl rfl) cI_X11_tellBoard cE_X11_tellBoard cN_X11 cC_X11_tellBoard cD_X11_tellBoard rfl
theorem kX11_353 : xV RX11 353 mX11_tellTable 11 4 := xV.of (T := TX11) (N := 63) (gt_8 119 rfl rfl) cI_X11_tellTable cE_X11_tellTable cN_X11 cC_X11_tellTable cD_X11_tellTable rfl
theorem kX11_350 : xV RX11 350 mX11_leads 11 3 := xV.of (T := TX11) (N := 63) (gt_8 123 rfl rfl) cI_X11_leads cE_X11_leads cN_X11 cC_X11_leads cD_X11_leads rfl
theorem kX11_347 : xV RX11 347 mX11_farBy 11 2 := xV.of (T := TX11) (N := 63) (gt_8 127 rfl rfl) cI_X11_farBy cE_X11_farBy cN_X11 cC_X11_farBy cD_X11_farBy rfl
theorem kX11_340 : xS RX11 340 mX11_reckon 3 := xS.of (gt_8 131 rfl rfl) cS_X11_reckon cN_X11 cC_X11_reckon cD_X11_reckon
theorem kX11_344 : xS RX11 344 mJ9_max_7cf53 2 := xS.of (gt_8 134 rfl rfl) cS_J9_max_7cf53 cN_J9 cC_J9_max_7cf53 cD_J9_max_7cf53
theorem kL_145 : xV RL 145 mX11_roll 11 1 := xV.of (T := TX11) (N := 63) (gt_8 135 rfl rfl) cI_X11_roll cE_X11_roll cN_X11 cC_X11_roll cD_X11_roll rfl
theorem kX11_379 : xV RX11 379 mX11_throwOnce 11 1 := xV.of (T := TX11) (N := 63) (gt_8 139 rfl rfl) cI_X11_throwOnce cE_X11_throwOnce cN_X11 cC_X11_throwOnce cD_X11_throwOnce rfl
theorem kX11_376 : xV RX11 376 mX11_pass 11 1 := xV.of (T := TX11) (N := 63) (gt_8 143 rfl rfl) cI_X11_pass cE_X11_pass cN_X11 cC_X11_pass cD_X11_pass rfl
theorem kL_148 : xV RL 148 mX11_rolls 11 2 := xV.of (T := TX11) (N := 63) (gt_8 147 rfl rfl) cI_X11_rolls cE_X11_rolls cN_X11 cC_X11_rolls cD_X11_rolls rfl
theorem cK_X11_386 : Cond.constantLong RX11 386 (200 : Int64) ∈ gtbl := gt_8 151 rfl rfl
theorem kX11_388 : xV RX11 388 mX11_allOdds 11 0 := xV.of (T := TX11) (N := 63) (gt_8 152 rfl rfl) cI_X11_allOdds cE_X11_allOdds cN_X11 cC_X11_allOdds cD_X11_allOdds rfl
theorem kX11_391 : xV RX11 391 mX11_drawOf 11 1 := xV.of (T := TX11) (N := 63) (gt_8 156 rfl rfl) cI_X11_drawOf cE_X11_drawOf cN_X11 cC_X11_drawOf cD_X11_drawOf rfl
theorem cK_X11_385 : Cond.constant RX11 385 (1103515245 : Int32) ∈ gtbl := gt_8 160 rfl rfl
theorem kL_152 : xV RL 152 mX11_undo 11 0 := xV.of (T := TX11) (N := 63) (gt_8 161 rfl rfl) cI_X11_undo cE_X11_undo cN_X11 cC_X11_undo cD_X11_undo rfl
theorem kL_155 : xV RL 155 mX11_piece 11 1 := xV.of (T := TX11) (N := 63) (gt_8 165 rfl rfl) cI_X11_piece cE_X11_piece cN_X11 cC_X11_piece cD_X11_piece rfl
theorem kL_158 : xV RL 158 mX11_rolled 11 2 := xV.of (T := TX11) (N := 63) (gt_8 169 rfl rfl) cI_X11_rolled cE_X11_rolled cN_X11 cC_X11_rolled cD_X11_rolled rfl
theorem kL_161 : xV RL 161 mX11_fewest 11 1 := xV.of (T := TX11) (N := 63) (gt_8 173 rfl rfl) cI_X11_fewest cE_X11_fewest cN_X11 cC_X11_fewest cD_X11_fewest rfl
theorem kX11_398 : xV RX11 398 mX11_tellAway 11 1 := xV.of (T := TX11) (N := 63) (gt_8 177 rfl rfl) cI_X11_tellAway cE_X11_tellAway cN_X11 cC_X11_tellAway cD_X11_tellAway rfl
theorem kX11_394 : xV RX11 394 mX11_comes 11 2 := xV.of (T := TX11) (N := 63) (gt_8 181 rfl rfl) cI_X11_comes cE_X11_comes cN_X11 cC_X11_comes cD_X11_comes rfl
theorem kL_164 : xV RL 164 mX11_row 11 1 := xV.of (T := TX11) (N := 63) (gt_8 185 rfl rfl) cI_X11_row cE_X11_row cN_X11 cC_X11_row cD_X11_row rfl
theorem kL_167 : xV RL 167 mX11_never 11 1 := xV.of (T := TX11) (N := 63) (gt_8 189 rfl rfl) cI_X11_never cE_X11_never cN_X11 cC_X11_never cD_X11_never rfl
theorem kL_170 : xV RL 170 mX11_lost 11 1 := xV.of (T := TX11) (N := 63) (gt_8 193 rfl rfl) cI_X11_lost cE_X11_lost cN_X11 cC_X11_lost cD_X11_lost rfl
theorem kL_173 : xV RL 173 mX11_round 11 1 := xV.of (T := TX11) (N := 63) (gt_8 197 rfl rfl) cI_X11_round cE_X11_round cN_X11 cC_X11_round cD_X11_round rfl
theorem kL_177 : xV RL 177 mX11_grains 11 3 := xV.of (T := TX11) (N := 63) (gt_8 201 rfl rfl) cI_X11_grains cE_X11_grains cN_X11 cC_X11_grains cD_X11_grains rfl
theorem cK_X11_415 : Cond.constantLong RX11 415 (2 : Int64) ∈ gtbl := gt_8 205 rfl rfl
theorem kX11_417 : xS RX11 417 mX11_isLong 1 := xS.of (gt_8 206 rfl rfl) cS_X11_isLong cN_X11 cC_X11_isLong cD_X11_isLong
theorem cK_X11_403 : Cond.constantLong RX11 403 (400 : Int64) ∈ gtbl := gt_8 209 rfl rfl
theorem kX11_420 : xV RX11 420 mX11_longBy 11 2 := xV.of (T := TX11) (N := 63) (gt_8 210 rfl rfl) cI_X11_longBy cE_X11_longBy cN_X11 cC_X11_longBy cD_X11_longBy rfl
theorem kX11_405 : xV RX11 405 mX11_pour 11 1 := xV.of (T := TX11) (N := 63) (gt_8 214 rfl rfl) cI_X11_pour cE_X11_pour cN_X11 cC_X11_pour cD_X11_pour rfl
theorem cK_X11_401 : Cond.constantLong RX11 401 (1000000000 : Int64) ∈ gtbl := gt_8 218 rfl rfl
theorem kX11_408 : xV RX11 408 mX11_out 11 0 := xV.of (T := TX11) (N := 63) (gt_8 219 rfl rfl) cI_X11_out cE_X11_out cN_X11 cC_X11_out cD_X11_out rfl
theorem kX11_412 : xV RX11 412 mX11_share 11 0 := xV.of (T := TX11) (N := 63) (gt_8 223 rfl rfl) cI_X11_share cE_X11_share cN_X11 cC_X11_share cD_X11_share rfl
theorem kL_180 : xV RL 180 mX11_stood 11 3 := xV.of (T := TX11) (N := 63) (gt_8 227 rfl rfl) cI_X11_stood cE_X11_stood cN_X11 cC_X11_stood cD_X11_stood rfl
theorem kL_183 : xV RL 183 mX11_half 11 1 := xV.of (T := TX11) (N := 63) (gt_8 231 rfl rfl) cI_X11_half cE_X11_half cN_X11 cC_X11_half cD_X11_half rfl
theorem kL_187 : xV RL 187 mX11_first 11 4 := xV.of (T := TX11) (N := 63) (gt_8 235 rfl rfl) cI_X11_first cE_X11_first cN_X11 cC_X11_first cD_X11_first rfl
theorem kX11_424 : xV RX11 424 mX11_tellOuts 11 3 := xV.of (T := TX11) (N := 63) (gt_8 239 rfl rfl) cI_X11_tellOuts cE_X11_tellOuts cN_X11 cC_X11_tellOuts cD_X11_tellOuts rfl
theorem kL_190 : xV RL 190 mX11_matters 11 2 := xV.of (T := TX11) (N := 63) (gt_9 3 rfl rfl) cI_X11_matters cE_X11_matters cN_X11 cC_X11_matters cD_X11_matters rfl
theorem kX11_428 : xV RX11 428 mX11_changeBy 11 2 := xV.of (T := TX11) (N := 63) (gt_9 7 rfl rfl) cI_X11_changeBy cE_X11_changeBy cN_X11 cC_X11_changeBy cD_X11_changeBy rfl
theorem kL_193 : xV RL 193 mX11_most 11 1 := xV.of (T := TX11) (N := 63) (gt_9 11 rfl rfl) cI_X11_most cE_X11_most cN_X11 cC_X11_most cD_X11_most rfl
theorem kX11_431 : xS RX11 431 mJ9_abs_067f4 1 := xS.of (gt_9 15 rfl rfl) cS_J9_abs_067f4 cN_J9 cC_J9_abs_067f4 cD_J9_abs_067f4
theorem kL_199 : xV RL 199 mX11_wanted 11 2 := xV.of (T := TX11) (N := 63) (gt_9 16 rfl rfl) cI_X11_wanted cE_X11_wanted cN_X11 cC_X11_wanted cD_X11_wanted rfl
theorem kL_242 : xV RL 242 mX11_ended 11 2 := xV.of (T := TX11) (N := 63) (gt_9 20 rfl rfl) cI_X11_ended cE_X11_ended cN_X11 cC_X11_ended cD_X11_ended rfl
theorem kL_202 : xV RL 202 mX11_ahead 11 2 := xV.of (T := TX11) (N := 63) (gt_9 24 rfl rfl) cI_X11_ahead cE_X11_ahead cN_X11 cC_X11_ahead cD_X11_ahead rfl
theorem cK_X11_438 : Cond.constantLong RX11 438 (100 : Int64) ∈ gtbl := gt_9 28 rfl rfl
theorem kX11_440 : xV RX11 440 mX11_tellAhead 11 1 := xV.of (T := TX11) (N := 63) (gt_9 29 rfl rfl) cI_X11_tellAhead cE_X11_tellAhead cN_X11 cC_X11_tellAhead cD_X11_tellAhead rfl
theorem kX11_435 : xS RX11 435 mJ9_min_f86c9 2 := xS.of (gt_9 33 rfl rfl) cS_J9_min_f86c9 cN_J9 cC_J9_min_f86c9 cD_J9_min_f86c9
theorem kL_205 : xV RL 205 mX11_choose 11 4 := xV.of (T := TX11) (N := 63) (gt_9 34 rfl rfl) cI_X11_choose cE_X11_choose cN_X11 cC_X11_choose cD_X11_choose rfl
theorem kL_245 : xV RL 245 mX11_together 11 3 := xV.of (T := TX11) (N := 63) (gt_9 38 rfl rfl) cI_X11_together cE_X11_together cN_X11 cC_X11_together cD_X11_together rfl
theorem cK_X11_449 : Cond.constantLong RX11 449 (-2 : Int64) ∈ gtbl := gt_9 42 rfl rfl
theorem kX11_451 : xV RX11 451 mX11_tellBoth 11 1 := xV.of (T := TX11) (N := 63) (gt_9 43 rfl rfl) cI_X11_tellBoth cE_X11_tellBoth cN_X11 cC_X11_tellBoth cD_X11_tellBoth rfl
theorem kX11_445 : xV RX11 445 mX11_lessBy 11 3 := xV.of (T := TX11) (N := 63) (gt_9 47 rfl rfl) cI_X11_lessBy cE_X11_lessBy cN_X11 cC_X11_lessBy cD_X11_lessBy rfl
theorem cK_X11_443 : Cond.constantLong RX11 443 (-1 : Int64) ∈ gtbl := gt_9 51 rfl rfl
theorem kL_248 : xV RL 248 mX11_whom 11 4 := xV.of (T := TX11) (N := 63) (gt_9 52 rfl rfl) cI_X11_whom cE_X11_whom cN_X11 cC_X11_whom cD_X11_whom rfl
theorem kL_208 : xV RL 208 mX11_often 11 1 := xV.of (T := TX11) (N := 63) (gt_9 56 rfl rfl) cI_X11_often cE_X11_often cN_X11 cC_X11_often cD_X11_often rfl
theorem kX11_454 : xV RX11 454 mX11_oftenOf 11 1 := xV.of (T := TX11) (N := 63) (gt_9 60 rfl rfl) cI_X11_oftenOf cE_X11_oftenOf cN_X11 cC_X11_oftenOf cD_X11_oftenOf rfl
theorem kL_211 : xV RL 211 mX11_unlike 11 1 := xV.of (T := TX11) (N := 63) (gt_9 64 rfl rfl) cI_X11_unlike cE_X11_unlike cN_X11 cC_X11_unlike cD_X11_unlike rfl
theorem kX11_457 : xV RX11 457 mX11_moreOf 11 1 := xV.of (T := TX11) (N := 63) (gt_9 68 rfl rfl) cI_X11_moreOf cE_X11_moreOf cN_X11 cC_X11_moreOf cD_X11_moreOf rfl
theorem cK_X11_461 : Cond.constantLong RX11 461 (2520 : Int64) ∈ gtbl := gt_9 72 rfl rfl
theorem kX11_463 : xS RX11 463 mX11_common 2 := xS.of (gt_9 73 rfl rfl) cS_X11_common cN_X11 cC_X11_common cD_X11_common
theorem kL_215 : xV RL 215 mX11_worn 11 0 := xV.of (T := TX11) (N := 63) (gt_9 76 rfl rfl) cI_X11_worn cE_X11_worn cN_X11 cC_X11_worn cD_X11_worn rfl
theorem kL_219 : xV RL 219 mX11_note 11 1 := xV.of (T := TX11) (N := 63) (gt_9 80 rfl rfl) cI_X11_note cE_X11_note cN_X11 cC_X11_note cD_X11_note rfl
theorem kL_223 : xV RL 223 mX11_forget 11 0 := xV.of (T := TX11) (N := 63) (gt_9 84 rfl rfl) cI_X11_forget cE_X11_forget cN_X11 cC_X11_forget cD_X11_forget rfl
theorem kL_227 : xV RL 227 mX11_cannot 11 0 := xV.of (T := TX11) (N := 63) (gt_9 88 rfl rfl) cI_X11_cannot cE_X11_cannot cN_X11 cC_X11_cannot cD_X11_cannot rfl
theorem kX11_466 : xV RX11 466 mX11_canCome 11 2 := xV.of (T := TX11) (N := 63) (gt_9 92 rfl rfl) cI_X11_canCome cE_X11_canCome cN_X11 cC_X11_canCome cD_X11_canCome rfl
theorem kL_236 : xV RL 236 mX11_less 11 0 := xV.of (T := TX11) (N := 63) (gt_9 96 rfl rfl) cI_X11_less cE_X11_less cN_X11 cC_X11_less cD_X11_less rfl
theorem kL_232 : xV RL 232 mX11_fits 11 0 := xV.of (T := TX11) (N := 63) (gt_9 100 rfl rfl) cI_X11_fits cE_X11_fits cN_X11 cC_X11_fits cD_X11_fits rfl
theorem kX11_471 : xV RX11 471 mX11_tellWays 11 0 := xV.of (T := TX11) (N := 63) (gt_9 104 rfl rfl) cI_X11_tellWays cE_X11_tellWays cN_X11 cC_X11_tellWays cD_X11_tellWays rfl
theorem cK_X11_469 : Cond.constantLong RX11 469 (1000000000000000000 : Int64) ∈ gtbl := gt_9 108 rfl rfl
theorem kX11_474 : xV RX11 474 mX11_isStep 11 3 := xV.of (T := TX11) (N := 63) (gt_9 109 rfl rfl) cI_X11_isStep cE_X11_isStep cN_X11 cC_X11_isStep cD_X11_isStep rfl
theorem kL_239 : xV RL 239 mX11_draw 11 3 := xV.of (T := TX11) (N := 63) (gt_9 113 rfl rfl) cI_X11_draw cE_X11_draw cN_X11 cC_X11_draw cD_X11_draw rfl
theorem cK_X11_478 : Cond.constantLong RX11 478 (10 : Int64) ∈ gtbl := gt_9 117 rfl rfl
theorem cK_X11_480 : Cond.constantLong RX11 480 (24 : Int64) ∈ gtbl := gt_9 118 rfl rfl
theorem kL_251 : xV RL 251 mX11_written 11 1 := xV.of (T := TX11) (N := 63) (gt_9 119 rfl rfl) cI_X11_written cE_X11_written cN_X11 cC_X11_written cD_X11_written rfl
theorem kX11_505 : xV RX11 505 mX11_tellText 11 0 := xV.of (T := TX11) (N := 63) (gt_9 123 rfl rfl) cI_X11_tellText cE_X11_tellText cN_X11 cC_X11_tellText cD_X11_tellText rfl
theorem kX11_495 : xV RX11 495 mX11_sayLine 11 2 := xV.of (T := TX11) (N := 63) (gt_9 127 rfl rfl) cI_X11_sayLine cE_X11_sayLine cN_X11 cC_X11_sayLine cD_X11_sayLine rfl
theorem kX11_488 : xV RX11 488 mX11_sayWord 11 1 := xV.of (T := TX11) (N := 63) (gt_9 131 rfl rfl) cI_X11_sayWord cE_X11_sayWord cN_X11 cC_X11_sayWord cD_X11_sayWord rfl
theorem kX11_485 : xV RX11 485 mX11_say 11 1 := xV.of (T := TX11) (N := 63) (gt_9 135 rfl rfl) cI_X11_say cE_X11_say cN_X11 cC_X11_say cD_X11_say rfl
theorem kX11_492 : xV RX11 492 mX11_sayNumber 11 1 := xV.of (T := TX11) (N := 63) (gt_9 139 rfl rfl) cI_X11_sayNumber cE_X11_sayNumber cN_X11 cC_X11_sayNumber cD_X11_sayNumber rfl
theorem kL_255 : xV RL 255 mX11_image 11 0 := xV.of (T := TX11) (N := 63) (gt_9 146 rfl rfl) cI_X11_image cE_X11_image cN_X11 cC_X11_image cD_X11_image rfl
theorem kX11_517 : xS RX11 517 mX11_be 2 := xS.of (gt_9 150 rfl rfl) cS_X11_be cN_X11 cC_X11_be cD_X11_be
theorem kL_260 : xV RL 260 mX11_restore 11 0 := xV.of (T := TX11) (N := 63) (gt_9 153 rfl rfl) cI_X11_restore cE_X11_restore cN_X11 cC_X11_restore cD_X11_restore rfl
theorem cK_L_194 : Cond.constantLong RL 194 (4294967295 : Int64) ∈ gtbl := gt_9 157 rfl rfl
theorem xT_174 : xT RX10 172 174 "java/util/NoSuchElementException" ["java/lang/RuntimeException", "java/lang/Exception"] := by
  have key : ∀ w ∈ vx_at0 RX10 174 "java/util/NoSuchElementException" ["java/lang/RuntimeException", "java/lang/Exception"], w ∈ lw_tbl ∧ (goodWord w = true ∨ (w.faceAtom && w.onTables) = true) := by decide +kernel
  exact ⟨by decide +kernel, by decide +kernel, gt_5 1 rfl rfl, gt_1 24 rfl rfl, fun w hw => (key w hw).2.elim (fun q => Or.inl (List.mem_filter.mpr ⟨(key w hw).1, q⟩)) (fun q => Or.inr (List.mem_filter.mpr ⟨(key w hw).1, q⟩)), by decide +kernel⟩
theorem xT_107 : xT RX10 105 107 "java/lang/IllegalArgumentException" ["java/lang/RuntimeException", "java/lang/Exception"] := by
  have key : ∀ w ∈ vx_at0 RX10 107 "java/lang/IllegalArgumentException" ["java/lang/RuntimeException", "java/lang/Exception"], w ∈ lw_tbl ∧ (goodWord w = true ∨ (w.faceAtom && w.onTables) = true) := by decide +kernel
  exact ⟨by decide +kernel, by decide +kernel, gt_3 142 rfl rfl, gt_1 18 rfl rfl, fun w hw => (key w hw).2.elim (fun q => Or.inl (List.mem_filter.mpr ⟨(key w hw).1, q⟩)) (fun q => Or.inr (List.mem_filter.mpr ⟨(key w hw).1, q⟩)), by decide +kernel⟩
