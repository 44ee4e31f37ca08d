/-! THE CLAIM OUT OF ONE WALK OF THE LAW'S BODY. Your part is whole_start (and what it stands on); all else here is the same for every law, but numbers. -/
def R_law : String := "SnakeBoardLaw"
def lw_P (b : Addr) (xs : List Int32) (args : Array Value) (s : State) : Prop := args = #[.ref b] ∧ s.IntsAt b xs ∧ xs.length ≤ 3072 ∧ (Jvm.Cond.and given_1 narrow_1).before args s = true
def lw_Q (_ : Array Value) (s : State) (o : Outcome) (t : State) : Prop := o = .returned (some (.int 1)) ∧ Framed s o t [] 601024 7293034
def lw_Z (below : List Frame) (a : Array Value) (s : State) : State → Prop := fun t => ∃ o, t.status = .running ∧ Ended t below o ∧ lw_Q a s o t
/-- what holds at the law's entry: the machine, the code, the tables' words (any of lw_tbl by 'hts w (by decide +kernel)'), the script of L ints xs at the cell b, what the Statement gives of the start (any of its parts by flat_of_before) -/
def lw_At (p : Program) (s : State) (m : MethodId) (meth : Method) (c : Code) (b L : Nat) (xs : Nat → Int32) : Prop :=
  p.tables.exec = Jvm.exec ∧ c.code = code ∧ meth.sig.returnType = ret ∧ c.maxLocals = 8 ∧ s.vm.findClass R_law = some m.cls ∧ (∀ w ∈ lw_tbl, w.before #[Value.ref b] s = true) ∧ va_X b L xs s s.heap ∧ b < s.heap.size ∧ meth.locks = false ∧ (Jvm.Cond.and given_1 narrow_1).before #[Value.ref b] s = true ∧ c.exceptionTable.toList = [] ∧ meth.name = "law"
/-! what the statement gives of the constants, by their places -/
def jw : List Cond := flatC (Jvm.Cond.and given_1 narrow_1)
def jtm (i : Nat) : Term := .string (jsTab.getD i ("", 0, "")).1 (jsTab.getD i ("", 0, "")).2.1
def jval (i : Nat) : Term := .field (jtm i) "java/lang/String" "value" "[B"
def jpE : List Nat := [37, 50, 58, 66, 73, 80, 89, 97, 107, 115, 123, 131, 137, 144, 153, 159, 168, 175, 181, 190, 198, 207, 211, 224, 237, 248, 258, 267, 278, 287, 296, 305, 312, 322, 329, 339, 349, 358, 366, 377, 386, 398, 407, 417, 425, 433, 440, 448, 458]
def jpC : List Nat := [38, 51, 59, 67, 74, 81, 90, 98, 108, 116, 124, 132, 138, 145, 154, 160, 169, 176, 182, 191, 199, 208, 212, 225, 238, 249, 259, 268, 279, 288, 297, 306, 313, 323, 330, 340, 350, 359, 367, 378, 387, 399, 408, 418, 426, 434, 441, 449, 459]
def jpA : List Nat := [39, 52, 60, 68, 75, 82, 91, 99, 109, 117, 125, 133, 139, 146, 155, 161, 170, 177, 183, 192, 200, 209, 213, 226, 239, 250, 260, 269, 280, 289, 298, 307, 314, 324, 331, 341, 351, 360, 368, 379, 388, 400, 409, 419, 427, 435, 442, 450, 460]
def jpL : List Nat := [40, 53, 61, 69, 76, 83, 92, 100, 110, 118, 126, 134, 140, 147, 156, 162, 171, 178, 184, 193, 201, 210, 214, 227, 240, 251, 261, 270, 281, 290, 299, 308, 315, 325, 332, 342, 352, 361, 369, 380, 389, 401, 410, 420, 428, 436, 443, 451, 461]
def jpB : List (List Nat) := [[41, 42, 43, 44, 45, 46, 47, 48, 49], [54, 55, 56, 57], [62, 63, 64, 65], [70, 71, 72], [77, 78, 79], [84, 85, 86, 87, 88], [93, 94, 95, 96], [101, 102, 103, 104, 105, 106], [111, 112, 113, 114], [119, 120, 121, 122], [127, 128, 129, 130], [135, 136], [141, 142, 143], [148, 149, 150, 151, 152], [157, 158], [163, 164, 165, 166, 167], [172, 173, 174], [179, 180], [185, 186, 187, 188], [194, 195, 196], [202, 203, 204, 205], [], [215, 216, 217, 218, 219, 220, 221, 222, 223], [228, 229, 230, 231, 232, 233, 234, 235, 236], [241, 242, 243, 244, 245, 246, 247], [252, 253, 254, 255, 256], [262, 263, 264, 265, 266], [271, 272, 273, 274, 275, 276], [282, 283, 284, 285, 286], [291, 292, 293, 294], [300, 301, 302, 303], [309, 310], [316, 317, 318, 319, 320], [326, 327], [333, 334, 335, 336], [343, 344, 345, 346, 347], [353, 354, 355], [362, 363, 364], [370, 371, 372, 373, 374], [381, 382, 383, 384], [390, 391, 392, 393, 394, 395], [402, 403, 404, 405], [411, 412, 413, 414], [421, 422, 423], [429, 430, 431], [437, 438], [444, 445, 446, 447], [452, 453, 454, 455, 456], [462, 463, 464, 465, 466]]
def jpR : List Nat := [828, 911, 969, 970, 971, 972, 973, 974, 975, 998, 999, 1000, 1029, 1050, 1052, 1053, 1054, 1055, 1496, 1515, 1517, 1519, 1524, 1525, 1526, 1527, 1528, 1529, 1534, 1543, 1544, 1545, 1546, 1547, 1548, 1549, 1809, 1810, 1811, 1812, 1813, 1814, 1815, 1848, 1865, 1866, 2183, 2184, 2185]
theorem jw_e : ∀ i, i < jsN → jw[jpE.getD i 0]? = some (Cond.exactly (jtm i) "java/lang/String") := by decide +kernel
theorem jw_c : ∀ i, i < jsN → jw[jpC.getD i 0]? = some (Cond.eq (.field (jtm i) "java/lang/String" "coder" "B") (.int 0)) := by decide +kernel
theorem jw_a : ∀ i, i < jsN → jw[jpA.getD i 0]? = some (Cond.arrayOf (jval i) .byte) := by decide +kernel
theorem jw_l : ∀ i, i < jsN → jw[jpL.getD i 0]? = some (Cond.eq (.length (jval i)) (.int (Int32.ofNat (jsL i)))) := by decide +kernel
theorem jw_b : ∀ i, i < jsN → ∀ j, j < jsL i → jw[(jpB.getD i []).getD j 0]? = some (Cond.eq (.elem (jval i) (.int (Int32.ofNat j))) (.int (jsC i j))) := by decide +kernel
theorem jw_r : ∀ i, i < jsN → lw_tbl[jpR.getD i 0]? = some (Cond.stringRef (jsTab.getD i ("", 0, "")).1 (jsTab.getD i ("", 0, "")).2.1 (jsTab.getD i ("", 0, "")).2.2) := by decide +kernel
theorem jw_k : ∀ i, i < jsN → jsL i < 2 ^ 31 := by decide +kernel
theorem whole_str {s : State} {args : Array Value} {A : Nat → Prop} (hfl : ∀ w ∈ jw, w.before args s = true) (hA : ∀ a : Nat, a < s.heap.size → ¬ A a) : ∃ ad : Nat → Nat × Nat, ∀ i, i < jsN → (jtm i).eval args s none [] s = some (.ref (ad i).1) ∧ va_O "java/lang/String" (ad i).1 A s s.heap ∧ va_OF "java/lang/String" "coder" "B" (.int 0) (ad i).1 A s s.heap ∧ va_OF "java/lang/String" "value" "[B" (.ref (ad i).2) (ad i).1 A s s.heap ∧ va_T .byte (ad i).2 (jsL i) (fun j => .int (jsC i j)) A s s.heap := by
  have h0 : ∀ i : Nat, ∃ q : Nat × Nat, i < jsN → (jtm i).eval args s none [] s = some (.ref q.1) ∧ va_O "java/lang/String" q.1 A s s.heap ∧ va_OF "java/lang/String" "coder" "B" (.int 0) q.1 A s s.heap ∧ va_OF "java/lang/String" "value" "[B" (.ref q.2) q.1 A s s.heap ∧ va_T .byte q.2 (jsL i) (fun j => .int (jsC i j)) A s s.heap := by
    intro i
    by_cases hi : i < jsN
    · have w1 := hfl _ (List.mem_of_getElem? (jw_e i hi))
      have w2 := hfl _ (List.mem_of_getElem? (jw_c i hi))
      have w3 := hfl _ (List.mem_of_getElem? (jw_a i hi))
      have w4 := hfl _ (List.mem_of_getElem? (jw_l i hi))
      obtain ⟨a, c, cA, kA, q1, q2, q3, q4, q5, q6, -⟩ := Cond.exactly_spec (args := args) (first := s) (o := none) (s := s) (idx := []) (t := jtm i) (cls := "java/lang/String") w1
      obtain ⟨t, ht, hT⟩ := va_Tof (f := fun j => .int (jsC i j)) (A := A) (jw_k i hi) w3 (va_eqt w4) (fun j hj => va_eqt (hfl _ (List.mem_of_getElem? (jw_b i hi j hj)))) hA
      exact ⟨(a, t), fun _ => ⟨q1, ⟨cA, q3, q5, by rw [q6]; exact q2, hA a (Array.getElem?_eq_some_iff.mp q3).1⟩, vk_OFof q1 (va_eqt w2) hA, vk_OFof q1 ht hA, hT⟩⟩
    · exact ⟨(0, 0), fun h => absurd h hi⟩
  exact Classical.axiomOfChoice h0
/-! the classes -/
theorem jw_i : ∀ ci, ci < 12 → Cond.instantiable (vwCl.getD ci ("", TX0, 0)).1 (vwCl.getD ci ("", TX0, 0)).2.2 ∈ lw_tbl := by decide +kernel
theorem whole_cls {s : State} {args : Array Value} (hts : ∀ w ∈ lw_tbl, w.before args s = true) : ∃ D : va_G, ∀ (c : Nat) (q : vw_C), vwCl[c]? = some q → u_Kn s q.1 q.2.1 q.2.2 (D.1 c) (D.2 c) := by
  have h0 : ∀ c : Nat, ∃ d : ClassId × (Nat → Nat), ∀ q : vw_C, vwCl[c]? = some q → u_Kn s q.1 q.2.1 q.2.2 d.1 d.2 := by
    intro c
    by_cases hc : c < 12
    · obtain ⟨q, hq⟩ : ∃ q, vwCl[c]? = some q := ⟨_, List.getElem?_eq_getElem (show c < vwCl.length from hc)⟩
      obtain ⟨C0, T, N⟩ := q
      have hg : vwCl.getD c ("", TX0, 0) = (C0, T, N) := by rw [List.getD_eq_getElem?_getD, hq]; rfl
      have hi := jw_i c hc
      rw [hg] at hi
      obtain ⟨cC, iS, hk⟩ := u_known (ws := gtbl) (fun w hw => hts w (List.mem_filter.mp hw).1) (x_cls hq).2.1 (hts _ hi)
      refine ⟨(cC, iS), fun q' hq' => ?_⟩
      rw [hq] at hq'
      cases hq'
      exact hk
    · refine ⟨(0, fun _ => 0), fun q hq => ?_⟩
      have := (List.getElem?_eq_some_iff.mp hq).1
      exact absurd (show c < 12 from this) hc
  obtain ⟨f, hf⟩ := Classical.axiomOfChoice h0
  exact ⟨(fun c => (f c).1, fun c => (f c).2), hf⟩
def wA (s : State) (ty : FieldType) : ClassId := (s.vm.findClass ("[" ++ ty.toString)).getD 0
theorem whole_arr {s : State} {args : Array Value} {ty : FieldType} (h : (Cond.arrayClass ty).before args s = true) (ho : ∀ C, ty ≠ .object C) : ArrOfT s (wA s ty) ty ∧ va_RA s (wA s ty) ty := by
  obtain ⟨c, k, comp, h1, h2, h3⟩ := Cond.arrayClass_spec (args := args) (first := s) (o := none) (s := s) (idx := []) h
  have e : wA s ty = c := by unfold wA; rw [h1]; rfl
  rw [e]
  refine ⟨fun N z => ⟨fun k h => (by cases h), k, h2, comp, h3⟩, ?_⟩
  cases ty with
  | object C => exact absurd rfl (ho C)
  | _ => exact h1
theorem whole_arq {s : State} {args : Array Value} (h : (Cond.arrayOver (.object "java/lang/String")).before args s = true) : ArrOfT s (wA s (.object "java/lang/String")) (.object "java/lang/String") ∧ va_RA s (wA s (.object "java/lang/String")) (.object "java/lang/String") := by
  obtain ⟨comp, c, k, h1, h2, h3, h4, h5⟩ := Cond.arrayOver_spec (args := args) (first := s) (o := none) (s := s) (idx := []) h
  have e : wA s (.object "java/lang/String") = c := by unfold wA; rw [h5]; rfl
  rw [e]
  exact ⟨fun N z => ⟨fun k h => (by cases h), k, h3, comp, h4⟩, k, comp, h3, h4, h1, h5⟩
theorem jw_t : ∀ w ∈ [Cond.arrayClass .int, Cond.arrayClass .long, Cond.arrayClass .char, Cond.arrayClass .boolean, Cond.arrayOver (.object "java/lang/String"), Cond.laysStatic Bundle.tN "UNASSIGNED_STACK" Bundle.steD, Cond.laysStatic Bundle.tN "SUPPRESSED_SENTINEL" Bundle.listD, Cond.laysStatic "java/lang/String" "COMPACT_STRINGS" "Z", Cond.laysStatic "jdk/internal/util/Preconditions" "SIOOBE_FORMATTER" "Ljava/util/function/BiFunction;", Cond.initialized Bundle.tN, Cond.initialized "java/lang/String", Cond.initialized "jdk/internal/util/Preconditions"], w ∈ lw_tbl := by decide +kernel
theorem jw_s : ∀ w ∈ [Cond.isRef (.static Bundle.tN "UNASSIGNED_STACK" Bundle.steD), Cond.isRef (.static Bundle.tN "SUPPRESSED_SENTINEL" Bundle.listD), Cond.eq (.static "java/lang/String" "COMPACT_STRINGS" "Z") (.int 1), Cond.isRef (.static "jdk/internal/util/Preconditions" "SIOOBE_FORMATTER" "Ljava/util/function/BiFunction;"), Cond.not (.castable "java/lang/IllegalArgumentException" "java/util/NoSuchElementException")], w ∈ jw := by decide +kernel
/-- from the entry, for every script of at most 3072 ints, the law comes to its end with true -/
theorem whole_start {p : Program} {e : Env} {s : State} {m : MethodId} {below : List Frame} {meth : Method} {c : Code} (l : Launch) (hflags : l.flags = flags0) {b L : Nat} {xs : Nat → Int32} (hL : L ≤ 3072) (C0 : lw_At p s m meth c b L xs) : W p l e room_1 s m #[Value.ref b] below meth c s.heap [] 0 0 (lw_Z below #[Value.ref b] s) (entryFrame m ([Value.ref b] : List Value).toArray 8) := by
  obtain ⟨hx, hb, hret, hml, hown, hts, hX, hbl, hlocks, hgv, htab, hname⟩ := C0
  have hfl : ∀ w ∈ jw, w.before #[Value.ref b] s = true := flat_of_before _ hgv
  have hA : ∀ a : Nat, a < s.heap.size → ¬ s.heap.size ≤ a := fun a ha q => absurd q (Nat.not_le.mpr ha)
  obtain ⟨ad, had⟩ := whole_str (A := fun q => s.heap.size ≤ q) hfl hA
  obtain ⟨D, hD⟩ := whole_cls hts
  have T : ∀ (k : Nat) (w : Cond), ([Cond.arrayClass .int, Cond.arrayClass .long, Cond.arrayClass .char, Cond.arrayClass .boolean, Cond.arrayOver (.object "java/lang/String"), Cond.laysStatic Bundle.tN "UNASSIGNED_STACK" Bundle.steD, Cond.laysStatic Bundle.tN "SUPPRESSED_SENTINEL" Bundle.listD, Cond.laysStatic "java/lang/String" "COMPACT_STRINGS" "Z", Cond.laysStatic "jdk/internal/util/Preconditions" "SIOOBE_FORMATTER" "Ljava/util/function/BiFunction;", Cond.initialized Bundle.tN, Cond.initialized "java/lang/String", Cond.initialized "jdk/internal/util/Preconditions"] : List Cond)[k]? = some w → w.before #[Value.ref b] s = true := fun k w h => hts w (jw_t w (List.mem_of_getElem? h))
  have U : ∀ (k : Nat) (w : Cond), ([Cond.isRef (.static Bundle.tN "UNASSIGNED_STACK" Bundle.steD), Cond.isRef (.static Bundle.tN "SUPPRESSED_SENTINEL" Bundle.listD), Cond.eq (.static "java/lang/String" "COMPACT_STRINGS" "Z") (.int 1), Cond.isRef (.static "jdk/internal/util/Preconditions" "SIOOBE_FORMATTER" "Ljava/util/function/BiFunction;"), Cond.not (.castable "java/lang/IllegalArgumentException" "java/util/NoSuchElementException")] : List Cond)[k]? = some w → w.before #[Value.ref b] s = true := fun k w h => hfl w (jw_s w (List.mem_of_getElem? h))
  have hfm := va_Zqof (A := fun q => s.heap.size ≤ q) (T 8 _ rfl) (T 11 _ rfl) (U 3 _ rfl) hA
  obtain ⟨t9, ht9⟩ : ∃ t : Nat, va_Z "jdk/internal/util/Preconditions" "SIOOBE_FORMATTER" "Ljava/util/function/BiFunction;" (.ref t) (fun q => s.heap.size ≤ q) s s.heap ∨ va_Z "jdk/internal/util/Preconditions" "SIOOBE_FORMATTER" "Ljava/util/function/BiFunction;" .null (fun q => s.heap.size ≤ q) s s.heap := by
    rcases hfm with q | ⟨t, q⟩
    · exact ⟨0, Or.inr q⟩
    · exact ⟨t, Or.inl q⟩
  obtain ⟨G, hG⟩ : ∃ G : XG, G = (D, wA s, s.heap.size, fun i => (ad i).1, fun i => if i = 900 then t9 else (ad i).2, b, L, xs, none) := ⟨_, rfl⟩
  have hstr : XStr G s s.heap := fun i hi => by
    obtain ⟨-, q2, q3, q4, q5⟩ := had i hi
    have ev : gV G i = (ad i).2 := by
      rw [hG]
      exact if_neg (by unfold jsN at hi; omega)
    have ek : gK G i = (ad i).1 := by rw [hG]
    have ea : xaf G = fun q => s.heap.size ≤ q := by rw [hG]; rfl
    rw [ev, ek, ea]
    exact ⟨q2, q3, q4, q5⟩
  have hXA : XA G s s.heap := by
    have ea : xaf G = fun q => s.heap.size ≤ q := by rw [hG]; rfl
    have ev : gV G 900 = t9 := by rw [hG]; rfl
    refine ⟨hstr, ?_, ?_, ?_, ?_, ?_, ?_⟩
    · rw [ea]; exact vx_Zqof (T 5 _ rfl) (T 9 _ rfl) (U 0 _ rfl) hA
    · rw [ea]; exact vx_Zqof (T 6 _ rfl) (T 9 _ rfl) (U 1 _ rfl) hA
    · rw [ea]; exact va_Zof (T 7 _ rfl) (T 10 _ rfl) (va_eqi (U 2 _ rfl)) hA
    · rw [hG]; exact hX
    · rw [hG]; exact ⟨hbl, hbl⟩
    · rw [ea, ev]; exact ht9
  have hXK : XK G s := by
    refine ⟨⟨fun c q hq => by rw [hG]; exact hD c q hq, fun k q hq => ?_⟩, fun i q hq => ?_, fun w hw => va_tabs (x_face hw).2 rfl (hts w (List.mem_filter.mp hw).1), va_Nc.of (U 4 _ rfl), fun a i x o hw => va_Nw.of rfl (hts _ hw), va_AO.of (T 4 _ rfl)⟩
    · have eA : gA G = wA s := by rw [hG]
      unfold xtys at hq
      rw [eA] at hq
      match k, hq with
      | 0, hq => cases hq; exact whole_arr (T 0 _ rfl) (fun C z => by cases z)
      | 1, hq => cases hq; exact whole_arr (T 1 _ rfl) (fun C z => by cases z)
      | 2, hq => cases hq; exact whole_arr (T 2 _ rfl) (fun C z => by cases z)
      | 3, hq => cases hq; exact whole_arr (T 3 _ rfl) (fun C z => by cases z)
      | 4, hq => cases hq; exact whole_arq (T 4 _ rfl)
      | k + 5, hq => simp at hq
    · have hi : i < jsN := (List.getElem?_eq_some_iff.mp hq).1
      have hg : jsTab.getD i ("", 0, "") = q := by rw [List.getD_eq_getElem?_getD, hq]; rfl
      have w1 := hts _ (List.mem_of_getElem? (jw_r i hi))
      have w2 := (had i hi).1
      have ek : gK G i = (ad i).1 := by rw [hG]
      unfold jtm at w2
      rw [hg] at w1 w2
      rw [ek]
      exact vk_R.of w1 w2
  have hst : l.stackTraces = false := by
    unfold Launch.stackTraces
    rw [hflags]
    decide +kernel
  have C : XC G mL_law p l s m #[Value.ref b] meth c := ⟨hx, hb, hml, hret, hown, fun w hw => hts w (List.mem_filter.mp hw).1, hlocks, hst, hXK, hXA, by rw [hG]; exact Nat.le_refl _, htab, hname⟩
  have eb : [Value.ref 3000].map (xv G) = [Value.ref b] := by rw [hG]; rfl
  have hlv := lv_entry ([Value.ref 3000].map (xv G)) (n := 8) (by rw [xsl_len]; decide)
  have hget : ∀ (i : Nat) (v : Value), ([some (.ref 3000), none, none, none, none, none, none, none] : List (Option Value))[i]? = some (some v) → (i, xv G v) ∈ lv_args 0 ([Value.ref 3000].map (xv G)) := fun i v q => xent_get (mL := 8) (As := [.ref 3000]) q
  rw [eb] at hlv hget
  have f0 : xfl hZ = 0 := rfl
  have hR : XR G 0 hZ s.heap := ⟨fun k q hq => (by have e := (xws_in hq).1; rw [f0] at e; omega), (by omega), fun o ho => (by rw [hG] at ho; cases ho), Or.inl ⟨f0, by omega⟩⟩
  have hz0 : gB G = s.heap.size := by rw [hG]
  rw [lg_entry_eq]
  refine x_mono (Z := xEL xs L G below #[Value.ref b] s) (fun t ht => ht (by rw [hG]; exact ⟨rfl, rfl, rfl, rfl⟩)) ?_
  exact law_start (xs := xs) hL G (e := e) (below := below) C s.heap [] _ 0 0 hR va_S.rf ⟨⟨hlv.1, hlv.2.1, fun q hq => by cases hq⟩, fun i v q => hlv.2.2 (i, xv G v) (hget i v q)⟩ (fun _ => by rw [f0]; omega) (by decide) (by decide)
set_option maxHeartbeats 4000000 in
theorem lw_walk (l : Launch) (hflags : l.flags = flags0) (b : Addr) (xs : List Int32) : MetFree l x (headSpec (Jvm.Cond.code x code maxLocals ret :: tables_1) room_1) (lw_P b xs) (fun _ _ _ _ _ => True) lw_Q := by
  refine MetFree.of_bodyS (code := code) (maxLocals := maxLocals) (ret := ret) (by decide) ?_ ?_
  · intro args s m h hn
    obtain ⟨meth, c, h1, h2, h3, h4, h5, h6, -, -⟩ := Cond.code_spec hn (atoms_spec (ws := Jvm.Cond.code x code maxLocals ret :: tables_1) h _ List.mem_cons_self)
    exact ⟨meth, c, h1, h2, h3, h4, h5, h6⟩
  · intro p e s m args below meth c s₁ B hml0 hP _
    obtain ⟨rfl, hx, hbd, hgv⟩ := hP
    obtain ⟨scr, harrAt, hlist, hof, hsmall⟩ := hx
    obtain ⟨hcb, hkn, -, -⟩ := State.arrayAt?_spec harrAt
    have hown : s.vm.findClass R_law = some m.cls := findClass_of_methodNamed B.named
    have hts0 : ∀ c ∈ (Jvm.Cond.code x code maxLocals ret :: tables_1), c.before #[Value.ref b] s = true := atoms_spec (ws := Jvm.Cond.code x code maxLocals ret :: tables_1) B.pre
    have hts : ∀ w ∈ lw_tbl, w.before #[Value.ref b] s = true := k2_hts_sels lw_privs (fun w hw => hts0 w (List.mem_cons_of_mem _ hw)) lw_privs_ok
    have hml : c.maxLocals = 8 := B.maxLocals_eq (hts0 _ List.mem_cons_self)
    have X₀ : Stand p l e room_1 s m #[Value.ref b] below meth c s₁ [] 0 0 := Stand.of_body B
    have hh0 : s₁.heap = s.heap := by rw [B.state]; rfl
    have hne : c.exceptionTable.toList = [] := by
      obtain ⟨meth9, c9, h1, h2, -, -, -, -, h7, -⟩ := Cond.code_spec B.named (hts0 _ List.mem_cons_self)
      cases Option.some.inj (h1.symm.trans B.method)
      cases Option.some.inj (h2.symm.trans (Stand.of_body B).code)
      rw [Array.isEmpty_iff.mp h7]
    have hsz : scr.slots.size = xs.length := by rw [← Array.length_toList, hlist, List.length_map]
    have hval : ∀ j : Nat, j < xs.length → scr.slots[j]? = some (.int (xs.getD j 0)) := fun j hj => by
      rw [← Array.getElem?_toList, hlist]
      simp [hj]
    have hbl : b < s.heap.size := (Array.getElem?_eq_some_iff.mp hcb).1
    have hX : va_X b xs.length (fun j => xs.getD j 0) s s.heap := ⟨scr, hcb, hof, hkn, hsz, hval⟩
    have K : W p l e room_1 s m #[Value.ref b] below meth c s₁.heap [] 0 0 (lw_Z below #[Value.ref b] s) (entryFrame m ([Value.ref b] : List Value).toArray 8) := by
      rw [hh0]
      exact whole_start l hflags hbd ⟨B.exec, B.bytes, B.returns, hml, hown, hts, hX, hbl, B.notSynchronized, hgv, hne, (name_of_methodNamed B.named B.method).1⟩
    obtain ⟨t, a1, o, b1, b2, b3⟩ := K s₁ rfl X₀
    exact ⟨t, o, a1, b1, b2, b3⟩
theorem lw_pre_spec {args : Array Value} {s : State} (h : (Jvm.Cond.and given_1 narrow_1).before args s = true) (hr : rest_1_c.before args s = true) : ∃ (b : Addr) (xs : List Int32), lw_P b xs args s := by
  have hs := flat_of_before _ h
  have hq := flat_of_before _ hr
  have hc : (Cond.count 1).before args s = true := hs _ (by decide +kernel)
  have harr : (Cond.arrayOf (.arg 0) .int).before args s = true := hs _ (by decide +kernel)
  have hle : (Cond.le (.length (.arg 0)) (.int 3072)).before args s = true := hs _ (by decide +kernel)
  have hlen : (Cond.isInt (.length (.arg 0))).before args s = true := hq _ (by decide +kernel)
  have hall : (Cond.all (.arg 0) (.isInt (.elem (.arg 0) (.index 0)))).before args s = true := hq _ (by decide +kernel)
  obtain ⟨b, xs, hb, hx⟩ := State.ints_of_pre rfl harr hlen hall
  have hsm : xs.length < 2 ^ 31 := hx.choose_spec.2.2.2
  have hev : (Term.length (.arg 0)).eval args s none [] s = some (.int xs.length.toInt32) := hx.length_eval hb
  have hv := Cond.le_ints hev (show (Term.int 3072).eval args s none [] s = some (.int 3072) from rfl)
  have hd : xs.length.toInt32 ≤ 3072 := by
    simpa [Cond.before, Cond.holds, hv] using hle
  have hN : xs.length ≤ 3072 := (Int32.ofNat_le_ofNat hsm (by decide)).mp (show Int32.ofNat xs.length ≤ Int32.ofNat 3072 from hd)
  exact ⟨b, xs, Cond.one_arg hc (show args[0]? = some (.ref b) from hb), hx, hN, h⟩
theorem lw_comes (l : Launch) (hflags : l.flags = flags0) : Comes l x (Jvm.Cond.code x code maxLocals ret :: tables_1) room_1 (fun tb e args s => Calls_1 tb e args s ∧ rest_1 tb e args s ∧ Pre_1 tb e args s)
    (fun _ _ args s o t => lw_Q args s o t) := by
  intro p e ha hc hk s m args below hf hfit hheap happ hpre
  obtain ⟨b, xs, hP⟩ := lw_pre_spec hpre.2.2 hpre.2.1
  obtain ⟨k, o, h1, h2, h3, hQ⟩ := lw_walk l hflags b xs p e ha hc hk s m args below hf ((Spec.applies_iff_loose hf).mp happ).1 hP trivial
  exact ⟨k, o, h1, h2, h3, hQ⟩
theorem lw_frame {s t : State} {o : Outcome} {args : Array Value} (h : Framed s o t [] 601024 7293034) :
    Framed s o t (fieldLocs frame_1_writes args s ++ arrayLocs frame_1_arrays args s ++ staticLocs frame_1_statics s) 601024 7293034 := h
theorem lw_limb (L : Cond) (hL : ∀ (args : Array Value) (s t : State), L.after args s (.returned (some (.int 1))) t = true) :
    ArmFor flags0 classFile x code maxLocals ret World_1 tables_1 room_1 Calls_1 rest_1 Pre_1
      (fun tb e a s o t => postC L tb e a s o t ∧ Framed s o t (fieldLocs frame_1_writes a s ++ arrayLocs frame_1_arrays a s ++ staticLocs frame_1_statics s) 601024 7293034) := by
  intro l hflags _ _ p e ha hc hk s m args below hf hfit hheap happ hpre
  obtain ⟨k, o, h1, h2, h3, rfl, hF⟩ := lw_comes l hflags p e ha hc hk s m args below hf hfit hheap happ hpre
  exact ⟨k, _, h1, h2, h3, hL args s _, lw_frame hF⟩
theorem i_vc : Claimed_1_1 ∧ Claimed_1_2 := ⟨lw_limb limb_1_1 (fun args s t => by simp [limb_1_1, Cond.after, Cond.holds, Cond.value]), lw_limb limb_1_2 (fun args s t => Cond.after_iff.mpr (by
  first | (rw [show limb_1_2 = Cond.eq .result (.int 1) from rfl, Cond.eq_ints (x := 1) (y := 1) rfl rfl]; simp; done) | (simp [limb_1_2, Cond.value, Term.eval]; done)))⟩
