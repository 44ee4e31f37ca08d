/-! THE LIBRARY'S SMALL FUNCTIONS -/
theorem cB_max : Cond.code Lib.Math.max.name Lib.Math.max.code 2 (some .int) ∈ gtbl := cC_J9_max_7cf53
theorem cB_min : Cond.code Lib.Math.min.name Lib.Math.min.code 2 (some .int) ∈ gtbl := cC_J9_min_7cf53
theorem cB_minl : Cond.code Lib.MathLoose.min_long.x Lib.MathLoose.min_long.code 4 (some .long) ∈ gtbl := cC_J9_min_f86c9
theorem cB_absl : Cond.code Lib.MathLoose.abs_long.x Lib.MathLoose.abs_long.code 2 (some .long) ∈ gtbl := cC_J9_abs_067f4
section XLIB
variable {R : Room} {M : XM} {E : XE} {n b bs : Nat} {h : XH} {pc : Nat} {ls : List (Option Value)} {st : List Value}
theorem x_sum {G : XG} (st : List Value) : ((st.map (xv G)).map fun v => v.category).sum = (st.map Value.category).sum := by
  rw [List.map_map]
  have : (st.map ((fun v => v.category) ∘ xv G)) = st.map Value.category := List.map_congr_left (fun v _ => xv_cat v)
  rw [this]
theorem xi_mmax {x y : Int32} {idx : Nat} (hd : decode M.2.1 pc = .ok (.invokestatic idx, 3)) (hw : Cond.methodLink M.1.cls idx yJ9_max_7cf53 ∈ gtbl) (h1 : 1 ≤ R.frames) (h2 : (st.map Value.category).sum + 13 ≤ R.locals) (k : XW R M E n b bs h (pc + 3) ls (.int (if x < y then y else x) :: st)) : XW R M E n b bs h pc ls (.int y :: .int x :: st) := by
  intro G p l e s m args below meth c C H locs L kc ks hR hS hl hz g1 g2
  have hts := C.2.2.2.2.2.1
  exact va_mmax C.1 C.2.1 (C.2.2.1.trans hl.1.1.symm) C.2.2.2.2.1 (hts _ hw) (hts _ cS_J9_max_7cf53) (hts _ cN_J9) (hts _ cB_max) h1 (by rw [x_sum]; exact h2) (by omega) (by omega) hd (k G C H locs L kc ks hR hS hl hz g1 g2)
theorem xi_mmin {x y : Int32} {idx : Nat} (hd : decode M.2.1 pc = .ok (.invokestatic idx, 3)) (hw : Cond.methodLink M.1.cls idx yJ9_min_7cf53 ∈ gtbl) (h1 : 1 ≤ R.frames) (h2 : (st.map Value.category).sum + 13 ≤ R.locals) (k : XW R M E n b bs h (pc + 3) ls (.int (if y < x then y else x) :: st)) : XW R M E n b bs h pc ls (.int y :: .int x :: st) := by
  intro G p l e s m args below meth c C H locs L kc ks hR hS hl hz g1 g2
  have hts := C.2.2.2.2.2.1
  exact va_mmin C.1 C.2.1 (C.2.2.1.trans hl.1.1.symm) C.2.2.2.2.1 (hts _ hw) (hts _ cS_J9_min_7cf53) (hts _ cN_J9) (hts _ cB_min) h1 (by rw [x_sum]; exact h2) (by omega) (by omega) hd (k G C H locs L kc ks hR hS hl hz g1 g2)
theorem xi_mminl {x y : Int64} {idx : Nat} (hd : decode M.2.1 pc = .ok (.invokestatic idx, 3)) (hw : Cond.methodLink M.1.cls idx yJ9_min_f86c9 ∈ gtbl) (h1 : 1 ≤ R.frames) (h2 : (st.map Value.category).sum + 15 ≤ R.locals) (k : XW R M E n b bs h (pc + 3) ls (.long (if y < x then y else x) :: st)) : XW R M E n b bs h pc ls (.long y :: .long x :: st) := by
  intro G p l e s m args below meth c C H locs L kc ks hR hS hl hz g1 g2
  have hts := C.2.2.2.2.2.1
  exact va_mmin_long C.1 C.2.1 (C.2.2.1.trans hl.1.1.symm) C.2.2.2.2.1 (hts _ hw) (hts _ cS_J9_min_f86c9) (hts _ cN_J9) (hts _ cB_minl) h1 (by rw [x_sum]; exact h2) (by omega) (by omega) hd (k G C H locs L kc ks hR hS hl hz g1 g2)
theorem xi_mabsl {x : Int64} {idx : Nat} (hd : decode M.2.1 pc = .ok (.invokestatic idx, 3)) (hw : Cond.methodLink M.1.cls idx yJ9_abs_067f4 ∈ gtbl) (h1 : 1 ≤ R.frames) (h2 : (st.map Value.category).sum + 13 ≤ R.locals) (k : XW R M E n b bs h (pc + 3) ls (.long (if 0 < x then x else -x) :: st)) : XW R M E n b bs h pc ls (.long x :: st) := by
  intro G p l e s m args below meth c C H locs L kc ks hR hS hl hz g1 g2
  have hts := C.2.2.2.2.2.1
  exact va_mabs_long C.1 C.2.1 (C.2.2.1.trans hl.1.1.symm) C.2.2.2.2.1 (hts _ hw) (hts _ cS_J9_abs_067f4) (hts _ cN_J9) (hts _ cB_absl) h1 (by rw [x_sum]; exact h2) (by omega) (by omega) hd (k G C H locs L kc ks hR hS hl hz g1 g2)
end XLIB
