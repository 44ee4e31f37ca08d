/-! CONTRACTS of the small functions -/
theorem s_X5_oddsOf (n : Nat) (h : XH) (r : Nat) (hr : xRul r (xP h)) (hn : r + 9 ≤ n) (fc : Int32) : XSpec mX5_oddsOf 1 0 0 n n [.ref r, .int fc] h (xq (some (.int (rd (xI h (r + 5)) 7 0 fc))) h) xno := by
  refine XSpec.of rfl (by decide) (Nat.le_of_ble_eq_true rfl) rfl (v_X5_oddsOf_0 n r hr hn fc ?_)
  refine ⟨fun c => ⟨?_, rfl⟩, fun c => ⟨fun c2 => ⟨?_, rfl⟩, fun c2 => ⟨vp_of c c2 rfl, ?_, rfl⟩⟩⟩
  · simp only [rd, if_pos c]
  · simp only [rd, if_neg c, if_pos c2]
  · simp only [rd, if_neg c, if_neg c2]

theorem s_X5_footOf (n : Nat) (h : XH) (r : Nat) (hr : xRul r (xP h)) (hn : r + 9 ≤ n) (e : Int32) : XSpec mX5_footOf 1 0 0 n n [.ref r, .int e] h (xq (some (.int (rd (xI h (r + 6)) 24 0 e))) h) xno := by
  refine XSpec.of rfl (by decide) (Nat.le_of_ble_eq_true rfl) rfl (v_X5_footOf_0 n r hr hn e ?_)
  refine ⟨fun c => ⟨?_, rfl⟩, fun c => ⟨fun c2 => ⟨?_, rfl⟩, fun c2 => ⟨vp_of c c2 rfl, ?_, rfl⟩⟩⟩
  · simp only [rd, if_pos c]
  · simp only [rd, if_neg c, if_pos c2]
  · simp only [rd, if_neg c, if_neg c2]

theorem s_X5_headOf (n : Nat) (h : XH) (r : Nat) (hr : xRul r (xP h)) (hn : r + 9 ≤ n) (e : Int32) : XSpec mX5_headOf 1 0 0 n n [.ref r, .int e] h (xq (some (.int (rd (xI h (r + 7)) 24 0 e))) h) xno := by
  refine XSpec.of rfl (by decide) (Nat.le_of_ble_eq_true rfl) rfl (v_X5_headOf_0 n r hr hn e ?_)
  refine ⟨fun c => ⟨?_, rfl⟩, fun c => ⟨fun c2 => ⟨?_, rfl⟩, fun c2 => ⟨vp_of c c2 rfl, ?_, rfl⟩⟩⟩
  · simp only [rd, if_pos c]
  · simp only [rd, if_neg c, if_pos c2]
  · simp only [rd, if_neg c, if_neg c2]

theorem s_X7_refusedOf (n : Nat) (h : XH) (u : Nat) (hu : xSta u (xP h)) (hn : u + 5 ≤ n) (w : Int32) : XSpec mX7_refusedOf 1 0 0 n n [.ref u, .int w] h (xq (some (.int (rd (xI h (u + 4)) 3 0 w))) h) xno := by
  refine XSpec.of rfl (by decide) (Nat.le_of_ble_eq_true rfl) rfl (v_X7_refusedOf_0 n u hu hn w ?_)
  refine ⟨fun c => ⟨?_, rfl⟩, fun c => ⟨fun c2 => ⟨?_, rfl⟩, fun c2 => ⟨vp_of c c2 rfl, ?_, rfl⟩⟩⟩
  · simp only [rd, if_pos c]
  · simp only [rd, if_neg c, if_pos c2]
  · simp only [rd, if_neg c, if_neg c2]

theorem s_X7_placeOf (n : Nat) (h : XH) (u : Nat) (hu : xSta u (xP h)) (hn : u + 5 ≤ n) (p : Int32) : XSpec mX7_placeOf 1 0 0 n n [.ref u, .int p] h (xq (some (.int (rd (xI h (u + 1)) 4 0 p))) h) xno := by
  refine XSpec.of rfl (by decide) (Nat.le_of_ble_eq_true rfl) rfl (v_X7_placeOf_0 n u hu hn p ?_)
  refine ⟨fun c => ⟨?_, rfl⟩, fun c => ⟨fun c2 => ⟨?_, rfl⟩, fun c2 => ⟨vp_of c c2 rfl, ?_, rfl⟩⟩⟩
  · simp only [rd, if_pos c]
  · simp only [rd, if_neg c, if_pos c2]
  · simp only [rd, if_neg c, if_neg c2]

theorem s_X7_logged (n : Nat) (h : XH) (u : Nat) (hu : xSta u (xP h)) (hn : u + 5 ≤ n) (i : Int32) (t : Int32) : XSpec mX7_logged 1 0 0 n n [.ref u, .int i, .int t] h (xq (some (.int (rd (xI h (u + 2)) 1000 0 (i * 5 + t)))) h) xno := by
  refine XSpec.of rfl (by decide) (Nat.le_of_ble_eq_true rfl) rfl (v_X7_logged_0 n u hu hn i t ?_)
  refine ⟨fun c => ⟨?_, rfl⟩, fun c => ⟨fun c2 => ⟨?_, rfl⟩, fun c2 => ⟨vp_of c c2 rfl, ?_, rfl⟩⟩⟩
  · simp only [rd, if_pos c]
  · simp only [rd, if_neg c, if_pos c2]
  · simp only [rd, if_neg c, if_neg c2]

theorem s_X7_noteOf (n : Nat) (h : XH) (u : Nat) (hu : xSta u (xP h)) (hn : u + 5 ≤ n) (i : Int32) : XSpec mX7_noteOf 1 0 0 n n [.ref u, .int i] h (xq (some (.int (rd (xI h (u + 3)) 40 (-1) i))) h) xno := by
  refine XSpec.of rfl (by decide) (Nat.le_of_ble_eq_true rfl) rfl (v_X7_noteOf_0 n u hu hn i ?_)
  refine ⟨fun c => ⟨?_, rfl⟩, fun c => ⟨fun c2 => ⟨?_, rfl⟩, fun c2 => ⟨vp_of c c2 rfl, ?_, rfl⟩⟩⟩
  · simp only [rd, if_pos c]
  · simp only [rd, if_neg c, if_pos c2]
  · simp only [rd, if_neg c, if_neg c2]

theorem s_X3_to (n : Nat) (h : XH) (a : Nat) (ha : xPth a (xP h)) (hn : a + 4 ≤ n) (q : Int32) (t : Int32) : XSpec mX3_to 1 0 0 n n [.ref a, .int q, .int t] h (xq (some (.int (rd (xI h (a + 3)) 707 0 (q * 7 + t)))) h) xno := by
  refine XSpec.of rfl (by decide) (Nat.le_of_ble_eq_true rfl) rfl (v_X3_to_0 n a ha hn q t ?_)
  refine ⟨fun c => ⟨?_, rfl⟩, fun c => ⟨fun c2 => ⟨?_, rfl⟩, fun c2 => ⟨vp_of c c2 rfl, ?_, rfl⟩⟩⟩
  · simp only [rd, if_pos c]
  · simp only [rd, if_neg c, if_pos c2]
  · simp only [rd, if_neg c, if_neg c2]

theorem s_X7_putLog (n : Nat) (h : XH) (u : Nat) (hu : xSta u (xP h)) (hn : u + 5 ≤ n) (t : Int32) (v : Int32) : XSpec mX7_putLog 1 0 0 n n [.ref u, .int t, .int v] h (xq none (xSI (u + 2) (wr (xI h (u + 2)) 1000 (xI h u 1 * 5 + t) v) h)) xno := by
  refine XSpec.of rfl (by decide) (Nat.le_of_ble_eq_true rfl) rfl (v_X7_putLog_0 n u hu hn t v ?_)
  refine ⟨fun c => ⟨rfl, ?_⟩, fun c => ⟨fun c2 => ⟨rfl, ?_⟩, fun c2 => ⟨vp_of c c2 rfl, rfl, ?_⟩⟩⟩
  · simp only [wr, if_pos c, xSI_self]
  · simp only [wr, if_neg c, if_pos c2, xSI_self]
  · simp only [wr, if_neg c, if_neg c2]

theorem s_X7_refuse (n : Nat) (h : XH) (u : Nat) (hu : xSta u (xP h)) (hn : u + 5 ≤ n) (w : Int32) : XSpec mX7_refuse 1 0 0 n n [.ref u, .int w] h (xq none (xSI (u + 4) (wr (xI h (u + 4)) 3 w (xI h (u + 4) w.toNatClampNeg + 1)) h)) xno := by
  refine XSpec.of rfl (by decide) (Nat.le_of_ble_eq_true rfl) rfl (v_X7_refuse_0 n u hu hn w ?_)
  refine ⟨fun c => ⟨rfl, ?_⟩, fun c => ⟨fun c2 => ⟨rfl, ?_⟩, fun c2 => ⟨vp_of c c2 rfl, vp_of c c2 rfl, rfl, ?_⟩⟩⟩
  · simp only [wr, if_pos c, xSI_self]
  · simp only [wr, if_neg c, if_pos c2, xSI_self]
  · simp only [wr, if_neg c, if_neg c2]

theorem s_X7_canMove (n : Nat) (h : XH) (u : Nat) (hu : xSta u (xP h)) (hn : u + 5 ≤ n) : XSpec mX7_canMove 1 0 0 n n [.ref u] h (xq (some (.int (if xI h u 0 = (-1) then 0 else if 200 ≤ xI h u 1 then 0 else 1))) h) xno := by
  refine XSpec.of rfl (by decide) (Nat.le_of_ble_eq_true rfl) rfl (v_X7_canMove_0 n u hu hn ?_)
  refine ⟨fun c => ⟨?_, rfl⟩, fun c => ⟨fun c2 => ⟨?_, rfl⟩, fun c2 => ⟨?_, rfl⟩⟩⟩
  · simp only [if_pos c]
  · simp only [if_neg c, if_pos c2]
  · simp only [if_neg c, if_neg c2]

theorem s_X7_putNote (n : Nat) (h : XH) (u : Nat) (hu : xSta u (xP h)) (hn : u + 5 ≤ n) (q : Int32) : XSpec mX7_putNote 1 0 0 n n [.ref u, .int q] h (xq none (if xI h u 2 < 0 then h else if 40 ≤ xI h u 2 then h else xSI u (va_up (xI h u) 2 (xI h u 2 + 1)) (xSI (u + 3) (va_up (xI h (u + 3)) (xI h u 2).toNatClampNeg q) h))) xno := by
  refine XSpec.of rfl (by decide) (Nat.le_of_ble_eq_true rfl) rfl (v_X7_putNote_0 n u hu hn q ?_)
  refine ⟨fun c => ⟨rfl, ?_⟩, fun c => ⟨fun c2 => ⟨rfl, ?_⟩, fun c2 => ⟨vp_of c c2 rfl, rfl, ?_⟩⟩⟩
  · simp only [if_pos c]
  · simp only [if_neg c, if_pos c2]
  · simp only [if_neg c, if_neg c2]

theorem s_X5_isFoot (n : Nat) (h : XH) (r : Nat) (hr : xRul r (xP h)) (hn : r + 9 ≤ n) (q : Int32) : XSpec mX5_isFoot 1 0 0 n n [.ref r, .int q] h (xq (some (.int (if q < 0 then 0 else if 101 ≤ q then 0 else if xI h (r + 8) q.toNatClampNeg = 0 then 0 else 1))) h) xno := by
  refine XSpec.of rfl (by decide) (Nat.le_of_ble_eq_true rfl) rfl (v_X5_isFoot_0 n r hr hn q ?_)
  refine ⟨fun c => ⟨?_, rfl⟩, fun c => ⟨fun c2 => ⟨?_, rfl⟩, fun c2 => ⟨vp_of c c2 rfl, fun c3 => ⟨?_, rfl⟩, fun c3 => ⟨?_, rfl⟩⟩⟩⟩
  · simp only [if_pos c]
  · simp only [if_neg c, if_pos c2]
  · simp only [if_neg c, if_neg c2, if_pos c3]
  · simp only [if_neg c, if_neg c2, if_neg c3]

theorem s_X5_addExit (n : Nat) (h : XH) (r : Nat) (hr : xRul r (xP h)) (hn : r + 9 ≤ n) (ft : Int32) (hd : Int32) : XSpec mX5_addExit 1 0 0 n n [.ref r, .int ft, .int hd] h (xq none (if xI h r 7 < 0 then h else if 24 ≤ xI h r 7 then h else if ft < 0 then h else if 101 ≤ ft then h else xSI r (va_up (xI h r) 7 (xI h r 7 + 1)) (xSI (r + 8) (va_up (xI h (r + 8)) ft.toNatClampNeg 1) (xSI (r + 7) (va_up (xI h (r + 7)) (xI h r 7).toNatClampNeg hd) (xSI (r + 6) (va_up (xI h (r + 6)) (xI h r 7).toNatClampNeg ft) h))))) xno := by
  refine XSpec.of rfl (by decide) (Nat.le_of_ble_eq_true rfl) rfl (v_X5_addExit_0 n r hr hn ft hd ?_)
  refine ⟨fun c => ⟨rfl, ?_⟩, fun c => ⟨fun c2 => ⟨rfl, ?_⟩, fun c2 => ⟨fun c3 => ⟨rfl, ?_⟩, fun c3 => ⟨fun c4 => ⟨rfl, ?_⟩, fun c4 => ⟨vp_of c c2 rfl, vp_of c c2 rfl, vp_of c3 c4 rfl, rfl, ?_⟩⟩⟩⟩⟩
  · simp only [if_pos c]
  · simp only [if_neg c, if_pos c2]
  · simp only [if_neg c, if_neg c2, if_pos c3]
  · simp only [if_neg c, if_neg c2, if_neg c3, if_pos c4]
  · simp only [if_neg c, if_neg c2, if_neg c3, if_neg c4]
    rfl

theorem s_X0_add (n : Nat) (h : XH) (f : Nat) (hf : xFor f (xP h)) (hn : f + 4 ≤ n) (v : Int32) : XSpec mX0_add 1 0 0 n n [.ref f, .int v] h (xq none (if xI h f 3 < 0 then h else if 500 ≤ xI h f 3 then h else xSI f (va_up (xI h f) 3 (xI h f 3 + 1)) (xSI (f + 2) (va_up (xI h (f + 2)) (xI h f 3).toNatClampNeg v) h))) xno := by
  refine XSpec.of rfl (by decide) (Nat.le_of_ble_eq_true rfl) rfl (v_X0_add_0 n f hf hn v ?_)
  refine ⟨fun c => ⟨rfl, ?_⟩, fun c => ⟨fun c2 => ⟨rfl, ?_⟩, fun c2 => ⟨vp_of c c2 rfl, rfl, ?_⟩⟩⟩
  · simp only [if_pos c]
  · simp only [if_neg c, if_pos c2]
  · simp only [if_neg c, if_neg c2]

theorem s_X0_addSign (n : Nat) (h : XH) (f : Nat) (hf : xFor f (xP h)) (hn : f + 4 ≤ n) (v : Int32) : XSpec mX0_addSign 1 0 0 n n [.ref f, .int v] h (xq none (if xI h f 1 < 0 then h else if 1000 ≤ xI h f 1 then h else xSI f (va_up (xI h f) 1 (xI h f 1 + 1)) (xSI (f + 1) (va_up (xI h (f + 1)) (xI h f 1).toNatClampNeg (vp_nar .char v)) h))) xno := by
  refine XSpec.of rfl (by decide) (Nat.le_of_ble_eq_true rfl) rfl (v_X0_addSign_0 n f hf hn v ?_)
  refine ⟨fun c => ⟨rfl, ?_⟩, fun c => ⟨fun c2 => ⟨rfl, ?_⟩, fun c2 => ⟨vp_of c c2 rfl, rfl, ?_⟩⟩⟩
  · simp only [if_pos c]
  · simp only [if_neg c, if_pos c2]
  · simp only [if_neg c, if_neg c2]

theorem s_X0_begin (n : Nat) (h : XH) (f : Nat) (hf : xFor f (xP h)) (hn : f + 4 ≤ n) : XSpec mX0_begin 1 0 0 n n [.ref f] h (xq none (xSI f (va_up (va_up (va_up (xI h f) 0 1) 1 0) 3 0) h)) xno := by
  refine XSpec.of rfl (by decide) (Nat.le_of_ble_eq_true rfl) rfl (v_X0_begin_0 n f hf hn ?_)
  refine ⟨rfl, ?_⟩
  simp only [xSI_SI]

theorem s_X5_putOdds (n : Nat) (h : XH) (r : Nat) (hr : xRul r (xP h)) (hn : r + 9 ≤ n) (fc : Int32) (v : Int32) : XSpec mX5_putOdds 1 0 0 n n [.ref r, .int fc, .int v] h (xq none (xSI (r + 5) (wr (xI h (r + 5)) 7 fc v) h)) xno := by
  refine XSpec.of rfl (by decide) (Nat.le_of_ble_eq_true rfl) rfl (v_X5_putOdds_0 n r hr hn fc v ?_)
  refine ⟨fun c => ⟨rfl, ?_⟩, fun c => ⟨fun c2 => ⟨rfl, ?_⟩, fun c2 => ⟨vp_of c c2 rfl, rfl, ?_⟩⟩⟩
  · simp only [wr, if_pos c, xSI_self]
  · simp only [wr, if_neg c, if_pos c2, xSI_self]
  · simp only [wr, if_neg c, if_neg c2]

theorem s_X3_putFoot (n : Nat) (h : XH) (a : Nat) (ha : xPth a (xP h)) (hn : a + 4 ≤ n) (ft : Int32) (hd : Int32) : XSpec mX3_putFoot 1 0 0 n n [.ref a, .int ft, .int hd] h (xq none (xSI (a + 1) (wr (xI h (a + 1)) 101 ft hd) h)) xno := by
  refine XSpec.of rfl (by decide) (Nat.le_of_ble_eq_true rfl) rfl (v_X3_putFoot_0 n a ha hn ft hd ?_)
  refine ⟨fun c => ⟨rfl, ?_⟩, fun c => ⟨fun c2 => ⟨rfl, ?_⟩, fun c2 => ⟨vp_of c c2 rfl, rfl, ?_⟩⟩⟩
  · simp only [wr, if_pos c, xSI_self]
  · simp only [wr, if_neg c, if_pos c2, xSI_self]
  · simp only [wr, if_neg c, if_neg c2]

theorem s_X7_place (n : Nat) (h : XH) (u : Nat) (hu : xSta u (xP h)) (hn : u + 5 ≤ n) (p : Int32) (q : Int32) : XSpec mX7_place 1 0 0 n n [.ref u, .int p, .int q] h (xq none (xSI (u + 1) (wr (xI h (u + 1)) 4 p q) h)) xno := by
  refine XSpec.of rfl (by decide) (Nat.le_of_ble_eq_true rfl) rfl (v_X7_place_0 n u hu hn p q ?_)
  refine ⟨fun c => ⟨rfl, ?_⟩, fun c => ⟨fun c2 => ⟨rfl, ?_⟩, fun c2 => ⟨vp_of c c2 rfl, rfl, ?_⟩⟩⟩
  · simp only [wr, if_pos c, xSI_self]
  · simp only [wr, if_neg c, if_pos c2, xSI_self]
  · simp only [wr, if_neg c, if_neg c2]
