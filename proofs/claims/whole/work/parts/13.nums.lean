/-! NUMBERS: an int as the Int that it is -/
def iz (z : Int) : Int32 := Int32.ofInt z
theorem iz_toInt {z : Int} (h1 : -2147483648 ≤ z) (h2 : z < 2147483648) : (iz z).toInt = z := Int32.toInt_ofInt_of_le h1 h2
theorem iz_of (x : Int32) : x = iz x.toInt := (Int32.ofInt_toInt x).symm
theorem iz_add (a b : Int) : iz a + iz b = iz (a + b) := (Int32.ofInt_add a b).symm
theorem iz_sub (a b : Int) : iz a - iz b = iz (a - b) := (Int32.ofInt_sub a b).symm
theorem iz_mul (a b : Int) : iz a * iz b = iz (a * b) := (Int32.ofInt_mul a b).symm
theorem iz_neg (a : Int) : - iz a = iz (-a) := (Int32.ofInt_neg a).symm
theorem iz_nI (n : Nat) : nI n = iz n := by
  show Int32.ofNat n = Int32.ofInt n
  rw [Int32.ofInt_eq_ofNat]
theorem iz_lit (n : Nat) : (OfNat.ofNat n : Int32) = iz n := iz_nI n
theorem iz_lt {a b : Int} (ha : -2147483648 ≤ a) (ha' : a < 2147483648) (hb : -2147483648 ≤ b) (hb' : b < 2147483648) : (iz a < iz b) ↔ a < b := by
  rw [Int32.lt_iff_toInt_lt, iz_toInt ha ha', iz_toInt hb hb']
theorem iz_le {a b : Int} (ha : -2147483648 ≤ a) (ha' : a < 2147483648) (hb : -2147483648 ≤ b) (hb' : b < 2147483648) : (iz a ≤ iz b) ↔ a ≤ b := by
  rw [Int32.le_iff_toInt_le, iz_toInt ha ha', iz_toInt hb hb']
theorem iz_eq {a b : Int} (ha : -2147483648 ≤ a) (ha' : a < 2147483648) (hb : -2147483648 ≤ b) (hb' : b < 2147483648) : (iz a = iz b) ↔ a = b := by
  rw [← Int32.toInt_inj, iz_toInt ha ha', iz_toInt hb hb']
theorem iz_cl {z : Int} (h1 : 0 ≤ z) (h2 : z < 2147483648) : (iz z).toNatClampNeg = z.toNat := by
  show (iz z).toInt.toNat = z.toNat
  rw [iz_toInt (by omega) h2]
theorem iz_vp {z : Int} {N : Nat} (h1 : 0 ≤ z) (h2 : z < N) (hN : N < 2147483648) : vp_in (iz z) N := vp_in_iff.mpr (by rw [iz_toInt (by omega) (by omega)]; exact ⟨h1, h2⟩)
theorem vp_of {i N : Int32} {n : Nat} (h0 : ¬ i < 0) (h1 : ¬ N ≤ i) (hN : N.toInt = n) : vp_in i n := vp_in_iff.mpr (by
  rw [Int32.lt_iff_toInt_lt] at h0
  rw [Int32.le_iff_toInt_le] at h1
  have : (0 : Int32).toInt = 0 := by decide
  omega)
/-! guarded reads and writes of a row -/
def rd {α : Type} (f : Nat → α) (N : Int32) (d : α) (i : Int32) : α := if i < 0 then d else if N ≤ i then d else f i.toNatClampNeg
def wr {α : Type} (f : Nat → α) (N : Int32) (i : Int32) (v : α) : Nat → α := if i < 0 then f else if N ≤ i then f else va_up f i.toNatClampNeg v
theorem rd_in {α : Type} {f : Nat → α} {N : Int32} {d : α} {z : Int} (h0 : 0 ≤ z) (h1 : z < N.toInt) : rd f N d (iz z) = f z.toNat := by
  have hN : N.toInt < 2147483648 := Int32.toInt_lt N
  unfold rd
  rw [if_neg (by rw [iz_lit 0, iz_lt (by omega) (by omega) (by omega) (by omega)]; omega), if_neg (by rw [iz_of N, iz_le (by omega) (by omega) (by omega) (by omega)]; omega), iz_cl h0 (by omega)]
theorem wr_in {α : Type} {f : Nat → α} {N : Int32} {v : α} {z : Int} (h0 : 0 ≤ z) (h1 : z < N.toInt) : wr f N (iz z) v = va_up f z.toNat v := by
  have hN : N.toInt < 2147483648 := Int32.toInt_lt N
  unfold wr
  rw [if_neg (by rw [iz_lit 0, iz_lt (by omega) (by omega) (by omega) (by omega)]; omega), if_neg (by rw [iz_of N, iz_le (by omega) (by omega) (by omega) (by omega)]; omega), iz_cl h0 (by omega)]
/-! the heap's reads and writes -/
theorem va_up_id {α : Type} (f : Nat → α) (k : Nat) : va_up f k (f k) = f := by
  funext j
  unfold va_up
  by_cases h : j = k
  · rw [if_pos h, h]
  · rw [if_neg h]
theorem va_up_up {α : Type} (f : Nat → α) (k : Nat) (v w : α) : va_up (va_up f k v) k w = va_up f k w := by
  funext j
  unfold va_up
  by_cases h : j = k
  · rw [if_pos h, if_pos h]
  · rw [if_neg h, if_neg h, if_neg h]
theorem xSI_self (a : Nat) (h : XH) : xSI a (xI h a) h = h := by
  show (va_up h.1 a (h.1 a), h.2.1, h.2.2) = h
  rw [va_up_id]
theorem xSL_self (a : Nat) (h : XH) : xSL a (xL h a) h = h := by
  show (h.1, va_up h.2.1 a (h.2.1 a), h.2.2) = h
  rw [va_up_id]
theorem xSI_SI (a : Nat) (f g : Nat → Int32) (h : XH) : xSI a f (xSI a g h) = xSI a f h := by
  show (va_up (va_up h.1 a g) a f, h.2.1, h.2.2) = _
  rw [va_up_up]; rfl
theorem xSL_SL (a : Nat) (f g : Nat → Int64) (h : XH) : xSL a f (xSL a g h) = xSL a f h := by
  show (h.1, va_up (va_up h.2.1 a g) a f, h.2.2) = _
  rw [va_up_up]; rfl
theorem va_up_cm {α : Type} (f : Nat → α) {k j : Nat} (v w : α) (h : k ≠ j) : va_up (va_up f k v) j w = va_up (va_up f j w) k v := by
  funext i
  unfold va_up
  by_cases h1 : i = j
  · subst h1
    rw [if_pos rfl, if_neg (Ne.symm h), if_pos rfl]
  · rw [if_neg h1, if_neg h1]
theorem xSI_cm {a b : Nat} (f g : Nat → Int32) (h : XH) (hab : a ≠ b) : xSI a f (xSI b g h) = xSI b g (xSI a f h) := by
  show (va_up (va_up h.1 b g) a f, h.2.1, h.2.2) = (va_up (va_up h.1 a f) b g, h.2.1, h.2.2)
  rw [va_up_cm _ _ _ (Ne.symm hab)]
theorem xI_SI (a b : Nat) (f : Nat → Int32) (h : XH) : xI (xSI a f h) b = if b = a then f else xI h b := rfl
theorem xI_SL (a b : Nat) (f : Nat → Int64) (h : XH) : xI (xSL a f h) b = xI h b := rfl
theorem xL_SI (a b : Nat) (f : Nat → Int32) (h : XH) : xL (xSI a f h) b = xL h b := rfl
theorem xL_SL (a b : Nat) (f : Nat → Int64) (h : XH) : xL (xSL a f h) b = if b = a then f else xL h b := rfl
theorem xP_SI (a : Nat) (f : Nat → Int32) (h : XH) : xP (xSI a f h) = xP h := rfl
theorem xP_SL (a : Nat) (f : Nat → Int64) (h : XH) : xP (xSL a f h) = xP h := rfl
/-- what a call that answers, and leaves the heap so, says -/
abbrev xq (v : Option Value) (h' : XH) : Option Value → XH → Prop := fun v1 h1 => v1 = v ∧ h1 = h'
abbrev xno : String → XH → Prop := fun _ _ => False
