/-! THE STRING'S OWN FUNCTIONS: what they answer of a constant -/
theorem jsL_lt : ∀ i, i < jsN → jsL i < 1000 := by decide
theorem jsC_b : ∀ i, i < jsN → ∀ k, k < jsL i → jsC i k = nI (jsC i k).toNatClampNeg ∧ (jsC i k).toNatClampNeg < 128 := by decide
def jsT (i : Nat) : List Nat := (jsB.getD i []).map (fun x => x.toNatClampNeg)
theorem s_coder (n : Nat) {i : Nat} (hi : i < jsN) (h : XH) : XSpec mJ0_coder_7d493 1 0 0 n n [.ref (1000 + i)] h (xq (some (.int 0)) h) xno :=
  XSpec.of rfl (by decide) (Nat.le_of_ble_eq_true rfl) rfl (v_J0_coder_7d493_0 n i hi ⟨rfl, rfl⟩)
theorem s_latin (n : Nat) {i : Nat} (hi : i < jsN) (h : XH) : XSpec mJ0_isLatin1_aae02 1 0 0 n n [.ref (1000 + i)] h (xq (some (.int 1)) h) xno :=
  XSpec.of rfl (by decide) (Nat.le_of_ble_eq_true rfl) rfl (v_J0_isLatin1_aae02_0 n i hi ⟨rfl, rfl⟩)
theorem s_strlen (n : Nat) {i : Nat} (hi : i < jsN) (h : XH) : XSpec mJ0_length_8abf5 2 0 0 n n [.ref (1000 + i)] h (xq (some (.int (nI (jsL i)))) h) xno := by
  have hl := jsL_lt i hi
  refine XSpec.of rfl (by decide) (Nat.le_of_ble_eq_true rfl) rfl (v_J0_length_8abf5_0 n i hi ⟨_, s_coder n hi h, ?_⟩)
  rintro v h1 ⟨rfl, rfl⟩
  refine ⟨_, rfl, ?_, rfl⟩
  rw [pk_shrN (by omega) _ 0 (by decide), Nat.pow_zero, Nat.div_one]
theorem s_chk1 (n : Nat) (w : Value) (hw : w = .ref 2900 ∨ w = .null) {j l : Nat} (hj : j < l) (hl : l < 2 ^ 31) (h : XH) : XSpec mJ3_checkIndex_8e157 1 0 0 n n [.int (nI j), .int (nI l), w] h (xq (some (.int (nI j))) h) xno := by
  rcases hw with rfl | rfl
  · exact XSpec.of rfl (by decide) (Nat.le_of_ble_eq_true rfl) rfl (v_J3_checkIndex_8e157_0 n (nI j) (nI l) _ ⟨fun c => nI_pos (by omega) c, fun _ => ⟨fun _ => ⟨rfl, rfl⟩, fun c => c (nI_lt hj hl)⟩⟩)
  · exact XSpec.of rfl (by decide) (Nat.le_of_ble_eq_true rfl) rfl (v_J3_checkIndex_8e157_0 n (nI j) (nI l) _ ⟨fun c => nI_pos (by omega) c, fun _ => ⟨fun _ => ⟨rfl, rfl⟩, fun c => c (nI_lt hj hl)⟩⟩)
theorem s_chk2 (n : Nat) {j l : Nat} (hj : j < l) (hl : l < 2 ^ 31) (h : XH) : XSpec mJ0_checkIndex_df160 2 0 0 n n [.int (nI j), .int (nI l)] h (xq none h) xno := by
  refine XSpec.of rfl (by decide) (Nat.le_of_ble_eq_true rfl) rfl (v_J0_checkIndex_df160_0 n (nI j) (nI l) fun w hw => ⟨_, s_chk1 n w hw hj hl h, ?_⟩)
  rintro v h1 ⟨rfl, rfl⟩
  exact ⟨_, rfl, rfl, rfl⟩
theorem jsC_char {i k : Nat} (hi : i < jsN) (hk : k < jsL i) : ((jsC i k &&& 255).toUInt32 % 65536).toInt32 = jsC i k := by
  obtain ⟨e, h⟩ := jsC_b i hi k hk
  rw [sc_c2, e, pk_andN (by omega) 8 (by decide), Nat.mod_eq_of_lt (by omega)]
theorem s_chr1 (n : Nat) {i k : Nat} (hi : i < jsN) (hk : k < jsL i) (h : XH) : XSpec mJ1_charAt_3b067 3 0 0 n n [.ref (2000 + i), .int (nI k)] h (xq (some (.int (jsC i k))) h) xno := by
  have hl := jsL_lt i hi
  refine XSpec.of rfl (by decide) (Nat.le_of_ble_eq_true rfl) rfl (v_J1_charAt_3b067_0 n i hi (nI k) ⟨_, s_chk2 n hk (by omega) h, ?_⟩)
  rintro v h1 ⟨rfl, rfl⟩
  have e := jsC_char hi hk
  rw [nI_clamp (by omega)]
  refine ⟨rfl, vp_in_nI hk (by omega), pk_nc _, ?_, rfl⟩
  rw [e]
theorem s_charAt (n : Nat) {i k : Nat} (hi : i < jsN) (hk : k < jsL i) (h : XH) : XSpec mJ0_charAt_5068e 4 0 0 n n [.ref (1000 + i), .int (nI k)] h (xq (some (.int (jsC i k))) h) xno := by
  refine XSpec.of rfl (by decide) (Nat.le_of_ble_eq_true rfl) rfl (v_J0_charAt_5068e_0 n i hi (nI k) ⟨_, s_latin n hi h, ?_⟩)
  rintro v h1 ⟨rfl, rfl⟩
  refine ⟨_, rfl, fun c => absurd c (by decide), fun _ => ⟨_, s_chr1 n hi hk _, ?_⟩⟩
  rintro v h3 ⟨rfl, rfl⟩
  obtain ⟨e, hb⟩ := jsC_b i hi k hk
  refine ⟨_, rfl, ?_, rfl, rfl⟩
  rw [e]
  exact (pk_charN (by omega)).1
