/-! THE REFERENCE: how far one goes -/
/-- a sign of the class as the reference writes it -/
def trc (c : Int32) : Int32 := if c = -13 then -23 else if c = -12 then -22 else if c = -11 then -21 else if c = -10 then -20 else if c = -9 then -25 else if c = -8 then -24 else if c = -7 then -27 else if c = -6 then -26 else if c = -5 then -28 else c
theorem trc_op {c : Int32} (h : -5 < c) : trc c = c ∧ ¬ trc c ≤ -20 := by
  have h' := h
  rw [Int32.lt_iff_toInt_lt, show (-5 : Int32).toInt = -5 by decide] at h'
  have ne : ∀ d : Int32, d.toInt ≤ -5 → ¬ c = d := fun d hd z => by rw [z] at h'; omega
  have e : trc c = c := by
    unfold trc
    rw [if_neg (ne _ (by decide)), if_neg (ne _ (by decide)), if_neg (ne _ (by decide)), if_neg (ne _ (by decide)), if_neg (ne _ (by decide)), if_neg (ne _ (by decide)), if_neg (ne _ (by decide)), if_neg (ne _ (by decide)), if_neg (ne _ (by decide))]
  rw [e]
  refine ⟨rfl, fun z => ?_⟩
  rw [Int32.le_iff_toInt_le, show (-20 : Int32).toInt = -20 by decide] at z
  omega
theorem bin_cases {c : Int32} (hc : -13 ≤ c) (h5 : ¬ -5 < c) (h5' : ¬ c = -5) : c = -13 ∨ c = -12 ∨ c = -11 ∨ c = -10 ∨ c = -9 ∨ c = -8 ∨ c = -7 ∨ c = -6 := by
  rw [Int32.le_iff_toInt_le, show (-13 : Int32).toInt = -13 by decide] at hc
  rw [Int32.lt_iff_toInt_lt, show (-5 : Int32).toInt = -5 by decide] at h5
  rw [← Int32.toInt_inj, show (-5 : Int32).toInt = -5 by decide] at h5'
  rcases (show c.toInt = -13 ∨ c.toInt = -12 ∨ c.toInt = -11 ∨ c.toInt = -10 ∨ c.toInt = -9 ∨ c.toInt = -8 ∨ c.toInt = -7 ∨ c.toInt = -6 by omega) with e | e | e | e | e | e | e | e
  · exact Or.inl (Int32.toInt_inj.1 e)
  · exact Or.inr (Or.inl (Int32.toInt_inj.1 e))
  · exact Or.inr (Or.inr (Or.inl (Int32.toInt_inj.1 e)))
  · exact Or.inr (Or.inr (Or.inr (Or.inl (Int32.toInt_inj.1 e))))
  · exact Or.inr (Or.inr (Or.inr (Or.inr (Or.inl (Int32.toInt_inj.1 e)))))
  · exact Or.inr (Or.inr (Or.inr (Or.inr (Or.inr (Or.inl (Int32.toInt_inj.1 e))))))
  · exact Or.inr (Or.inr (Or.inr (Or.inr (Or.inr (Or.inr (Or.inl (Int32.toInt_inj.1 e)))))))
  · exact Or.inr (Or.inr (Or.inr (Or.inr (Or.inr (Or.inr (Or.inr (Int32.toInt_inj.1 e)))))))
theorem nlt_le {x y : Int32} : ¬ x < y ↔ y ≤ x := by rw [Int32.lt_iff_toInt_lt, Int32.le_iff_toInt_le]; omega
theorem s_X11_reckon (n : Nat) (h : XH) (c x y : Int32) (hc : -13 ≤ c) (h5 : ¬ -5 < c) (h5' : ¬ c = -5) : XSpec mX11_reckon 1 0 0 n n [.int (trc c), .int x, .int y] h (xq (some (.int (binop c x y))) h) xno := by
  refine XSpec.of rfl (by decide) (Nat.le_of_ble_eq_true rfl) rfl (v_X11_reckon_0 n (trc c) x y ?_)
  rcases bin_cases hc h5 h5' with rfl | rfl | rfl | rfl | rfl | rfl | rfl | rfl
  · rw [show binop (-13) x y = if y = 0 then 0 else x / y from rfl]
    refine ⟨?_, ?_, ?_, ?_, ?_, ?_, ?_, ?_⟩ <;> intro z <;> first | exact absurd z (by decide) | skip
    exact ⟨fun c => ⟨c, by rw [if_neg c], rfl⟩, fun c => ⟨by rw [if_pos c], rfl⟩⟩
  · refine ⟨?_, ?_, ?_, ?_, ?_, ?_, ?_, ?_⟩ <;> intro z <;> first | exact absurd z (by decide) | skip
    exact ⟨rfl, rfl⟩
  · refine ⟨?_, ?_, ?_, ?_, ?_, ?_, ?_, ?_⟩ <;> intro z <;> first | exact absurd z (by decide) | skip
    exact ⟨rfl, rfl⟩
  · refine ⟨?_, ?_, ?_, ?_, ?_, ?_, ?_, ?_⟩ <;> intro z <;> first | exact absurd z (by decide) | skip
    exact ⟨rfl, rfl⟩
  · rw [show binop (-9) x y = if x = y then 1 else 0 from rfl]
    refine ⟨?_, ?_, ?_, ?_, ?_, ?_, ?_, ?_⟩ <;> intro z <;> first | exact absurd z (by decide) | skip
    exact ⟨fun c => ⟨by rw [if_neg c], rfl⟩, fun c => ⟨by rw [if_pos c], rfl⟩⟩
  · rw [show binop (-8) x y = if x < y then 1 else 0 from rfl]
    refine ⟨?_, ?_, ?_, ?_, ?_, ?_, ?_, ?_⟩ <;> intro z <;> first | exact absurd z (by decide) | skip
    exact ⟨fun c => ⟨by rw [if_neg (nlt_le.2 c)], rfl⟩, fun c => ⟨by rw [if_pos (Decidable.not_not.1 (fun z => c (nlt_le.1 z)))], rfl⟩⟩
  · rw [show binop (-7) x y = if x = 0 then (if y = 0 then 0 else 1) else 1 from rfl]
    refine ⟨?_, ?_, ?_, ?_, ?_, ?_, ?_, ?_⟩ <;> intro z <;> first | exact absurd z (by decide) | skip
    exact ⟨fun c => ⟨by rw [if_neg c], rfl⟩, fun c => ⟨fun d => ⟨by rw [if_pos c, if_pos d], rfl⟩, fun d => ⟨by rw [if_pos c, if_neg d], rfl⟩⟩⟩
  · rw [show binop (-6) x y = if x = 0 then 0 else if y = 0 then 0 else 1 from rfl]
    refine ⟨?_, ?_, ?_, ?_, ?_, ?_, ?_, ?_⟩ <;> intro z <;> first | exact absurd z (by decide) | skip
    exact ⟨fun c => ⟨by rw [if_pos c], rfl⟩, fun c => ⟨fun d => ⟨by rw [if_neg c, if_pos d], rfl⟩, fun d => ⟨by rw [if_neg c, if_neg d], rfl⟩⟩⟩
theorem l_mvalue (th aq lq ab : Int32) (C : Nat → Int32) (len : Nat) (hc : CodeOK C len) {Q : Option Value → XH → Prop} {X : String → XH → Prop} : ∀ (k i : Nat) (h : XH), i + k = len → xMod (xP h) → xI h 59 6 = nI len → (∀ j, j < len → xI h 63 j = trc (C j)) → (xI h 70 0 = th ∧ xI h 70 1 = aq ∧ xI h 70 2 = lq ∧ xI h 70 3 = ab) → (∀ j, j < dep C i → xI h 69 j = evk (fun c => opval c th aq lq ab) C i j) →
    (∀ S : Nat → Int32, Q (some (.int (farC C len th aq lq ab))) (xSI 69 S h)) →
    XW (xrm 2 0 0) mX11_farBy (xE 100 Q X 0 0) 100 0 0 h 93 [some (.ref 56), none, none, some (.int (nI (dep C i))), some (.int (nI i)), none] [] := by
  have hlen := hc.1
  intro k
  induction k with
  | zero =>
    intro i h hi hM hl hC hA hS hQ
    have : i = len := by omega
    subst this
    refine v_X11_farBy_93 hM _ (nI i) ⟨fun _ => ?_, fun c => absurd (by rw [hl]; exact nI_le (Nat.le_refl _) (by omega)) c⟩
    have e := hS 0 (by rw [hc.2.1]; omega)
    have := hQ (xI h 69)
    rw [xSI_self] at this
    rw [e]
    exact this
  | succ k ih =>
    intro i h hi hM hl hC hA hS hQ
    have hd := dep_le hc i (by omega)
    obtain ⟨g0, g1, g2, g3⟩ := hc.2.2 i (by omega)
    have step : ∀ S : Nat → Int32, (∀ j, j < dep C (i + 1) → S j = evk (fun c => opval c th aq lq ab) C (i + 1) j) → XW (xrm 2 0 0) mX11_farBy (xE 100 Q X 0 0) 100 0 0 (xSI 69 S h) 93 [some (.ref 56), none, none, some (.int (nI (dep C (i + 1)))), some (.int (nI i + 1)), none] [] := by
      intro S h2
      rw [nI_1]
      refine ih (i + 1) _ (by omega) hM hl hC hA h2 (fun S' => ?_)
      rw [xSI_SI]
      exact hQ S'
    refine v_X11_farBy_93 hM _ (nI i) ⟨fun c => absurd c (by rw [hl]; exact nI_ge (by omega) (by omega)), fun _ => ⟨vp_in_nI (by omega) (by omega), ?_, ?_⟩⟩
    · rw [nI_clamp (by omega), hC i (by omega)]
      intro c
      have c' : ¬ -5 < C i := fun z => (trc_op z).2 c
      refine ⟨fun c28 => ?_, fun c28 => ?_⟩
      · have c5 : ¬ C i = -5 := fun z => c28 (by rw [z]; rfl)
        have h2 := g3 c' c5
        have e1 : dep C (i + 1) = dep C i - 1 := by rw [dep, if_neg c', if_neg c5]
        have e2 : nI (dep C i) + (-1) = nI (dep C i - 1) := by
          have : nI (dep C i) + (-1) = nI (dep C i) - nI 1 := by rw [Int32.sub_eq_add_neg]; rfl
          rw [this, pk_sub (by omega)]
        have e3 : nI (dep C i - 1) - 1 = nI (dep C i - 2) := by
          have : nI (dep C i - 1) - 1 = nI (dep C i - 1) - nI 1 := rfl
          rw [this, pk_sub (by omega)]; congr 1
        rw [e2, e3, nI_clamp (by omega), nI_clamp (by omega)]
        refine ⟨vp_in_nI (by omega) (by omega), vp_in_nI (by omega) (by omega), _, s_X11_reckon 100 h (C i) _ _ g0 c' c5, ?_⟩
        rintro v h1 ⟨rfl, e9⟩
        subst h1
        refine ⟨_, rfl, vp_in_nI (by omega) (by omega), ?_⟩
        have st := step (va_up (xI h 69) (dep C i - 2) (binop (C i) (xI h 69 (dep C i - 2)) (xI h 69 (dep C i - 1)))) (fun j hj => by
          rw [evk, if_neg c', if_neg c5, ← hS (dep C i - 2) (by omega), ← hS (dep C i - 1) (by omega)]
          exact va_up_c rfl (hS j (by omega)))
        rw [e1] at st
        exact st
      · have c5 : C i = -5 := by
          refine Decidable.byContradiction (fun c5 => ?_)
          rcases bin_cases g0 c' c5 with e | e | e | e | e | e | e | e <;> rw [e] at c28 <;> exact absurd c28 (by decide)
        have h2 := g2 c5
        have e1 : dep C (i + 1) = dep C i := by rw [dep, if_neg c', if_pos c5]
        have e3 : nI (dep C i) - 1 = nI (dep C i - 1) := by
          have : nI (dep C i) - 1 = nI (dep C i) - nI 1 := rfl
          rw [this, pk_sub (by omega)]
        rw [e3, nI_clamp (by omega)]
        have hv : vp_in (nI (dep C i - 1)) 64 := vp_in_nI (by omega) (by omega)
        have key : ∀ w : Int32, w = (if xI h 69 (dep C i - 1) = 0 then 1 else 0) → XW (xrm 2 0 0) mX11_farBy (xE 100 Q X 0 0) 100 0 0 (xSI 69 (va_up (xI h 69) (dep C i - 1) w) h) 93 [some (.ref 56), none, none, some (.int (nI (dep C i))), some (.int (nI i + 1)), none] [] := by
          intro w hw
          have st := step (va_up (xI h 69) (dep C i - 1) w) (fun j hj => by
            rw [evk, if_neg c', if_pos c5, ← hS (dep C i - 1) (by omega), hw]
            exact va_up_c rfl (hS j (by omega)))
          rw [e1] at st
          exact st
        exact ⟨hv, fun z => ⟨hv, key _ (by rw [if_pos z])⟩, fun z => ⟨hv, key _ (by rw [if_neg z])⟩⟩
    · rw [nI_clamp (by omega), hC i (by omega)]
      intro c
      have c' : -5 < C i := by
        refine Decidable.byContradiction (fun c' => c ?_)
        by_cases c5 : C i = -5
        · rw [c5]; decide
        · rcases bin_cases g0 c' c5 with e | e | e | e | e | e | e | e <;> rw [e] <;> decide
      rw [(trc_op c').1]
      have h2 := g1 c'
      have e1 : dep C (i + 1) = dep C i + 1 := by rw [dep, if_pos c']
      have hv : vp_in (nI (dep C i)) 64 := vp_in_nI (by omega) (by omega)
      have key : ∀ w : Int32, w = opval (C i) th aq lq ab → XW (xrm 2 0 0) mX11_farBy (xE 100 Q X 0 0) 100 0 0 (xSI 69 (va_up (xI h 69) (nI (dep C i)).toNatClampNeg w) h) 93 [some (.ref 56), none, none, some (.int (nI (dep C i) + 1)), some (.int (nI i + 1)), none] [] := by
        intro w hw
        rw [nI_clamp (by omega)]
        have st := step (va_up (xI h 69) (dep C i) w) (fun j hj => by
          rw [evk, if_pos c', hw]
          by_cases c9 : j = dep C i
          · rw [c9, va_up_eq, va_up_eq]
          · exact va_up_c rfl (hS j (by omega)))
        rw [e1, ← nI_1] at st
        exact st
      refine ⟨fun z => ?_, fun z => ⟨hv, key _ ?_⟩⟩
      · have c2 : C i = -1 ∨ C i = -2 ∨ C i = -3 ∨ C i = -4 := by
          have z' := z
          rw [Int32.lt_iff_toInt_lt, show (0 : Int32).toInt = 0 by decide] at z'
          have c1 := c'
          rw [Int32.lt_iff_toInt_lt, show (-5 : Int32).toInt = -5 by decide] at c1
          rcases (show (C i).toInt = -1 ∨ (C i).toInt = -2 ∨ (C i).toInt = -3 ∨ (C i).toInt = -4 by omega) with e | e | e | e
          · exact Or.inl (Int32.toInt_inj.1 e)
          · exact Or.inr (Or.inl (Int32.toInt_inj.1 e))
          · exact Or.inr (Or.inr (Or.inl (Int32.toInt_inj.1 e)))
          · exact Or.inr (Or.inr (Or.inr (Int32.toInt_inj.1 e)))
        obtain ⟨a0, a1, a2, a3⟩ := hA
        rcases c2 with e | e | e | e
        · refine ⟨vp_in_iff.mpr (by rw [e]; decide), hv, key _ ?_⟩
          rw [e, show ((-1 : Int32) - -1).toNatClampNeg = 0 by decide, a0]; rfl
        · refine ⟨vp_in_iff.mpr (by rw [e]; decide), hv, key _ ?_⟩
          rw [e, show ((-1 : Int32) - -2).toNatClampNeg = 1 by decide, a1]; rfl
        · refine ⟨vp_in_iff.mpr (by rw [e]; decide), hv, key _ ?_⟩
          rw [e, show ((-1 : Int32) - -3).toNatClampNeg = 2 by decide, a2]; rfl
        · refine ⟨vp_in_iff.mpr (by rw [e]; decide), hv, key _ ?_⟩
          rw [e, show ((-1 : Int32) - -4).toNatClampNeg = 3 by decide, a3]; rfl
      · unfold opval
        rw [if_neg (fun e => z (by rw [e]; decide)), if_neg (fun e => z (by rw [e]; decide)), if_neg (fun e => z (by rw [e]; decide)), if_neg (fun e => z (by rw [e]; decide))]
