/-! THE BOARD told to both: the words that class and reference share -/
/-- a board that holds -/
def GoodB (last kx E len lst : Nat) (ft hd od : Nat → Nat) (C : Nat → Int32) : Prop := 10 ≤ last ∧ last ≤ 100 ∧ kx ≤ 24 ∧ E ≤ 2 ∧ Die od lst ∧ CodeOK C len ∧ (∀ i, i < kx → 1 ≤ ft i ∧ ft i < last ∧ 1 ≤ hd i ∧ hd i ≤ last) ∧ (∀ i j, i < kx → j < kx → ft i = ft j → i = j)
/-- where one goes on it -/
def TB (last kx E len : Nat) (ft hd : Nat → Nat) (C : Nat → Int32) (s f : Nat) : Nat := goTo (jmps ft hd kx) last E (farAt C len last (jmps ft hd kx)) s f
theorem GoodB.jl {last kx E len lst : Nat} {ft hd od : Nat → Nat} {C : Nat → Int32} (g : GoodB last kx E len lst ft hd od C) : (∀ j, j ≤ last → jmps ft hd kx j ≤ last) ∧ jmps ft hd kx last = 0 := by
  obtain ⟨g1, g2, g3, g4, g5, g6, g7, g8⟩ := g
  exact ⟨fun j _ => jmps_le kx (fun i hi => (g7 i hi).2.2.2) j, jmps_0 kx (fun i hi => by have := (g7 i hi).2.1; omega)⟩
theorem GoodB.tl {last kx E len lst : Nat} {ft hd od : Nat → Nat} {C : Nat → Int32} (g : GoodB last kx E len lst ft hd od C) {s f : Nat} (hs : s ≤ last) : TB last kx E len ft hd C s f ≤ last := goTo_le hs g.jl.1
/-- the reference's board, as it is told -/
def BoardM (h : XH) (last kx E len : Nat) (ft hd od : Nat → Nat) (C : Nat → Int32) : Prop := xMod (xP h) ∧ xI h 59 0 = nI last ∧ xI h 59 1 = nI kx ∧ xI h 59 3 = nI E ∧ CodeM h C len ∧ (∀ f, 1 ≤ f → f ≤ 6 → xI h 60 (f - 1) = nI (od f)) ∧ (∀ i, i < kx → xI h 61 i = nI (ft i) ∧ xI h 62 i = nI (hd i))
theorem s_tellGeo {last kx E len lst : Nat} {ft hd od : Nat → Nat} {C : Nat → Int32} (g : GoodB last kx E len lst ft hd od C) (h : XH) (hb : BoardM h last kx E len ft hd od C) : XSpec mX11_tellBoard 5 0 0 100 100 [.ref 56] h (fun v h' => v = none ∧ GeoM h' last lst od (TB last kx E len ft hd C) ∧ xfr 67 71 h h') xno := by
  obtain ⟨b1, b2, b3, b4, b5, b6, b7⟩ := hb
  have gj := g.jl
  have gt := fun (s f : Nat) (hs : s ≤ last) => g.tl (s := s) (f := f) hs
  obtain ⟨g1, g2, g3, g4, g5, g6, g7, g8⟩ := g
  have tt := s_X11_tellTable h b1 C len last E ft hd kx (by omega) (fun i hi => by have := (g7 i hi).2.1; omega) (-1) 0 0 (by omega) g2 g4 (by rw [jmpT_all _ _ _ (by omega)]; exact gj.1) (by rw [jmpT_all _ _ _ (by omega)]; exact gj.2) b5 b2 b3 b7
  rw [jmpT_all _ _ _ (by omega)] at tt
  refine XSpec.of rfl (by decide) (Nat.le_of_ble_eq_true rfl) rfl (v_X11_tellBoard_0 b1 ?_)
  rw [b4]
  refine ⟨_, tt, ?_⟩
  rintro v h' ⟨rfl, q2, q3, q4⟩
  exact ⟨rfl, rfl, ⟨b1.fr q4 (by omega), by rw [xfr1 q4 (c := 59) (by omega)]; exact b2, g1, g2, g5, fun f f1 f2 => by rw [xfr1 q4 (c := 60) (by omega)]; exact b6 f f1 f2, fun s hs f hf => ⟨q2 s hs f hf, gt s f hs⟩⟩, q4⟩
