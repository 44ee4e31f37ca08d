/-! READ: the reference's EXPR, tests and nots -/
theorem l_m94 {n D k : Nat} {T : Nat → Nat} {h0 : XH} (hD : 18 ≤ D) {res : PR} {Q : Option Value → XH → Prop} {X : String → XH → Prop} (hQ : ∀ h', MS h' T n res → MEch h0 h' → Q none h') (hk7 : k ≤ 7) : ∀ (f j : Nat) (x : PR) (h : XH), f + j = k → (∀ y, x = .inr y → y.2.length + f ≤ 500) → MS h T n x → MEch h0 h → pbd x (fun s c => .inr (s, c ++ List.replicate f (-5))) = res →
    XW (xrm (D + 4) 0 0) mX11_readNot (xE 100 Q X 0 0) 100 0 0 h 96 [some (.ref 56), none, some (.int (nI k)), some (.int (nI j))] [] := by
  intro f
  induction f with
  | zero =>
    intro j x h hj hcap hS he hres
    have : j = k := by omega
    subst this
    refine v_X11_readNot_96 D hD hS.hM _ _ ⟨fun _ => hQ h ?_ he, fun q => absurd (nI_le (Nat.le_refl _) (by omega)) q⟩
    rw [← hres]
    rcases x with e | y
    · exact hS
    · show MS h T n (.inr (y.1, y.2 ++ List.replicate 0 (-5)))
      rw [List.replicate_zero, List.append_nil]; exact hS
  | succ f ih =>
    intro j x h hj hcap hS he hres
    refine v_X11_readNot_96 D hD hS.hM _ _ ⟨fun q => absurd q (nI_ge (by omega) (by omega)), fun _ => ⟨_, m_layS (z := -5) hS (fun y hy => by have := hcap y hy; omega) (by decide), ?_⟩⟩
    rintro v h11 ⟨rfl, m1, m2⟩
    rw [nI_1]
    refine ⟨rfl, ih (j + 1) _ h11 (by omega) (fun y hy => ?_) m1 (he.trans m2) ?_⟩
    · obtain ⟨s1, c1, e1, e2⟩ := pbd_r (s' := y.1) (c' := y.2) hy
      have h3 := hcap (s1, c1) e1
      have h3' : c1.length + (f + 1) ≤ 500 := h3
      have e3 : y.2 = c1 ++ [-5] := (Prod.mk.inj (Sum.inr.inj e2)).2.symm
      have hl' : (c1 ++ [(-5 : Int32)]).length = c1.length + 1 := by rw [List.length_append]; rfl
      rw [e3, hl']
      omega
    · rw [← hres, pbd_a]
      rcases x with e | y
      · rfl
      · show (.inr (y.1, y.2 ++ [-5] ++ List.replicate f (-5)) : PR) = .inr (y.1, y.2 ++ List.replicate (f + 1) (-5))
        rw [List.append_assoc]
        rfl
theorem l_m40 {n D b k : Nat} {T : Nat → Nat} {a : Int32} {g : Bool} {p : Nat → List Int32 → PR} {h0 : XH} (hD : 18 ≤ D) (hx : RSpec g mX11_readSum (D + 3) T n a p) (hg : PG n b p) {Q : Option Value → XH → Prop} {X : String → XH → Prop} (x : PR) (h : XH) (hgx : g = false → ∃ e, x = .inl e) (hcap : ∀ y, x = .inr y → y.2.length ≤ y.1) (hS : MS h T n x) (he : MEch h0 h)
    (K : ∀ h', MS h' T n (pbd x (pTst (opC T n) (nx T n) p)) → MEch h0 h' → XW (xrm (D + 4) 0 0) mX11_readNot (xE 100 Q X 0 0) 100 0 0 h' 94 [some (.ref 56), none, some (.int (nI k)), none] []) :
    XW (xrm (D + 4) 0 0) mX11_readNot (xE 100 Q X 0 0) 100 0 0 h 40 [some (.ref 56), some (.int a), some (.int (nI k)), none] [] := by
  refine v_X11_readNot_40 D hD hS.hM _ _ ⟨_, hx h x hgx hcap hS, ?_⟩
  rintro v h2 ⟨rfl, m1, m2⟩
  obtain ⟨x2, hx2⟩ : ∃ x2, pbd x p = x2 := ⟨_, rfl⟩
  rw [hx2] at m1
  have eT : ∀ res, pbd x2 (fun s c => match opC T n s with | none => .inr (s, c) | some z => pbd (p (nx T n s) c) (fun s c => .inr (s, c ++ [z]))) = res → pbd x (pTst (opC T n) (nx T n) p) = res := fun res e => by
    rw [← e, ← hx2, pbd_a]
    rfl
  have hin : ∀ y, x2 = .inr y → y.1 ≤ n ∧ y.2.length ≤ y.1 ∧ g = true := fun y hy => by
    rw [hy] at hx2
    obtain ⟨s1, c1, e1, e2⟩ := pbd_r (s' := y.1) (c' := y.2) hx2
    subst e1
    have hl : c1.length ≤ s1 := hcap _ rfl
    have hs : s1 ≤ n := hS.2.1.2.2.1.2.2.2.2.1
    obtain ⟨g1, g2, g3, -⟩ := hg _ _ y.1 y.2 hs e2
    refine ⟨g2, by omega, ?_⟩
    cases g
    · obtain ⟨e, w⟩ := hgx rfl
      cases w
    · rfl
  have no : (∀ y, x2 = .inr y → opC T n y.1 = none) → XW (xrm (D + 4) 0 0) mX11_readNot (xE 100 Q X 0 0) 100 0 0 h2 94 [some (.ref 56), none, some (.int (nI k)), none] [] := fun hn => by
    refine K h2 ?_ (he.trans m2)
    rw [eT x2 ?_]
    · exact m1
    · rcases x2 with e | y
      · rfl
      · show (match opC T n y.1 with | none => _ | some z => _) = _
        rw [hn y rfl]
  have s80 : ∀ (y : Nat × List Int32) (z z' : Int32), x2 = .inr y → opC T n y.1 = some z → y.1 < n → trc z = z' → XW (xrm (D + 4) 0 0) mX11_readNot (xE 100 Q X 0 0) 100 0 0 h2 80 [some (.ref 56), some (.int a), some (.int (nI k)), some (.int z')] [] := fun y z z' hy hz hlt hzz => by
    obtain ⟨i1, i2, i3⟩ := hin y hy
    subst hy
    have hlx := nx_lt (T := T) hlt
    have n5 := hS.2
    have n5' := m1.2.1.2.1.2.1
    refine v_X11_readNot_80 D hD m1.hM _ _ _ ⟨_, MS.st m1, ?_⟩
    rintro v h9 ⟨rfl, q1, q2⟩
    refine ⟨rfl, _, hx h9 _ (fun w => absurd (i3.symm.trans w) (by decide)) (fun w hw => by cases hw; show y.2.length ≤ nx T n y.1; omega) q1, ?_⟩
    rintro v h10 ⟨rfl, q3, q4⟩
    refine ⟨rfl, _, m_layS q3 (fun w hw => ?_) hzz, ?_⟩
    · obtain ⟨g1, g2, g3, -⟩ := hg (nx T n y.1) y.2 w.1 w.2 (nx_b (Nat.le_of_lt hlt)).2 hw
      omega
    rintro v h11 ⟨rfl, q5, q6⟩
    refine ⟨rfl, K h11 ?_ ((((he.trans m2).trans q2).trans q4).trans q6)⟩
    rw [eT _ (show pbd (.inr y) _ = _ from ?_)]
    · exact q5
    · show (match opC T n y.1 with | none => _ | some z => _) = _
      rw [hz]
      rfl
  have s63 : (mkS T n 60 x2 = true ∨ mkS T n 61 x2 = true) → XW (xrm (D + 4) 0 0) mX11_readNot (xE 100 Q X 0 0) 100 0 0 h2 63 [some (.ref 56), some (.int a), some (.int (nI k)), none] [] := fun hor => by
    rcases x2 with e | y
    · rcases hor with z | z <;> exact absurd z (by show ¬ (false = true); decide)
    · have hor' : isS T n 60 y.1 = true ∨ isS T n 61 y.1 = true := hor
      have hlt : y.1 < n := by rcases hor' with z | z <;> exact isS_lt z
      refine v_X11_readNot_63 D hD m1.hM _ _ ⟨_, m_markedS (c := 60) m1 (by decide), ?_⟩
      rintro v h4 ⟨rfl, e4⟩
      subst h4
      refine ⟨_, rfl, fun q => s80 y (-9) _ rfl ?_ hlt (by decide), fun q => s80 y (-8) _ rfl ?_ hlt (by decide)⟩
      · have f1 : isS T n 60 y.1 = false := bI_0.1 q
        unfold opC
        rw [if_neg (by rw [f1]; decide), if_pos (by rcases hor' with z | z; rw [f1] at z; exact absurd z (by decide); exact z)]
      · have f1 : isS T n 60 y.1 = true := bI_n0.1 q
        unfold opC
        rw [if_pos f1]
  refine ⟨rfl, _, m_markedS (c := 60) m1 (by decide), ?_⟩
  rintro v h3 ⟨rfl, e3⟩
  subst h3
  refine ⟨_, rfl, fun q => s63 (Or.inl (bI_n0.1 q)), fun q => ⟨_, m_markedS (c := 61) m1 (by decide), ?_⟩⟩
  have f1 := bI_0.1 q
  rintro v h4 ⟨rfl, e4⟩
  subst h4
  refine ⟨_, rfl, fun q2 => no (fun y hy => ?_), fun q2 => s63 (Or.inr (bI_n0.1 q2))⟩
  have f2 := bI_0.1 q2
  subst hy
  have f1' : isS T n 60 y.1 = false := f1
  have f2' : isS T n 61 y.1 = false := f2
  unfold opC
  rw [if_neg (by rw [f1']; decide), if_neg (by rw [f2']; decide)]
theorem m_readNot {n D b : Nat} {T : Nat → Nat} {a : Int32} {g : Bool} {p : Nat → List Int32 → PR} (hn : n ≤ 500) (hD : 18 ≤ D) (hx : RSpec g mX11_readSum (D + 3) T n a p) (hg : PG n b p) : RSpec g mX11_readNot (D + 4) T n a (pNot (isW T n wNot) (nx T n) (pTst (opC T n) (nx T n) p)) := by
  intro h0 x hgx hcap hS0
  have hgt := pTst_g (n := n) (nxt := nx T n) (op := opC T n) hg (opS_g (by decide) (by decide))
  have d43 := jsT_d.2.2.2.2.1
  refine XSpec.of rfl (by decide) (Nat.le_of_ble_eq_true rfl) rfl (v_X11_readNot_0 D hD hS0.hM a ?_)
  rcases x with e | ⟨s0, c⟩
  · have is0 : XW (xrm (D + 4) 0 0) mX11_readNot (xE 100 (fun v h' => v = none ∧ MS h' T n (pbd (.inl e) (pNot (isW T n wNot) (nx T n) (pTst (opC T n) (nx T n) p))) ∧ MEch h0 h') xno 0 0) 100 0 0 h0 40 [some (.ref 56), some (.int a), some (.int (nI 0)), none] [] :=
      l_m40 (h0 := h0) hD hx hg (.inl e) h0 (fun _ => ⟨e, rfl⟩) (fun y hy => by cases hy) hS0 MEch.rfl (fun h' k1 k2 => v_X11_readNot_94 D hD k1.hM _ (l_m94 (h0 := h0) (k := 0) hD (fun h'' q1 q2 => ⟨rfl, q1, q2⟩) (by omega) 0 0 (.inl e) h' rfl (fun y hy => by cases hy) k1 k2 rfl))
    refine v_X11_readNot_2 D hD hS0.hM _ _ ⟨_, m_isS (i := 43) hS0 (by decide), ?_⟩
    rintro v h1 ⟨rfl, e1⟩
    subst h1
    exact ⟨_, rfl, fun _ => is0, fun q => absurd rfl q⟩
  · have hsn : s0 ≤ n := hS0.2.1.2.2.1.2.2.2.2.1
    have hl0 : c.length ≤ s0 := hcap _ rfl
    have gt : g = true := by
      cases g
      · obtain ⟨e, he⟩ := hgx rfl
        cases he
      · rfl
    have hng := nts_g (n := n) (w := isW T n wNot) (nxt := nx T n) (fun s q => ⟨nx_lt (isW_lt q), (nx_b (by have := isW_lt q; omega)).2⟩) 6 0 s0 hsn
    obtain ⟨R, hR⟩ : ∃ R, nts (isW T n wNot) (nx T n) 6 0 s0 = R := ⟨_, rfl⟩
    rw [hR] at hng
    obtain ⟨kf, sf⟩ := R
    have ng1 : sf ≤ n := hng.1
    have ng2 : kf + s0 ≤ sf := by have e : kf + s0 ≤ 0 + sf := hng.2.2.1; omega
    have ng3 : kf ≤ 6 := by have e : kf ≤ 0 + 6 := hng.2.2.2; omega
    have eP : pbd (.inr (s0, c)) (pNot (isW T n wNot) (nx T n) (pTst (opC T n) (nx T n) p)) = pbd (pbd (if isW T n wNot sf = true then .inl (2, sf) else .inr (sf, c)) (pTst (opC T n) (nx T n) p)) (fun s' c' => .inr (s', c' ++ List.replicate kf (-5))) := by
      show pNot _ _ _ s0 c = _
      unfold pNot
      rw [hR]
      by_cases z : isW T n wNot sf = true
      · rw [if_pos z, if_pos z]; rfl
      · rw [if_neg z, if_neg z]; rfl
    rw [eP]
    obtain ⟨x1, hx1⟩ : ∃ x1 : PR, (if isW T n wNot sf = true then .inl (2, sf) else .inr (sf, c)) = x1 := ⟨_, rfl⟩
    rw [hx1]
    have s40 : ∀ (kk : Nat) (h : XH), kk ≤ 7 → (∀ y, x1 = .inr y → kk = kf) → MS h T n x1 → MEch h0 h → XW (xrm (D + 4) 0 0) mX11_readNot (xE 100 (fun v h' => v = none ∧ MS h' T n (pbd (pbd x1 (pTst (opC T n) (nx T n) p)) (fun s' c' => .inr (s', c' ++ List.replicate kf (-5)))) ∧ MEch h0 h') xno 0 0) 100 0 0 h 40 [some (.ref 56), some (.int a), some (.int (nI kk)), none] [] := fun kk h hk7 hkk hS he => by
      have hin : ∀ y, x1 = .inr y → y = (sf, c) := fun y hy => by
        rw [hy] at hx1
        split at hx1
        · cases hx1
        · exact (Sum.inr.inj hx1).symm
      refine l_m40 (h0 := h0) hD hx hg x1 h (fun z => absurd (gt.symm.trans z) (by decide)) (fun y hy => by rw [hin y hy]; show c.length ≤ sf; omega) hS he (fun h' k1 k2 => v_X11_readNot_94 D hD k1.hM _ (l_m94 (h0 := h0) (k := kk) hD (fun h'' q1 q2 => ⟨rfl, q1, q2⟩) hk7 kk 0 _ h' (by omega) (fun y hy => ?_) k1 k2 ?_))
      · obtain ⟨s1, c1, e1, e2⟩ := pbd_r (s' := y.1) (c' := y.2) hy
        have e3 := hin _ e1
        have e4 := hkk _ e1
        cases e3
        obtain ⟨g1, g2, g3, -⟩ := hgt _ _ y.1 y.2 ng1 e2
        omega
      · rcases x1 with e | y
        · rfl
        · rw [hkk y rfl]
    have s2 : ∀ (f k s : Nat) (h : XH), f + k = 6 → MS h T n (.inr (s, c)) → MEch h0 h → nts (isW T n wNot) (nx T n) f k s = (kf, sf) → XW (xrm (D + 4) 0 0) mX11_readNot (xE 100 (fun v h' => v = none ∧ MS h' T n (pbd (pbd x1 (pTst (opC T n) (nx T n) p)) (fun s' c' => .inr (s', c' ++ List.replicate kf (-5)))) ∧ MEch h0 h') xno 0 0) 100 0 0 h 2 [some (.ref 56), some (.int a), some (.int (nI k)), none] [] := by
      have dn : ∀ (h : XH) (k : Nat), k = kf → MS h T n (.inr (sf, c)) → MEch h0 h → isW T n wNot sf = false → XW (xrm (D + 4) 0 0) mX11_readNot (xE 100 (fun v h' => v = none ∧ MS h' T n (pbd (pbd x1 (pTst (opC T n) (nx T n) p)) (fun s' c' => .inr (s', c' ++ List.replicate kf (-5)))) ∧ MEch h0 h') xno 0 0) 100 0 0 h 40 [some (.ref 56), some (.int a), some (.int (nI k)), none] [] := fun h k ek hS he hw => by
        have e1 : x1 = .inr (sf, c) := by rw [← hx1, if_neg (by rw [hw]; decide)]
        exact s40 k h (by omega) (fun _ _ => ek) (by rw [e1]; exact hS) he
      intro f
      induction f with
      | zero =>
        intro k s h hk hS he hn'
        have e : (k, s) = (kf, sf) := hn'
        have e1 : k = kf := (Prod.mk.inj e).1
        have e2 : s = sf := (Prod.mk.inj e).2
        subst e1
        subst e2
        refine v_X11_readNot_2 D hD hS.hM _ _ ⟨_, m_isS (i := 43) hS (by decide), ?_⟩
        rintro v h1 ⟨rfl, e1⟩
        subst h1
        rw [d43]
        refine ⟨_, rfl, fun q => dn h k rfl hS he (bI_0.1 q), fun q => ⟨fun q2 => absurd (by rw [show k = 6 by omega]; rfl) q2, fun _ => ⟨_, m_wrong hS.2.1 (f := 2) (by omega), ?_⟩⟩⟩
        rintro v h6 ⟨rfl, m1, m2⟩
        have q' : isW T n wNot s = true := bI_n0.1 q
        have e3 : x1 = .inl (2, s) := by rw [← hx1, if_pos q']
        have m3 : MS h6 T n x1 := by rw [e3]; exact ⟨by rw [m2.2.2]; exact hS.1, m1⟩
        refine ⟨rfl, fun _ => ?_, fun z => absurd z m1.n0⟩
        rw [nI_1]
        refine v_X11_readNot_2 D hD m3.hM _ _ ⟨_, m_isB m1 (by decide), ?_⟩
        rintro v h1 ⟨rfl, e1⟩
        subst h1
        exact ⟨_, rfl, fun _ => s40 (k + 1) h6 (by omega) (fun y hy => by rw [e3] at hy; cases hy) m3 (he.trans m2.e), fun z => absurd rfl z⟩
      | succ f ih =>
        intro k s h hk hS he hn'
        unfold nts at hn'
        refine v_X11_readNot_2 D hD hS.hM _ _ ⟨_, m_isS (i := 43) hS (by decide), ?_⟩
        rintro v h1 ⟨rfl, e1⟩
        subst h1
        rw [d43]
        refine ⟨_, rfl, fun q => ?_, fun q => ⟨fun _ => ⟨fun z => absurd hS.2.1.2.2.2 z, fun _ => ⟨_, MS.st hS, ?_⟩⟩, fun q2 => ?_⟩⟩
        · have f1 : isW T n wNot s = false := bI_0.1 q
          rw [if_neg (by rw [f1]; decide)] at hn'
          have e1 : k = kf := (Prod.mk.inj hn').1
          have e2 : s = sf := (Prod.mk.inj hn').2
          subst e2
          exact dn h k e1 hS he f1
        · have f1 : isW T n wNot s = true := bI_n0.1 q
          rw [if_pos f1] at hn'
          rintro v h5 ⟨rfl, m1, m2⟩
          rw [nI_1]
          exact ⟨rfl, ih (k + 1) _ h5 (by omega) m1 (he.trans m2) hn'⟩
        · have : k = 6 := (nI_eq (b := 6) (by omega) (by omega)).1 q2
          omega
    exact s2 6 0 s0 h0 (by omega) hS0 MEch.rfl hR
theorem m_expr {n : Nat} {T : Nat → Nat} (hn : n ≤ 500) : ∀ d, d ≤ 6 → RSpec true mX11_readExpression (24 + 6 * d) T n (nI (6 - d)) (pE T n d) := by
  have mk : ∀ (D : Nat) (a : Nat) (d : Nat) (g : Bool) (p : Nat → List Int32 → PR) (b : Nat), 18 ≤ D → a ≤ 6 → RSpec g mX11_readAnd (D + 5) T n (nI a) p → PG n b p → (a = 6 ↔ d = 0) → (g = true ∨ d = 0) → (∀ s c, d ≠ 0 → pE T n d s c = pBin (opO T n) (nx T n) p s c) → RSpec true mX11_readExpression (D + 6) T n (nI a) (pE T n d) := by
    intro D a d g p b hD ha6 hx hg had hgd hpe h x _ hcap hS
    rcases x with e | ⟨s, c⟩
    · exact XSpec.of rfl (by decide) (Nat.le_of_ble_eq_true rfl) rfl (v_X11_readExpression_0 D hD hS.hM _ ⟨fun q => absurd q hS.2.n0, fun _ => ⟨rfl, hS, MEch.rfl⟩⟩)
    · obtain ⟨hM, hT, hk, hb⟩ := hS.2.1
      have hsn := hk.2.2.2.2.1
      have kl := kd_le (T := T) (n := n) (s := s)
      have hl : c.length ≤ s := hcap _ rfl
      have tail : ∀ (x1 : PR) (h1 : XH), (g = false → ∃ e, x1 = .inl e) → (∀ y, x1 = .inr y → y = (s, c) ∧ d ≠ 0) → (∀ e, x1 = .inl e → pE T n d s c = .inl e) → MS h1 T n x1 → MEch h h1 → XW (xrm (D + 6) 0 0) mX11_readExpression (xE 100 (fun v h' => v = none ∧ MS h' T n (pbd (.inr (s, c)) (pE T n d)) ∧ MEch h h') xno 0 0) 100 0 0 h1 62 [some (.ref 56), some (.int (nI a)), none] [] := fun x1 h1 g1 hi1 he1 hS1 hc1 => by
        refine v_X11_readExpression_62 D hD hS1.hM _ ⟨_, hx h1 x1 g1 (fun y hy => by rw [(hi1 y hy).1]; exact hl) hS1, ?_⟩
        rintro v h4 ⟨rfl, m1, m2⟩
        refine ⟨rfl, l_mreadExpression (h0 := h) hD hx hg (fun h' k1 k2 => ⟨rfl, k1, k2⟩) 500 _ h4 (fun z => ?_) (fun y hy => ?_) m1 (hc1.trans m2) ?_⟩
        · obtain ⟨e, rfl⟩ := g1 z
          exact ⟨e, rfl⟩
        · rcases x1 with e | y1
          · cases hy
          · obtain ⟨i1, i2⟩ := hi1 y1 rfl
            subst i1
            obtain ⟨g1, g2, g3, -⟩ := hg s c y.1 y.2 hsn hy
            omega
        · rcases x1 with e | y1
          · exact (he1 e rfl).symm
          · obtain ⟨i1, i2⟩ := hi1 y1 rfl
            subst i1
            exact (hpe s c i2).symm
      have s39 : ∀ m : Bool, mayE T n s = m → XW (xrm (D + 6) 0 0) mX11_readExpression (xE 100 (fun v h' => v = none ∧ MS h' T n (pbd (.inr (s, c)) (pE T n d)) ∧ MEch h h') xno 0 0) 100 0 0 h 39 [some (.ref 56), some (.int (nI a)), some (.int (bI m))] [] := fun m hm => by
        refine v_X11_readExpression_39 D hD hM _ _ ⟨fun q => ⟨fun q2 => ?_, fun q2 => ⟨_, m_wrong hS.2.1 (f := 2) (by omega), ?_⟩⟩, fun q => ⟨_, m_wrong hS.2.1 (f := 1) (by omega), ?_⟩⟩
        · have d0 : d ≠ 0 := fun z => q2 (by rw [had.2 z]; rfl)
          have gt : g = true := by rcases hgd with z | z; exact z; exact absurd z d0
          exact tail (.inr (s, c)) h (fun z => absurd (gt.symm.trans z) (by decide)) (fun y hy => ⟨(Sum.inr.inj hy).symm, d0⟩) (fun e he => by cases he) hS MEch.rfl
        · have a6 : a = 6 := (nI_eq (b := 6) (by omega) (by omega)).1 q2
          have d0 := had.1 a6
          have mt : mayE T n s = true := by rw [hm]; exact bI_n0.1 q
          rintro v h2 ⟨rfl, m1, m2⟩
          refine ⟨rfl, tail (.inl (2, s)) h2 (fun _ => ⟨_, rfl⟩) (fun y hy => by cases hy) (fun e he => ?_) ⟨by rw [m2.2.2]; exact hS.1, m1⟩ m2.e⟩
          cases he
          subst d0
          show (.inl (if mayE T n s = true then 2 else 1, s) : PR) = _
          rw [if_pos mt]
        · have mf : mayE T n s = false := by rw [hm]; exact bI_0.1 q
          rintro v h2 ⟨rfl, m1, m2⟩
          refine ⟨rfl, tail (.inl (1, s)) h2 (fun _ => ⟨_, rfl⟩) (fun y hy => by cases hy) (fun e he => ?_) ⟨by rw [m2.2.2]; exact hS.1, m1⟩ m2.e⟩
          cases he
          cases d with
          | zero =>
            show (.inl (if mayE T n s = true then 2 else 1, s) : PR) = _
            rw [if_neg (by rw [mf]; decide)]
          | succ d => exact pE_no mf c d
      refine XSpec.of rfl (by decide) (Nat.le_of_ble_eq_true rfl) rfl (v_X11_readExpression_0 D hD hM _ ⟨fun _ => ?_, fun q => absurd hb q⟩)
      have hk1 : xI h 56 14 = nI (kd T n s) := hk.2.2.2.1
      rw [hk1]
      refine ⟨fun q => s39 true ?_, fun q => ⟨fun q2 => s39 true ?_, fun q2 => ⟨_, m_markedS (c := 40) hS (by decide), ?_⟩⟩⟩
      · have := (nI_eq (b := 2) (by omega) (by omega)).1 q
        unfold mayE
        rw [decide_eq_true (Or.inl this)]; rfl
      · have := (nI_eq (b := 1) (by omega) (by omega)).1 q2
        unfold mayE
        rw [decide_eq_true (Or.inr this)]; rfl
      · have n2 : ¬ kd T n s = 2 := fun z => q (by rw [z]; rfl)
        have n1 : ¬ kd T n s = 1 := fun z => q2 (by rw [z]; rfl)
        have em : mayE T n s = isS T n 40 s := by
          unfold mayE
          rw [decide_eq_false (by omega)]; rfl
        rintro v h4 ⟨rfl, e4⟩
        subst h4
        exact ⟨_, rfl, fun q3 => s39 false (em.trans (bI_0.1 q3)), fun q3 => s39 true (em.trans (bI_n0.1 q3))⟩
  intro d
  induction d with
  | zero =>
    intro _
    have g0 := pE_g (T := T) (n := n) 0
    obtain ⟨g1, g2, g3, g4, g5, g6⟩ := pA_g (T := T) (b := 5 * 0 + 1) (by omega) g0
    have t1 : RSpec false mX11_readPart 19 T n (nI 6) (pPart T n (pE T n 0)) := m_readPart (D := 18) (Nat.le_refl _) (fun z => absurd z (by decide)) g0
    have t2 : RSpec false mX11_readProduct 20 T n (nI 6) (pM T n (pE T n 0)) := m_readProduct (D := 18) hn (Nat.le_refl _) t1 g1
    have t3 : RSpec false mX11_readSum 21 T n (nI 6) (pP T n (pE T n 0)) := m_readSum (D := 18) hn (Nat.le_refl _) t2 g2
    have t4 : RSpec false mX11_readNot 22 T n (nI 6) (pN T n (pE T n 0)) := m_readNot (D := 18) hn (Nat.le_refl _) t3 g3
    have t5 : RSpec false mX11_readAnd 23 T n (nI 6) (pA T n (pE T n 0)) := m_readAnd (D := 18) hn (Nat.le_refl _) t4 g5
    exact mk 18 6 0 false _ _ (Nat.le_refl _) (by omega) t5 g6 (by omega) (Or.inr rfl) (fun s c z => absurd rfl z)
  | succ d ih =>
    intro hd
    have hx := ih (by omega)
    have hD : 18 ≤ 24 + 6 * d := by omega
    have ea : nI (6 - d) = nI (6 - (d + 1)) + 1 := by rw [nI_1]; congr 1; omega
    rw [ea] at hx
    have g0 := pE_g (T := T) (n := n) d
    obtain ⟨g1, g2, g3, g4, g5, g6⟩ := pA_g (T := T) (b := 5 * d + 1) (by omega) g0
    have t1 : RSpec true mX11_readPart (24 + 6 * d + 1) T n (nI (6 - (d + 1))) (pPart T n (pE T n d)) := m_readPart hD (fun _ => hx) g0
    have t2 : RSpec true mX11_readProduct (24 + 6 * d + 2) T n (nI (6 - (d + 1))) (pM T n (pE T n d)) := m_readProduct hn hD t1 g1
    have t3 : RSpec true mX11_readSum (24 + 6 * d + 3) T n (nI (6 - (d + 1))) (pP T n (pE T n d)) := m_readSum hn hD t2 g2
    have t4 : RSpec true mX11_readNot (24 + 6 * d + 4) T n (nI (6 - (d + 1))) (pN T n (pE T n d)) := m_readNot hn hD t3 g3
    have t5 : RSpec true mX11_readAnd (24 + 6 * d + 5) T n (nI (6 - (d + 1))) (pA T n (pE T n d)) := m_readAnd hn hD t4 g5
    exact mk (24 + 6 * d) (6 - (d + 1)) (d + 1) true _ _ hD (by omega) t5 g6 (by omega) (Or.inl rfl) (fun s c _ => rfl)
