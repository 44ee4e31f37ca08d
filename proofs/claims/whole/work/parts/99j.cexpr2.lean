/-! READ: the class' EXPR, tests and nots -/
theorem c_readTest {r n D b : Nat} {T : Nat → Nat} {a : Int32} {p : Nat → List Int32 → PR} (hD : 30 ≤ D) (hx : CSpec mX4_readSum (D + 3) r T n a p) (hg : PG n b p) : CSpec mX4_readTest (D + 4) r T n a (pTst (opC T n) (nx T n) p) := by
  intro h s c hC hA hl
  have hr := hC.1.r2
  have hsn := hC.2.2.1.2.2.2
  have n5 := hC.2.1.2.1
  refine XSpec.of rfl (by decide) (Nat.le_of_ble_eq_true rfl) rfl (v_X4_readTest_0 D hD r hC.1.1 hC.1.2.1 hC.1.2.2 a ⟨_, hx h s c hC hA hl, ?_⟩)
  intro v h1 hq
  cases hp : p s c with
  | inl e =>
    rw [hp] at hq
    refine ⟨0, hq.1, fun q => absurd rfl q, fun _ => ?_⟩
    unfold pTst
    rw [hp]
    exact ⟨rfl, hq.2⟩
  | inr y =>
    rw [hp] at hq
    obtain ⟨hv, k3, k4, k5⟩ := hq
    obtain ⟨g1, g2, g3, -⟩ := hg _ _ y.1 y.2 hsn hp
    have ep : ∀ z, opC T n y.1 = some z → pTst (opC T n) (nx T n) p s c = pbd (p (nx T n y.1) y.2) (fun s c => .inr (s, c ++ [z])) := fun z hz => by
      unfold pTst
      rw [hp]
      show (match opC T n y.1 with | none => _ | some z => _) = _
      rw [hz]
    have s32 : ∀ (x z : Int32), opC T n y.1 = some z → y.1 < n → (x = 0 → z = -9) → (¬ x = 0 → z = -8) → XW (xrm (D + 4) 0 0) mX4_readTest (xE 100 (CO r T n h (pTst (opC T n) (nx T n) p s c)) xno 0 0) 100 0 0 h1 32 [some (.ref 11), some (.int a), some (.int x)] [] := fun x z hz hlt z9 z8 => by
      rw [ep z hz]
      have hlx := nx_lt (T := T) hlt
      refine v_X4_readTest_32 D hD r k3.1.1 k3.1.2.1 k3.1.2.2 _ _ ⟨_, c_readOn k3, ?_⟩
      rintro v h4 ⟨rfl, m1, m2⟩
      refine ⟨rfl, _, hx h4 _ y.2 m1 (k4.c hr m2) (by omega), ?_⟩
      intro v h5 hq
      cases hp2 : p (nx T n y.1) y.2 with
      | inl e =>
        rw [hp2] at hq
        exact ⟨0, hq.1, fun q => absurd rfl q, fun _ => ⟨rfl, hq.2.1, hq.2.2.1, hq.2.2.2.1, (k5.trans (m2.e hr)).trans hq.2.2.2.2⟩⟩
      | inr w =>
        rw [hp2] at hq
        obtain ⟨hv2, m3, m4, m5⟩ := hq
        obtain ⟨o1, o2, o3, -⟩ := hg _ _ w.1 w.2 (nx_b (by omega)).2 hp2
        refine ⟨1, hv2, fun _ => ⟨m3.1.1.2, m3.1.2.1.2.1, fun q => ⟨_, c_add m3 m4 (by omega) (-9), ?_⟩, fun q => ⟨_, c_add m3 m4 (by omega) (-8), ?_⟩⟩, fun q => absurd q (by decide)⟩
        · rintro v h6 ⟨rfl, m6, m7, m8⟩
          rw [z9 q]
          exact ⟨rfl, rfl, m6, m7, ((k5.trans (m2.e hr)).trans m5).trans m8⟩
        · rintro v h6 ⟨rfl, m6, m7, m8⟩
          rw [z8 q]
          exact ⟨rfl, rfl, m6, m7, ((k5.trans (m2.e hr)).trans m5).trans m8⟩
    refine ⟨1, hv, fun _ => ⟨_, c_isSign (c := 60) k3 (by decide), ?_⟩, fun q => absurd q (by decide)⟩
    rintro v h2 ⟨rfl, e2⟩
    subst h2
    refine ⟨_, rfl, fun q => s32 _ (-8) ?_ (isS_lt (bI_n0.1 q)) (fun z => absurd z q) (fun _ => rfl), fun q => ⟨_, c_isSign (c := 61) k3 (by decide), ?_⟩⟩
    · unfold opC
      rw [if_pos (bI_n0.1 q)]
    have f1 := bI_0.1 q
    rintro v h2 ⟨rfl, e2⟩
    subst h2
    refine ⟨_, rfl, fun q2 => s32 _ (-9) ?_ (isS_lt (bI_n0.1 q2)) (fun _ => rfl) (fun z => absurd q z), fun q2 => ?_⟩
    · unfold opC
      rw [if_neg (by rw [f1]; decide), if_pos (bI_n0.1 q2)]
    · have f2 := bI_0.1 q2
      have ez : opC T n y.1 = none := by
        unfold opC
        rw [if_neg (by rw [f1]; decide), if_neg (by rw [f2]; decide)]
      have e0 : pTst (opC T n) (nx T n) p s c = .inr y := by
        unfold pTst
        rw [hp]
        show (match opC T n y.1 with | none => _ | some z => _) = _
        rw [ez]
      rw [e0]
      exact ⟨rfl, k3, k4, k5⟩
theorem l_cn60 {r n D k : Nat} {T : Nat → Nat} {h0 : XH} {s : Nat} {c : List Int32} (hD : 30 ≤ D) (hk : c.length + k ≤ 500) {Q : Option Value → XH → Prop} {X : String → XH → Prop} (hQ : ∀ h', CT h' r T n s → CC h' r (c ++ List.replicate k (-5)) → Ech r h0 h' → Q (some (.int 1)) h') : ∀ (f j : Nat) (h : XH), f + j = k → CT h r T n s → CC h r (c ++ List.replicate j (-5)) → Ech r h0 h →
    XW (xrm (D + 5) 0 0) mX4_readNot (xE 100 Q X 0 0) 100 0 0 h 60 [some (.ref 11), none, some (.int (nI k)), some (.int (nI j))] [] := by
  intro f
  induction f with
  | zero =>
    intro j h hj hC hA he
    have : j = k := by omega
    subst this
    exact v_X4_readNot_60 D hD r hC.1.1 hC.1.2.1 hC.1.2.2 _ _ ⟨fun _ => hQ h hC hA he, fun q => absurd (nI_le (Nat.le_refl _) (by omega)) q⟩
  | succ f ih =>
    intro j h hj hC hA he
    refine v_X4_readNot_60 D hD r hC.1.1 hC.1.2.1 hC.1.2.2 _ _ ⟨fun q => absurd q (nI_ge (by omega) (by omega)), fun _ => ⟨_, c_add hC hA (by rw [List.length_append, List.length_replicate]; omega) (-5), ?_⟩⟩
    rintro v h11 ⟨rfl, k1, k2, k3⟩
    rw [nI_1]
    refine ⟨rfl, ih (j + 1) h11 (by omega) k1 ?_ (he.trans k3)⟩
    rw [List.append_assoc, ← List.replicate_succ'] at k2
    exact k2
theorem c_readNot {r n D b : Nat} {T : Nat → Nat} {a : Int32} {p : Nat → List Int32 → PR} (hD : 30 ≤ D) (hx : CSpec mX4_readTest (D + 4) r T n a p) (hg : PG n b p) : CSpec mX4_readNot (D + 5) r T n a (pNot (isW T n wNot) (nx T n) p) := by
  intro h0 s0 c hC0 hA0 hl0
  have hr := hC0.1.r2
  have hsn := hC0.2.2.1.2.2.2
  have n5 := hC0.2.1.2.1
  have hng := nts_g (n := n) (w := isW T n wNot) (nxt := nx T n) (fun s q => ⟨nx_lt (isW_lt q), (nx_b (by have := isW_lt q; omega)).2⟩) 6 0 s0 hsn
  obtain ⟨R, hR⟩ : ∃ R, nts (isW T n wNot) (nx T n) 6 0 s0 = R := ⟨_, rfl⟩
  unfold pNot
  rw [hR] at hng ⊢
  obtain ⟨kf, sf⟩ := R
  have hng' : sf ≤ n ∧ kf + s0 ≤ sf := ⟨hng.1, by have := hng.2.2.1; show kf + s0 ≤ sf; have e : kf + s0 ≤ 0 + sf := this; omega⟩
  obtain ⟨ng1, ng2⟩ := hng'
  obtain ⟨res, hres⟩ : ∃ res : PR, (if isW T n wNot sf = true then .inl (2, sf) else pbd (p sf c) (fun s' c' => .inr (s', c' ++ List.replicate kf (-5)))) = res := ⟨_, rfl⟩
  show XSpec _ _ _ _ _ _ _ _ (CO r T n h0 (if isW T n wNot sf = true then .inl (2, sf) else pbd (p sf c) (fun s' c' => .inr (s', c' ++ List.replicate kf (-5))))) _
  rw [hres]
  have s48 : ∀ h, CT h r T n sf → CC h r c → Ech r h0 h → isW T n wNot sf = false → XW (xrm (D + 5) 0 0) mX4_readNot (xE 100 (CO r T n h0 res) xno 0 0) 100 0 0 h 48 [some (.ref 11), some (.int a), some (.int (nI kf)), none] [] := fun h hC hA he hw => by
    rw [if_neg (by rw [hw]; decide)] at hres
    refine v_X4_readNot_48 D hD r hC.1.1 hC.1.2.1 hC.1.2.2 _ _ ⟨_, hx h sf c hC hA (by omega), ?_⟩
    intro v h1 hq
    cases hp : p sf c with
    | inl e =>
      rw [hp] at hq hres
      refine ⟨0, hq.1, fun q => absurd rfl q, fun _ => ?_⟩
      rw [← hres]
      exact ⟨rfl, hq.2.1, hq.2.2.1, hq.2.2.2.1, he.trans hq.2.2.2.2⟩
    | inr y =>
      rw [hp] at hq hres
      obtain ⟨hv, k3, k4, k5⟩ := hq
      obtain ⟨g1, g2, g3, -⟩ := hg _ _ y.1 y.2 ng1 hp
      refine ⟨1, hv, fun _ => l_cn60 (h0 := h0) (s := y.1) (c := y.2) hD (by omega) (fun h' m1 m2 m3 => ?_) kf 0 h1 (by omega) k3 (by rw [List.replicate_zero, List.append_nil]; exact k4) (he.trans k5), fun q => absurd q (by decide)⟩
      rw [← hres]
      exact ⟨rfl, m1, m2, m3⟩
  have s27 : ∀ h, CT h r T n sf → CC h r c → Ech r h0 h → kf ≤ 6 → (kf = 6 ∨ isW T n wNot sf = false) → XW (xrm (D + 5) 0 0) mX4_readNot (xE 100 (CO r T n h0 res) xno 0 0) 100 0 0 h 27 [some (.ref 11), some (.int a), some (.int (nI kf)), none] [] := fun h hC hA he h6 hor => by
    refine v_X4_readNot_27 D hD r hC.1.1 hC.1.2.1 hC.1.2.2 _ _ ⟨fun q => ?_, fun q => ⟨_, c_isWord (i := 12) hC (by decide), ?_⟩⟩
    · refine s48 h hC hA he ?_
      rcases hor with z | z
      · exact absurd (by rw [z]; rfl) q
      · exact z
    · rintro v h2 ⟨rfl, e2⟩
      subst h2
      rw [jsT_c.2.1]
      refine ⟨_, rfl, fun q2 => s48 h hC hA he (bI_0.1 q2), fun q2 => ⟨_, c_fail hC.1 2, ?_⟩⟩
      rintro v h2 ⟨rfl, e2⟩
      subst h2
      rw [if_pos (bI_n0.1 q2)] at hres
      rw [← hres]
      exact ⟨_, rfl, rfl, CO.fl hr he (hC.fl 2) (by omega)⟩
  have s2 : ∀ (f k s : Nat) (h : XH), f + k = 6 → CT h r T n s → CC h r c → Ech r h0 h → nts (isW T n wNot) (nx T n) f k s = (kf, sf) → XW (xrm (D + 5) 0 0) mX4_readNot (xE 100 (CO r T n h0 res) xno 0 0) 100 0 0 h 2 [some (.ref 11), some (.int a), some (.int (nI k)), none] [] := by
    intro f
    induction f with
    | zero =>
      intro k s h hk hC hA he hn
      have e : (k, s) = (kf, sf) := hn
      have e1 : k = kf := (Prod.mk.inj e).1
      have e2 : s = sf := (Prod.mk.inj e).2
      subst e1
      subst e2
      exact v_X4_readNot_2 D hD r hC.1.1 hC.1.2.1 hC.1.2.2 _ _ ⟨fun _ => s27 h hC hA he (by omega) (Or.inl (by omega)), fun q => absurd (nI_le (a := 6) (by omega) (by omega)) q⟩
    | succ f ih =>
      intro k s h hk hC hA he hn
      refine v_X4_readNot_2 D hD r hC.1.1 hC.1.2.1 hC.1.2.2 _ _ ⟨fun q => absurd q (nI_ge (b := 6) (by omega) (by omega)), fun _ => ⟨_, c_isWord (i := 12) hC (by decide), ?_⟩⟩
      rintro v h2 ⟨rfl, e2⟩
      subst h2
      rw [jsT_c.2.1]
      unfold nts at hn
      refine ⟨_, rfl, fun q => ?_, fun q => ⟨_, c_readOn hC, ?_⟩⟩
      · have f1 := bI_0.1 q
        rw [if_neg (by rw [f1]; decide)] at hn
        have e1 : k = kf := (Prod.mk.inj hn).1
        have e2 : s = sf := (Prod.mk.inj hn).2
        subst e1
        subst e2
        exact s27 h hC hA he (by omega) (Or.inr f1)
      · rw [if_pos (bI_n0.1 q)] at hn
        rintro v h10 ⟨rfl, m1, m2⟩
        rw [nI_1]
        exact ⟨rfl, ih (k + 1) _ h10 (by omega) m1 (hA.c hr m2) (he.trans (m2.e hr)) hn⟩
  exact XSpec.of rfl (by decide) (Nat.le_of_ble_eq_true rfl) rfl (v_X4_readNot_0 D hD r hC0.1.1 hC0.1.2.1 hC0.1.2.2 a (s2 6 0 s0 h0 (by omega) hC0 hA0 Ech.rfl hR))
theorem c_readExpr0 {r n : Nat} {T : Nat → Nat} : CSpec mX4_readExpr 37 r T n (nI 6) (pE T n 0) := by
  intro h s c hC hA hl
  have hr := hC.1.r2
  have kl := kd_le (T := T) (n := n) (s := s)
  have fl : ∀ f : Nat, (f = if mayE T n s = true then 2 else 1) → ∃ Q1, XSpec mX4_fail 1 0 0 100 100 [.ref 11, .int (nI f)] h Q1 xno ∧ ∀ v h2, Q1 v h2 → ∃ r2 : Int32, v = some (.int r2) ∧ ((narrow .boolean (.int r2) = .int r2) ∧ (CO r T n h (pE T n 0 s c) (some (.int r2)) h2)) := fun f hf => by
    refine ⟨_, c_fail hC.1 _, ?_⟩
    rintro v h2 ⟨rfl, e2⟩
    subst h2
    refine ⟨_, rfl, rfl, ?_⟩
    show CO r T n h (.inl (if mayE T n s = true then 2 else 1, s)) _ _
    rw [← hf]
    exact CO.fl hr Ech.rfl (hC.fl f) (by split at hf <;> omega)
  refine XSpec.of rfl (by decide) (Nat.le_of_ble_eq_true rfl) rfl (v_X4_readExpr_0 30 (Nat.le_refl _) r hC.1.1 hC.1.2.1 hC.1.2.2 (nI 6) ⟨fun q => absurd q (by decide), fun _ => ?_⟩)
  rw [hC.2.2.1.2.2.1]
  have may : ∀ b : Bool, mayE T n s = b → ∀ f : Nat, (f = if b = true then 2 else 1) → (f = if mayE T n s = true then 2 else 1) := fun b hb f hf => by rw [hb]; exact hf
  refine ⟨fun q => fl 2 (may true ?_ 2 rfl), fun q => ⟨fun q2 => fl 2 (may true ?_ 2 rfl), fun q2 => ⟨_, c_isSign (c := 40) hC (by decide), ?_⟩⟩⟩
  · have := (nI_eq (b := 2) (by omega) (by omega)).1 q
    unfold mayE
    rw [decide_eq_true (Or.inl this)]; rfl
  · have := (nI_eq (b := 1) (by omega) (by omega)).1 q2
    unfold mayE
    rw [decide_eq_true (Or.inr this)]; rfl
  · have n2 : ¬ kd T n s = 2 := fun z => q (by rw [z]; rfl)
    have n1 : ¬ kd T n s = 1 := fun z => q2 (by rw [z]; rfl)
    have em : mayE T n s = isS T n 40 s := by
      unfold mayE
      rw [decide_eq_false (by omega)]; rfl
    rintro v h4 ⟨rfl, e4⟩
    subst h4
    exact ⟨_, rfl, fun q3 => fl 1 (may _ em 1 (by rw [bI_0.1 q3]; rfl)), fun q3 => fl 2 (may _ em 2 (by rw [bI_n0.1 q3]; rfl))⟩
theorem c_expr {r n : Nat} {T : Nat → Nat} : ∀ d, d ≤ 6 → CSpec mX4_readExpr (37 + 7 * d) r T n (nI (6 - d)) (pE T n d) := by
  intro d
  induction d with
  | zero => intro _; exact c_readExpr0
  | succ d ih =>
    intro hd
    have hx := ih (by omega)
    have hD : 30 ≤ 37 + 7 * d := by omega
    have ea : nI (6 - d) = nI (6 - (d + 1)) + 1 := by rw [nI_1]; congr 1; omega
    rw [ea] at hx
    have g0 := pE_g (T := T) (n := n) d
    obtain ⟨g1, g2, g3, g4, g5, g6⟩ := pA_g (T := T) (b := 5 * d + 1) (by omega) g0
    have t1 := c_readPart hD hx g0
    have t2 : CSpec mX4_readProduct (37 + 7 * d + 2) r T n (nI (6 - (d + 1))) (pM T n (pE T n d)) := c_readProduct hD t1 g1
    have t3 : CSpec mX4_readSum (37 + 7 * d + 3) r T n (nI (6 - (d + 1))) (pP T n (pE T n d)) := c_readSum hD t2 g2
    have t4 : CSpec mX4_readTest (37 + 7 * d + 4) r T n (nI (6 - (d + 1))) (pC T n (pE T n d)) := c_readTest hD t3 g3
    have t5 : CSpec mX4_readNot (37 + 7 * d + 5) r T n (nI (6 - (d + 1))) (pN T n (pE T n d)) := c_readNot hD t4 g4
    have t6 : CSpec mX4_readAnd (37 + 7 * d + 6) r T n (nI (6 - (d + 1))) (pA T n (pE T n d)) := c_readAnd hD t5 g5
    have t7 : CSpec mX4_readExpr (37 + 7 * d + 7) r T n (nI (6 - (d + 1))) (pBin (opO T n) (nx T n) (pA T n (pE T n d))) := c_readExpr hD t6 g6 (nI_le (b := 5) (by omega) (by omega))
    exact t7
