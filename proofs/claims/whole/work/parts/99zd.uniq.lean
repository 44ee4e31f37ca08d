/-! THE LAW: answers are told by what they say -/
theorem kq {q : Int32} {m : Nat} (hm : m < 2 ^ 31) (h : kd1 (inR q 0 m) = 0) : q.toNatClampNeg ≤ m := by
  obtain ⟨k, hk, rfl⟩ := inR_nI (kd1_0 h)
  rw [nI_clamp (by omega)]; exact hk
theorem HalfR_u {b : BD} {q : Nat} {w w' : Int32} (h : HalfR b q w) (h' : HalfR b q w') : w = w' := by
  rcases h with ⟨n, n1, rfl, n3, n4⟩ | ⟨rfl, n4⟩ <;> rcases h' with ⟨m, m1, rfl, m3, m4⟩ | ⟨rfl, m4⟩
  · have : n = m := by
      rcases Nat.lt_trichotomy n m with z | z | z
      · have := m4 n z; omega
      · exact z
      · have := n4 m z; omega
    rw [this]
  · have := m4 n n1; omega
  · have := n4 m m1; omega
  · rfl
theorem CnR_u {b : BD} {g : GD} {w w' : Int32} (h : CnR b g w) (h' : CnR b g w') : w = w' := by
  rcases h with ⟨n, n1, rfl, n3, n4⟩ | ⟨rfl, n4⟩ <;> rcases h' with ⟨m, m1, rfl, m3, m4⟩ | ⟨rfl, m4⟩
  · have : n = m := by
      rcases Nat.lt_trichotomy n m with z | z | z
      · have := m4 n z; rw [n3] at this; exact absurd this (by decide)
      · exact z
      · have := n4 m z; rw [m3] at this; exact absurd this (by decide)
    rw [this]
  · have := m4 n n1; rw [n3] at this; exact absurd this (by decide)
  · have := n4 m m1; rw [m3] at this; exact absurd this (by decide)
  · rfl
theorem LsA_u {b : BD} {q : Nat} {w w' : Int32} (hq : q ≤ bLast b) (h : LsA b q w) (h' : LsA b q w') : w = w' := by
  obtain ⟨A, a1, rfl⟩ := h
  obtain ⟨A', a2, rfl⟩ := h'
  rw [a1.uniq a2 hq]
theorem LsA_01 {b : BD} {q : Nat} {w : Int32} (h : LsA b q w) : w = 0 ∨ w = 1 := by
  obtain ⟨A, a1, rfl⟩ := h
  split
  · exact Or.inr rfl
  · exact Or.inl rfl
theorem NvA_01 {b : BD} {q : Nat} {w : Int32} (h : NvA b q w) : w = 0 ∨ w = 1 := by
  obtain ⟨A, a1, rfl⟩ := h
  split
  · exact Or.inl rfl
  · split
    · exact Or.inr rfl
    · exact Or.inl rfl
theorem NvA_u {b : BD} {q : Nat} {w w' : Int32} (hl : bLast b ≤ 100) (hq : q ≤ bLast b) (h : NvA b q w) (h' : ∃ B, Far (bOd b) (bT b) (bLast b) q B ∧ w' = if B 0 = -1 then 1 else 0) : w = w' := by
  obtain ⟨A, a1, rfl⟩ := h
  obtain ⟨B, b1, rfl⟩ := h'
  have e := never_eq a1 b1 hq hl
  by_cases z : B 0 = -1
  · rw [if_pos z, if_neg (e.1 z).1, if_pos (e.1 z).2]
  · rw [if_neg z]
    by_cases y : q = 0
    · rw [if_pos y]
    · rw [if_neg y, if_neg (fun x => z (e.2 ⟨y, x⟩))]
theorem RnA_u {s : SG} {q : Nat} {w w' : Int32} (hg : GoodS s) (hq : q ≤ bLast (sB s)) (h : RnA (sB s) q w) (h' : ∃ B, Far (bOd (sB s)) (bT (sB s)) (bLast (sB s)) q B ∧ Bst (bOd (sB s)) (bT (sB s)) B q 7 w') : w = w' := by
  obtain ⟨A, a1, rfl⟩ := h
  obtain ⟨B, b1, b2⟩ := h'
  exact round_eq a1 b1 hg.l.2.1 hq hg.tl b2
theorem RowK_u {od : Nat → Nat} {T : Nat → Nat → Nat} {A A' : Nat → Int32} {last : Nat} (hT : ∀ s, s ≤ last → ∀ f, f ≤ 6 → T s f ≤ last) (hA : ∀ s, s ≤ last → A s = A' s) : ∀ (c i s : Nat) (R R' : Nat → Int32), s ≤ last → RowK od T A c i s R → RowK od T A' c i s R' → ∀ j, i ≤ j → j < i + c → R j = R' j := by
  intro c
  induction c with
  | zero => intro i s R R' _ _ _ j h1 h2; omega
  | succ c ih =>
    intro i s R R' hs ⟨f, n1, r1, k1⟩ ⟨g, n2, r2, k2⟩ j h1 h2
    have n2' : NearF od T A s g := ⟨n2.1, n2.2.1, ⟨n2.2.2.1.1, by rw [hA _ (hT s hs g n2.2.1), hA s hs]; exact n2.2.2.1.2⟩, fun x x1 x2 => by rw [hA _ (hT s hs x (by have := n2.2.1; omega)), hA s hs]; exact n2.2.2.2 x x1 x2⟩
    have e := n1.uniq n2'
    subst e
    by_cases z : j = i
    · rw [z, r1, r2]
    · exact ih (i + 1) (T s f) R R' (hT s hs f n1.2.1) k1 k2 j (by omega) (by omega)
theorem FwR_u {s : SG} {q : Nat} {w w' : Int32} {R R' : Nat → Int32} (hg : GoodS s) (hq : q ≤ bLast (sB s)) (h : FwR (sB s) q w R) (h' : FwR (sB s) q w' R') : w = w' ∧ (w = -1 ∨ ∃ m, m ≤ 100 ∧ w = nI m ∧ ∀ j, j < m → R j = R' j) := by
  obtain ⟨A, a1, a2⟩ := h
  obtain ⟨A', b1, b2⟩ := h'
  have e := a1.uniq b1 hq
  have hl := hg.l.2.1
  rcases a2 with ⟨x1, rfl⟩ | ⟨m, m1, m2, rfl, m4⟩
  · rcases b2 with ⟨y1, rfl⟩ | ⟨k, k1, k2, rfl, k4⟩
    · exact ⟨rfl, Or.inl rfl⟩
    · exact absurd (k2.symm.trans (e.symm.trans x1)) (nI_nm1 (by omega))
  · rcases b2 with ⟨y1, rfl⟩ | ⟨k, k1, k2, rfl, k4⟩
    · exact absurd (m2.symm.trans (e.trans y1)) (nI_nm1 (by omega))
    · have ek : m = k := (nI_eq (by omega) (by omega)).1 (m2.symm.trans (e.trans k2))
      subst ek
      exact ⟨rfl, Or.inr ⟨m, by omega, rfl, fun j hj => RowK_u hg.tl (fun s hs => a1.uniq b1 hs) m 0 q R R' hq m4 k4 j (Nat.zero_le _) (by omega)⟩⟩
theorem FitK_u {b : BD} {g : GD} : ∀ (c i q : Nat) (R R' : Nat → Int32), FitK b g c i q R → FitK b g c i q R' → ∀ j, i ≤ j → j < i + c → R j = R' j := by
  intro c
  induction c with
  | zero => intro i s R R' _ _ j h1 h2; omega
  | succ c ih =>
    intro i q R R' ⟨f, n1, r1, k1⟩ ⟨f', n2, r2, k2⟩ j h1 h2
    have e : f = f' := by
      rcases Nat.lt_trichotomy f f' with z | z | z
      · have := n2.2.2.2 f n1.1 z; rw [n1.2.2.1] at this; exact absurd this (by decide)
      · exact z
      · have := n1.2.2.2 f' n2.1 z; rw [n2.2.2.1] at this; exact absurd this (by decide)
    subst e
    by_cases z : j = i
    · rw [z, r1, r2]
    · exact ih (i + 1) _ R R' k1 k2 j (by omega) (by omega)
theorem MI.krow {h : XH} {s : SG} {m : Nat} {R R' : Nat → Int32} (hm : m < 2 ^ 31) (hM : MI h (sRow s (nI m) R')) (hR : ∀ j, j < m → R j = R' j) : MI h (sRow s (nI m) R) := by
  obtain ⟨M1, M2, M3, M4, M5, ⟨M7, M8⟩, M9⟩ := hM
  refine ⟨M1, M2, M3, M4, M5, ⟨M7, fun i hi => ?_⟩, M9⟩
  have hi' : (i : Int) < (nI m).toInt := hi
  rw [nI_toInt hm] at hi'
  show _ = R i
  rw [hR i (by omega)]
  exact M8 i hi
theorem sRow_good {s : SG} (hg : GoodS s) {m : Nat} (hm : m ≤ 100) (R : Nat → Int32) : GoodS (sRow s (nI m) R) := ⟨hg.1, hg.2.1, hg.2.2.1, Or.inr ⟨m, hm, rfl⟩, hg.2.2.2.2⟩
theorem sRoll_good {s : SG} (hg : GoodS s) {f : Int32} (h : kd1 (inR f 1 6) = 0) : GoodS (sRoll s f.toNatClampNeg) := by
  obtain ⟨q, q1, q2, rfl⟩ := inR_1 (n := 6) (kd1_0 h)
  rw [nI_clamp (by omega)]
  unfold sRoll
  split
  · rename_i c; exact sThr_good hg q1 q2 c
  · exact sGm_good hg (gRef_good hg.2.1 1)
theorem sUnd_good {s : SG} (hg : GoodS s) : GoodS (sUnd s) := by
  unfold sUnd
  split
  · exact hg
  · rename_i c; exact sGm_good hg (gUnd_good hg (by omega))
theorem sForg_good {s : SG} (hg : GoodS s) : GoodS (sForg s) := by
  unfold sForg
  split
  · exact hg
  · exact sGm_good hg (gForg_good hg.2.1)
theorem sNote_good {s : SG} (hg : GoodS s) (q : Int32) : GoodS (sNote s q) := by
  unfold sNote
  split
  · rename_i c
    unfold ntB at c
    rw [Bool.and_eq_true] at c
    exact sGm_good hg (gNote_good hg.2.1 (of_decide_eq_true c.2) c.1)
  · exact sGm_good hg (gRef_good hg.2.1 2)
