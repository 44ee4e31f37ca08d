/-! THE LAW: what a call leaves -/
def LInv (h : XH) : Prop := ∃ (r : Nat) (s : SG), CI h r s ∧ MI h s ∧ GoodS s
theorem CI.sl {h : XH} {r a : Nat} {s : SG} {f : Nat → Int64} (hC : CI h r s) : CI (xSL a f h) r s := hC.mch (fun _ _ => ⟨rfl, rfl⟩)
theorem MI.sl {h : XH} {a : Nat} {s : SG} {f : Nat → Int64} (hM : MI h s) : MI (xSL a f h) s := hM.cch (fun _ _ => ⟨rfl, rfl⟩)
theorem xL99 {h : XH} {w : Int64} : xL (xSL 99 (va_up (xL h 99) 0 w) h) 99 0 = w := by
  show va_up h.2.1 99 (va_up (xL h 99) 0 w) 99 0 = w
  rw [va_up_eq, va_up_eq]
theorem kd1_le {c : Bool} : kd1 c ≤ 1 := by cases c <;> decide
theorem kd2_le {c d : Bool} : kd2 c d ≤ 2 := by cases c <;> cases d <;> decide
theorem kd1_0 {c : Bool} (h : kd1 c = 0) : c = true := by cases c; exact absurd h (by decide); rfl
abbrev KWx (xs : Nat → Int32) (L B S : Nat) (x4 : Int32) (h : XH) : Prop := XW room_1 mL_law (xEL xs L) 100 B S h 2392 [some (.ref 3000), some (.ref 0), some (.ref 56), some (.ref 99), some (.int x4), none, none, none] []
/-- what the law asks behind both calls: whether one threw, whether the answers are the same -/
def TL (KW : XH → Prop) (h4 : XH) (r3 : Int32) (Cmp : XH → Prop) : Prop := ∃ Q1, XSpec mX11_thrown 1 0 0 100 100 [.ref 56] h4 Q1 xno ∧ ∀ v h5, Q1 v h5 → xL h5 99 0 = xL h4 99 0 → ∃ r5 : Int32, v = some (.int r5) ∧ ((r5 = r3 → (¬ r3 = 0 → KW h5) ∧ (r3 = 0 → Cmp h5)) ∧ (¬ r5 = r3 → False))
theorem cl_t {KW Cmp : XH → Prop} {h4 : XH} {kd : Nat} (hM : xMod (xP h4)) (e4 : xI h4 56 2 = nI kd) (hkd : kd ≤ 2) (K : KW h4) (hc : kd = 0 → Cmp h4) : TL KW h4 (nI kd) Cmp := by
  refine ⟨_, XSpec.of (Q := xq (some (.int (xI h4 56 2))) h4) rfl (by decide) (Nat.le_of_ble_eq_true rfl) rfl (v_X11_thrown_0 hM ⟨rfl, rfl⟩), ?_⟩
  rintro v h5 ⟨rfl, e5⟩ -
  subst h5
  refine ⟨_, rfl, ?_⟩
  rw [e4]
  exact ⟨fun _ => ⟨fun _ => K, fun z => hc ((nI_eq (b := 0) (by omega) (by omega)).1 z)⟩, fun z => absurd rfl z⟩
abbrev CmI (KW : XH → Prop) (r4 : Int32) : XH → Prop := fun h5 => ((lg_cmp (xL h5 99 0) (Int32.toInt64 r4)) = 0 → KW h5) ∧ (¬ (lg_cmp (xL h5 99 0) (Int32.toInt64 r4)) = 0 → False)
abbrev CmL (KW : XH → Prop) (r4 : Int64) : XH → Prop := fun h5 => ((lg_cmp (xL h5 99 0) r4) = 0 → KW h5) ∧ (¬ (lg_cmp (xL h5 99 0) r4) = 0 → False)
abbrev CmZ (KW : XH → Prop) (r4 : Int32) : XH → Prop := fun h5 => (r4 = 0 → ((lg_cmp (xL h5 99 0) 0) = 0 → KW h5) ∧ (¬ (lg_cmp (xL h5 99 0) 0) = 0 → False)) ∧ (¬ r4 = 0 → ((lg_cmp (xL h5 99 0) 1) = 0 → KW h5) ∧ (¬ (lg_cmp (xL h5 99 0) 1) = 0 → False))
/-- the reference's call behind the wrapper's: of ints -/
def RfI (KW : XH → Prop) (Ms : XM) (D : Nat) (margs : List Value) (h3 : XH) (r3 : Int32) : Prop := ∃ Q1, XSpec Ms D 0 0 100 100 margs h3 Q1 xno ∧ ∀ v h4, Q1 v h4 → xL h4 99 0 = xL h3 99 0 → ∃ r4 : Int32, v = some (.int r4) ∧ TL KW h4 r3 (CmI KW r4)
def RfL (KW : XH → Prop) (Ms : XM) (D : Nat) (margs : List Value) (h3 : XH) (r3 : Int32) : Prop := ∃ Q1, XSpec Ms D 0 0 100 100 margs h3 Q1 xno ∧ ∀ v h4, Q1 v h4 → xL h4 99 0 = xL h3 99 0 → ∃ r4 : Int64, v = some (.long r4) ∧ TL KW h4 r3 (CmL KW r4)
def RfZ (KW : XH → Prop) (Ms : XM) (D : Nat) (margs : List Value) (h3 : XH) (r3 : Int32) : Prop := ∃ Q1, XSpec Ms D 0 0 100 100 margs h3 Q1 xno ∧ ∀ v h4, Q1 v h4 → xL h4 99 0 = xL h3 99 0 → ∃ r4 : Int32, v = some (.int r4) ∧ TL KW h4 r3 (CmZ KW r4)
section CL
variable {KW : XH → Prop} {Ms : XM} {D kd : Nat} {margs : List Value} {h h3 : XH} {A : Int64 → XH → Prop} {Bx : XH → Prop} {v : Option Value}
theorem cl_i (hw : WPx kd A Bx v h3) (hkd : kd ≤ 2)
    (hA : ∀ w h1, kd = 0 → A w h1 → h3 = xSL 99 (va_up (xL h1 99) 0 w) h1 → ∃ Q2, XSpec Ms D 0 0 100 100 margs h3 Q2 xno ∧ ∀ v h4, Q2 v h4 → ∃ r4 : Int32, v = some (.int r4) ∧ w = r4.toInt64 ∧ xMod (xP h4) ∧ xI h4 56 2 = nI kd ∧ KW h4)
    (hB : kd ≠ 0 → Bx h3 → ∃ Q2, XSpec Ms D 0 0 100 100 margs h3 Q2 xno ∧ ∀ v h4, Q2 v h4 → ∃ r4 : Int32, v = some (.int r4) ∧ xMod (xP h4) ∧ xI h4 56 2 = nI kd ∧ KW h4) : v = some (.int (nI kd)) ∧ RfI KW Ms D margs h3 (nI kd) := by
  obtain ⟨w1, w2, w3⟩ := hw
  refine ⟨w1, ?_⟩
  by_cases z : kd = 0
  · obtain ⟨w, h1, a, e⟩ := w2 z
    obtain ⟨Q2, sp, k⟩ := hA w h1 z a e
    refine ⟨Q2, sp, fun v h4 q x9 => ?_⟩
    obtain ⟨r4, e4, ew, m1, m2, m3⟩ := k v h4 q
    refine ⟨r4, e4, cl_t m1 m2 hkd m3 (fun _ => ?_)⟩
    have e9 : xL h4 99 0 = r4.toInt64 := by rw [x9, e, xL99]; exact ew
    exact ⟨fun _ => m3, fun y => y (lg_cmp0.2 e9)⟩
  · obtain ⟨Q2, sp, k⟩ := hB z (w3 z)
    refine ⟨Q2, sp, fun v h4 q x9 => ?_⟩
    obtain ⟨r4, e4, m1, m2, m3⟩ := k v h4 q
    exact ⟨r4, e4, cl_t m1 m2 hkd m3 (fun y => absurd y z)⟩
theorem cl_l (hw : WPx kd A Bx v h3) (hkd : kd ≤ 2)
    (hA : ∀ w h1, kd = 0 → A w h1 → h3 = xSL 99 (va_up (xL h1 99) 0 w) h1 → ∃ Q2, XSpec Ms D 0 0 100 100 margs h3 Q2 xno ∧ ∀ v h4, Q2 v h4 → ∃ r4 : Int64, v = some (.long r4) ∧ w = r4 ∧ xMod (xP h4) ∧ xI h4 56 2 = nI kd ∧ KW h4)
    (hB : kd ≠ 0 → Bx h3 → ∃ Q2, XSpec Ms D 0 0 100 100 margs h3 Q2 xno ∧ ∀ v h4, Q2 v h4 → ∃ r4 : Int64, v = some (.long r4) ∧ xMod (xP h4) ∧ xI h4 56 2 = nI kd ∧ KW h4) : v = some (.int (nI kd)) ∧ RfL KW Ms D margs h3 (nI kd) := by
  obtain ⟨w1, w2, w3⟩ := hw
  refine ⟨w1, ?_⟩
  by_cases z : kd = 0
  · obtain ⟨w, h1, a, e⟩ := w2 z
    obtain ⟨Q2, sp, k⟩ := hA w h1 z a e
    refine ⟨Q2, sp, fun v h4 q x9 => ?_⟩
    obtain ⟨r4, e4, ew, m1, m2, m3⟩ := k v h4 q
    refine ⟨r4, e4, cl_t m1 m2 hkd m3 (fun _ => ?_)⟩
    have e9 : xL h4 99 0 = r4 := by rw [x9, e, xL99]; exact ew
    exact ⟨fun _ => m3, fun y => y (lg_cmp0.2 e9)⟩
  · obtain ⟨Q2, sp, k⟩ := hB z (w3 z)
    refine ⟨Q2, sp, fun v h4 q x9 => ?_⟩
    obtain ⟨r4, e4, m1, m2, m3⟩ := k v h4 q
    exact ⟨r4, e4, cl_t m1 m2 hkd m3 (fun y => absurd y z)⟩
theorem cl_z (hw : WPx kd A Bx v h3) (hkd : kd ≤ 2)
    (hA : ∀ w h1, kd = 0 → A w h1 → h3 = xSL 99 (va_up (xL h1 99) 0 w) h1 → ∃ Q2, XSpec Ms D 0 0 100 100 margs h3 Q2 xno ∧ ∀ v h4, Q2 v h4 → ∃ r4 : Int32, v = some (.int r4) ∧ ((r4 = 0 ∧ w = 0) ∨ (r4 = 1 ∧ w = 1)) ∧ xMod (xP h4) ∧ xI h4 56 2 = nI kd ∧ KW h4)
    (hB : kd ≠ 0 → Bx h3 → ∃ Q2, XSpec Ms D 0 0 100 100 margs h3 Q2 xno ∧ ∀ v h4, Q2 v h4 → ∃ r4 : Int32, v = some (.int r4) ∧ xMod (xP h4) ∧ xI h4 56 2 = nI kd ∧ KW h4) : v = some (.int (nI kd)) ∧ RfZ KW Ms D margs h3 (nI kd) := by
  obtain ⟨w1, w2, w3⟩ := hw
  refine ⟨w1, ?_⟩
  by_cases z : kd = 0
  · obtain ⟨w, h1, a, e⟩ := w2 z
    obtain ⟨Q2, sp, k⟩ := hA w h1 z a e
    refine ⟨Q2, sp, fun v h4 q x9 => ?_⟩
    obtain ⟨r4, e4, ew, m1, m2, m3⟩ := k v h4 q
    refine ⟨r4, e4, cl_t m1 m2 hkd m3 (fun _ => ?_)⟩
    have e9 : xL h4 99 0 = w := by rw [x9, e, xL99]
    rcases ew with ⟨rfl, rfl⟩ | ⟨rfl, rfl⟩
    · exact ⟨fun _ => ⟨fun _ => m3, fun y => y (lg_cmp0.2 e9)⟩, fun y => absurd rfl y⟩
    · exact ⟨fun y => absurd y (by decide), fun _ => ⟨fun _ => m3, fun y => y (lg_cmp0.2 e9)⟩⟩
  · obtain ⟨Q2, sp, k⟩ := hB z (w3 z)
    refine ⟨Q2, sp, fun v h4 q x9 => ?_⟩
    obtain ⟨r4, e4, m1, m2, m3⟩ := k v h4 q
    exact ⟨r4, e4, cl_t m1 m2 hkd m3 (fun y => absurd y z)⟩
end CL
/-! calls that leave the state -/
def wsA (h : XH) (r : Nat) (s : SG) (P : Int32 → Prop) : Int64 → XH → Prop := fun z h9 => ∃ w : Int32, z = w.toInt64 ∧ P w ∧ CI h9 r s ∧ cch h h9
def wsL (h : XH) (r : Nat) (s : SG) (P : Int64 → Prop) : Int64 → XH → Prop := fun z h9 => P z ∧ CI h9 r s ∧ cch h h9
def wsZ (h : XH) (r : Nat) (s : SG) (P : Int32 → Prop) : Int64 → XH → Prop := fun z h9 => ∃ w : Int32, ((w = 0 ∧ z = 0) ∨ (w = 1 ∧ z = 1)) ∧ P w ∧ CI h9 r s ∧ cch h h9
def wsB (h : XH) (r : Nat) (s : SG) : XH → Prop := fun h9 => CI h9 r s ∧ cch h h9
section ST
variable {KW : XH → Prop} {Ms Mc : XM} {D d mc ms kd r : Nat} {margs cargs : List Value} {h h3 : XH} {s : SG} {v : Option Value} {e1 e2 : String}
theorem wsX (hC : CI h r s) : ∀ (E : String) (h' : XH), cThr h kd e1 e2 E h' → CXx kd (wsB h r s) e1 e2 E h' := fun E h' q => ⟨by rw [q.1]; exact ⟨hC, cch.rfl⟩, q.2⟩
theorem wsC_i {P : Int32 → Prop} (hC : CI h r s) (hsp : XSpec Mc d mc ms 100 100 cargs h (cEndI h r s kd P) (cThr h kd e1 e2)) : XSpec Mc d mc ms 100 100 cargs h (CPi kd (fun w h9 => wsA h r s P w.toInt64 h9)) (CXx kd (wsB h r s) e1 e2) := by
  refine hsp.mono ?_ (wsX hC)
  rintro v h' ⟨k, w, e, p, c, m⟩
  exact ⟨k, w, e, w, rfl, p, c, m⟩
theorem wsC_l {P : Int64 → Prop} (hC : CI h r s) (hsp : XSpec Mc d mc ms 100 100 cargs h (cEndL h r s kd P) (cThr h kd e1 e2)) : XSpec Mc d mc ms 100 100 cargs h (CPl kd (wsL h r s P)) (CXx kd (wsB h r s) e1 e2) := hsp.mono (fun _ _ q => q) (wsX hC)
theorem wsC_z {P : Int32 → Prop} (hC : CI h r s) (h01 : ∀ w, P w → w = 0 ∨ w = 1) (hsp : XSpec Mc d mc ms 100 100 cargs h (cEndI h r s kd P) (cThr h kd e1 e2)) : XSpec Mc d mc ms 100 100 cargs h (CPi kd (fun w h9 => (w = 0 ∧ wsZ h r s P 0 h9) ∨ (w = 1 ∧ wsZ h r s P 1 h9))) (CXx kd (wsB h r s) e1 e2) := by
  refine hsp.mono ?_ (wsX hC)
  rintro v h' ⟨k, w, e, p, c, m⟩
  refine ⟨k, w, e, ?_⟩
  rcases h01 w p with rfl | rfl
  · exact Or.inl ⟨rfl, 0, Or.inl ⟨rfl, rfl⟩, p, c, m⟩
  · exact Or.inr ⟨rfl, 1, Or.inr ⟨rfl, rfl⟩, p, c, m⟩
theorem cl_si {P P' : Int32 → Prop} (hw : WPx kd (wsA h r s P) (wsB h r s) v h3) (hm : ∀ h1, MI h1 s → XSpec Ms D 0 0 100 100 margs h1 (mEndI h1 s kd P') xno) (hu : kd = 0 → ∀ w w', P w → P' w' → w = w') (hM : MI h s) (hg : GoodS s) (hkd : kd ≤ 2) (K : ∀ h', LInv h' → KW h') : v = some (.int (nI kd)) ∧ RfI KW Ms D margs h3 (nI kd) := by
  refine cl_i hw hkd (fun w h1 k0 ⟨w', e, p, c, m⟩ e3 => ?_) (fun k0 hb => ?_)
  · subst e3
    refine ⟨_, hm _ (hM.cch m).sl, ?_⟩
    rintro v h4 ⟨w4, rfl, q1, q2, q3, q4⟩
    exact ⟨w4, rfl, by rw [e, hu k0 _ _ p (q1 k0)], q3.1, q2, K h4 ⟨r, s, c.sl.mch q4, q3, hg⟩⟩
  · refine ⟨_, hm _ (hM.cch hb.2), ?_⟩
    rintro v h4 ⟨w4, rfl, q1, q2, q3, q4⟩
    exact ⟨w4, rfl, q3.1, q2, K h4 ⟨r, s, hb.1.mch q4, q3, hg⟩⟩
theorem cl_sl {P P' : Int64 → Prop} (hw : WPx kd (wsL h r s P) (wsB h r s) v h3) (hm : ∀ h1, MI h1 s → XSpec Ms D 0 0 100 100 margs h1 (mEndL h1 s kd P') xno) (hu : kd = 0 → ∀ w w', P w → P' w' → w = w') (hM : MI h s) (hg : GoodS s) (hkd : kd ≤ 2) (K : ∀ h', LInv h' → KW h') : v = some (.int (nI kd)) ∧ RfL KW Ms D margs h3 (nI kd) := by
  refine cl_l hw hkd (fun w h1 k0 ⟨p, c, m⟩ e3 => ?_) (fun k0 hb => ?_)
  · subst e3
    refine ⟨_, hm _ (hM.cch m).sl, ?_⟩
    rintro v h4 ⟨w4, rfl, q1, q2, q3, q4⟩
    exact ⟨w4, rfl, hu k0 _ _ p (q1 k0), q3.1, q2, K h4 ⟨r, s, c.sl.mch q4, q3, hg⟩⟩
  · refine ⟨_, hm _ (hM.cch hb.2), ?_⟩
    rintro v h4 ⟨w4, rfl, q1, q2, q3, q4⟩
    exact ⟨w4, rfl, q3.1, q2, K h4 ⟨r, s, hb.1.mch q4, q3, hg⟩⟩
theorem cl_sz {P P' : Int32 → Prop} (hw : WPx kd (wsZ h r s P) (wsB h r s) v h3) (hm : ∀ h1, MI h1 s → XSpec Ms D 0 0 100 100 margs h1 (mEndI h1 s kd P') xno) (hu : kd = 0 → ∀ w w', P w → P' w' → w = w') (hM : MI h s) (hg : GoodS s) (hkd : kd ≤ 2) (K : ∀ h', LInv h' → KW h') : v = some (.int (nI kd)) ∧ RfZ KW Ms D margs h3 (nI kd) := by
  refine cl_z hw hkd (fun w h1 k0 ⟨w', e, p, c, m⟩ e3 => ?_) (fun k0 hb => ?_)
  · subst e3
    refine ⟨_, hm _ (hM.cch m).sl, ?_⟩
    rintro v h4 ⟨w4, rfl, q1, q2, q3, q4⟩
    exact ⟨w4, rfl, by rw [← hu k0 _ _ p (q1 k0)]; exact e, q3.1, q2, K h4 ⟨r, s, c.sl.mch q4, q3, hg⟩⟩
  · refine ⟨_, hm _ (hM.cch hb.2), ?_⟩
    rintro v h4 ⟨w4, rfl, q1, q2, q3, q4⟩
    exact ⟨w4, rfl, q3.1, q2, K h4 ⟨r, s, hb.1.mch q4, q3, hg⟩⟩
/-! calls that change the state -/
theorem cl_c {a : Int32} {s' : SG} (hw : WPx kd (fun z h9 => z = a.toInt64 ∧ CI h9 r s' ∧ cch h h9) (wsB h r s) v h3) (hm : ∀ h1, MI h1 s → XSpec Ms D 0 0 100 100 margs h1 (fun v h' => ∃ w, v = some (.int w) ∧ xI h' 56 2 = nI kd ∧ mch h1 h' ∧ (kd = 0 → w = a ∧ MI h' s') ∧ (kd = 1 → MI h' s)) xno) (hM : MI h s) (hg : GoodS s) (hg' : kd = 0 → GoodS s') (hkd : kd ≤ 1) (K : ∀ h', LInv h' → KW h') : v = some (.int (nI kd)) ∧ RfI KW Ms D margs h3 (nI kd) := by
  refine cl_i hw (by omega) (fun w h1 k0 ⟨e, c, m⟩ e3 => ?_) (fun k0 hb => ?_)
  · subst e3
    refine ⟨_, hm _ (hM.cch m).sl, ?_⟩
    rintro v h4 ⟨w4, rfl, q2, q4, q1, -⟩
    exact ⟨w4, rfl, by rw [e, (q1 k0).1], (q1 k0).2.1, q2, K h4 ⟨r, s', c.sl.mch q4, (q1 k0).2, hg' k0⟩⟩
  · refine ⟨_, hm _ (hM.cch hb.2), ?_⟩
    rintro v h4 ⟨w4, rfl, q2, q4, -, q1⟩
    have k1 := q1 (by omega)
    exact ⟨w4, rfl, k1.1, q2, K h4 ⟨r, s, hb.1.mch q4, k1, hg⟩⟩
end ST
