/-! THE STATE: what class and reference both hold, in words of its own -/
abbrev BD : Type := (Nat × Nat × Nat × Nat × Nat × Nat × Nat × Nat × Nat × Nat) × ((Nat → Nat) × (Nat → Nat) × (Nat → Nat) × (Nat → Nat)) × (Nat → Int32)
def bLast (b : BD) : Nat := b.1.1
def bKx (b : BD) : Nat := b.1.2.1
def bE (b : BD) : Nat := b.1.2.2.1
def bLen (b : BD) : Nat := b.1.2.2.2.1
def bLst (b : BD) : Nat := b.1.2.2.2.2.1
def bAg (b : BD) : Nat := b.1.2.2.2.2.2.1
def bPc (b : BD) : Nat := b.1.2.2.2.2.2.2.1
def bMt (b : BD) : Nat := b.1.2.2.2.2.2.2.2.1
def bTd (b : BD) : Nat := b.1.2.2.2.2.2.2.2.2.1
def bTl (b : BD) : Nat := b.1.2.2.2.2.2.2.2.2.2
def bFt (b : BD) : Nat → Nat := b.2.1.1
def bHd (b : BD) : Nat → Nat := b.2.1.2.1
def bOd (b : BD) : Nat → Nat := b.2.1.2.2.1
def bTx (b : BD) : Nat → Nat := b.2.1.2.2.2
def bC (b : BD) : Nat → Int32 := b.2.2
/-- where one goes on it -/
def bT (b : BD) : Nat → Nat → Nat := TB (bLast b) (bKx b) (bE b) (bLen b) (bFt b) (bHd b) (bC b)
def GoodBD (b : BD) : Prop := GoodB (bLast b) (bKx b) (bE b) (bLen b) (bLst b) (bFt b) (bHd b) (bOd b) (bC b) ∧ bAg b ≤ 6 ∧ (1 ≤ bPc b ∧ bPc b ≤ 4) ∧ bMt b ≤ 1 ∧ bTd b ≤ 1 ∧ bTl b ≤ 1000 ∧ (bTd b = 0 → bLen b = 1 ∧ bC b 0 = -1 ∧ bTl b = 0) ∧ (∀ i, i < bTl b → bTx b i < 256)
/-- the board as a text -/
def tNum (n : Nat) : List Nat := 32 :: ((if 100 ≤ n then [48 + n / 100 % 10] else []) ++ ((if 10 ≤ n then [48 + n / 10 % 10] else []) ++ [48 + n % 10]))
def bText (b : BD) : List Nat :=
  [108, 97, 115, 116] ++ tNum (bLast b) ++ [59] ++ [100, 105, 101] ++ (List.range 6).flatMap (fun f => tNum (bOd b (f + 1))) ++ [59] ++
  (List.range (bKx b)).flatMap (fun k => [101, 120, 105, 116] ++ tNum (bFt b k) ++ tNum (bHd b k) ++ [59]) ++
  (if bE b = 0 then [101, 110, 100, 32, 115, 116, 97, 121, 59] else if bE b = 1 then [101, 110, 100, 32, 98, 97, 99, 107, 59] else [101, 110, 100, 32, 105, 110, 59]) ++
  (if bAg b = 0 then [] else [97, 103, 97, 105, 110] ++ tNum (bAg b) ++ [59]) ++ (if bMt b = 0 then [] else [109, 101, 101, 116, 59]) ++ [112, 105, 101, 99, 101, 115] ++ tNum (bPc b) ++ [59] ++
  (if bTd b = 0 then [] else [103, 111, 101, 115, 32] ++ (List.range (bTl b)).map (bTx b) ++ [59])
/-- the game: whose turn, throws, how many are noted; places, throws by their parts; what is noted; the status -/
abbrev GD : Type := (Nat × Nat × Nat) × (Nat → Nat) × (Nat → Nat → Nat) × (Nat → Int32) × (Nat → Int32)
def gT (g : GD) : Nat := g.1.1
def gTh (g : GD) : Nat := g.1.2.1
def gNn (g : GD) : Nat := g.1.2.2
def gPl (g : GD) : Nat → Nat := g.2.1
def gLg (g : GD) : Nat → Nat → Nat := g.2.2.1
def gNr (g : GD) : Nat → Int32 := g.2.2.2.1
def gSt (g : GD) : Nat → Int32 := g.2.2.2.2
def isOv (last pc : Nat) (pl : Nat → Nat) : Bool := (List.range pc).all (fun p => pl p == last)
def GoodGD (b : BD) (g : GD) : Prop := gT g < bPc b ∧ gTh g ≤ 200 ∧ gNn g ≤ 40 ∧ (∀ p, p < 4 → gPl g p ≤ bLast b) ∧ (∀ i, i < gTh g → gLg g i 0 < bPc b ∧ 1 ≤ gLg g i 1 ∧ gLg g i 1 ≤ 6 ∧ gLg g i 2 < bLast b ∧ gLg g i 3 ≤ bLast b ∧ gLg g i 4 < 16 ∧ (gLg g i 4).testBit (gLg g i 0) = false) ∧ (∀ i, i < gNn g → gNr g i = -1 ∨ ∃ q, q ≤ bLast b ∧ gNr g i = nI q) ∧ (isOv (bLast b) (bPc b) (gPl g) = false → gPl g (gT g) ≠ bLast b)
/-- board; game; an image, if there is one; the row that is kept; the tape and the latest fault -/
abbrev SG : Type := BD × GD × (Nat × GD) × (Int32 × (Nat → Int32)) × (Nat × (Nat → Nat) × Int32)
def sB (s : SG) : BD := s.1
def sG (s : SG) : GD := s.2.1
def sH (s : SG) : Nat := s.2.2.1.1
def sI (s : SG) : GD := s.2.2.1.2
def sKl (s : SG) : Int32 := s.2.2.2.1.1
def sKr (s : SG) : Nat → Int32 := s.2.2.2.1.2
def sTl (s : SG) : Nat := s.2.2.2.2.1
def sTp (s : SG) : Nat → Nat := s.2.2.2.2.2.1
def sFp (s : SG) : Int32 := s.2.2.2.2.2.2
def GoodS (s : SG) : Prop := GoodBD (sB s) ∧ GoodGD (sB s) (sG s) ∧ (sH s = 0 ∨ sH s = 1 ∧ GoodGD (sB s) (sI s)) ∧ (sKl s = -1 ∨ ∃ m, m ≤ 100 ∧ sKl s = nI m) ∧ sTl s ≤ 500 ∧ (∀ i, i < sTl s → sTp s i < 256)
/-! the class -/
def CBd (h : XH) (r : Nat) (b : BD) : Prop := Geo h r 21 (bLast b) (bLst b) (bOd b) (bT b) ∧ xI h r 3 = nI (bE b) ∧ xI h r 4 = nI (bAg b) ∧ xI h r 5 = nI (bMt b) ∧ xI h r 6 = nI (bPc b) ∧ xI h r 7 = nI (bKx b) ∧ (∀ i, i < bKx b → xI h (r + 6) i = nI (bFt b i) ∧ xI h (r + 7) i = nI (bHd b i)) ∧ (∀ q, q < 101 → xI h (r + 8) q = if jmps (bFt b) (bHd b) (bKx b) q = 0 then 0 else 1) ∧ xI h (r + 1) 3 = nI (bLen b) ∧ xI h (r + 3) = bC b ∧ xI h (r + 1) 0 = nI (bTd b) ∧ xI h (r + 1) 1 = nI (bTl b) ∧ (∀ i, i < bTl b → xI h (r + 2) i = nI (bTx b i))
def CGm (h : XH) (u : Nat) (b : BD) (g : GD) : Prop := xI h u 0 = (if isOv (bLast b) (bPc b) (gPl g) = true then -1 else nI (gT g)) ∧ xI h u 1 = nI (gTh g) ∧ xI h u 2 = nI (gNn g) ∧ xI h u 3 = nI (bPc b) ∧ (∀ p, p < 4 → xI h (u + 1) p = nI (gPl g p)) ∧ (∀ i, i < gTh g → ∀ k, k < 5 → xI h (u + 2) (5 * i + k) = nI (gLg g i k)) ∧ (∀ i, i < gNn g → xI h (u + 3) i = gNr g i) ∧ (∀ i, i < 3 → xI h (u + 4) i = gSt g i)
def CKr (h : XH) (s : SG) : Prop := xI h 39 0 = sKl s ∧ ∀ i : Nat, (i : Int) < (sKl s).toInt → xI h 40 i = sKr s i
def CTp (h : XH) (s : SG) : Prop := xI h 0 1 = nI (sTl s) ∧ xI h 0 2 = sFp s ∧ ∀ i, i < sTl s → xI h 1 i = nI (sTp s i)
/-- nothing is asked of the writer: it holds no text -/
def CWr (_h : XH) (_b : BD) : Prop := True
def CPtr (r : Nat) (P : Nat → Nat → Option Nat) : Prop := xBrd r P ∧ xPth 25 P ∧ xSta 29 P ∧ xSta 34 P ∧ xWay P ∧ (∃ y z, xSnd 43 y z P) ∧ (∃ y z, xSnd 46 y z P) ∧ (∃ y z, xHop y z P) ∧ (∃ na nb, xNot na nb P) ∧ xWri P ∧ (∃ r2, r2 ≠ r ∧ xRdr r2 P ∧ xRul r2 P)
def CI (h : XH) (r : Nat) (s : SG) : Prop := CPtr r (xP h) ∧ CBd h r (sB s) ∧ CGm h 29 (sB s) (sG s) ∧ (xI h 0 9 = nI (sH s) ∧ (sH s = 1 → CGm h 34 (sB s) (sI s))) ∧ CKr h s ∧ CTp h s ∧ CWr h (sB s)
/-! the reference -/
def MBd (h : XH) (b : BD) : Prop := BoardM h (bLast b) (bKx b) (bE b) (bLen b) (bFt b) (bHd b) (bOd b) (bC b) ∧ xI h 59 2 = nI (bPc b) ∧ xI h 59 4 = nI (bAg b) ∧ xI h 59 5 = nI (bMt b) ∧ (bTd b = 0 → xI h 59 6 = 0) ∧ (bTd b = 1 → xI h 59 6 = nI (bLen b)) ∧ xI h 59 7 = nI (bTl b) ∧ (∀ i, i < bTl b → xI h 64 i = nI (bTx b i))
/-- the game in the reference's cells: turn, throws, noted (places of cell 56), the rows of places, of the throws' parts, of what is noted, of the status -/
def MGm (h : XH) (a1 a2 a3 p l t n s : Nat) (g : GD) : Prop := xI h 56 a1 = nI (gT g) ∧ xI h 56 a2 = nI (gTh g) ∧ xI h 56 a3 = nI (gNn g) ∧ (∀ q, q < 4 → xI h p q = nI (gPl g q)) ∧ (∀ i, i < gTh g → (∀ k, k < 5 → xI h (l + k) i = nI (gLg g i k)) ∧ xI h t i = nI (gLg g i 0)) ∧ (∀ i, i < gNn g → xI h n i = gNr g i) ∧ (∀ i, i < 3 → xI h s i = gSt g i)
def MStr (P : Nat → Nat → Option Nat) : Prop := (∀ k, k < 3 → P 57 k = some (1029 + k)) ∧ (∀ k, k < 4 → P 58 k = some (1032 + k))
def MI (h : XH) (s : SG) : Prop := xMod (xP h) ∧ MStr (xP h) ∧ MBd h (sB s) ∧ MGm h 33 34 46 71 72 78 87 65 (sG s) ∧ (xI h 56 50 = nI (sH s) ∧ (sH s = 1 → MGm h 51 52 53 90 91 96 97 98 (sI s))) ∧ (xI h 56 38 = sKl s ∧ ∀ i : Nat, (i : Int) < (sKl s).toInt → xI h 79 i = sKr s i) ∧ (xI h 56 11 = nI (sTl s) ∧ xI h 56 20 = sFp s ∧ ∀ i, i < sTl s → xI h 66 i = nI (sTp s i))
/-! what a call may change -/
def SC (r c : Nat) : Prop := (26 ≤ c ∧ c ≤ 28) ∨ c = 41 ∨ c = 42 ∨ (43 ≤ c ∧ c ≤ 53) ∨ c = r + 4
/-- the class has used its rows of the way alone -/
def csc (r : Nat) (h h' : XH) : Prop := (∀ c, ¬ SC r c → c ≠ 39 → xI h' c = xI h c) ∧ (∀ j, j ≠ 4 → xI h' 39 j = xI h 39 j) ∧ (CPtr r (xP h) → CPtr r (xP h')) ∧ (∀ c, ¬ SC r c → xP h' c = xP h c)
def SM (c : Nat) : Prop := (67 ≤ c ∧ c ≤ 70) ∨ (80 ≤ c ∧ c ≤ 86) ∨ c = 77 ∨ c = 88 ∨ c = 89
def SM6 (j : Nat) : Prop := j = 2 ∨ (12 ≤ j ∧ j ≤ 19) ∨ j = 35 ∨ j = 49
def msc (h h' : XH) : Prop := (∀ c, ¬ SM c → c ≠ 56 → xI h' c = xI h c) ∧ (∀ j, ¬ SM6 j → xI h' 56 j = xI h 56 j) ∧ (∀ c, c < 67 → xP h' c = xP h c)
/-- no cell of the reference is changed; none of the class -/
def cch (h h' : XH) : Prop := ∀ c, 56 ≤ c → xI h' c = xI h c ∧ xP h' c = xP h c
def mch (h h' : XH) : Prop := ∀ c, c < 56 → xI h' c = xI h c ∧ xP h' c = xP h c
