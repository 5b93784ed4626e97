/-! what a province tells: numbers of sayings, places, people; kinds, homes, shyness, odds, likings; dispensations; the two laws as steps -/
abbrev SL : Type := (Nat × Nat × Nat) × (Nat → Nat) × (Nat → Nat) × (Nat → Nat) × (Nat → Nat → Nat) × (Nat → Nat → Nat) × Int32 × List Int32 × List Int32
def lS (L : SL) : Nat := L.1.1
def lQ (L : SL) : Nat := L.1.2.1
def lP (L : SL) : Nat := L.1.2.2
def lK (L : SL) : Nat → Nat := L.2.1
def lH (L : SL) : Nat → Nat := L.2.2.1
def lY (L : SL) : Nat → Nat := L.2.2.2.1
def lO (L : SL) : Nat → Nat → Nat := L.2.2.2.2.1
def lG (L : SL) : Nat → Nat → Nat := L.2.2.2.2.2.1
def lE (L : SL) : Int32 := L.2.2.2.2.2.2.1
def lC (L : SL) : List Int32 := L.2.2.2.2.2.2.2.1
def lD (L : SL) : List Int32 := L.2.2.2.2.2.2.2.2
/-- a scene: time, wed, kept, paid; by people the place, what one is to say, what one was to say; by places the last utterance -/
abbrev SS : Type := Int32 × Int32 × Int32 × Int32 × (Nat → Nat) × (Nat → Int32) × (Nat → Int32) × (Nat → Int32)
def sT (S : SS) : Int32 := S.1
def sW (S : SS) : Int32 := S.2.1
def sE (S : SS) : Int32 := S.2.2.1
def sD (S : SS) : Int32 := S.2.2.2.1
def sA (S : SS) : Nat → Nat := S.2.2.2.2.1
def sY (S : SS) : Nat → Int32 := S.2.2.2.2.2.1
def sB (S : SS) : Nat → Int32 := S.2.2.2.2.2.2.1
def sU (S : SS) : Nat → Int32 := S.2.2.2.2.2.2.2
/-! a law's steps, worked out on a pile -/
def xjo (s a b : Int32) : Int32 := if s = -5 then (if ¬ a = 0 ∧ ¬ b = 0 then 1 else 0) else if s = -6 then (if ¬ a = 0 ∨ ¬ b = 0 then 1 else 0) else if s = -7 then (if a < b then 1 else 0) else if s = -8 then (if a = b then 1 else 0) else if s = -9 then a + b else if s = -10 then a - b else a * b
def xva (s x y z : Int32) : Int32 := if s = -1 then x else if s = -2 then y else if s = -3 then z else s
/-- the pile has its top first -/
def xst (x y z s : Int32) (l : List Int32) : List Int32 := if -3 ≤ s then xva s x y z :: l else if s = -4 then (match l with
  | a :: l => (if a = 0 then 1 else 0) :: l
  | [] => []) else match l with
  | b :: a :: l => xjo s a b :: l
  | l => l
def xev (x y z : Int32) (c : List Int32) : List Int32 := c.foldl (fun l s => xst x y z s l) []
def xw (c : List Int32) (x y z : Int32) : Int32 := (xev x y z c).headD 0
/-- how high the pile gets -/
def xd (s : Int32) (n : Nat) : Option Nat := if -3 ≤ s then (if n < 24 then some (n + 1) else none) else if s = -4 then (if 1 ≤ n then some n else none) else if 2 ≤ n then some (n - 1) else none
def xds : List Int32 → Nat → Option Nat
  | [], n => some n
  | s :: c, n => (xd s n).bind (xds c)
def LawOK (c : List Int32) : Prop := c.length ≤ 1000 ∧ xds c 0 = some 1 ∧ ∀ s, s ∈ c → -11 ≤ s ∧ s ≤ 9999
def LandOK (L : SL) : Prop := lS L ≤ 5 ∧ lQ L ≤ 4 ∧ lP L ≤ 6 ∧ (∀ p, p < lP L → lK L p ≤ 3 ∧ lH L p < lQ L ∧ lY L p ≤ 9 ∧ (∀ w, w < lS L → lO L p w ≤ 9) ∧ (∀ q, q < lP L → lG L p q ≤ 9)) ∧ LawOK (lC L) ∧ LawOK (lD L)
/-- bits of pairs of people who are there -/
def PairsOK (L : SL) (x : Int32) : Prop := ∀ i, i < 32 → bt x i = true → ∃ p q, p < q ∧ q < lP L ∧ i = pr p q
/-- a saying or none -/
def SayOK (L : SL) (x : Int32) : Prop := x = -1 ∨ ∃ k, k < lS L ∧ x = nI k
def SceneOK (L : SL) (S : SS) : Prop := PairsOK L (sW S) ∧ (∀ p, p < lP L → sA S p < lQ L ∧ SayOK L (sY S p) ∧ SayOK L (sB S p)) ∧ ∀ s, s < 4 → SayOK L (sU S s)
/-! the class's land and scenes -/
def LawC (h : AH) (b : Nat) (c : List Int32) : Prop := hI h b 2 = nI c.length ∧ ∀ i (hi : i < c.length), hI h (b + 1) i = c[i]
def LandC (h : AH) (a : Nat) (L : SL) : Prop := hI h a 4 = nI (lS L) ∧ hI h a 5 = nI (lQ L) ∧ hI h a 6 = nI (lP L) ∧ hI h a 13 = lE L ∧
  (∀ p, p < lP L → hI h (a + 4) p = nI (lK L p) ∧ hI h (a + 5) p = nI (lH L p) ∧ hI h (a + 6) p = nI (lY L p) ∧ (∀ w, w < lS L → hI h (a + 8 + p) w = nI (lO L p w)) ∧ (∀ q, q < lP L → hI h (a + 15 + p) q = nI (lG L p q))) ∧ LawC h (a + 22) (lC L) ∧ LawC h (a + 25) (lD L)
def SceneC (h : AH) (b : Nat) (L : SL) (S : SS) : Prop := hI h b 0 = sT S ∧ hI h b 1 = sW S ∧ hI h b 2 = sE S ∧ hI h b 3 = sD S ∧ (∀ p, p < lP L → hI h (b + 1) p = nI (sA S p) ∧ hI h (b + 2) p = sY S p ∧ hI h (b + 3) p = sB S p) ∧ ∀ s, s < 4 → hI h (b + 5) s = sU S s
/-! the model's -/
def m2c (o a : Int32) : Int32 := if o = 1 then a else if o = 2 then -1 - a else if o = 3 then -4 else if o = 4 then -9 else if o = 5 then -10 else if o = 6 then -11 else if o = 7 then -7 else if o = 8 then -8 else if o = 9 then -5 else -6
/-- one step of the model's and of the class's -/
def StepM (o a s : Int32) : Prop := (o = 1 ∧ a = s ∧ 0 ≤ s) ∨ (o = 2 ∧ ∃ k, k < 3 ∧ a = nI k ∧ s = -1 - nI k) ∨ (o = 3 ∧ s = -4) ∨ (o = 4 ∧ s = -9) ∨ (o = 5 ∧ s = -10) ∨ (o = 6 ∧ s = -11) ∨ (o = 7 ∧ s = -7) ∨ (o = 8 ∧ s = -8) ∨ (o = 9 ∧ s = -5) ∨ (o = 10 ∧ s = -6)
def CodeM (h : AH) (k : Nat) (c : List Int32) : Prop := k + c.length < 1100 ∧ (∀ i (hi : i < c.length), StepM (hI h 242 (k + i)) (hI h 243 (k + i)) c[i]) ∧ hI h 242 (k + c.length) = 0
def LawM (h : AH) (j : Nat) (df c : List Int32) : Prop := (hI h 241 j = -1 ∧ c = df) ∨ ∃ k, hI h 241 j = nI k ∧ CodeM h k c
def LandM (h : AH) (L : SL) : Prop := hI h 241 0 = nI (lS L) ∧ hI h 241 1 = nI (lQ L) ∧ hI h 241 2 = nI (lP L) ∧ hI h 241 5 = lE L ∧
  (∀ p, p < lP L → hI h 241 (8 + 3 * p) = nI (lK L p) ∧ hI h 241 (8 + 3 * p + 1) = nI (lH L p) ∧ hI h 241 (8 + 3 * p + 2) = nI (lY L p) ∧ (∀ w, w < lS L → hI h 241 (26 + 5 * p + w) = nI (lO L p w)) ∧ (∀ q, q < lP L → (if 0 < hI h 241 (60 + 6 * p + q) then hI h 241 (60 + 6 * p + q) - 1 else 0) = nI (lG L p q))) ∧
  LawM h 3 [1] (lC L) ∧ LawM h 4 [1, -1, -9, -2, -9] (lD L)
/-- what was uttered at a place, by the least number -/
def ecG (u t : Nat → Int32) (s : Int32) : Nat → Nat → Int32
  | _, 0 => -1
  | j, k + 1 => if t j = s ∧ 0 ≤ u j then u j else ecG u t s (j + 1) k
def ecM (u t : Nat → Int32) (s : Int32) (n : Nat) : Int32 := ecG u t s 0 n
def SceneM (h : AH) (b : Nat) (L : SL) (S : SS) : Prop := hI h 251 b = sT S ∧ hI h 251 (b + 1) = sW S ∧ hI h 251 (b + 2) = sE S ∧ hI h 251 (b + 3) = sD S ∧ (∀ p, p < lP L → hI h 251 (b + 4 + p) = nI (sA S p) ∧ hI h 251 (b + 10 + p) = sY S p ∧ hI h 251 (b + 16 + p) = sB S p) ∧ ∀ s, s < 4 → ecM (fun p => hI h 251 (b + 22 + p)) (fun p => hI h 251 (b + 28 + p)) (nI s) (lP L) = sU S s
/-! what follows -/
def oA (L : SL) (p : Nat) : Nat := sumN (lS L) (lO L p)
def oT (L : SL) (p : Nat) : Nat := oA L p + lY L p
def free (L : SL) (S : SS) (p q : Nat) : Bool := !decide (lK L p = 1) && !decide (lK L q = 1) && !bt (sE S) (pr p q)
def snap (L : SL) (S : SS) (p q : Nat) : Bool := decide (sA S p = sA S q) && free L S p q && !bt (sW S) (pr p q)
def shares (L : SL) (p q : Nat) : Bool := anyN (lS L) (fun w => decide (0 < lO L p w) && decide (0 < lO L q w))
def clas (L : SL) (S : SS) (p q : Nat) : Bool := snap L S p q && shares L p q
def two (L : SL) (p q : Int32) : Bool := inN p (lP L) && inN q (lP L) && !decide (p = q)
def wvs (x : Int32) (p : Nat) : Nat := cntN 6 (fun q => !decide (q = p) && bt x (pr p q))
theorem LandC.S {h : AH} {a : Nat} {L : SL} (hL : LandC h a L) : hI h a 4 = nI (lS L) := hL.1
theorem LandC.Q {h : AH} {a : Nat} {L : SL} (hL : LandC h a L) : hI h a 5 = nI (lQ L) := hL.2.1
theorem LandC.P {h : AH} {a : Nat} {L : SL} (hL : LandC h a L) : hI h a 6 = nI (lP L) := hL.2.2.1
theorem LandC.E {h : AH} {a : Nat} {L : SL} (hL : LandC h a L) : hI h a 13 = lE L := hL.2.2.2.1
theorem LandC.K {h : AH} {a : Nat} {L : SL} (hL : LandC h a L) {p : Nat} (hp : p < lP L) : hI h (a + 4) p = nI (lK L p) := (hL.2.2.2.2.1 p hp).1
theorem LandC.H {h : AH} {a : Nat} {L : SL} (hL : LandC h a L) {p : Nat} (hp : p < lP L) : hI h (a + 5) p = nI (lH L p) := (hL.2.2.2.2.1 p hp).2.1
theorem LandC.Y {h : AH} {a : Nat} {L : SL} (hL : LandC h a L) {p : Nat} (hp : p < lP L) : hI h (a + 6) p = nI (lY L p) := (hL.2.2.2.2.1 p hp).2.2.1
theorem LandC.O {h : AH} {a : Nat} {L : SL} (hL : LandC h a L) {p w : Nat} (hp : p < lP L) (hw : w < lS L) : hI h (a + 8 + p) w = nI (lO L p w) := (hL.2.2.2.2.1 p hp).2.2.2.1 w hw
theorem LandC.G {h : AH} {a : Nat} {L : SL} (hL : LandC h a L) {p q : Nat} (hp : p < lP L) (hq : q < lP L) : hI h (a + 15 + p) q = nI (lG L p q) := (hL.2.2.2.2.1 p hp).2.2.2.2 q hq
theorem SceneC.T {h : AH} {b : Nat} {L : SL} {S : SS} (hS : SceneC h b L S) : hI h b 0 = sT S := hS.1
theorem SceneC.W {h : AH} {b : Nat} {L : SL} {S : SS} (hS : SceneC h b L S) : hI h b 1 = sW S := hS.2.1
theorem SceneC.E {h : AH} {b : Nat} {L : SL} {S : SS} (hS : SceneC h b L S) : hI h b 2 = sE S := hS.2.2.1
theorem SceneC.D {h : AH} {b : Nat} {L : SL} {S : SS} (hS : SceneC h b L S) : hI h b 3 = sD S := hS.2.2.2.1
theorem SceneC.A {h : AH} {b : Nat} {L : SL} {S : SS} (hS : SceneC h b L S) {p : Nat} (hp : p < lP L) : hI h (b + 1) p = nI (sA S p) := (hS.2.2.2.2.1 p hp).1
theorem SceneC.Y {h : AH} {b : Nat} {L : SL} {S : SS} (hS : SceneC h b L S) {p : Nat} (hp : p < lP L) : hI h (b + 2) p = sY S p := (hS.2.2.2.2.1 p hp).2.1
theorem SceneC.B {h : AH} {b : Nat} {L : SL} {S : SS} (hS : SceneC h b L S) {p : Nat} (hp : p < lP L) : hI h (b + 3) p = sB S p := (hS.2.2.2.2.1 p hp).2.2
theorem SceneC.U {h : AH} {b : Nat} {L : SL} {S : SS} (hS : SceneC h b L S) {s : Nat} (hs : s < 4) : hI h (b + 5) s = sU S s := hS.2.2.2.2.2 s hs
theorem LandM.S {h : AH} {L : SL} (hL : LandM h L) : hI h 241 0 = nI (lS L) := hL.1
theorem LandM.Q {h : AH} {L : SL} (hL : LandM h L) : hI h 241 1 = nI (lQ L) := hL.2.1
theorem LandM.P {h : AH} {L : SL} (hL : LandM h L) : hI h 241 2 = nI (lP L) := hL.2.2.1
theorem LandM.E {h : AH} {L : SL} (hL : LandM h L) : hI h 241 5 = lE L := hL.2.2.2.1
theorem LandM.K {h : AH} {L : SL} (hL : LandM h L) {p : Nat} (hp : p < lP L) : hI h 241 (8 + 3 * p) = nI (lK L p) := (hL.2.2.2.2.1 p hp).1
theorem LandM.H {h : AH} {L : SL} (hL : LandM h L) {p : Nat} (hp : p < lP L) : hI h 241 (8 + 3 * p + 1) = nI (lH L p) := (hL.2.2.2.2.1 p hp).2.1
theorem LandM.Y {h : AH} {L : SL} (hL : LandM h L) {p : Nat} (hp : p < lP L) : hI h 241 (8 + 3 * p + 2) = nI (lY L p) := (hL.2.2.2.2.1 p hp).2.2.1
theorem LandM.O {h : AH} {L : SL} (hL : LandM h L) {p w : Nat} (hp : p < lP L) (hw : w < lS L) : hI h 241 (26 + 5 * p + w) = nI (lO L p w) := (hL.2.2.2.2.1 p hp).2.2.2.1 w hw
theorem LandM.G {h : AH} {L : SL} (hL : LandM h L) {p q : Nat} (hp : p < lP L) (hq : q < lP L) : (if 0 < hI h 241 (60 + 6 * p + q) then hI h 241 (60 + 6 * p + q) - 1 else 0) = nI (lG L p q) := (hL.2.2.2.2.1 p hp).2.2.2.2 q hq
theorem SceneM.T {h : AH} {b : Nat} {L : SL} {S : SS} (hS : SceneM h b L S) : hI h 251 b = sT S := hS.1
theorem SceneM.W {h : AH} {b : Nat} {L : SL} {S : SS} (hS : SceneM h b L S) : hI h 251 (b + 1) = sW S := hS.2.1
theorem SceneM.E {h : AH} {b : Nat} {L : SL} {S : SS} (hS : SceneM h b L S) : hI h 251 (b + 2) = sE S := hS.2.2.1
theorem SceneM.D {h : AH} {b : Nat} {L : SL} {S : SS} (hS : SceneM h b L S) : hI h 251 (b + 3) = sD S := hS.2.2.2.1
theorem SceneM.A {h : AH} {b : Nat} {L : SL} {S : SS} (hS : SceneM h b L S) {p : Nat} (hp : p < lP L) : hI h 251 (b + 4 + p) = nI (sA S p) := (hS.2.2.2.2.1 p hp).1
theorem SceneM.Y {h : AH} {b : Nat} {L : SL} {S : SS} (hS : SceneM h b L S) {p : Nat} (hp : p < lP L) : hI h 251 (b + 10 + p) = sY S p := (hS.2.2.2.2.1 p hp).2.1
theorem SceneM.B {h : AH} {b : Nat} {L : SL} {S : SS} (hS : SceneM h b L S) {p : Nat} (hp : p < lP L) : hI h 251 (b + 16 + p) = sB S p := (hS.2.2.2.2.1 p hp).2.2
theorem SceneM.U {h : AH} {b : Nat} {L : SL} {S : SS} (hS : SceneM h b L S) {s : Nat} (hs : s < 4) : ecM (fun p => hI h 251 (b + 22 + p)) (fun p => hI h 251 (b + 28 + p)) (nI s) (lP L) = sU S s := hS.2.2.2.2.2 s hs
/-! places as numbers -/
theorem ix_add {a b : Int32} {j k : Nat} (h1 : a = nI j) (h2 : b = nI k) : a + b = nI (j + k) := by rw [h1, h2, nI_add]
theorem ix_mul {a b : Int32} {j k : Nat} (h1 : a = nI j) (h2 : b = nI k) : a * b = nI (j * k) := by rw [h1, h2, nI_mul]
theorem ix_nI (j : Nat) : nI j = nI j := rfl
theorem ix_lit (n : Nat) : (@OfNat.ofNat Int32 n _) = nI (@OfNat.ofNat Nat n (instOfNatNat n)) := rfl
theorem shO {a p : Nat} (ha : a = 151 ∨ a = 179) (hp : p < 6) : SH (a + p) = (11, 5) := by
  rcases ha with rfl | rfl
  · exact (by decide +kernel : ∀ p, p < 6 → SH (151 + p) = (11, 5)) p hp
  · exact (by decide +kernel : ∀ p, p < 6 → SH (179 + p) = (11, 5)) p hp
theorem shG {a p : Nat} (ha : a = 158 ∨ a = 186) (hp : p < 6) : SH (a + p) = (11, 6) := by
  rcases ha with rfl | rfl
  · exact (by decide +kernel : ∀ p, p < 6 → SH (158 + p) = (11, 6)) p hp
  · exact (by decide +kernel : ∀ p, p < 6 → SH (186 + p) = (11, 6)) p hp
theorem R_ro {d : Nat} {Q : Option Value → AH → Prop} {μ pc nx x y : Nat} {vv : Value} {lv : AL} {st : List Value} {h : AH} {a m j : Nat} {iv : Int32} {b : Nat} (e : KT μ pc = some (.aaload, nx, x, y, vv)) (hr : RA a = some (b, 1)) (hs : SH a = (17, m)) (hi : iv = nI j) (hj : j < m) (w : Rw d Q (μ, nx, lv, .ref (b + j) :: st, 262, h)) : Rw d Q (μ, pc, lv, .int iv :: .ref a :: st, 262, h) := by
  refine R_al e hr hs (Or.inr rfl) hi hj ?_
  rw [Nat.one_mul]; exact w
