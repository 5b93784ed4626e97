/-! the whole world: the class's part and the model's -/
abbrev SH' : Type := Nat × (Nat → Int32)
abbrev SB' : Type := Nat × (Nat → SS)
abbrev SM' : Type := Nat → Option (SS × SH')
abbrev SD' : Type := Nat × (Nat → Nat × Nat × Nat)
abbrev ST' : Type := Nat × (Nat → Nat)
abbrev SN' : Type := Nat × (Nat → Nat × List Nat × Nat)
def CoreC (h : AH) (a g : Nat) : Prop := (a = 143 ∨ a = 171) ∧ (g = 199 ∨ g = 203) ∧ hR h 0 8 = some a ∧ hR h 0 9 = some (314 - a) ∧ hR h 0 10 = some g ∧ hR h 0 11 = some (402 - g)
def HrdC (h : AH) (b : Nat) (H : SH') : Prop := hI h b 10 = nI H.1 ∧ ∀ i, i < H.1 → hI h (b + 6) i = H.2 i
def HrdM (h : AH) (b : Nat) (H : SH') : Prop := hI h 251 (b + 34) = nI H.1 ∧ ∀ i, i < H.1 → hI h 251 (b + 35 + i) = H.2 i
def HOK (L : SL) (H : SH') : Prop := H.1 ≤ 5 ∧ ∀ i, i < H.1 → SayOK L (H.2 i)
def MrkC (h : AH) (L : SL) (M : SM') : Prop := (∀ m, m < 4 → bt (hI h 0 12) m = (M m).isSome) ∧ ∀ m, m < 4 → ∀ T, M m = some T → SceneC h (207 + 7 * m) L T.1 ∧ HrdC h (207 + 7 * m) T.2
def MrkM (h : AH) (L : SL) (M : SM') : Prop := ∀ m, m < 4 → hI h 252 m = b2i (M m).isSome ∧ ∀ T, M m = some T → SceneM h (40 * (1 + m)) L T.1 ∧ HrdM h (40 * (1 + m)) T.2
def DayC (h : AH) (g : Nat) (D : SD') : Prop := hI h g 3 = nI D.1 ∧ ∀ k, k < D.1 → hR h (g + 1) k = some (1017 + (D.2 k).1) ∧ hI h (g + 2) k = nI (D.2 k).2.1 ∧ hI h (g + 3) k = nI (D.2 k).2.2
def DayM (h : AH) (D : SD') : Prop := hI h 248 0 = nI D.1 ∧ ∀ k, k < D.1 → hI h 248 (1 + 3 * k) = nI (D.2 k).1 ∧ hI h 248 (2 + 3 * k) = nI (D.2 k).2.1 ∧ hI h 248 (3 + 3 * k) = nI (D.2 k).2.2
def LineOK (L : SL) (l : Nat × Nat × Nat) : Prop := l.1 ≤ 5 ∧ (l.1 ≠ 5 → l.2.1 < lP L) ∧ (l.1 = 0 → l.2.2 < lS L) ∧ (l.1 = 2 → l.2.2 < lQ L) ∧ (l.1 = 3 ∨ l.1 = 4 → l.2.2 < lP L ∧ l.2.2 ≠ l.2.1) ∧ l.2.1 < 1000 ∧ l.2.2 < 1000
def DayOK (L : SL) (D : SD') : Prop := D.1 ≤ 30 ∧ ∀ k, k < D.1 → LineOK L (D.2 k)
def TapC (h : AH) (T : ST') : Prop := hI h 1 1 = nI T.1 ∧ ∀ i, i < T.1 → hI h 2 i = nI (T.2 i)
def TapM (h : AH) (T : ST') : Prop := hI h 235 2 = nI T.1 ∧ ∀ i, i < T.1 → hI h 236 i = nI (T.2 i)
def TapOK (T : ST') : Prop := T.1 ≤ 1000 ∧ ∀ i, i < T.1 → T.2 i = 10 ∨ (32 ≤ T.2 i ∧ T.2 i ≤ 126)
/-- letters, packed as the class and as the model do -/
def pkC (l : List Nat) : Nat := l.foldl (fun v c => 256 * v + c) 0
def pkM (l : List Nat) : Nat := l.foldl (fun v c => 37 * v + (c - 96)) 0
def lN64 (n : Nat) : Int64 := Int64.ofNat n
def NamC (h : AH) (a : Nat) (N : SN') : Prop := hI h a 3 = nI N.1 ∧ ∀ k, k < N.1 → hJ h (a + 1) k = lN64 (pkC (N.2 k).2.1) ∧ hI h (a + 2) k = nI (N.2 k).2.2 ∧ hR h (a + 3) k = some (1007 + (N.2 k).1)
def NamM (h : AH) (N : SN') : Prop := hI h 235 18 = nI N.1 ∧ ∀ k, k < N.1 → hJ h 244 k = lN64 (pkM (N.2 k).2.1) ∧ hI h 246 k = nI (20 * (N.2 k).1 + (N.2 k).2.2)
def NamOK (L : SL) (N : SN') : Prop := N.1 ≤ 15 ∧ ∀ k, k < N.1 → (N.2 k).1 ≤ 2 ∧ (N.2 k).2.1.length ≤ 8 ∧ (N.2 k).2.1 ≠ [] ∧ (∀ c, c ∈ (N.2 k).2.1 → 97 ≤ c ∧ c ≤ 122) ∧ ((N.2 k).1 = 0 → (N.2 k).2.2 < lS L) ∧ ((N.2 k).1 = 1 → (N.2 k).2.2 < lQ L) ∧ ((N.2 k).1 = 2 → (N.2 k).2.2 < lP L)
/-- the pairings of six, as pairs' bits, in the order of the rows of who is with whom -/
def prow : Nat → Nat → Nat → Nat → List Nat
  | 0, _, _, pairs => [pairs]
  | f + 1, p, settled, pairs => prow f (p + 1) settled pairs ++ (if settled.testBit p then [] else ((List.range 6).filter (fun q => decide (p < q) && !settled.testBit q)).flatMap (fun q => prow f (p + 1) (settled ||| 2 ^ q) (pairs ||| 2 ^ pr p q)))
def PRS : List Nat := prow 6 0 0 0
def MatC (h : AH) : Prop := ∀ i, i < 76 → hI h 137 i = nI (PRS.getD i 0)
def WOK (L : SL) (S : SS) (H : SH') (B : SB') (M : SM') (D : SD') (T : ST') (N : SN') : Prop := LandOK L ∧ SceneOK L S ∧ HOK L H ∧ (B.1 ≤ 16 ∧ ∀ k, k < B.1 → SceneOK L (B.2 k)) ∧ (∀ m, m < 4 → ∀ U, M m = some U → SceneOK L U.1 ∧ HOK L U.2) ∧ DayOK L D ∧ TapOK T ∧ NamOK L N
def RC (h : AH) (L : SL) (S : SS) (H : SH') (B : SB') (M : SM') (D : SD') (T : ST') (N : SN') : Prop := ∃ a g, CoreC h a g ∧ LandC h a L ∧ SceneC h 7 L S ∧ HrdC h 7 H ∧ HisC h L B.1 B.2 ∧ MrkC h L M ∧ DayC h g D ∧ TapC h T ∧ NamC h a N ∧ St h ∧ MatC h
def RM (h : AH) (L : SL) (S : SS) (H : SH') (B : SB') (M : SM') (D : SD') (T : ST') (N : SN') : Prop := LandM h L ∧ SceneM h 0 L S ∧ HrdM h 0 H ∧ HisM h L B.1 B.2 ∧ MrkM h L M ∧ DayM h D ∧ TapM h T ∧ NamM h N
theorem PRS_76 : PRS.length = 76 := by decide +kernel
/-! frames -/
section
variable {X : Nat → Bool} {h h' : AH} {L : SL} {S : SS} {a b g : Nat}
theorem CoreC.fr (c : CoreC h a g) (f : Fr X h h') (h0 : X 0 = false) : CoreC h' a g := by
  unfold CoreC at *; rw [f.R h0]; exact c
theorem HrdC.fr {H : SH'} (c : HrdC h b H) (f : Fr X h h') (h0 : X b = false) (h6 : X (b + 6) = false) : HrdC h' b H := by
  unfold HrdC at *; rw [f.I h0, f.I h6]; exact c
theorem HrdC.fr2 {H : SH'} (c : HrdC h b H) (f : Fr X h h') (h0 : hI h' b 10 = hI h b 10) (h6 : X (b + 6) = false) : HrdC h' b H := by
  unfold HrdC at *; rw [h0, f.I h6]; exact c
theorem HrdM.fr {H : SH'} (c : HrdM h b H) (f : Fr X h h') (h0 : X 251 = false) : HrdM h' b H := by
  unfold HrdM at *; rw [f.I h0]; exact c
theorem HisC.fr {n : Nat} {hs : Nat → SS} (c : HisC h L n hs) (f : Fr X h h') (h0 : X 21 = false) (h1 : ∀ q, 23 ≤ q → q ≤ 134 → X q = false) : HisC h' L n hs := by
  obtain ⟨hn, x, hx, e1, e2, e3⟩ := c
  exact ⟨hn, x, hx, by rw [f.I h0]; exact e1, by rw [f.I h0]; exact e2, fun k hk => (e3 k hk).fr f (h1 _ (by omega) (by omega)) (h1 _ (by omega) (by omega)) (h1 _ (by omega) (by omega)) (h1 _ (by omega) (by omega)) (h1 _ (by omega) (by omega))⟩
theorem HisM.fr {n : Nat} {hs : Nat → SS} (c : HisM h L n hs) (f : Fr X h h') (h0 : hI h' 235 25 = hI h 235 25) (h1 : X 251 = false) : HisM h' L n hs := ⟨h0.trans c.1, fun k hk => (c.2 k hk).fr f h1⟩
theorem MrkC.fr {M : SM'} (c : MrkC h L M) (f : Fr X h h') (h0 : X 0 = false) (h1 : ∀ q, 207 ≤ q → q ≤ 234 → X q = false) : MrkC h' L M := by
  refine ⟨by rw [f.I h0]; exact c.1, fun m hm T hT => ?_⟩
  obtain ⟨c1, c2⟩ := c.2 m hm T hT
  exact ⟨c1.fr f (h1 _ (by omega) (by omega)) (h1 _ (by omega) (by omega)) (h1 _ (by omega) (by omega)) (h1 _ (by omega) (by omega)) (h1 _ (by omega) (by omega)), c2.fr f (h1 _ (by omega) (by omega)) (h1 _ (by omega) (by omega))⟩
theorem MrkM.fr {M : SM'} (c : MrkM h L M) (f : Fr X h h') (h0 : X 252 = false) (h1 : X 251 = false) : MrkM h' L M := by
  intro m hm
  rw [f.I h0]
  exact ⟨(c m hm).1, fun T hT => ⟨((c m hm).2 T hT).1.fr f h1, ((c m hm).2 T hT).2.fr f h1⟩⟩
theorem DayC.fr {D : SD'} (c : DayC h g D) (f : Fr X h h') (h0 : X g = false) (h1 : X (g + 1) = false) (h2 : X (g + 2) = false) (h3 : X (g + 3) = false) : DayC h' g D := by
  unfold DayC at *; rw [f.I h0, f.R h1, f.I h2, f.I h3]; exact c
theorem DayM.fr {D : SD'} (c : DayM h D) (f : Fr X h h') (h0 : X 248 = false) : DayM h' D := by
  unfold DayM at *; rw [f.I h0]; exact c
theorem TapC.fr {T : ST'} (c : TapC h T) (f : Fr X h h') (h0 : X 1 = false) (h1 : X 2 = false) : TapC h' T := by
  unfold TapC at *; rw [f.I h0, f.I h1]; exact c
theorem TapM.fr {T : ST'} (c : TapM h T) (f : Fr X h h') (h0 : hI h' 235 2 = hI h 235 2) (h1 : X 236 = false) : TapM h' T := by
  unfold TapM at *; rw [h0, f.I h1]; exact c
theorem NamC.fr {N : SN'} (c : NamC h a N) (f : Fr X h h') (h0 : X a = false) (h1 : X (a + 1) = false) (h2 : X (a + 2) = false) (h3 : X (a + 3) = false) : NamC h' a N := by
  unfold NamC at *; rw [f.I h0, f.J h1, f.I h2, f.R h3]; exact c
theorem NamM.fr {N : SN'} (c : NamM h N) (f : Fr X h h') (h0 : hI h' 235 18 = hI h 235 18) (h1 : X 244 = false) (h2 : X 246 = false) : NamM h' N := by
  unfold NamM at *; rw [h0, f.J h1, f.I h2]; exact c
theorem MatC.fr (c : MatC h) (f : Fr X h h') (h0 : X 137 = false) : MatC h' := by
  unfold MatC at *; rw [f.I h0]; exact c
variable {H : SH'} {B : SB'} {M : SM'} {D : SD'} {T : ST'} {N : SN'}
/-- what the class writes on, and nobody asks for -/
def xcs (q : Nat) : Bool := xsc q || Nat.beq q 6 || Nat.beq q 11 || (Nat.ble 14 q && Nat.ble q 20) || Nat.beq q 136 || (Nat.ble 138 q && Nat.ble q 142)
theorem xcs_f {q : Nat} (h : (7 ≤ q ∧ q ≤ 10) ∨ q = 12 ∨ q = 13 ∨ q ≤ 5 ∨ (21 ≤ q ∧ q ≤ 135) ∨ q = 137 ∨ (143 ≤ q ∧ q ≠ 167 ∧ q ≠ 170 ∧ q ≠ 195 ∧ q ≠ 198)) : xcs q = false := by
  cases e : xcs q with
  | false => rfl
  | true =>
    simp only [xcs, xsc, Bool.or_eq_true, Bool.and_eq_true, Nat.beq_eq, Nat.ble_eq] at e
    omega
theorem RC.fr (hO : LandOK L) (c : RC h L S H B M D T N) (f : Fr xcs h h') : RC h' L S H B M D T N := by
  obtain ⟨a, g, c1, c2, c3, c4, c5, c6, c7, c8, c9, c10, c11⟩ := c
  have ha := c1.1
  have hg := c1.2.1
  refine ⟨a, g, c1.fr f rfl, c2.fr hO f (fun i h1 h2 => xcs_f (by omega)), c3.fr f rfl rfl rfl rfl rfl, c4.fr f rfl rfl, c5.fr f rfl (fun q _ _ => xcs_f (by omega)), c6.fr f rfl (fun q _ _ => xcs_f (by omega)), c7.fr f (xcs_f (by omega)) (xcs_f (by omega)) (xcs_f (by omega)) (xcs_f (by omega)), c8.fr f rfl rfl, c9.fr f (xcs_f (by omega)) (xcs_f (by omega)) (xcs_f (by omega)) (xcs_f (by omega)), c10.fr f rfl rfl, c11.fr f rfl⟩
/-- the scene that is now has changed -/
theorem xs_f {q : Nat} (h : q < 7 ∨ 12 < q) (h2 : q ≠ 167 ∧ q ≠ 170 ∧ q ≠ 195 ∧ q ≠ 198) : xs 7 q = false := by
  cases e : xs 7 q with
  | false => rfl
  | true =>
    simp only [xs, xsc, Bool.or_eq_true, Bool.and_eq_true, Nat.beq_eq, Nat.ble_eq] at e
    omega
theorem RC.now {S' : SS} (hO : LandOK L) (c : RC h L S H B M D T N) (f : Fr (xs 7) h h') (e : hI h' 7 10 = hI h 7 10) (hS : SceneC h' 7 L S') : RC h' L S' H B M D T N := by
  obtain ⟨a, g, c1, c2, c3, c4, c5, c6, c7, c8, c9, c10, c11⟩ := c
  have ha := c1.1
  have hg := c1.2.1
  refine ⟨a, g, c1.fr f rfl, c2.fr hO f (fun i h1 h2 => xs_f (by omega) (by omega)), hS, c4.fr2 f e rfl, c5.fr f rfl (fun q _ _ => xs_f (by omega) (by omega)), c6.fr f rfl (fun q _ _ => xs_f (by omega) (by omega)), c7.fr f (xs_f (by omega) (by omega)) (xs_f (by omega) (by omega)) (xs_f (by omega) (by omega)) (xs_f (by omega) (by omega)), c8.fr f rfl rfl, c9.fr f (xs_f (by omega) (by omega)) (xs_f (by omega) (by omega)) (xs_f (by omega) (by omega)) (xs_f (by omega) (by omega)), c10.fr f rfl rfl, c11.fr f rfl⟩
theorem xhis_f {q : Nat} (h : q < 21 ∨ q = 22 ∨ 134 < q) : xhis q = false := by
  cases e : xhis q with
  | false => rfl
  | true =>
    simp only [xhis, Bool.or_eq_true, Bool.and_eq_true, Nat.beq_eq, Nat.ble_eq] at e
    omega
theorem RC.his {B' : SB'} (hO : LandOK L) (c : RC h L S H B M D T N) (f : Fr xhis h h') (hB : HisC h' L B'.1 B'.2) : RC h' L S H B' M D T N := by
  obtain ⟨a, g, c1, c2, c3, c4, c5, c6, c7, c8, c9, c10, c11⟩ := c
  have ha := c1.1
  have hg := c1.2.1
  refine ⟨a, g, c1.fr f rfl, c2.fr hO f (fun i h1 h2 => xhis_f (by omega)), c3.fr f rfl rfl rfl rfl rfl, c4.fr f rfl rfl, hB, c6.fr f rfl (fun q _ _ => xhis_f (by omega)), c7.fr f (xhis_f (by omega)) (xhis_f (by omega)) (xhis_f (by omega)) (xhis_f (by omega)), c8.fr f rfl rfl, c9.fr f (xhis_f (by omega)) (xhis_f (by omega)) (xhis_f (by omega)) (xhis_f (by omega)), c10.fr f rfl rfl, c11.fr f rfl⟩
/-- the model's part does not see what the class does -/
theorem RM.fr (c : RM h L S H B M D T N) (f : Fr X h h') (hX : ∀ q, 235 ≤ q → q ≤ 260 → X q = false) : RM h' L S H B M D T N := by
  obtain ⟨c1, c2, c3, c4, c5, c6, c7, c8⟩ := c
  have e : ∀ k, hI h' 235 k = hI h 235 k := fun k => by rw [f.I (hX 235 (by omega) (by omega))]
  exact ⟨c1.fr f (hX _ (by omega) (by omega)) (hX _ (by omega) (by omega)) (hX _ (by omega) (by omega)), c2.fr f (hX _ (by omega) (by omega)), c3.fr f (hX _ (by omega) (by omega)), c4.fr f (e _) (hX _ (by omega) (by omega)), c5.fr f (hX _ (by omega) (by omega)) (hX _ (by omega) (by omega)), c6.fr f (hX _ (by omega) (by omega)), c7.fr f (e _) (hX _ (by omega) (by omega)), c8.fr f (e _) (hX _ (by omega) (by omega)) (hX _ (by omega) (by omega))⟩
end
