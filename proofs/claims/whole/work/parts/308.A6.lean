section
variable {X : Nat → Bool} {h h' : AH} {a b : Nat} {L : SL} {S : SS}
theorem LawC.fr {c : List Int32} (hf : Fr X h h') (h1 : X b = false) (h2 : X (b + 1) = false) (hC : LawC h b c) : LawC h' b c := by
  unfold LawC at *
  rw [hf.I h1, hf.I h2]; exact hC
theorem LandC.fr (hL : LandC h a L) (hO : LandOK L) (hf : Fr X h h') (hX : ∀ i, i < 27 → i ≠ 24 → X (a + i) = false) : LandC h' a L := by
  obtain ⟨e1, e2, e3, e4, e5, e6, e7⟩ := hL
  have o3 := hO.2.2.1
  have g0 := hX 0 (by omega) (by omega)
  have e := hf.I g0
  rw [Nat.add_zero] at e
  refine ⟨by rw [e]; exact e1, by rw [e]; exact e2, by rw [e]; exact e3, by rw [e]; exact e4, fun p hp => ?_, e6.fr hf (hX 22 (by omega) (by omega)) (hX 23 (by omega) (by omega)), e7.fr hf (hX 25 (by omega) (by omega)) (hX 26 (by omega) (by omega))⟩
  rw [hf.I (hX 4 (by omega) (by omega)), hf.I (hX 5 (by omega) (by omega)), hf.I (hX 6 (by omega) (by omega)), hf.I (b := a + 8 + p) (by rw [Nat.add_assoc]; exact hX (8 + p) (by omega) (by omega)), hf.I (b := a + 15 + p) (by rw [Nat.add_assoc]; exact hX (15 + p) (by omega) (by omega))]
  exact e5 p hp
theorem SceneC.fr (hS : SceneC h b L S) (hf : Fr X h h') (h0 : X b = false) (h1 : X (b + 1) = false) (h2 : X (b + 2) = false) (h3 : X (b + 3) = false) (h5 : X (b + 5) = false) : SceneC h' b L S := by
  unfold SceneC at *
  rw [hf.I h0, hf.I h1, hf.I h2, hf.I h3, hf.I h5]; exact hS
theorem LawM.fr {j : Nat} {df c : List Int32} (hf : Fr X h h') (h1 : X 241 = false) (h2 : X 242 = false) (h3 : X 243 = false) (hM : LawM h j df c) : LawM h' j df c := by
  unfold LawM CodeM at *
  rw [hf.I h1, hf.I h2, hf.I h3]; exact hM
theorem LandM.fr (hL : LandM h L) (hf : Fr X h h') (h1 : X 241 = false) (h2 : X 242 = false) (h3 : X 243 = false) : LandM h' L := by
  obtain ⟨e1, e2, e3, e4, e5, e6, e7⟩ := hL
  refine ⟨by rw [hf.I h1]; exact e1, by rw [hf.I h1]; exact e2, by rw [hf.I h1]; exact e3, by rw [hf.I h1]; exact e4, by rw [hf.I h1]; exact e5, e6.fr hf h1 h2 h3, e7.fr hf h1 h2 h3⟩
theorem SceneM.fr (hS : SceneM h b L S) (hf : Fr X h h') (h0 : X 251 = false) : SceneM h' b L S := by
  unfold SceneM at *
  rw [hf.I h0]; exact hS
/-- what the class's laws write on -/
def xsc (q : Nat) : Bool := Nat.beq q 167 || Nat.beq q 170 || Nat.beq q 195 || Nat.beq q 198
/-- a scene but what was heard, and the laws' piles -/
def xs (b q : Nat) : Bool := xsc q || (Nat.ble b q && Nat.ble q (b + 5))
theorem Fr.sc {b : Nat} (hf : Fr xsc h h') : Fr (xs b) h h' := hf.mono (fun q hq => by unfold xs; rw [hq]; rfl)
end
/-- a law's worth for two, by who is wed -/
def law3 (L : SL) (c : List Int32) (w : Int32) (p q : Nat) : Int32 := xw c (nI (if p < q then lG L p q else lG L q p)) (nI (if p < q then lG L q p else lG L p q)) (nI (wvs w p + wvs w q))
def clampP (v : Int32) : Int32 := if v < 0 then 0 else if 999 < v then 999 else v
def price (L : SL) (w : Int32) (p q : Nat) : Int32 := clampP (law3 L (lD L) w p q)
def setW (S : SS) (w : Int32) : SS := (sT S, w, sE S, sD S, sA S, sY S, sB S, sU S)
/-- one pair in a moment: who is wed, and who newly -/
def wst (L : SL) (S : SS) (u : Nat → Int32) (p q : Nat) (s : Int32 × Int32) : Int32 × Int32 := if (0 ≤ u p ∧ u p = u q) ∧ snap L (setW S s.1) p q = true ∧ ¬ law3 L (lC L) s.1 p q = 0 then (s.1 ||| nI (2 ^ pr p q), s.2 ||| nI (2 ^ pr p q)) else s
def wrow (L : SL) (S : SS) (u : Nat → Int32) (p : Nat) (s : Int32 × Int32) : Int32 × Int32 := lp (fun i s => wst L S u p (p + 1 + i) s) (lP L - (p + 1)) s
def wall (L : SL) (S : SS) (u : Nat → Int32) : Int32 × Int32 := lp (wrow L S u) (lP L) (sW S, 0)
/-- a moment -/
def momS (L : SL) (S : SS) : SS := (sT S + 1, (wall L S (utt L S)).1, sE S, sD S, sA S, (fun _ => -1), sY S, fun s => ecM (utt L S) (fun p => nI (sA S p)) (nI s) (lP L))
def momF (L : SL) (S : SS) : Int32 := (wall L S (utt L S)).2
