/-! a province that is being told: how many sayings, places, people, people told in full; of these kind, home, shyness; odds; likings; dispensations; which likings were told; names; the laws, and whether they were told -/
abbrev PD : Type := (Nat × Nat × Nat × Nat) × (Nat → Nat × Nat × Nat) × (Nat → Nat → Nat) × (Nat → Nat → Nat) × Int32 × (Nat → Int32) × SN' × (List Int32 × Bool) × (List Int32 × Bool)
def dS (D : PD) : Nat := D.1.1
def dQ (D : PD) : Nat := D.1.2.1
def dP (D : PD) : Nat := D.1.2.2.1
def dM (D : PD) : Nat := D.1.2.2.2
def dX (D : PD) : Nat → Nat × Nat × Nat := D.2.1
def dO (D : PD) : Nat → Nat → Nat := D.2.2.1
def dG (D : PD) : Nat → Nat → Nat := D.2.2.2.1
def dE (D : PD) : Int32 := D.2.2.2.2.1
def dT (D : PD) : Nat → Int32 := D.2.2.2.2.2.1
def dN (D : PD) : SN' := D.2.2.2.2.2.2.1
def dC (D : PD) : List Int32 × Bool := D.2.2.2.2.2.2.2.1
def dD (D : PD) : List Int32 × Bool := D.2.2.2.2.2.2.2.2
def D0 : PD := ((0, 0, 0, 0), (fun _ => (0, 0, 0)), (fun _ _ => 0), (fun _ _ => 0), 0, (fun _ => 0), (0, fun _ => (0, [], 0)), ([1], false), ([1, -1, -9, -2, -9], false))
def up1 {α : Type} (f : Nat → α) (i : Nat) (v : α) : Nat → α := fun j => if j = i then v else f j
def up3 {α : Type} (f : Nat → Nat → α) (i k : Nat) (v : α) : Nat → Nat → α := fun j => if j = i then up1 (f j) k v else f j
/-- how many of a sort -/
def dct (D : PD) (σ : Nat) : Nat := if σ = 0 then dS D else if σ = 1 then dQ D else dP D
def dmx (σ : Nat) : Nat := if σ = 0 then 5 else if σ = 1 then 4 else 6
def addN (D : PD) (σ : Nat) (l : List Nat) : PD := ((if σ = 0 then dS D + 1 else dS D, if σ = 1 then dQ D + 1 else dQ D, if σ = 2 then dP D + 1 else dP D, dM D), dX D, dO D, dG D, dE D, dT D, ((dN D).1 + 1, up1 (dN D).2 (dN D).1 (σ, l, dct D σ)), dC D, dD D)
def setX (D : PD) (p : Nat) (x : Nat × Nat × Nat) : PD := ((dS D, dQ D, dP D, p + 1), up1 (dX D) p x, dO D, dG D, dE D, dT D, dN D, dC D, dD D)
def setO (D : PD) (p w v : Nat) : PD := (D.1, dX D, up3 (dO D) p w v, dG D, dE D, dT D, dN D, dC D, dD D)
def setG (D : PD) (p q v : Nat) : PD := (D.1, dX D, dO D, up3 (dG D) p q v, dE D, up1 (dT D) p (dT D p ||| nI (2 ^ q)), dN D, dC D, dD D)
def setK (D : PD) (p q : Nat) : PD := (D.1, dX D, dO D, dG D, dE D ||| nI (2 ^ pr p q), dT D, dN D, dC D, dD D)
def setC (D : PD) (k : Nat) (c : List Int32) : PD := (D.1, dX D, dO D, dG D, dE D, dT D, dN D, if k = 0 then (c, true) else dC D, if k = 0 then dD D else (c, true))
/-! the lines of a province -/
def lnN (K : TKs) (σ : Nat) (s : RS) (D : PD) : RS × PD × Nat :=
  let s2 := sp K (bl K (decide (dmx σ ≤ dct D σ)) 5 s)
  let s4 := bl K (hsN (dN D) (tl K s2.1)) 3 (bl K (!isNm (tk K s2.1)) 1 s2)
  (sp K s4, if s4.2 = 0 then addN D σ (tl K s2.1) else D, if s4.2 = 0 then dct D σ else 0)
def lnX (K : TKs) (s : RS) (D : PD) : RS × PD :=
  let z := lnN K 2 s D
  let s3 := ex K 10 (sp K (bl K (!decide (rol (tk K z.1.1) = 5)) 1 z.1))
  let y := rk K (dN z.2.1) 1 s3
  let s5 := ex K 11 y.1
  let s6 := rn K 0 s5
  (s6, if s6.2 = 0 then setX z.2.1 z.2.2 ((mea (tk K z.1.1)).toNatClampNeg, y.2.toNatClampNeg, tn K s5.1) else z.2.1)
def lnO (K : TKs) (s : RS) (D : PD) : RS × PD :=
  let y := rk K (dN D) 2 (sp K s)
  let x := lu K (dN D) 0 y.1
  let s4 := sp K (bl K (decide (x.1.2 = 0) && decide (0 < dO D y.2.toNatClampNeg x.2.toNatClampNeg)) 3 x.1)
  let s5 := rn K 1 s4
  (s5, if s5.2 = 0 then setO D y.2.toNatClampNeg x.2.toNatClampNeg (tn K s4.1) else D)
def lnG (K : TKs) (s : RS) (D : PD) : RS × PD :=
  let y := rk K (dN D) 2 (sp K s)
  let x := lu K (dN D) 2 y.1
  let s4 := sp K (bl K (decide (x.1.2 = 0) && (decide (x.2 = y.2) || bt (dT D y.2.toNatClampNeg) x.2.toNatClampNeg)) 3 x.1)
  let s5 := rn K 0 s4
  (s5, if s5.2 = 0 then setG D y.2.toNatClampNeg x.2.toNatClampNeg (tn K s4.1) else D)
def lnK (K : TKs) (s : RS) (D : PD) : RS × PD :=
  let y := rk K (dN D) 2 (sp K s)
  let x := lu K (dN D) 2 y.1
  let s4 := sp K (bl K (decide (x.1.2 = 0) && (decide (x.2 = y.2) || bt (dE D) (pr y.2.toNatClampNeg x.2.toNatClampNeg))) 3 x.1)
  (s4, if s4.2 = 0 then setK D y.2.toNatClampNeg x.2.toNatClampNeg else D)
def lnL (K : TKs) (k : Nat) (s : RS) (D : PD) : RS × PD :=
  let z := eE K (sp K (bl K (if k = 0 then (dC D).2 else (dD D).2) 3 s))
  (z.1, setC D k z.2)
def lnA (K : TKs) (s : RS) (D : PD) : RS × PD :=
  let t := tk K s.1
  if t = 7 then ((lnN K 0 s D).1, (lnN K 0 s D).2.1) else if t = 8 then ((lnN K 1 s D).1, (lnN K 1 s D).2.1) else if t = 9 then lnX K s D else if t = 12 then lnO K s D else if t = 13 then lnG K s D else if t = 14 then lnK K s D else if t = 15 then lnL K 0 s D else if t = 16 then lnL K 1 s D else (bl K true 1 s, D)
def lns (K : TKs) : Nat → RS → PD → RS × PD
  | 0, s, D => (s, D)
  | m + 1, s, D => if s.2 = 0 ∧ tk K s.1 ≠ 0 then lns K m (ex K 6 (lnA K s D).1) (lnA K s D).2 else (s, D)
def prvA (K : TKs) : RS × PD := lns K 1001 (0, 0) D0
/-- what must hold of a draft, at any time -/
def PdO (D : PD) : Prop := dS D ≤ 5 ∧ dQ D ≤ 4 ∧ dP D ≤ 6 ∧ dM D ≤ 6 ∧ (dN D).1 ≤ dS D + dQ D + dP D ∧ (∀ k, k < (dN D).1 → ((dN D).2 k).1 ≤ 2 ∧ LtO ((dN D).2 k).2.1 ∧ ((dN D).2 k).2.2 < dct D ((dN D).2 k).1) ∧ (∀ j k, j < k → k < (dN D).1 → ((dN D).2 j).2.1 ≠ ((dN D).2 k).2.1)
theorem dct_le {D : PD} (o : PdO D) (σ : Nat) : dct D σ ≤ 6 := by
  obtain ⟨o1, o2, o3, -⟩ := o
  unfold dct
  split
  · omega
  · split <;> omega
theorem PdO.nm {D : PD} (o : PdO D) : NmO (dN D) := by
  have od := dct_le o
  obtain ⟨o1, o2, o3, o4, o5, o6, o7⟩ := o
  exact ⟨by omega, fun k hk => ⟨(o6 k hk).1, (o6 k hk).2.1, Nat.lt_of_lt_of_le (o6 k hk).2.2 (od _)⟩⟩
/-! the class's draft -/
def PdC (h : AH) (a : Nat) (D : PD) : Prop := hI h a 4 = nI (dS D) ∧ hI h a 5 = nI (dQ D) ∧ hI h a 6 = nI (dP D) ∧ hI h a 13 = dE D ∧
  (∀ p, p < dM D → hI h (a + 4) p = nI (dX D p).1 ∧ hI h (a + 5) p = nI (dX D p).2.1 ∧ hI h (a + 6) p = nI (dX D p).2.2) ∧
  (∀ p, p < 6 → (∀ w, w < 5 → hI h (a + 8 + p) w = nI (dO D p w)) ∧ (∀ q, q < 6 → hI h (a + 15 + p) q = nI (dG D p q)) ∧ hI h (a + 21) p = dT D p) ∧
  NamC h a (dN D) ∧ (LawC h (a + 22) (dC D).1 ∧ hI h (a + 22) 3 = b2i (dC D).2) ∧ (LawC h (a + 25) (dD D).1 ∧ hI h (a + 25) 3 = b2i (dD D).2)
theorem PdC.fr {h h' : AH} {a : Nat} {D : PD} {X : Nat → Bool} (c : PdC h a D) (f : Fr X h h') (hX : ∀ i, i < 27 → i ≠ 24 → X (a + i) = false) : PdC h' a D := by
  obtain ⟨c1, c2, c3, c4, c5, c6, c7, c8, c9⟩ := c
  have x0 := hX 0 (by omega) (by omega)
  rw [Nat.add_zero] at x0
  refine ⟨by rw [f.I x0]; exact c1, by rw [f.I x0]; exact c2, by rw [f.I x0]; exact c3, by rw [f.I x0]; exact c4, fun p hp => ?_, fun p hp => ⟨fun w hw => ?_, fun q hq => ?_, ?_⟩, c7.fr f x0 (hX 1 (by omega) (by omega)) (hX 2 (by omega) (by omega)) (hX 3 (by omega) (by omega)), ⟨c8.1.fr f (hX 22 (by omega) (by omega)) (hX 23 (by omega) (by omega)), by rw [f.I (hX 22 (by omega) (by omega))]; exact c8.2⟩, ⟨c9.1.fr f (hX 25 (by omega) (by omega)) (hX 26 (by omega) (by omega)), by rw [f.I (hX 25 (by omega) (by omega))]; exact c9.2⟩⟩
  · rw [f.I (hX 4 (by omega) (by omega)), f.I (hX 5 (by omega) (by omega)), f.I (hX 6 (by omega) (by omega))]; exact c5 p hp
  · rw [f.I (b := a + 8 + p) (by rw [Nat.add_assoc]; exact hX (8 + p) (by omega) (by omega))]; exact (c6 p hp).1 w hw
  · rw [f.I (b := a + 15 + p) (by rw [Nat.add_assoc]; exact hX (15 + p) (by omega) (by omega))]; exact (c6 p hp).2.1 q hq
  · rw [f.I (hX 21 (by omega) (by omega))]; exact (c6 p hp).2.2
section
variable {d a : Nat} {h h' : AH} {K : TKs} {s : RS} {D : PD} {N : SN'} {Q : Option Value → AH → Prop}
theorem PdC.xr (ha : a = 143 ∨ a = 171) (c : PdC h a D) (f : Fr xrd h h') : PdC h' a D := c.fr f (fun i _ _ => xrd_f (by omega) (by omega))
/-- the draft's own cells -/
def xda (a q : Nat) : Bool := Nat.ble a q && Nat.ble q (a + 27)
def xdr (a q : Nat) : Bool := xrd q || xda a q
theorem Fr.dr (f : Fr xrd h h') : Fr (xdr a) h h' := f.mono (fun q hq => by unfold xdr; rw [hq]; rfl)
theorem xda_t {q : Nat} (h1 : a ≤ q) (h2 : q ≤ a + 27) : xda a q = true := by unfold xda; rw [Nat.ble_eq_true_of_le h1, Nat.ble_eq_true_of_le h2]; rfl
theorem xda_f {q : Nat} (h1 : q < a ∨ a + 27 < q) : xda a q = false := by
  cases e : xda a q with
  | false => rfl
  | true => simp only [xda, Bool.and_eq_true, Nat.ble_eq] at e; omega
theorem Fr.da (f : Fr (xda a) h h') : Fr (xdr a) h h' := f.mono (fun q hq => by unfold xdr; rw [hq, Bool.or_true])
theorem CF.da (ha : a = 143 ∨ a = 171) (c : CF h K s) (f : Fr (xda a) h h') : CF h' K s := c.fr f (xda_f (by omega)) (xda_f (by omega)) (xda_f (by omega)) (xda_f (by omega)) (xda_f (by omega))
theorem c_hasName {v : Int64} (ha : a = 143 ∨ a = 171) (hN : hI h a 3 = nI N.1) (n1 : N.1 ≤ 15) (h1 : Q (some (.int (b2i (anyN N.1 (fun j => decide (hJ h (a + 1) j = v)))))) h) : Rc (d + 1) m_X7_hasName [.ref a, .long v] h Q := by
  rcases ha with rfl | rfl
  all_goals
    refine R_in rfl rfl ?_
    refine R_gs 2 rfl ?_
    refine w_any (W := fun j => Rw d Q (m_X7_hasName, 2, [some (.ref _), some (.long v), none, some (.int (nI j))], [], 262, h)) (A := Q (some (.int 1)) h) N.1 (fun j => decide (hJ h _ j = v)) (fun e => by rw [e] at h1; exact h1) (fun e => ?_) (fun j hj w1 w2 => ?_)
    ·
      refine R_gs 7 rfl ?_
      try rw [hN]
      refine W_bt rfl (Int32.le_refl _) ?_
      refine R_gs 30 rfl ?_
      refine W_f rfl (by first | rfl | exact ⟨rfl, by first | decide | assumption | exact Or.inl rfl | exact Or.inr rfl | exact b2i_01 _⟩) ?_
      rw [e] at h1; exact h1
    ·
      refine R_gs 7 rfl ?_
      try rw [hN]
      refine W_bf rfl (fun e => absurd ((nI_leI (by omega) (by omega)).mp e) (by omega)) ?_
      refine R_gs 15 rfl ?_
      refine R_ll rfl rfl (ix_nI _) (by omega) rfl ?_
      refine R_gs 18 rfl ?_
      refine W_b rfl (fun hc18 => ?_) (fun hc18 => ?_)
      ·
        rw [lg_eq] at hc18
        refine R_gs 22 rfl ?_
        refine W_f rfl (by first | rfl | exact ⟨rfl, by first | decide | assumption | exact Or.inl rfl | exact Or.inr rfl | exact b2i_01 _⟩) ?_
        exact w1 (decide_eq_true hc18)
      ·
        rw [lg_eq] at hc18
        refine R_gs 2 rfl ?_
        rw [nI_1]; exact w2 (decide_eq_false hc18)
theorem hs_is (hN : NamC h a N) (nO : NmO N) {l : List Nat} (hl : LtO l) {v : Int64} (hv : v = lN64 (pkC l)) : anyN N.1 (fun j => decide (hJ h (a + 1) j = v)) = hsN N l := by
  unfold hsN anyN
  refine lp_ext _ (fun j t hj => ?_)
  dsimp only
  rw [hv, (hN.2 j hj).1]
  have := nO.2 j hj
  rw [show decide (lN64 (pkC (N.2 j).2.1) = lN64 (pkC l)) = decide ((N.2 j).2.1 = l) from decide_eq_decide.mpr (by rw [l64_eq this.2.1.b hl.b, pkC_inj this.2.1 hl])]
theorem c_isFull {σ : Nat} (ha : a = 143 ∨ a = 171) (hσ : σ ≤ 2) (c : PdC h a D) (o : PdO D) (h1 : Q (some (.int (b2i (decide (dmx σ ≤ dct D σ))))) h) : Rc (d + 1) m_X7_isFull [.ref a, .ref (1007 + σ)] h Q := by
  obtain ⟨o1, o2, o3, -⟩ := o
  obtain ⟨c1, c2, c3, -⟩ := c
  unfold dmx dct at h1
  rcases ha with rfl | rfl
  all_goals
    refine R_in rfl rfl ?_
    refine R_gs 4 rfl ?_
    refine W_d rfl (by omega) (by omega) (by omega) (by omega) (fun hc4 => ?_) (fun hc4 => ?_)
    ·
      have e0 : σ = 0 := (by omega)
      subst e0
      refine R_gs 12 rfl ?_
      try rw [c1]
      refine R_jn 20 (decide (5 ≤ dS D)) rfl (by rw [decide_eq_false_iff_not]; exact ⟨fun e => (nI_ltI (b := 5) (by omega) (by omega)).mpr (by omega), fun e => by have := (nI_ltI (b := 5) (by omega) (by omega)).mp e; omega⟩) rfl rfl ?_
      refine W_f rfl (by first | rfl | exact ⟨rfl, by first | decide | assumption | exact Or.inl rfl | exact Or.inr rfl | exact b2i_01 _⟩) ?_
      exact h1
    ·
      have e0 : ¬ σ = 0 := (by omega)
      rw [if_neg e0, if_neg e0] at h1
      refine R_gs 25 rfl ?_
      refine W_d rfl (by omega) (by omega) (by omega) (by omega) (fun hc25 => ?_) (fun hc25 => ?_)
      ·
        have e1 : σ = 1 := (by omega)
        subst e1
        refine R_gs 33 rfl ?_
        try rw [c2]
        refine W_b rfl (fun hc33 => ?_) (fun hc33 => ?_)
        ·
          rw [show (nI (dQ D) < 4 ↔ dQ D < 4) from nI_ltI (b := 4) (by omega) (by omega)] at hc33
          refine R_gs 58 rfl ?_
          refine W_f rfl (by first | rfl | exact ⟨rfl, by first | decide | assumption | exact Or.inl rfl | exact Or.inr rfl | exact b2i_01 _⟩) ?_
          rw [if_pos rfl, if_pos rfl, decide_eq_false (by omega)] at h1; exact h1
        ·
          rw [show (nI (dQ D) < 4 ↔ dQ D < 4) from nI_ltI (b := 4) (by omega) (by omega)] at hc33
          refine R_gs 58 rfl ?_
          refine W_f rfl (by first | rfl | exact ⟨rfl, by first | decide | assumption | exact Or.inl rfl | exact Or.inr rfl | exact b2i_01 _⟩) ?_
          rw [if_pos rfl, if_pos rfl, decide_eq_true (by omega)] at h1; exact h1
      ·
        have e1 : ¬ σ = 1 := (by omega)
        rw [if_neg e1, if_neg e1] at h1
        refine R_gs 50 rfl ?_
        try rw [c3]
        refine W_b rfl (fun hc50 => ?_) (fun hc50 => ?_)
        ·
          rw [show (nI (dP D) < 6 ↔ dP D < 6) from nI_ltI (b := 6) (by omega) (by omega)] at hc50
          refine R_gs 58 rfl ?_
          refine W_f rfl (by first | rfl | exact ⟨rfl, by first | decide | assumption | exact Or.inl rfl | exact Or.inr rfl | exact b2i_01 _⟩) ?_
          rw [decide_eq_false (by omega)] at h1; exact h1
        ·
          rw [show (nI (dP D) < 6 ↔ dP D < 6) from nI_ltI (b := 6) (by omega) (by omega)] at hc50
          refine R_gs 58 rfl ?_
          refine W_f rfl (by first | rfl | exact ⟨rfl, by first | decide | assumption | exact Or.inl rfl | exact Or.inr rfl | exact b2i_01 _⟩) ?_
          rw [decide_eq_true (by omega)] at h1; exact h1
end
