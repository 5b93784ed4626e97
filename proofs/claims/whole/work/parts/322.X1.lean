/-- what the class has -/
def xC (q : Nat) : Bool := Nat.ble q 234
def xM (q : Nat) : Bool := Nat.ble 235 q && Nat.ble q 261 && !Nat.beq q 240
theorem xC_t {q : Nat} (h : q ≤ 234) : xC q = true := Nat.ble_eq_true_of_le h
theorem xsc_le {q : Nat} (h : xsc q = true) : q ≤ 234 := by
  simp only [xsc, Bool.or_eq_true, Nat.beq_eq] at h; omega
theorem xs_le {b q : Nat} (hb : b ≤ 200) (h : xs b q = true) : q ≤ 234 := by
  simp only [xs, xsc, Bool.or_eq_true, Bool.and_eq_true, Nat.beq_eq, Nat.ble_eq] at h; omega
theorem xhis_le {q : Nat} (h : xhis q = true) : q ≤ 234 := by
  simp only [xhis, Bool.or_eq_true, Bool.and_eq_true, Nat.beq_eq, Nat.ble_eq] at h; omega
theorem xcs_le {q : Nat} (h : xcs q = true) : q ≤ 234 := by
  simp only [xcs, xsc, Bool.or_eq_true, Bool.and_eq_true, Nat.beq_eq, Nat.ble_eq] at h; omega
theorem Fr.c {X : Nat → Bool} {h h' : AH} (f : Fr X h h') (hX : ∀ q, X q = true → q ≤ 234) : Fr xC h h' := f.mono (fun q hq => xC_t (hX q hq))
def bhand (ok : Bool) (S : SS) (B : SB') : SB' := if ok = true then (hputN B.1, hputS B.1 B.2 S) else B
theorem vr {h : AH} {k a : Nat} (e : hR h 0 k = some a) : va_rf (hR h 0 k) = .ref a := by rw [e]; rfl
section
variable {d : Nat} {h : AH} {L : SL} {S : SS} {H : SH'} {B : SB'} {M : SM'} {D : SD'} {T : ST'} {N : SN'} {Q : Option Value → AH → Prop}
theorem RC.his' (hO : LandOK L) (c : RC h L S H B M D T N) {Q' : AH → Prop} (hQ : ∀ h', Fr xhis h h' → RC h' L S H (hputN B.1, hputS B.1 B.2 S) M D T N → Q' h') : ∀ h', Fr xhis h h' → HisC h' L (hputN B.1) (hputS B.1 B.2 S) → Q' h' := fun h' f hB => hQ h' f (c.his hO f (B' := (hputN B.1, hputS B.1 B.2 S)) hB)
theorem x_say (W : WOK L S H B M D T N) (c : RC h L S H B M D T N) {p w : Int32} (h1 : ∀ h', Fr xC h h' → RC h' L (if (inN p (lP L) && inN w (lS L)) = true then setY S p.toNatClampNeg w else S) H (bhand (inN p (lP L) && inN w (lS L)) S B) M D T N → Q (some (.int (b2i (inN p (lP L) && inN w (lS L))))) h') : Rc (d + 4) m_X12_say [.ref 0, .int p, .int w] h Q := by
  have hO := W.1
  have c0 := c
  obtain ⟨a, g, c1, c2, c3, c4, c5, c6, c7, c8, c9, c10, c11⟩ := c
  have ha := c1.1
  have eL := vr c1.2.2.1
  rcases ha with rfl | rfl
  all_goals
    refine R_in rfl rfl ?_
    refine R_gs 4 rfl ?_
    rw [eL]
    refine R_gs 5 rfl ?_
    refine R_k rfl rfl (c_hasPerson (by decide) c2 (fun hx5 => ?_) (fun hx5 => ?_))
    ·
      refine W_bf rfl (by decide) ?_
      refine R_gs 15 rfl ?_
      rw [eL]
      refine R_gs 16 rfl ?_
      refine R_k rfl rfl (c_hasSaying (by decide) c2 (fun hx16 => ?_) (fun hx16 => ?_))
      ·
        refine W_bf rfl (by decide) ?_
        refine R_gs 32 rfl ?_
        refine R_k rfl rfl (c_remember hO c3 c5 (c0.his' hO (fun h2 f2 r2 => ?_)))
        refine R_gs 44 rfl ?_
        obtain ⟨k, hk, rfl⟩ := inN_of (by have := hO.2.2.1; omega) hx5
        obtain ⟨a', g', d1, d2, d3, d4⟩ := id r2
        refine R_is rfl rfl (ix_nI _) (by have := hO.2.2.1; omega) ?_
        refine R_gs 46 rfl ?_
        refine W_f rfl (by first | rfl | exact ⟨rfl, by first | decide | assumption | exact Or.inl rfl | exact Or.inr rfl | exact b2i_01 _⟩) ?_
        rw [hx5, hx16, nI_clamp (by have := hO.2.2.1; omega)] at h1
        exact h1 _ ((f2.c (fun q => xhis_le)).wI rfl) (r2.now hO ((Fr.refl (xs 7) h2).wI rfl) rfl (d3.y (Or.inl rfl) k w))
      ·
        refine W_bt rfl (by decide) ?_
        refine R_gs 23 rfl ?_
        refine W_f rfl (by first | rfl | exact ⟨rfl, by first | decide | assumption | exact Or.inl rfl | exact Or.inr rfl | exact b2i_01 _⟩) ?_
        first | (rw [hx5] at h1; exact h1 _ (Fr.refl _ h) c0) | (rw [hx5, hx16] at h1; exact h1 _ (Fr.refl _ h) c0)
    ·
      refine W_bt rfl (by decide) ?_
      refine R_gs 23 rfl ?_
      refine W_f rfl (by first | rfl | exact ⟨rfl, by first | decide | assumption | exact Or.inl rfl | exact Or.inr rfl | exact b2i_01 _⟩) ?_
      first | (rw [hx5] at h1; exact h1 _ (Fr.refl _ h) c0) | (rw [hx5, hx16] at h1; exact h1 _ (Fr.refl _ h) c0)
theorem x_hush (W : WOK L S H B M D T N) (c : RC h L S H B M D T N) {p : Int32} (h1 : ∀ h', Fr xC h h' → RC h' L (if inN p (lP L) = true then setY S p.toNatClampNeg (-1) else S) H (bhand (inN p (lP L)) S B) M D T N → Q (some (.int (b2i (inN p (lP L))))) h') : Rc (d + 4) m_X12_hush [.ref 0, .int p] h Q := by
  have hO := W.1
  have o3 := hO.2.2.1
  have o2 := hO.2.1
  have hV := W.2.1
  have c0 := c
  obtain ⟨a, g, c1, c2, c3, c4, c5, c6, c7, c8, c9, c10, c11⟩ := c
  have ha := c1.1
  have eL := vr c1.2.2.1
  rcases ha with rfl | rfl
  all_goals
    refine R_in rfl rfl ?_
    refine R_gs 4 rfl ?_
    rw [eL]
    refine R_gs 5 rfl ?_
    refine R_k rfl rfl (c_hasPerson (by decide) c2 (fun hx5 => ?_) (fun hx5 => ?_))
    ·
      refine W_bf rfl (by decide) ?_
      refine R_gs 21 rfl ?_
      refine R_k rfl rfl (c_remember hO c3 c5 (c0.his' hO (fun h2 f2 r2 => ?_)))
      refine R_gs 33 rfl ?_
      obtain ⟨k, hk, rfl⟩ := inN_of (by omega) hx5
      obtain ⟨a', g', d1, d2, d3, d4⟩ := id r2
      refine R_is rfl rfl (ix_nI _) (by omega) ?_
      refine R_gs 35 rfl ?_
      refine W_f rfl (by first | rfl | exact ⟨rfl, by first | decide | assumption | exact Or.inl rfl | exact Or.inr rfl | exact b2i_01 _⟩) ?_
      rw [hx5, nI_clamp (by omega)] at h1
      exact h1 _ ((f2.c (fun q => xhis_le)).wI rfl) (r2.now hO ((Fr.refl (xs 7) h2).wI rfl) rfl (d3.y (Or.inl rfl) k (-1)))
    ·
      refine W_bt rfl (by decide) ?_
      refine R_gs 12 rfl ?_
      refine W_f rfl (by first | rfl | exact ⟨rfl, by first | decide | assumption | exact Or.inl rfl | exact Or.inr rfl | exact b2i_01 _⟩) ?_
      rw [hx5] at h1; exact h1 _ (Fr.refl _ h) c0
/-- whether one may walk there -/
def walkOk (L : SL) (S : SS) (p s : Int32) : Bool := inN p (lP L) && inN s (lQ L) && !decide (nI (sA S p.toNatClampNeg) = s)
theorem x_walk (W : WOK L S H B M D T N) (c : RC h L S H B M D T N) {p s : Int32} (h1 : ∀ h', Fr xC h h' → RC h' L (if walkOk L S p s = true then setA S p.toNatClampNeg s.toNatClampNeg else S) H (bhand (walkOk L S p s) S B) M D T N → Q (some (.int (b2i (walkOk L S p s)))) h') : Rc (d + 4) m_X12_walk [.ref 0, .int p, .int s] h Q := by
  have hO := W.1
  have o3 := hO.2.2.1
  have o2 := hO.2.1
  have hV := W.2.1
  have c0 := c
  obtain ⟨a, g, c1, c2, c3, c4, c5, c6, c7, c8, c9, c10, c11⟩ := c
  have ha := c1.1
  have eL := vr c1.2.2.1
  rcases ha with rfl | rfl
  all_goals
    refine R_in rfl rfl ?_
    refine R_gs 4 rfl ?_
    rw [eL]
    refine R_gs 5 rfl ?_
    refine R_k rfl rfl (c_hasPerson (by decide) c2 (fun hx5 => ?_) (fun hx5 => ?_))
    ·
      refine W_bf rfl (by decide) ?_
      refine R_gs 15 rfl ?_
      rw [eL]
      refine R_gs 16 rfl ?_
      refine R_k rfl rfl (c_hasPlace (by decide) c2 (fun hx16 => ?_) (fun hx16 => ?_))
      ·
        refine W_bf rfl (by decide) ?_
        refine R_gs 30 rfl ?_
        obtain ⟨k, hk, rfl⟩ := inN_of (by omega) hx5
        have ek := nI_clamp (n := k) (by omega)
        refine R_il rfl rfl (ix_nI _) (by omega) (c3.A hk) ?_
        refine R_gs 32 rfl ?_
        refine W_b rfl (fun hc32 => ?_) (fun hc32 => ?_)
        ·
          refine R_gs 36 rfl ?_
          refine W_f rfl (by first | rfl | exact ⟨rfl, by first | decide | assumption | exact Or.inl rfl | exact Or.inr rfl | exact b2i_01 _⟩) ?_
          rw [show walkOk L S (nI k) s = false from by unfold walkOk; rw [hx5, hx16, ek, decide_eq_true hc32]; rfl] at h1; exact h1 _ (Fr.refl _ h) c0
        ·
          refine R_gs 45 rfl ?_
          refine R_k rfl rfl (c_remember hO c3 c5 (c0.his' hO (fun h2 f2 r2 => ?_)))
          refine R_gs 57 rfl ?_
          obtain ⟨a', g', d1, d2, d3, d4⟩ := id r2
          refine R_is rfl rfl (ix_nI _) (by omega) ?_
          refine R_gs 59 rfl ?_
          refine W_f rfl (by first | rfl | exact ⟨rfl, by first | decide | assumption | exact Or.inl rfl | exact Or.inr rfl | exact b2i_01 _⟩) ?_
          rw [show walkOk L S (nI k) s = true from by unfold walkOk; rw [hx5, hx16, ek, decide_eq_false hc32]; rfl, ek] at h1
          obtain ⟨v, hv, rfl⟩ := inN_of (by omega) hx16
          rw [nI_clamp (n := v) (by omega)] at h1
          exact h1 _ ((f2.c (fun q => xhis_le)).wI rfl) (r2.now hO ((Fr.refl (xs 7) h2).wI rfl) rfl (d3.pa (Or.inl rfl) k v))
      ·
        refine W_bt rfl (by decide) ?_
        refine R_gs 36 rfl ?_
        refine W_f rfl (by first | rfl | exact ⟨rfl, by first | decide | assumption | exact Or.inl rfl | exact Or.inr rfl | exact b2i_01 _⟩) ?_
        rw [show walkOk L S p s = false from by unfold walkOk; rw [hx5, hx16]; rfl] at h1; exact h1 _ (Fr.refl _ h) c0
    ·
      refine W_bt rfl (by decide) ?_
      refine R_gs 36 rfl ?_
      refine W_f rfl (by first | rfl | exact ⟨rfl, by first | decide | assumption | exact Or.inl rfl | exact Or.inr rfl | exact b2i_01 _⟩) ?_
      rw [show walkOk L S p s = false from by unfold walkOk; rw [hx5]; rfl] at h1; exact h1 _ (Fr.refl _ h) c0
theorem x_moment (W : WOK L S H B M D T N) (c : RC h L S H B M D T N) (h1 : ∀ h', Fr xC h h' → RC h' L (momS L S) H (hputN B.1, hputS B.1 B.2 S) M D T N → Q (some (.int (momF L S))) h') : Rc (d + 6) m_X12_moment [.ref 0] h Q := by
  have hO := W.1
  have o3 := hO.2.2.1
  have o2 := hO.2.1
  have hV := W.2.1
  have c0 := c
  obtain ⟨a, g, c1, c2, c3, c4, c5, c6, c7, c8, c9, c10, c11⟩ := c
  have ha := c1.1
  have eL := vr c1.2.2.1
  rcases ha with rfl | rfl
  all_goals
    refine R_in rfl rfl ?_
    refine R_gs 8 rfl ?_
    refine R_k rfl rfl (c_remember hO c3 c5 (c0.his' hO (fun h2 f2 r2 => ?_)))
    have d2 := c2.fr hO f2 (fun i _ _ => xhis_f (by omega))
    have d3 := c3.fr f2 rfl rfl rfl rfl rfl
    have d10 := c10.fr f2 rfl rfl
    have eL2 := vr ((congrFun (f2.R (b := 0) rfl) 8).trans c1.2.2.1)
    refine R_gs 19 rfl ?_
    rw [eL2]
    refine R_k rfl rfl (c_passMoment d10 (by decide) hO d2 (Or.inl rfl) d3 hV (fun h3 f3 e3 s3 => ?_))
    refine W_f rfl (by first | rfl | exact ⟨rfl, by first | decide | assumption | exact Or.inl rfl | exact Or.inr rfl | exact b2i_01 _⟩) ?_
    exact h1 _ ((f2.c (fun q => xhis_le)).trans (f3.c (fun q => xs_le (by decide)))) (r2.now hO f3 e3 s3)
/-- whether two may be parted -/
def partOk (L : SL) (S : SS) (p q : Int32) : Bool := two L p q && bt (sW S) (pr p.toNatClampNeg q.toNatClampNeg)
def keepOk (L : SL) (S : SS) (p q : Int32) : Bool := two L p q && !bt (sE S) (pr p.toNatClampNeg q.toNatClampNeg)
theorem two_of {p q : Int32} (hP : lP L ≤ 6) (h : two L p q = true) : ∃ i j, i < lP L ∧ j < lP L ∧ i ≠ j ∧ p = nI i ∧ q = nI j ∧ p.toNatClampNeg = i ∧ q.toNatClampNeg = j := by
  unfold two at h
  simp only [Bool.and_eq_true, Bool.not_eq_true', decide_eq_false_iff_not] at h
  obtain ⟨i, hi, rfl⟩ := inN_of (by omega) h.1.1
  obtain ⟨j, hj, rfl⟩ := inN_of (by omega) h.1.2
  exact ⟨i, j, hi, hj, fun e => h.2 (by rw [e]), rfl, rfl, nI_clamp (by omega), nI_clamp (by omega)⟩
theorem x_part (W : WOK L S H B M D T N) (c : RC h L S H B M D T N) {p q : Int32} (h1 : ∀ h', Fr xC h h' → RC h' L (if partOk L S p q = true then sepS L S p.toNatClampNeg q.toNatClampNeg else S) H (bhand (partOk L S p q) S B) M D T N → Q (some (.int (if partOk L S p q = true then price L (sW S) p.toNatClampNeg q.toNatClampNeg else -1))) h') : Rc (d + 6) m_X12_part [.ref 0, .int p, .int q] h Q := by
  have hO := W.1
  have o3 := hO.2.2.1
  have o2 := hO.2.1
  have hV := W.2.1
  have c0 := c
  obtain ⟨a, g, c1, c2, c3, c4, c5, c6, c7, c8, c9, c10, c11⟩ := c
  have ha := c1.1
  have eL := vr c1.2.2.1
  rcases ha with rfl | rfl
  all_goals
    refine R_in rfl rfl ?_
    refine R_gs 4 rfl ?_
    rw [eL]
    refine R_gs 6 rfl ?_
    refine R_k rfl rfl (c_areTwo (by decide) c2 (fun hx6 => ?_) (fun hx6 => ?_))
    ·
      refine W_bf rfl (by decide) ?_
      refine R_gs 18 rfl ?_
      obtain ⟨i, j, hi, hj, hij, rfl, rfl, ei, ej⟩ := two_of o3 hx6
      refine R_k rfl rfl (c_areWed (Or.inl rfl) c3 (by omega) (by omega) hij (fun hx18 => ?_) (fun hx18 => ?_))
      ·
        refine W_bf rfl (by decide) ?_
        refine R_gs 34 rfl ?_
        refine R_k rfl rfl (c_remember hO c3 c5 (c0.his' hO (fun h2 f2 r2 => ?_)))
        have d2 := c2.fr hO f2 (fun i _ _ => xhis_f (by omega))
        have d3 := c3.fr f2 rfl rfl rfl rfl rfl
        have d10 := c10.fr f2 rfl rfl
        have eL2 := vr ((congrFun (f2.R (b := 0) rfl) 8).trans c1.2.2.1)
        refine R_gs 45 rfl ?_
        rw [eL2]
        refine R_gs 47 rfl ?_
        refine R_k rfl rfl (c_separate d10 (by decide) hO d2 (Or.inl rfl) d3 hV hi hj hij (fun hq => absurd (hq.symm.trans hx18) (by decide)) (fun _ h3 f3 e3 s3 => ?_))
        refine W_f rfl (by first | rfl | exact ⟨rfl, by first | decide | assumption | exact Or.inl rfl | exact Or.inr rfl | exact b2i_01 _⟩) ?_
        rw [show partOk L S (nI i) (nI j) = true from by unfold partOk; rw [hx6, ei, ej, hx18]; rfl, ei, ej] at h1
        exact h1 _ ((f2.c (fun q => xhis_le)).trans (f3.c (fun q => xs_le (by decide)))) (r2.now hO f3 e3 s3)
      ·
        refine W_bt rfl (by decide) ?_
        refine R_gs 25 rfl ?_
        refine W_f rfl (by first | rfl | exact ⟨rfl, by first | decide | assumption | exact Or.inl rfl | exact Or.inr rfl | exact b2i_01 _⟩) ?_
        rw [show partOk L S (nI i) (nI j) = false from by unfold partOk; rw [hx6, ei, ej, hx18]; rfl] at h1; exact h1 _ (Fr.refl _ h) c0
    ·
      refine W_bt rfl (by decide) ?_
      refine R_gs 25 rfl ?_
      refine W_f rfl (by first | rfl | exact ⟨rfl, by first | decide | assumption | exact Or.inl rfl | exact Or.inr rfl | exact b2i_01 _⟩) ?_
      rw [show partOk L S p q = false from by unfold partOk; rw [hx6]; rfl] at h1; exact h1 _ (Fr.refl _ h) c0
theorem x_keep (W : WOK L S H B M D T N) (c : RC h L S H B M D T N) {p q : Int32} (h1 : ∀ h', Fr xC h h' → RC h' L (if keepOk L S p q = true then setE S (sE S ||| nI (2 ^ pr p.toNatClampNeg q.toNatClampNeg)) else S) H (bhand (keepOk L S p q) S B) M D T N → Q (some (.int (b2i (keepOk L S p q)))) h') : Rc (d + 6) m_X12_keep [.ref 0, .int p, .int q] h Q := by
  have hO := W.1
  have o3 := hO.2.2.1
  have o2 := hO.2.1
  have hV := W.2.1
  have c0 := c
  obtain ⟨a, g, c1, c2, c3, c4, c5, c6, c7, c8, c9, c10, c11⟩ := c
  have ha := c1.1
  have eL := vr c1.2.2.1
  rcases ha with rfl | rfl
  all_goals
    refine R_in rfl rfl ?_
    refine R_gs 4 rfl ?_
    rw [eL]
    refine R_gs 6 rfl ?_
    refine R_k rfl rfl (c_areTwo (by decide) c2 (fun hx6 => ?_) (fun hx6 => ?_))
    ·
      refine W_bf rfl (by decide) ?_
      refine R_gs 18 rfl ?_
      obtain ⟨i, j, hi, hj, hij, rfl, rfl, ei, ej⟩ := two_of o3 hx6
      refine R_k rfl rfl (c_areKept (Or.inl rfl) c3 (by omega) (by omega) hij (fun hx18 => ?_) (fun hx18 => ?_))
      ·
        refine W_bf rfl (by decide) ?_
        refine R_gs 25 rfl ?_
        refine W_f rfl (by first | rfl | exact ⟨rfl, by first | decide | assumption | exact Or.inl rfl | exact Or.inr rfl | exact b2i_01 _⟩) ?_
        rw [show keepOk L S (nI i) (nI j) = false from by unfold keepOk; rw [hx6, ei, ej, hx18]; rfl] at h1; exact h1 _ (Fr.refl _ h) c0
      ·
        refine W_bt rfl (by decide) ?_
        refine R_gs 34 rfl ?_
        refine R_k rfl rfl (c_remember hO c3 c5 (c0.his' hO (fun h2 f2 r2 => ?_)))
        have d2 := c2.fr hO f2 (fun i _ _ => xhis_f (by omega))
        have d3 := c3.fr f2 rfl rfl rfl rfl rfl
        have d10 := c10.fr f2 rfl rfl
        have eL2 := vr ((congrFun (f2.R (b := 0) rfl) 8).trans c1.2.2.1)
        refine R_gs 47 rfl ?_
        rw [d3.E]
        refine R_k rfl rfl (c_pairBit (by omega) (by omega) hij ?_)
        refine R_gs 55 rfl ?_
        refine W_f rfl (by first | rfl | exact ⟨rfl, by first | decide | assumption | exact Or.inl rfl | exact Or.inr rfl | exact b2i_01 _⟩) ?_
        rw [show keepOk L S (nI i) (nI j) = true from by unfold keepOk; rw [hx6, ei, ej, hx18]; rfl, ei, ej] at h1
        exact h1 _ ((f2.c (fun q => xhis_le)).wI rfl) (r2.now hO ((Fr.refl (xs 7) h2).wI rfl) rfl (d3.e (Or.inl rfl) _))
    ·
      refine W_bt rfl (by decide) ?_
      refine R_gs 25 rfl ?_
      refine W_f rfl (by first | rfl | exact ⟨rfl, by first | decide | assumption | exact Or.inl rfl | exact Or.inr rfl | exact b2i_01 _⟩) ?_
      rw [show keepOk L S p q = false from by unfold keepOk; rw [hx6]; rfl] at h1; exact h1 _ (Fr.refl _ h) c0
theorem RC.back (hO : LandOK L) {h' : AH} {S' : SS} {B' : SB'} (c : RC h L S H B M D T N) (f : Fr (fun q => Nat.beq q 21 || xq 7 q) h h') (e : hI h' 7 10 = hI h 7 10) (hB : HisC h' L B'.1 B'.2) (hS : SceneC h' 7 L S') : RC h' L S' H B' M D T N := by
  obtain ⟨a, g, c1, c2, c3, c4, c5, c6, c7, c8, c9, c10, c11⟩ := c
  have ha := c1.1
  have hg := c1.2.1
  have xf : ∀ q, q ≠ 21 → (q < 7 ∨ 12 < q) → (Nat.beq q 21 || xq 7 q) = false := fun q h1 h2 => by rw [bq_f h1, xq_n (by omega)]; rfl
  refine ⟨a, g, c1.fr f rfl, c2.fr hO f (fun i h1 h2 => xf _ (by omega) (by omega)), hS, c4.fr2 f e rfl, hB, c6.fr f rfl (fun q _ _ => xf _ (by omega) (by omega)), c7.fr f (xf _ (by omega) (by omega)) (xf _ (by omega) (by omega)) (xf _ (by omega) (by omega)) (xf _ (by omega) (by omega)), c8.fr f rfl rfl, c9.fr f (xf _ (by omega) (by omega)) (xf _ (by omega) (by omega)) (xf _ (by omega) (by omega)) (xf _ (by omega) (by omega)), c10.fr f rfl rfl, c11.fr f rfl⟩
theorem x_undo (W : WOK L S H B M D T N) (c : RC h L S H B M D T N) (h1 : ∀ h', Fr xC h h' → RC h' L (if B.1 = 0 then S else B.2 (B.1 - 1)) H (B.1 - 1, B.2) M D T N → Q (some (.int (b2i (!decide (B.1 = 0))))) h') : Rc (d + 4) m_X12_undo [.ref 0] h Q := by
  have hO := W.1
  have c0 := c
  obtain ⟨a, g, c1, c2, c3, c4, c5, c6, c7, c8, c9, c10, c11⟩ := c
  obtain ⟨n, hs⟩ := B
  dsimp only at *
  refine R_in rfl rfl ?_
  refine R_gs 8 rfl ?_
  refine R_k rfl rfl (c_giveBack hO c5 (fun hz => ?_) (fun hz h2 f2 e2 b2 s2 => ?_))
  ·
    refine W_f rfl (by first | rfl | exact ⟨rfl, by first | decide | assumption | exact Or.inl rfl | exact Or.inr rfl | exact b2i_01 _⟩) ?_
    subst hz; exact h1 _ (Fr.refl _ h) c0
  ·
    refine W_f rfl (by first | rfl | exact ⟨rfl, by first | decide | assumption | exact Or.inl rfl | exact Or.inr rfl | exact b2i_01 _⟩) ?_
    rw [if_neg (by omega), decide_eq_false (by omega)] at h1; exact h1 _ (f2.c (fun q hq => by simp only [Bool.or_eq_true, Nat.beq_eq] at hq; rcases hq with hq | hq; omega; have := xq_of hq; omega)) (c0.back hO f2 e2 (B' := (n - 1, hs)) b2 s2)
end
