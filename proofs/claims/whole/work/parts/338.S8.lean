theorem mea5 : ∀ t, t < 38 → rol t = 5 → mea t = nI (mea t).toNatClampNeg ∧ (mea t).toNatClampNeg ≤ 3 ∧ t ≠ 0 := by decide +kernel
/-- the numbers that are told -/
def PdB (D : PD) : Prop := (∀ p w, dO D p w ≤ 9) ∧ (∀ p q, dG D p q ≤ 9) ∧ (∀ p, p < dM D → (dX D p).1 ≤ 3 ∧ (dX D p).2.1 < dQ D ∧ (dX D p).2.2 ≤ 9) ∧ ∀ p q, bt (dT D p) q = false → dG D p q = 0
section
variable {d a : Nat} {h h' : AH} {K : TKs} {s : RS} {D : PD} {N : SN'} {Q : Option Value → AH → Prop}
theorem sp_0 (hz : s.2 = 0) : (sp K s).2 = 0 := by unfold sp; rw [if_pos hz]
theorem lnN_z {σ : Nat} (hz : (lnN K σ s D).1.2 = 0) : s.2 = 0 ∧ dct D σ < dmx σ ∧ isNm (tk K (sp K (bl K (decide (dmx σ ≤ dct D σ)) 5 s)).1) = true ∧ hsN (dN D) (tl K (sp K (bl K (decide (dmx σ ≤ dct D σ)) 5 s)).1) = false ∧ (lnN K σ s D).2.1 = addN D σ (tl K (sp K (bl K (decide (dmx σ ≤ dct D σ)) 5 s)).1) ∧ (lnN K σ s D).2.2 = dct D σ := by
  unfold lnN at *
  dsimp only at hz ⊢
  have z0 := sp_z hz
  obtain ⟨z1, z2⟩ := bl_z (by decide) z0
  obtain ⟨z3, z4⟩ := bl_z (by decide) z2
  obtain ⟨z5, z6⟩ := bl_z (by decide) (sp_z z4)
  rw [Bool.not_eq_false'] at z3
  have := of_decide_eq_false z5
  exact ⟨z6, by omega, z3, z1, if_pos z0, if_pos z0⟩
theorem lnN_o {σ : Nat} (kO : TokOK K) (hσ : σ ≤ 2) (hs : s.1 < K.1) (o : PdO D) : PdO (lnN K σ s D).2.1 := by
  by_cases hz : (lnN K σ s D).1.2 = 0
  · obtain ⟨z1, z2, z3, z4, z5, z6⟩ := lnN_z hz
    rw [z5]
    have b := (bs_o kO (b := decide (dmx σ ≤ dct D σ)) (k := 5) hs).1
    have g := kO.2.1 _ b
    exact pdo_add o hσ z2 (g.2.2.2.1 (nmW _ g.1 z3).1).1 z4
  · unfold lnN at *
    dsimp only at hz ⊢
    by_cases hc : (bl K (hsN (dN D) (tl K (sp K (bl K (decide (dmx σ ≤ dct D σ)) 5 s)).1)) 3 (bl K (!isNm (tk K (sp K (bl K (decide (dmx σ ≤ dct D σ)) 5 s)).1)) 1 (sp K (bl K (decide (dmx σ ≤ dct D σ)) 5 s)))).2 = 0
    · exact absurd (sp_0 hc) hz
    · rw [if_neg hc]; exact o
theorem q_k5 {t : Nat} (ht : t < 38) : (SH (1000 + t)).1 = 20 ∧ (1000 + t < 262 ∨ 1000 ≤ 1000 + t) := SH_t ht
theorem c_readNewPerson (kO : TokOK K) (ha : a = 143 ∨ a = 171) (ht : tk K s.1 = 9) (c : CF h K s) (p : PdC h a D) (o : PdO D) (hM : dM D = dP D) (h1 : ∀ h', Fr (xdr a) h h' → CF h' K (lnX K s D).1 → PdC h' a (lnX K s D).2 → Q none h') : Rc (d + 5) m_X8_readNewPerson [.ref 6, .ref a] h Q := by
  unfold lnX at h1
  dsimp only at h1
  have oz := lnN_o kO (σ := 2) (Nat.le_refl _) c.2.1.1 o
  have ez := lnN_z (K := K) (σ := 2) (s := s) (D := D)
  obtain ⟨z, hz⟩ : ∃ z, z = lnN K 2 s D := ⟨_, rfl⟩
  rw [← hz] at h1 oz ez
  have ha' := ha
  rcases ha with rfl | rfl
  all_goals
    refine R_in rfl rfl ?_
    refine R_gs 2 rfl ?_
    refine R_k rfl rfl (c_readNewName kO ha' (σ := 2) (by omega) ht c p o (fun h2 f2 c2 p2 => ?_))
    rw [← hz] at c2 p2 ⊢
    have t1 := c2.t38 kO
    refine R_gs 13 rfl ?_
    rw [c2.tok]
    refine W_c rfl (SH_t t1) ?_
    rw [tkF2]
    refine R_gs 25 rfl ?_
    rw [c2.tok]
    refine W_c rfl (SH_t t1) ?_
    rw [tkF1 t1]
    refine R_gs 29 rfl ?_
    refine R_jn 37 (!decide (rol (tk K z.1.1) = 5)) rfl (by rw [Bool.not_eq_false', decide_eq_true_eq]; exact (show (nI (rol (tk K z.1.1)) = 5 ↔ rol (tk K z.1.1) = 5) from nI_eq (b := 5) (by have := (rol_L _ t1).2; omega) (by omega)).symm) rfl rfl ?_
    refine R_gs 38 rfl ?_
    refine R_k rfl rfl (c_blameIf kO (k := 1) (by decide) c2 (fun h3 f3 c3 => ?_))
    refine R_gs 42 rfl ?_
    refine R_k rfl rfl (c_step kO c3 (fun h4 f4 c4 => ?_))
    refine R_gs 49 rfl ?_
    refine R_k rfl rfl (c_expect kO (t := 10) (by omega) c4 (fun h5 f5 c5 => ?_))
    have p5 := p2.xr ha' ((f3.trans f4).trans f5)
    refine R_gs 57 rfl ?_
    refine R_k rfl rfl (c_readKnown kO ha' (σ := 1) p5.2.2.2.2.2.2.1 oz.nm (by omega) c5 (fun h6 f6 c6 => ?_))
    refine R_gs 66 rfl ?_
    refine R_k rfl rfl (c_expect kO (t := 11) (by omega) c6 (fun h7 f7 c7 => ?_))
    refine R_gs 71 rfl ?_
    refine R_k rfl rfl (c_readNumber kO (m := 0) (by omega) c7 (fun h8 v f8 c8 e8 => ?_))
    have F8 := ((((f3.trans f4).trans f5).trans f6).trans f7).trans f8
    have p8 := p2.xr ha' F8
    refine R_gs 80 rfl ?_
    refine W_b rfl (fun hc80 => ?_) (fun hc80 => ?_)
    ·
      rw [c8.fz] at hc80
      rw [if_pos hc80] at h1
      have n1 := rn_z hc80
      have n2 := ex_z n1.1
      have n3 := rk_n oz n2.1
      have n4 := rk_z n2.1
      have n5 := ex_z n4.1
      have n6 := bl_z (by decide) (sp_z n5.1)
      rw [Bool.not_eq_false', decide_eq_true_eq] at n6
      have n7 := mea5 _ t1 n6.1
      have n8 := ez n6.2
      have n9 : z.2.2 < 6 := (by rw [n8.2.2.2.2.2]; exact n8.2.1)
      have pX := pdc_X (x := ((mea (tk K z.1.1)).toNatClampNeg, (rk K (dN z.2.1) 1 (ex K 10 (sp K (bl K (!decide (rol (tk K z.1.1) = 5)) 1 z.1)))).2.toNatClampNeg, tn K (ex K 11 (rk K (dN z.2.1) 1 (ex K 10 (sp K (bl K (!decide (rol (tk K z.1.1) = 5)) 1 z.1)))).1).1)) p8 (show z.2.2 = dM z.2.1 by rw [n8.2.2.2.2.2, n8.2.2.2.2.1]; exact hM.symm)
      dsimp only at pX
      rw [← n7.1, ← n3.1, ← e8 hc80] at pX
      refine R_gs 89 rfl ?_
      refine R_is rfl rfl (ix_nI _) n9 ?_
      refine R_gs 97 rfl ?_
      refine R_is rfl rfl (ix_nI _) n9 ?_
      refine R_gs 105 rfl ?_
      refine R_is rfl rfl (ix_nI _) n9 ?_
      refine W_f rfl (by first | rfl | exact ⟨rfl, by first | decide | assumption | exact Or.inl rfl | exact Or.inr rfl | exact b2i_01 _⟩) ?_
      exact h1 _ ((f2.trans F8.dr).trans (Fr.da ((((Fr.refl _ h8).wI rfl).wI rfl).wI rfl))) (c8.da ha' ((((Fr.refl _ h8).wI rfl).wI rfl).wI rfl)) pX
    ·
      rw [c8.fz] at hc80
      rw [if_neg hc80] at h1
      refine W_f rfl (by first | rfl | exact ⟨rfl, by first | decide | assumption | exact Or.inl rfl | exact Or.inr rfl | exact b2i_01 _⟩) ?_
      exact h1 _ (f2.trans F8.dr) c8 p8
theorem c_readOdds (kO : TokOK K) (ha : a = 143 ∨ a = 171) (c : CF h K s) (p : PdC h a D) (o : PdO D) (oB : PdB D) (h1 : ∀ h', Fr (xdr a) h h' → CF h' K (lnO K s D).1 → PdC h' a (lnO K s D).2 → Q none h') : Rc (d + 5) m_X8_readOdds [.ref 6, .ref a] h Q := by
  unfold lnO at h1
  dsimp only at h1
  have o1 := o.1
  have o3 := o.2.2.1
  have ny := rk_n (K := K) (s := sp K s) (σ := 2) o
  obtain ⟨y, hy⟩ : ∃ y, y = rk K (dN D) 2 (sp K s) := ⟨_, rfl⟩
  rw [← hy] at h1 ny
  have nx := lu_n (K := K) (s := y.1) (σ := 0) o
  have zx := lu_z (K := K) (s := y.1) (N := dN D) (σ := 0)
  obtain ⟨x, hx⟩ : ∃ x, x = lu K (dN D) 0 y.1 := ⟨_, rfl⟩
  rw [← hx] at h1 nx zx
  have ha' := ha
  rcases ha with rfl | rfl
  all_goals
    refine R_in rfl rfl ?_
    refine R_gs 1 rfl ?_
    refine R_k rfl rfl (c_step kO c (fun h2 f2 c2 => ?_))
    have p2 := p.xr ha' f2
    refine R_gs 9 rfl ?_
    refine R_k rfl rfl (c_readKnown kO ha' (σ := 2) p2.2.2.2.2.2.2.1 o.nm (by omega) c2 (fun h3 f3 c3 => ?_))
    rw [← hy] at c3 ⊢
    have p3 := p2.xr ha' f3
    refine R_gs 18 rfl ?_
    refine R_k rfl rfl (c_lookUp kO ha' (σ := 0) p3.2.2.2.2.2.2.1 o.nm (by omega) c3 (fun h4 f4 c4 => ?_))
    rw [← hx] at c4 ⊢
    have p4 := p3.xr ha' f4
    have F4 := (f2.trans f3).trans f4
    refine R_gs 27 rfl ?_
    refine W_b rfl (fun hc27 => ?_) (fun hc27 => ?_)
    ·
      rw [c4.fz] at hc27
      have y1 := ny (zx hc27).1
      have x1 := nx hc27
      have y2 : y.2.toNatClampNeg < dP D := y1.2
      have x2 : x.2.toNatClampNeg < dS D := x1.2
      have v5 := (p4.2.2.2.2.2.1 y.2.toNatClampNeg (by omega)).1 x.2.toNatClampNeg (by omega)
      rw [y1.1, x1.1]
      rw [show (decide (x.1.2 = 0) && decide (0 < dO D y.2.toNatClampNeg x.2.toNatClampNeg)) = decide (0 < dO D y.2.toNatClampNeg x.2.toNatClampNeg) from by rw [decide_eq_true hc27]; rfl] at h1
      refine R_gs 35 rfl ?_
      refine R_ro rfl rfl rfl (ix_nI _) (by omega) ?_
      refine R_gs 37 rfl ?_
      refine R_il rfl (shO (by decide) (by omega)) (ix_nI _) (by omega) v5 ?_
      obtain ⟨bb, ebb⟩ : ∃ bb, bb = decide (0 < dO D y.2.toNatClampNeg x.2.toNatClampNeg) := ⟨_, rfl⟩
      have dlt : dO D y.2.toNatClampNeg x.2.toNatClampNeg < 2 ^ 31 := (by have := oB.1 y.2.toNatClampNeg x.2.toNatClampNeg; omega)
      refine R_jn 46 (bb) rfl (by rw [ebb, decide_eq_false_iff_not, show (nI (dO D y.2.toNatClampNeg x.2.toNatClampNeg) ≤ 0 ↔ dO D y.2.toNatClampNeg x.2.toNatClampNeg ≤ 0) from nI_leI (b := 0) dlt (by omega)]; omega) rfl rfl ?_
      refine R_gs 47 rfl ?_
      refine R_k rfl rfl (c_blameIf kO (b := bb) (k := 3) (by decide) c4 (fun h5 f5 c5 => ?_))
      rw [ebb] at c5
      refine R_gs 51 rfl ?_
      refine R_k rfl rfl (c_step kO c5 (fun h6 f6 c6 => ?_))
      refine R_gs 56 rfl ?_
      refine R_k rfl rfl (c_readNumber kO (m := 1) (by omega) c6 (fun h7 v f7 c7 e7 => ?_))
      have F7 := ((F4.trans f5).trans f6).trans f7
      have p7 := p.xr ha' F7
      refine R_gs 65 rfl ?_
      refine W_b rfl (fun hc65 => ?_) (fun hc65 => ?_)
      ·
        rw [c7.fz] at hc65
        rw [if_pos hc65] at h1
        have pX := pdc_O (p := y.2.toNatClampNeg) (w := x.2.toNatClampNeg) (v := tn K (sp K (bl K (decide (0 < dO D y.2.toNatClampNeg x.2.toNatClampNeg)) 3 x.1)).1) (by omega) p7
        rw [← e7 hc65] at pX
        refine R_gs 73 rfl ?_
        refine R_ro rfl rfl rfl (ix_nI _) (by omega) ?_
        refine R_gs 77 rfl ?_
        refine R_is rfl (shO (by decide) (by omega)) (ix_nI _) (by omega) ?_
        refine W_f rfl (by first | rfl | exact ⟨rfl, by first | decide | assumption | exact Or.inl rfl | exact Or.inr rfl | exact b2i_01 _⟩) ?_
        exact h1 _ (F7.dr.trans (Fr.da ((Fr.refl _ h7).wI (xda_t (by omega) (by omega))))) (c7.da ha' ((Fr.refl _ h7).wI (xda_t (by omega) (by omega)))) pX
      ·
        rw [c7.fz] at hc65
        rw [if_neg hc65] at h1
        refine W_f rfl (by first | rfl | exact ⟨rfl, by first | decide | assumption | exact Or.inl rfl | exact Or.inr rfl | exact b2i_01 _⟩) ?_
        exact h1 _ F7.dr c7 p7
    ·
      rw [c4.fz] at hc27
      rw [show (decide (x.1.2 = 0) && decide (0 < dO D y.2.toNatClampNeg x.2.toNatClampNeg)) = false from by rw [decide_eq_false hc27]; rfl] at h1
      refine R_gs 47 rfl ?_
      refine R_k rfl rfl (c_blameIf kO (b := false) (k := 3) (by decide) c4 (fun h5 f5 c5 => ?_))
      refine R_gs 51 rfl ?_
      refine R_k rfl rfl (c_step kO c5 (fun h6 f6 c6 => ?_))
      refine R_gs 56 rfl ?_
      refine R_k rfl rfl (c_readNumber kO (m := 1) (by omega) c6 (fun h7 v f7 c7 e7 => ?_))
      have F7 := ((F4.trans f5).trans f6).trans f7
      have p7 := p.xr ha' F7
      refine R_gs 65 rfl ?_
      refine W_bf rfl (fun e => hc27 (bl_z (by decide) (sp_z (rn_z (c7.fz.mp e)).1)).2) ?_
      refine W_f rfl (by first | rfl | exact ⟨rfl, by first | decide | assumption | exact Or.inl rfl | exact Or.inr rfl | exact b2i_01 _⟩) ?_
      rw [if_neg (fun e => hc27 (bl_z (by decide) (sp_z (rn_z e).1)).2)] at h1; exact h1 _ F7.dr c7 p7
theorem c_readLiking (kO : TokOK K) (ha : a = 143 ∨ a = 171) (c : CF h K s) (p : PdC h a D) (o : PdO D) (h1 : ∀ h', Fr (xdr a) h h' → CF h' K (lnG K s D).1 → PdC h' a (lnG K s D).2 → Q none h') : Rc (d + 5) m_X8_readLiking [.ref 6, .ref a] h Q := by
  unfold lnG at h1
  dsimp only at h1
  have o3 := o.2.2.1
  have ny := rk_n (K := K) (s := sp K s) (σ := 2) o
  obtain ⟨y, hy⟩ : ∃ y, y = rk K (dN D) 2 (sp K s) := ⟨_, rfl⟩
  rw [← hy] at h1 ny
  have nx := lu_n (K := K) (s := y.1) (σ := 2) o
  have zx := lu_z (K := K) (s := y.1) (N := dN D) (σ := 2)
  obtain ⟨x, hx⟩ : ∃ x, x = lu K (dN D) 2 y.1 := ⟨_, rfl⟩
  rw [← hx] at h1 nx zx
  have ha' := ha
  rcases ha with rfl | rfl
  all_goals
    refine R_in rfl rfl ?_
    refine R_gs 1 rfl ?_
    refine R_k rfl rfl (c_step kO c (fun h2 f2 c2 => ?_))
    have p2 := p.xr ha' f2
    refine R_gs 9 rfl ?_
    refine R_k rfl rfl (c_readKnown kO ha' (σ := 2) p2.2.2.2.2.2.2.1 o.nm (by omega) c2 (fun h3 f3 c3 => ?_))
    rw [← hy] at c3 ⊢
    have p3 := p2.xr ha' f3
    refine R_gs 18 rfl ?_
    refine R_k rfl rfl (c_lookUp kO ha' (σ := 2) p3.2.2.2.2.2.2.1 o.nm (by omega) c3 (fun h4 f4 c4 => ?_))
    rw [← hx] at c4 ⊢
    have p4 := p3.xr ha' f4
    have F4 := (f2.trans f3).trans f4
    refine R_gs 27 rfl ?_
    refine W_b rfl (fun hc27 => ?_) (fun hc27 => ?_)
    ·
      rw [c4.fz] at hc27
      have y1 := ny (zx hc27).1
      have x1 := nx hc27
      have y2 : y.2.toNatClampNeg < dP D := y1.2
      have x2 : x.2.toNatClampNeg < dP D := x1.2
      have v5 := (p4.2.2.2.2.2.1 y.2.toNatClampNeg (by omega)).2.2
      have exy : decide (x.2 = y.2) = decide (x.2.toNatClampNeg = y.2.toNatClampNeg) := (by rw [x1.1, y1.1, nI_clamp (by omega), nI_clamp (by omega)]; exact decide_eq_decide.mpr (nI_eq (by omega) (by omega)))
      rw [decide_eq_true hc27, Bool.true_and, exy] at h1
      rw [y1.1, x1.1]
      refine R_gs 32 rfl ?_
      refine W_b rfl (fun hc32 => ?_) (fun hc32 => ?_)
      ·
        rw [nI_eq (by omega) (by omega)] at hc32
        rw [decide_eq_true hc32, Bool.true_or] at h1
        refine R_gs 54 rfl ?_
        refine R_k rfl rfl (c_blameIf kO (b := true) (k := 3) (by decide) c4 (fun h5 f5 c5 => ?_))
        refine R_gs 58 rfl ?_
        refine R_k rfl rfl (c_step kO c5 (fun h6 f6 c6 => ?_))
        refine R_gs 63 rfl ?_
        refine R_k rfl rfl (c_readNumber kO (m := 0) (by omega) c6 (fun h7 v f7 c7 e7 => ?_))
        have F7 := ((F4.trans f5).trans f6).trans f7
        have p7 := p.xr ha' F7
        refine R_gs 72 rfl ?_
        refine W_bf rfl (fun e => absurd (bl_z (by decide) (sp_z (rn_z (c7.fz.mp e)).1)).1 (by decide)) ?_
        refine W_f rfl (by first | rfl | exact ⟨rfl, by first | decide | assumption | exact Or.inl rfl | exact Or.inr rfl | exact b2i_01 _⟩) ?_
        rw [if_neg (fun e => absurd (bl_z (by decide) (sp_z (rn_z e).1)).1 (by decide))] at h1; exact h1 _ F7.dr c7 p7
      ·
        rw [nI_eq (by omega) (by omega)] at hc32
        rw [decide_eq_false hc32, Bool.false_or] at h1
        refine R_gs 40 rfl ?_
        refine R_il rfl rfl (ix_nI _) (by omega) v5 ?_
        refine R_gs 42 rfl ?_
        refine R_k rfl rfl (c_hasBit (by omega) (fun hx42 => ?_) (fun hx42 => ?_))
        ·
          refine W_bf rfl (by decide) ?_
          refine R_gs 54 rfl ?_
          rw [hx42] at h1
          refine R_k rfl rfl (c_blameIf kO (b := true) (k := 3) (by decide) c4 (fun h5 f5 c5 => ?_))
          refine R_gs 58 rfl ?_
          refine R_k rfl rfl (c_step kO c5 (fun h6 f6 c6 => ?_))
          refine R_gs 63 rfl ?_
          refine R_k rfl rfl (c_readNumber kO (m := 0) (by omega) c6 (fun h7 v f7 c7 e7 => ?_))
          have F7 := ((F4.trans f5).trans f6).trans f7
          have p7 := p.xr ha' F7
          refine R_gs 72 rfl ?_
          refine W_bf rfl (fun e => absurd (bl_z (by decide) (sp_z (rn_z (c7.fz.mp e)).1)).1 (by decide)) ?_
          refine W_f rfl (by first | rfl | exact ⟨rfl, by first | decide | assumption | exact Or.inl rfl | exact Or.inr rfl | exact b2i_01 _⟩) ?_
          rw [if_neg (fun e => absurd (bl_z (by decide) (sp_z (rn_z e).1)).1 (by decide))] at h1; exact h1 _ F7.dr c7 p7
        ·
          refine W_bt rfl (by decide) ?_
          refine R_gs 54 rfl ?_
          rw [hx42] at h1
          refine R_k rfl rfl (c_blameIf kO (b := false) (k := 3) (by decide) c4 (fun h5 f5 c5 => ?_))
          refine R_gs 58 rfl ?_
          refine R_k rfl rfl (c_step kO c5 (fun h6 f6 c6 => ?_))
          refine R_gs 63 rfl ?_
          refine R_k rfl rfl (c_readNumber kO (m := 0) (by omega) c6 (fun h7 v f7 c7 e7 => ?_))
          have F7 := ((F4.trans f5).trans f6).trans f7
          have p7 := p.xr ha' F7
          refine R_gs 72 rfl ?_
          refine W_b rfl (fun hc72 => ?_) (fun hc72 => ?_)
          ·
            rw [c7.fz] at hc72
            rw [if_pos hc72] at h1
            have pX := pdc_G (p := y.2.toNatClampNeg) (r := x.2.toNatClampNeg) (v := tn K (sp K (bl K false 3 x.1)).1) (by omega) (by omega) p7
            rw [← e7 hc72] at pX
            have v7 := (p7.2.2.2.2.2.1 y.2.toNatClampNeg (by omega)).2.2
            refine R_gs 80 rfl ?_
            refine R_ro rfl rfl rfl (ix_nI _) (by omega) ?_
            refine R_gs 84 rfl ?_
            refine R_is rfl (shG (by decide) (by omega)) (ix_nI _) (by omega) ?_
            refine R_gs 91 rfl ?_
            refine R_il rfl rfl (ix_nI _) (by omega) (v := dT D y.2.toNatClampNeg) (by rw [wI_o _ (by omega)]; exact v7) ?_
            refine R_gs 96 rfl ?_
            rw [or_if _ _ (by omega)]
            refine R_is rfl rfl (ix_nI _) (by omega) ?_
            refine W_f rfl (by first | rfl | exact ⟨rfl, by first | decide | assumption | exact Or.inl rfl | exact Or.inr rfl | exact b2i_01 _⟩) ?_
            exact h1 _ (F7.dr.trans (Fr.da (((Fr.refl _ h7).wI (xda_t (by omega) (by omega))).wI rfl))) (c7.da ha' (((Fr.refl _ h7).wI (xda_t (by omega) (by omega))).wI rfl)) pX
          ·
            rw [c7.fz] at hc72
            rw [if_neg hc72] at h1
            refine W_f rfl (by first | rfl | exact ⟨rfl, by first | decide | assumption | exact Or.inl rfl | exact Or.inr rfl | exact b2i_01 _⟩) ?_
            exact h1 _ F7.dr c7 p7
    ·
      rw [c4.fz] at hc27
      rw [decide_eq_false hc27, Bool.false_and] at h1
      refine R_gs 54 rfl ?_
      refine R_k rfl rfl (c_blameIf kO (b := false) (k := 3) (by decide) c4 (fun h5 f5 c5 => ?_))
      refine R_gs 58 rfl ?_
      refine R_k rfl rfl (c_step kO c5 (fun h6 f6 c6 => ?_))
      refine R_gs 63 rfl ?_
      refine R_k rfl rfl (c_readNumber kO (m := 0) (by omega) c6 (fun h7 v f7 c7 e7 => ?_))
      have F7 := ((F4.trans f5).trans f6).trans f7
      have p7 := p.xr ha' F7
      refine R_gs 72 rfl ?_
      refine W_bf rfl (fun e => hc27 (bl_z (by decide) (sp_z (rn_z (c7.fz.mp e)).1)).2) ?_
      refine W_f rfl (by first | rfl | exact ⟨rfl, by first | decide | assumption | exact Or.inl rfl | exact Or.inr rfl | exact b2i_01 _⟩) ?_
      rw [if_neg (fun e => hc27 (bl_z (by decide) (sp_z (rn_z e).1)).2)] at h1; exact h1 _ F7.dr c7 p7
theorem c_readKept (kO : TokOK K) (ha : a = 143 ∨ a = 171) (c : CF h K s) (p : PdC h a D) (o : PdO D) (h1 : ∀ h', Fr (xdr a) h h' → CF h' K (lnK K s D).1 → PdC h' a (lnK K s D).2 → Q none h') : Rc (d + 5) m_X8_readKept [.ref 6, .ref a] h Q := by
  unfold lnK at h1
  dsimp only at h1
  have o3 := o.2.2.1
  have ny := rk_n (K := K) (s := sp K s) (σ := 2) o
  obtain ⟨y, hy⟩ : ∃ y, y = rk K (dN D) 2 (sp K s) := ⟨_, rfl⟩
  rw [← hy] at h1 ny
  have nx := lu_n (K := K) (s := y.1) (σ := 2) o
  have zx := lu_z (K := K) (s := y.1) (N := dN D) (σ := 2)
  obtain ⟨x, hx⟩ : ∃ x, x = lu K (dN D) 2 y.1 := ⟨_, rfl⟩
  rw [← hx] at h1 nx zx
  have ha' := ha
  rcases ha with rfl | rfl
  all_goals
    refine R_in rfl rfl ?_
    refine R_gs 1 rfl ?_
    refine R_k rfl rfl (c_step kO c (fun h2 f2 c2 => ?_))
    have p2 := p.xr ha' f2
    refine R_gs 9 rfl ?_
    refine R_k rfl rfl (c_readKnown kO ha' (σ := 2) p2.2.2.2.2.2.2.1 o.nm (by omega) c2 (fun h3 f3 c3 => ?_))
    rw [← hy] at c3 ⊢
    have p3 := p2.xr ha' f3
    refine R_gs 18 rfl ?_
    refine R_k rfl rfl (c_lookUp kO ha' (σ := 2) p3.2.2.2.2.2.2.1 o.nm (by omega) c3 (fun h4 f4 c4 => ?_))
    rw [← hx] at c4 ⊢
    have p4 := p3.xr ha' f4
    have F4 := (f2.trans f3).trans f4
    refine R_gs 27 rfl ?_
    refine W_b rfl (fun hc27 => ?_) (fun hc27 => ?_)
    ·
      rw [c4.fz] at hc27
      have y1 := ny (zx hc27).1
      have x1 := nx hc27
      have y2 : y.2.toNatClampNeg < dP D := y1.2
      have x2 : x.2.toNatClampNeg < dP D := x1.2
      have v5 := p4.2.2.2.1
      have exy : decide (x.2 = y.2) = decide (x.2.toNatClampNeg = y.2.toNatClampNeg) := (by rw [x1.1, y1.1, nI_clamp (by omega), nI_clamp (by omega)]; exact decide_eq_decide.mpr (nI_eq (by omega) (by omega)))
      rw [decide_eq_true hc27, Bool.true_and, exy] at h1
      rw [y1.1, x1.1]
      refine R_gs 32 rfl ?_
      refine W_b rfl (fun hc32 => ?_) (fun hc32 => ?_)
      ·
        rw [nI_eq (by omega) (by omega)] at hc32
        rw [decide_eq_true hc32, Bool.true_or] at h1
        refine R_gs 54 rfl ?_
        refine R_k rfl rfl (c_blameIf kO (b := true) (k := 3) (by decide) c4 (fun h5 f5 c5 => ?_))
        refine R_gs 58 rfl ?_
        refine R_k rfl rfl (c_step kO c5 (fun h6 f6 c6 => ?_))
        have F6 := (F4.trans f5).trans f6
        have p6 := p.xr ha' F6
        refine R_gs 65 rfl ?_
        refine W_bf rfl (fun e => absurd (bl_z (by decide) (sp_z (c6.fz.mp e))).1 (by decide)) ?_
        refine W_f rfl (by first | rfl | exact ⟨rfl, by first | decide | assumption | exact Or.inl rfl | exact Or.inr rfl | exact b2i_01 _⟩) ?_
        rw [if_neg (fun e => absurd (bl_z (by decide) (sp_z e)).1 (by decide))] at h1; exact h1 _ F6.dr c6 p6
      ·
        rw [nI_eq (by omega) (by omega)] at hc32
        rw [decide_eq_false hc32, Bool.false_or] at h1
        have pl := pr_lt y.2.toNatClampNeg (by omega) x.2.toNatClampNeg (by omega) (by omega)
        refine R_gs 41 rfl ?_
        try rw [v5]
        refine R_k rfl rfl (c_pairBit (by omega) (by omega) (by omega) ?_)
        refine R_gs 45 rfl ?_
        refine W_b rfl (fun hc45 => ?_) (fun hc45 => ?_)
        ·
          rw [pb_and (by omega)] at hc45
          refine R_gs 54 rfl ?_
          rw [hc45] at h1
          refine R_k rfl rfl (c_blameIf kO (b := false) (k := 3) (by decide) c4 (fun h5 f5 c5 => ?_))
          refine R_gs 58 rfl ?_
          refine R_k rfl rfl (c_step kO c5 (fun h6 f6 c6 => ?_))
          have F6 := (F4.trans f5).trans f6
          have p6 := p.xr ha' F6
          refine R_gs 65 rfl ?_
          refine W_b rfl (fun hc65 => ?_) (fun hc65 => ?_)
          ·
            rw [c6.fz] at hc65
            rw [if_pos hc65] at h1
            have pX := pdc_K (p := y.2.toNatClampNeg) (r := x.2.toNatClampNeg) p6
            have v6 := p6.2.2.2.1
            refine R_gs 75 rfl ?_
            try rw [v5]
            refine R_k rfl rfl (c_pairBit (by omega) (by omega) (by omega) ?_)
            refine R_gs 82 rfl ?_
            refine W_f rfl (by first | rfl | exact ⟨rfl, by first | decide | assumption | exact Or.inl rfl | exact Or.inr rfl | exact b2i_01 _⟩) ?_
            rw [← v6] at pX; exact h1 _ (F6.dr.trans (Fr.da ((Fr.refl _ h6).wI rfl))) (c6.da ha' ((Fr.refl _ h6).wI rfl)) pX
          ·
            rw [c6.fz] at hc65
            rw [if_neg hc65] at h1
            refine W_f rfl (by first | rfl | exact ⟨rfl, by first | decide | assumption | exact Or.inl rfl | exact Or.inr rfl | exact b2i_01 _⟩) ?_
            exact h1 _ F6.dr c6 p6
        ·
          rw [pb_and (by omega)] at hc45
          refine R_gs 54 rfl ?_
          rw [Bool.not_eq_false] at hc45
          rw [hc45] at h1
          refine R_k rfl rfl (c_blameIf kO (b := true) (k := 3) (by decide) c4 (fun h5 f5 c5 => ?_))
          refine R_gs 58 rfl ?_
          refine R_k rfl rfl (c_step kO c5 (fun h6 f6 c6 => ?_))
          have F6 := (F4.trans f5).trans f6
          have p6 := p.xr ha' F6
          refine R_gs 65 rfl ?_
          refine W_bf rfl (fun e => absurd (bl_z (by decide) (sp_z (c6.fz.mp e))).1 (by decide)) ?_
          refine W_f rfl (by first | rfl | exact ⟨rfl, by first | decide | assumption | exact Or.inl rfl | exact Or.inr rfl | exact b2i_01 _⟩) ?_
          rw [if_neg (fun e => absurd (bl_z (by decide) (sp_z e)).1 (by decide))] at h1; exact h1 _ F6.dr c6 p6
    ·
      rw [c4.fz] at hc27
      rw [decide_eq_false hc27, Bool.false_and] at h1
      refine R_gs 54 rfl ?_
      refine R_k rfl rfl (c_blameIf kO (b := false) (k := 3) (by decide) c4 (fun h5 f5 c5 => ?_))
      refine R_gs 58 rfl ?_
      refine R_k rfl rfl (c_step kO c5 (fun h6 f6 c6 => ?_))
      have F6 := (F4.trans f5).trans f6
      have p6 := p.xr ha' F6
      refine R_gs 65 rfl ?_
      refine W_bf rfl (fun e => hc27 (bl_z (by decide) (sp_z (c6.fz.mp e))).2) ?_
      refine W_f rfl (by first | rfl | exact ⟨rfl, by first | decide | assumption | exact Or.inl rfl | exact Or.inr rfl | exact b2i_01 _⟩) ?_
      rw [if_neg (fun e => hc27 (bl_z (by decide) (sp_z e)).2)] at h1; exact h1 _ F6.dr c6 p6
end
