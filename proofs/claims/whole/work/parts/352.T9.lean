theorem told_le {b : Bool} {v : Nat} (hv : v ≤ 9) : (if b = true then nI (v + 1) else 0) ≤ 0 ↔ b = false := by
  cases b with
  | false => exact ⟨fun _ => rfl, fun _ => (show (0 : Int32) ≤ 0 by decide)⟩
  | true =>
    rw [if_pos rfl]
    exact ⟨fun e => absurd ((nI_leI (b := 0) (by omega) (by omega)).mp e) (by omega), fun e => by cases e⟩
theorem if_one {b : Bool} : (if b = true then (1 : Int32) else 0) = 1 ↔ b = true := by cases b <;> simp
section
variable {d k n : Nat} {h h' : AH} {K : TKs} {s : RS} {D : PD} {N : SN'} {Q : Option Value → AH → Prop}
theorem m_readLikes (kO : TokOK K) (ht : tk K s.1 = 13) (hf : s.2 = 0) (c : MF h K s) (p : PdM h D n) (hn : n ≤ s.1) (o : PdO D) (oB : PdB D) (h1 : ∀ h', YV h h' → MF h' K (lnG K s D).1 → ((lnG K s D).1.2 = 0 → ∃ n, n ≤ (lnG K s D).1.1 ∧ PdM h' (lnG K s D).2 n) → Q none h') : Rc (d + 6) m_X13_readLikes [.ref 235] h Q := by
  have hs := c.2.1
  have o3 := o.2.2.1
  have o4 := o.2.2.2.1
  have tz1 : tz K 13 s = true := (by unfold tz; rw [decide_eq_true hf, decide_eq_true ht]; rfl)
  have f0 := c.nx kO (by decide) tz1
  have m0 := MR.w7 h (hI h 235 7 + 1)
  have q0 : s.1 ≤ (sp K s).1 := sp_le (Nat.le_refl _)
  unfold lnG at h1
  dsimp only at h1
  have ny := rk_n (K := K) (s := sp K s) (σ := 2) o
  have gy : (sp K s).1 ≤ (rk K (dN D) 2 (sp K s)).1.1 := rk_le (Nat.le_refl _)
  obtain ⟨y, hy⟩ : ∃ y, y = rk K (dN D) 2 (sp K s) := ⟨_, rfl⟩
  rw [← hy] at h1 ny gy
  have nx := lu_n (K := K) (s := y.1) (σ := 2) o
  have zx := lu_z (K := K) (s := y.1) (N := dN D) (σ := 2)
  have gx : y.1.1 = (lu K (dN D) 2 y.1).1.1 := (by unfold lu; dsimp only; rw [bl_1, bl_1])
  obtain ⟨x, hx⟩ : ∃ x, x = lu K (dN D) 2 y.1 := ⟨_, rfl⟩
  rw [← hx] at h1 nx zx gx
  have bz : ∀ k, 0 < k → x.1.2 = 0 → ¬ (bl K true k x.1).2 = 0 := fun k hk hs => by rw [bl_y hs]; dsimp only; omega
  refine R_in rfl rfl ?_
  refine R_gs 14 rfl ?_
  refine R_k rfl rfl (m_takeTold (r := true) (σ := 2) kO f0 (p.mr m0).2.2.2.2.2.2.1 o.nm o.nd (by omega) (fun h2 w2 m2 c2 e2 => ?_))
  rw [← hy] at c2 e2
  have p2 := (p.mr m0).mr m2
  refine R_gs 22 rfl ?_
  refine R_k rfl rfl (m_toldHere (r := true) (σ := 2) kO c2 p2.2.2.2.2.2.2.1 o.nm o.nd (by omega) (fun h3 w3 m3 c3 e3 => ?_))
  rw [← hx] at c3 e3
  have p3 := p2.mr m3
  have V3 := (m0.v.trans m2.v).trans m3.v
  refine R_gs 41 rfl ?_
  refine W_b rfl (fun hc41 => ?_) (fun hc41 => ?_)
  ·
    rw [c3.fz] at hc41
    have y1 := ny (zx hc41).1
    have x1 := nx hc41
    have y2 : y.2.toNatClampNeg < dP D := y1.2
    have x2 : x.2.toNatClampNeg < dP D := x1.2
    have v5 := (p3.2.2.2.2.2.1 y.2.toNatClampNeg (by omega)).2 x.2.toNatClampNeg (by omega)
    have w2e := (e2 (zx hc41).1).trans y1.1
    have w3e := (e3 hc41).trans x1.1
    rw [w2e, w3e]
    have tnz : tk K x.1.1 ≠ 0 := (by rw [← gx]; exact (c2.val kO (zx hc41).2.1).2.2)
    obtain ⟨u1, u2⟩ := sp_1 kO c3.2.1 hc41 tnz
    have d9 := oB.2.1 y.2.toNatClampNeg x.2.toNatClampNeg
    have exy : decide (x.2 = y.2) = decide (x.2.toNatClampNeg = y.2.toNatClampNeg) := (by rw [x1.1, y1.1, nI_clamp (by omega), nI_clamp (by omega)]; exact decide_eq_decide.mpr (nI_eq (by omega) (by omega)))
    rw [decide_eq_true hc41, Bool.true_and, exy] at h1
    refine R_gs 46 rfl ?_
    refine W_b rfl (fun hc46 => ?_) (fun hc46 => ?_)
    ·
      rw [nI_eq (by omega) (by omega)] at hc46
      rw [decide_eq_true hc46.symm, Bool.true_or, sp_n (bz 3 (by omega) hc41)] at h1
      refine R_gs 60 rfl ?_
      refine R_k rfl rfl (m_wrong kO (k := 3) (by decide) c3 (fun h4 m4 c4 => ?_))
      refine R_gs 72 rfl ?_
      refine W_bf rfl (fun e => bz 3 (by omega) hc41 (c4.fl.mp e)) ?_
      refine R_gs 88 rfl ?_
      refine R_k rfl rfl (m_takeNumber (m := 0) kO (by omega) (c4.st (MR.w7 _ _) c4.2.1 (by show hI h4 235 7 + 0 = _; rw [c4.2.2.1, Int32.add_zero]) c4.2.2.2.1 c4.2.2.2.2.1) (fun h7 w7 m7 c7 e7 => ?_))
      refine R_gs 97 rfl ?_
      refine W_bf rfl (fun e => bz 3 (by omega) hc41 (rn_z (c7.fz.mp e)).1) ?_
      refine W_f rfl (by first | rfl | exact ⟨rfl, by first | decide | assumption | exact Or.inl rfl | exact Or.inr rfl | exact b2i_01 _⟩) ?_
      exact h1 _ (((V3.trans m4.v).trans (MR.w7 _ _).v).trans m7.v) c7 (fun e => absurd (rn_z e).1 (bz 3 (by omega) hc41))
    ·
      rw [nI_eq (by omega) (by omega)] at hc46
      rw [decide_eq_false (fun e => hc46 e.symm), Bool.false_or] at h1
      refine R_gs 54 rfl ?_
      refine R_il rfl rfl (j := 160 + 6 * y.2.toNatClampNeg + x.2.toNatClampNeg) (ix_add (ix_add (ix_lit 160) (ix_mul (ix_lit 6) (ix_nI _))) (ix_nI _)) (by omega) v5 ?_
      refine W_b rfl (fun hc55 => ?_) (fun hc55 => ?_)
      ·
        rw [show ((if bt (dT D y.2.toNatClampNeg) x.2.toNatClampNeg = true then nI (dG D y.2.toNatClampNeg x.2.toNatClampNeg + 1) else 0) ≤ 0 ↔ bt (dT D y.2.toNatClampNeg) x.2.toNatClampNeg = false) from told_le d9] at hc55
        rw [hc55, bl_n (s := x.1) (k := 3) (Or.inl rfl), u1] at h1
        refine R_gs 72 rfl ?_
        refine W_bt rfl (c3.fl.mpr hc41) ?_
        refine R_gs 88 rfl ?_
        refine R_k rfl rfl (m_takeNumber (m := 0) kO (by omega) (s := (x.1.1 + 1, 0)) (c3.st (MR.w7 _ _) u2 (by show hI h3 235 7 + 1 = _; rw [c3.2.2.1, nI_1]) (by show hI h3 235 8 = _; rw [c3.2.2.2.1, hc41]) (Nat.zero_le _)) (fun h7 w7 m7 c7 e7 => ?_))
        refine R_gs 97 rfl ?_
        refine W_b rfl (fun hc97 => ?_) (fun hc97 => ?_)
        ·
          rw [c7.fz] at hc97
          rw [if_pos hc97] at h1
          have pX := pdm_G (v := tn K (x.1.1 + 1)) (p' := y.2.toNatClampNeg) (r := x.2.toNatClampNeg) ((p3.mr (MR.w7 h3 (hI h3 235 7 + 1))).mr m7) o4 (by omega) (by omega)
          rw [← nI_1, ← e7 hc97] at pX
          refine R_gs 109 rfl ?_
          refine R_is rfl rfl (j := 160 + 6 * y.2.toNatClampNeg + x.2.toNatClampNeg) (ix_add (ix_add (ix_lit 160) (ix_mul (ix_lit 6) (ix_nI _))) (ix_nI _)) (by omega) ?_
          refine W_f rfl (by first | rfl | exact ⟨rfl, by first | decide | assumption | exact Or.inl rfl | exact Or.inr rfl | exact b2i_01 _⟩) ?_
          exact h1 _ (((V3.trans (MR.w7 _ _).v).trans m7.v).trans (YV.w1 (by omega) _)) (c7.v1 (by omega) _) (fun _ => ⟨n, rn_ge (by dsimp only; omega), pX⟩)
        ·
          rw [c7.fz] at hc97
          rw [if_neg hc97] at h1
          refine W_f rfl (by first | rfl | exact ⟨rfl, by first | decide | assumption | exact Or.inl rfl | exact Or.inr rfl | exact b2i_01 _⟩) ?_
          exact h1 _ ((V3.trans (MR.w7 _ _).v).trans m7.v) c7 (fun e => absurd e hc97)
      ·
        rw [show ((if bt (dT D y.2.toNatClampNeg) x.2.toNatClampNeg = true then nI (dG D y.2.toNatClampNeg x.2.toNatClampNeg + 1) else 0) ≤ 0 ↔ bt (dT D y.2.toNatClampNeg) x.2.toNatClampNeg = false) from told_le d9] at hc55
        rw [Bool.not_eq_false] at hc55
        rw [hc55, sp_n (bz 3 (by omega) hc41)] at h1
        refine R_gs 60 rfl ?_
        refine R_k rfl rfl (m_wrong kO (k := 3) (by decide) c3 (fun h4 m4 c4 => ?_))
        refine R_gs 72 rfl ?_
        refine W_bf rfl (fun e => bz 3 (by omega) hc41 (c4.fl.mp e)) ?_
        refine R_gs 88 rfl ?_
        refine R_k rfl rfl (m_takeNumber (m := 0) kO (by omega) (c4.st (MR.w7 _ _) c4.2.1 (by show hI h4 235 7 + 0 = _; rw [c4.2.2.1, Int32.add_zero]) c4.2.2.2.1 c4.2.2.2.2.1) (fun h7 w7 m7 c7 e7 => ?_))
        refine R_gs 97 rfl ?_
        refine W_bf rfl (fun e => bz 3 (by omega) hc41 (rn_z (c7.fz.mp e)).1) ?_
        refine W_f rfl (by first | rfl | exact ⟨rfl, by first | decide | assumption | exact Or.inl rfl | exact Or.inr rfl | exact b2i_01 _⟩) ?_
        exact h1 _ (((V3.trans m4.v).trans (MR.w7 _ _).v).trans m7.v) c7 (fun e => absurd (rn_z e).1 (bz 3 (by omega) hc41))
  ·
    rw [c3.fz] at hc41
    rw [decide_eq_false hc41, Bool.false_and, bl_n (s := x.1) (k := 3) (Or.inl rfl), sp_n hc41] at h1
    refine R_gs 72 rfl ?_
    refine W_bf rfl (fun e => hc41 (c3.fl.mp e)) ?_
    refine R_gs 88 rfl ?_
    refine R_k rfl rfl (m_takeNumber (m := 0) kO (by omega) (c3.st (MR.w7 _ _) c3.2.1 (by show hI h3 235 7 + 0 = _; rw [c3.2.2.1, Int32.add_zero]) c3.2.2.2.1 c3.2.2.2.2.1) (fun h7 w7 m7 c7 e7 => ?_))
    refine R_gs 97 rfl ?_
    refine W_bf rfl (fun e => hc41 (rn_z (c7.fz.mp e)).1) ?_
    refine W_f rfl (by first | rfl | exact ⟨rfl, by first | decide | assumption | exact Or.inl rfl | exact Or.inr rfl | exact b2i_01 _⟩) ?_
    exact h1 _ ((V3.trans (MR.w7 _ _).v).trans m7.v) c7 (fun e => absurd (rn_z e).1 hc41)
theorem m_readKept (kO : TokOK K) (ht : tk K s.1 = 14) (hf : s.2 = 0) (c : MF h K s) (p : PdM h D n) (hn : n ≤ s.1) (o : PdO D) (h1 : ∀ h', YV h h' → MF h' K (lnK K s D).1 → ((lnK K s D).1.2 = 0 → ∃ n, n ≤ (lnK K s D).1.1 ∧ PdM h' (lnK K s D).2 n) → Q none h') : Rc (d + 6) m_X13_readKept [.ref 235] h Q := by
  have hs := c.2.1
  have o3 := o.2.2.1
  have tz1 : tz K 14 s = true := (by unfold tz; rw [decide_eq_true hf, decide_eq_true ht]; rfl)
  have f0 := c.nx kO (by decide) tz1
  have m0 := MR.w7 h (hI h 235 7 + 1)
  have q0 : s.1 ≤ (sp K s).1 := sp_le (Nat.le_refl _)
  unfold lnK at h1
  dsimp only at h1
  have ny := rk_n (K := K) (s := sp K s) (σ := 2) o
  have gy : (sp K s).1 ≤ (rk K (dN D) 2 (sp K s)).1.1 := rk_le (Nat.le_refl _)
  obtain ⟨y, hy⟩ : ∃ y, y = rk K (dN D) 2 (sp K s) := ⟨_, rfl⟩
  rw [← hy] at h1 ny gy
  have nx := lu_n (K := K) (s := y.1) (σ := 2) o
  have zx := lu_z (K := K) (s := y.1) (N := dN D) (σ := 2)
  have gx : y.1.1 = (lu K (dN D) 2 y.1).1.1 := (by unfold lu; dsimp only; rw [bl_1, bl_1])
  obtain ⟨x, hx⟩ : ∃ x, x = lu K (dN D) 2 y.1 := ⟨_, rfl⟩
  rw [← hx] at h1 nx zx gx
  have bz : ∀ k, 0 < k → x.1.2 = 0 → ¬ (bl K true k x.1).2 = 0 := fun k hk hs => by rw [bl_y hs]; dsimp only; omega
  refine R_in rfl rfl ?_
  refine R_gs 14 rfl ?_
  refine R_k rfl rfl (m_takeTold (r := true) (σ := 2) kO f0 (p.mr m0).2.2.2.2.2.2.1 o.nm o.nd (by omega) (fun h2 w2 m2 c2 e2 => ?_))
  rw [← hy] at c2 e2
  have p2 := (p.mr m0).mr m2
  refine R_gs 22 rfl ?_
  refine R_k rfl rfl (m_toldHere (r := true) (σ := 2) kO c2 p2.2.2.2.2.2.2.1 o.nm o.nd (by omega) (fun h3 w3 m3 c3 e3 => ?_))
  rw [← hx] at c3 e3
  have p3 := p2.mr m3
  have V3 := (m0.v.trans m2.v).trans m3.v
  refine R_gs 30 rfl ?_
  refine W_b rfl (fun hc30 => ?_) (fun hc30 => ?_)
  ·
    rw [c3.fz] at hc30
    have y1 := ny (zx hc30).1
    have x1 := nx hc30
    have y2 : y.2.toNatClampNeg < dP D := y1.2
    have x2 : x.2.toNatClampNeg < dP D := x1.2
    have v5 := p3.2.2.2.1
    have w2e := (e2 (zx hc30).1).trans y1.1
    have w3e := (e3 hc30).trans x1.1
    rw [w2e, w3e]
    have tnz : tk K x.1.1 ≠ 0 := (by rw [← gx]; exact (c2.val kO (zx hc30).2.1).2.2)
    obtain ⟨u1, u2⟩ := sp_1 kO c3.2.1 hc30 tnz
    have exy : decide (x.2 = y.2) = decide (x.2.toNatClampNeg = y.2.toNatClampNeg) := (by rw [x1.1, y1.1, nI_clamp (by omega), nI_clamp (by omega)]; exact decide_eq_decide.mpr (nI_eq (by omega) (by omega)))
    rw [decide_eq_true hc30, Bool.true_and, exy] at h1
    refine R_gs 35 rfl ?_
    refine W_b rfl (fun hc35 => ?_) (fun hc35 => ?_)
    ·
      rw [nI_eq (by omega) (by omega)] at hc35
      rw [decide_eq_true hc35.symm, Bool.true_or, sp_n (bz 3 (by omega) hc30)] at h1
      refine R_gs 59 rfl ?_
      refine R_k rfl rfl (m_wrong kO (k := 3) (by decide) c3 (fun h4 m4 c4 => ?_))
      refine R_gs 66 rfl ?_
      refine W_bf rfl (fun e => bz 3 (by omega) hc30 (c4.fz.mp e)) ?_
      refine W_f rfl (by first | rfl | exact ⟨rfl, by first | decide | assumption | exact Or.inl rfl | exact Or.inr rfl | exact b2i_01 _⟩) ?_
      exact h1 _ (V3.trans m4.v) c4 (fun e => absurd e (bz 3 (by omega) hc30))
    ·
      rw [nI_eq (by omega) (by omega)] at hc35
      rw [decide_eq_false (fun e => hc35 e.symm), Bool.false_or] at h1
      have pl := pr_lt y.2.toNatClampNeg (by omega) x.2.toNatClampNeg (by omega) (by omega)
      refine R_gs 44 rfl ?_
      refine R_il rfl rfl (j := 105) rfl (by omega) v5 ?_
      refine R_gs 47 rfl ?_
      refine R_k rfl rfl (m_pairOf (by omega) (by omega) (by omega) ?_)
      refine R_gs 54 rfl ?_
      rw [sh_and (by omega)]
      refine W_b rfl (fun hc54 => ?_) (fun hc54 => ?_)
      ·
        rw [show ((if bt (dE D) (pr y.2.toNatClampNeg x.2.toNatClampNeg) = true then (1 : Int32) else 0) = 1 ↔ bt (dE D) (pr y.2.toNatClampNeg x.2.toNatClampNeg) = true) from if_one] at hc54
        rw [hc54, sp_n (bz 3 (by omega) hc30)] at h1
        refine R_gs 59 rfl ?_
        refine R_k rfl rfl (m_wrong kO (k := 3) (by decide) c3 (fun h4 m4 c4 => ?_))
        refine R_gs 66 rfl ?_
        refine W_bf rfl (fun e => bz 3 (by omega) hc30 (c4.fz.mp e)) ?_
        refine W_f rfl (by first | rfl | exact ⟨rfl, by first | decide | assumption | exact Or.inl rfl | exact Or.inr rfl | exact b2i_01 _⟩) ?_
        exact h1 _ (V3.trans m4.v) c4 (fun e => absurd e (bz 3 (by omega) hc30))
      ·
        rw [show ((if bt (dE D) (pr y.2.toNatClampNeg x.2.toNatClampNeg) = true then (1 : Int32) else 0) = 1 ↔ bt (dE D) (pr y.2.toNatClampNeg x.2.toNatClampNeg) = true) from if_one] at hc54
        rw [Bool.not_eq_true] at hc54
        rw [hc54, bl_n (s := x.1) (k := 3) (Or.inl rfl), u1] at h1
        refine R_gs 66 rfl ?_
        refine W_bt rfl (c3.fz.mpr hc30) ?_
        refine R_gs 86 rfl ?_
        refine R_il rfl rfl (j := 105) rfl (by omega) (v := dE D) v5 ?_
        refine R_gs 90 rfl ?_
        refine R_k rfl rfl (m_pairOf (by omega) (by omega) (by omega) ?_)
        refine R_gs 95 rfl ?_
        rw [or_if _ _ (by omega)]
        refine R_is rfl rfl (j := 105) rfl (by omega) ?_
        refine W_f rfl (by first | rfl | exact ⟨rfl, by first | decide | assumption | exact Or.inl rfl | exact Or.inr rfl | exact b2i_01 _⟩) ?_
        rw [if_pos rfl] at h1
        exact h1 _ ((V3.trans (MR.w7 _ _).v).trans (YV.w1 (by omega) _)) (((c3.st (s' := (x.1.1 + 1, 0)) (MR.w7 _ _) u2 (by show hI h3 235 7 + 1 = _; rw [c3.2.2.1, nI_1]) (by show hI h3 235 8 = _; rw [c3.2.2.2.1, hc30]) (Nat.zero_le _))).v1 (by omega) _) (fun _ => ⟨n, by dsimp only; omega, pdm_K (p3.mr (MR.w7 h3 (hI h3 235 7 + 1)))⟩)
  ·
    rw [c3.fz] at hc30
    rw [decide_eq_false hc30, Bool.false_and, bl_n (s := x.1) (k := 3) (Or.inl rfl), sp_n hc30] at h1
    refine R_gs 66 rfl ?_
    refine W_bf rfl (fun e => hc30 (c3.fz.mp e)) ?_
    refine W_f rfl (by first | rfl | exact ⟨rfl, by first | decide | assumption | exact Or.inl rfl | exact Or.inr rfl | exact b2i_01 _⟩) ?_
    exact h1 _ V3 c3 (fun e => absurd e hc30)
end
