section
variable {d k n : Nat} {h h' : AH} {K : TKs} {s : RS} {D : PD} {N : SN'} {Q : Option Value → AH → Prop}
theorem LwM.w1 {j i : Nat} {df : List Int32} {c : List Int32 × Bool} {v : Int32} (l : LwM h j n df c) (hj : j ≠ i) : LwM (wI h 241 i v) j n df c := by
  have e : hI (wI h 241 i v) 241 j = hI h 241 j := (wI_at _ _ _ _ _).trans (if_neg hj)
  rcases l with ⟨q1, q2, q3⟩ | ⟨q1, k, q2, q3, q4⟩
  · exact Or.inl ⟨q1, e.trans q2, q3⟩
  · exact Or.inr ⟨q1, k, e.trans q2, q3, q4⟩
theorem pdm_X {q : Nat} {x : Nat × Nat × Nat} (p : PdM h D n) (hq : q = dM D) (h6 : q < 6) : PdM (wI (wI (wI h 241 (108 + 3 * q) (nI x.1)) 241 (108 + 3 * q + 1) (nI x.2.1)) 241 (108 + 3 * q + 2) (nI x.2.2)) (setX D q x) n := by
  obtain ⟨c1, c2, c3, c4, c5, c6, c7, c8, c9, c10, c11⟩ := p
  have e : ∀ j, hI (wI (wI (wI h 241 (108 + 3 * q) (nI x.1)) 241 (108 + 3 * q + 1) (nI x.2.1)) 241 (108 + 3 * q + 2) (nI x.2.2)) 241 j = if j = 108 + 3 * q + 2 then nI x.2.2 else if j = 108 + 3 * q + 1 then nI x.2.1 else if j = 108 + 3 * q then nI x.1 else hI h 241 j := fun j => by rw [wI_at, wI_at, wI_at]
  have en : ∀ j, (j < 108 + 3 * q ∨ 108 + 3 * q + 2 < j) → hI (wI (wI (wI h 241 (108 + 3 * q) (nI x.1)) 241 (108 + 3 * q + 1) (nI x.2.1)) 241 (108 + 3 * q + 2) (nI x.2.2)) 241 j = hI h 241 j := fun j hj => by rw [e, if_neg (by omega), if_neg (by omega), if_neg (by omega)]
  refine ⟨?_, ?_, ?_, ?_, fun r hr => ?_, fun r hr => ⟨fun w hw => ?_, fun u hu => ?_⟩, c7, c8, c9, ((c10.w1 (by omega)).w1 (by omega)).w1 (by omega), ((c11.w1 (by omega)).w1 (by omega)).w1 (by omega)⟩
  · rw [en _ (by omega)]; exact c1
  · rw [en _ (by omega)]; exact c2
  · rw [en _ (by omega)]; exact c3
  · rw [en _ (by omega)]; exact c4
  · have hr : r < q + 1 := hr
    show _ = nI (up1 (dX D) q x r).1 ∧ _ = nI (up1 (dX D) q x r).2.1 ∧ _ = nI (up1 (dX D) q x r).2.2
    unfold up1
    by_cases er : r = q
    · subst er
      rw [if_pos rfl, e, e, e, if_neg (by omega), if_neg (by omega), if_pos rfl, if_neg (by omega), if_pos rfl, if_pos rfl]; exact ⟨rfl, rfl, rfl⟩
    · rw [if_neg er, en _ (by omega), en _ (by omega), en _ (by omega)]; exact c5 r (by omega)
  · rw [en _ (by omega)]; exact (c6 r hr).1 w hw
  · rw [en _ (by omega)]; exact (c6 r hr).2 u hu
theorem pdm_O {p' w v : Nat} (p : PdM h D n) (m6 : dM D ≤ 6) (hp : p' < 6) (hw : w < 5) : PdM (wI h 241 (126 + 5 * p' + w) (nI v)) (setO D p' w v) n := by
  obtain ⟨c1, c2, c3, c4, c5, c6, c7, c8, c9, c10, c11⟩ := p
  have e : ∀ j, hI (wI h 241 (126 + 5 * p' + w) (nI v)) 241 j = if j = 126 + 5 * p' + w then nI v else hI h 241 j := fun j => wI_at _ _ _ _ _
  refine ⟨?_, ?_, ?_, ?_, fun r hr => ?_, fun r hr => ⟨fun w' hw' => ?_, fun u hu => ?_⟩, c7, c8, c9, c10.w1 (by omega), c11.w1 (by omega)⟩
  · rw [e, if_neg (by omega)]; exact c1
  · rw [e, if_neg (by omega)]; exact c2
  · rw [e, if_neg (by omega)]; exact c3
  · rw [e, if_neg (by omega)]; exact c4
  · have hr : r < dM D := hr
    rw [e, e, e, if_neg (by omega), if_neg (by omega), if_neg (by omega)]; exact c5 r hr
  · show _ = nI (up3 (dO D) p' w v r w')
    rw [up3_v, e]
    by_cases er : r = p'
    · subst er
      rw [if_pos rfl]
      by_cases ew : w' = w
      · subst ew; rw [if_pos rfl, if_pos rfl]
      · rw [if_neg ew, if_neg (by omega)]; exact (c6 r hr).1 w' hw'
    · rw [if_neg er, if_neg (by omega)]; exact (c6 r hr).1 w' hw'
  · rw [e, if_neg (by omega)]; exact (c6 r hr).2 u hu
theorem pdm_G {p' r v : Nat} (p : PdM h D n) (m6 : dM D ≤ 6) (hp : p' < 6) (hr6 : r < 6) : PdM (wI h 241 (160 + 6 * p' + r) (nI (v + 1))) (setG D p' r v) n := by
  obtain ⟨c1, c2, c3, c4, c5, c6, c7, c8, c9, c10, c11⟩ := p
  have e : ∀ j, hI (wI h 241 (160 + 6 * p' + r) (nI (v + 1))) 241 j = if j = 160 + 6 * p' + r then nI (v + 1) else hI h 241 j := fun j => wI_at _ _ _ _ _
  refine ⟨?_, ?_, ?_, ?_, fun q hq => ?_, fun q hq => ⟨fun w' hw' => ?_, fun u hu => ?_⟩, c7, c8, c9, c10.w1 (by omega), c11.w1 (by omega)⟩
  · rw [e, if_neg (by omega)]; exact c1
  · rw [e, if_neg (by omega)]; exact c2
  · rw [e, if_neg (by omega)]; exact c3
  · rw [e, if_neg (by omega)]; exact c4
  · have hq : q < dM D := hq
    rw [e, e, e, if_neg (by omega), if_neg (by omega), if_neg (by omega)]; exact c5 q hq
  · rw [e, if_neg (by omega)]; exact (c6 q hq).1 w' hw'
  · show _ = if bt (up1 (dT D) p' (dT D p' ||| nI (2 ^ r)) q) u = true then nI (up3 (dG D) p' r v q u + 1) else 0
    rw [up3_v, e]
    unfold up1
    by_cases eq : q = p'
    · subst eq
      rw [if_pos rfl, if_pos rfl, pb_or (by omega) (by omega)]
      by_cases eu : u = r
      · subst eu; rw [if_pos rfl, if_pos rfl, decide_eq_true rfl, Bool.or_true, if_pos rfl]
      · rw [if_neg eu, if_neg (by omega), decide_eq_false eu, Bool.or_false]; exact (c6 q hq).2 u hu
    · rw [if_neg eq, if_neg eq, if_neg (by omega)]; exact (c6 q hq).2 u hu
theorem pdm_K {p' r : Nat} (p : PdM h D n) : PdM (wI h 241 105 (dE D ||| nI (2 ^ pr p' r))) (setK D p' r) n := by
  obtain ⟨c1, c2, c3, c4, c5, c6, c7, c8, c9, c10, c11⟩ := p
  have e : ∀ j, hI (wI h 241 105 (dE D ||| nI (2 ^ pr p' r))) 241 j = if j = 105 then (dE D ||| nI (2 ^ pr p' r)) else hI h 241 j := fun j => wI_at _ _ _ _ _
  refine ⟨?_, ?_, ?_, ?_, fun q hq => ?_, fun q hq => ⟨fun w' hw' => ?_, fun u hu => ?_⟩, c7, c8, c9, c10.w1 (by omega), c11.w1 (by omega)⟩
  · rw [e, if_neg (by omega)]; exact c1
  · rw [e, if_neg (by omega)]; exact c2
  · rw [e, if_neg (by omega)]; exact c3
  · rw [e, if_pos rfl]; rfl
  · rw [e, e, e, if_neg (by omega), if_neg (by omega), if_neg (by omega)]; exact c5 q hq
  · rw [e, if_neg (by omega)]; exact (c6 q hq).1 w' hw'
  · rw [e, if_neg (by omega)]; exact (c6 q hq).2 u hu
theorem sp_le {i : Nat} (hi : i ≤ s.1) : i ≤ (sp K s).1 := by
  unfold sp nxI
  split
  · split
    · dsimp only; omega
    · exact hi
  · exact hi
theorem bl_le {b : Bool} {k i : Nat} (hi : i ≤ s.1) : i ≤ (bl K b k s).1 := by rw [bl_1]; exact hi
theorem ex_le {t i : Nat} (hi : i ≤ s.1) : i ≤ (ex K t s).1 := sp_le (bl_le hi)
theorem lu_le {σ i : Nat} (hi : i ≤ s.1) : i ≤ (lu K N σ s).1.1 := by unfold lu; dsimp only; exact bl_le (bl_le hi)
theorem rk_le {σ i : Nat} (hi : i ≤ s.1) : i ≤ (rk K N σ s).1.1 := sp_le (lu_le hi)
theorem rn_ge {m i : Nat} (hi : i ≤ s.1) : i ≤ (rn K m s).1 := sp_le (bl_le (bl_le hi))
theorem MF.v1 {j : Nat} (hj : 100 ≤ j) (c : MF h K s) (v : Int32) : MF (wI h 241 j v) K s := c.fr (YV.w1 hj v).1 rfl rfl rfl rfl rfl rfl
theorem m_readPerson (kO : TokOK K) (ht : tk K s.1 = 9) (hf : s.2 = 0) (c : MF h K s) (p : PdM h D n) (hn : n ≤ s.1) (o : PdO D) (hM : dM D = dP D) (h1 : ∀ h', YV h h' → MF h' K (lnX K s D).1 → ((lnX K s D).1.2 = 0 → ∃ n, n ≤ (lnX K s D).1.1 ∧ PdM h' (lnX K s D).2 n) → Q none h') : Rc (d + 6) m_X13_readPerson [.ref 235] h Q := by
  have hs := c.2.1
  have oz := lnN_o kO (σ := 2) (Nat.le_refl _) hs o
  have ez := lnN_z (K := K) (σ := 2) (s := s) (D := D)
  have od := o.2.2.1
  unfold lnX at h1
  dsimp only at h1
  obtain ⟨z, hz⟩ : ∃ z, z = lnN K 2 s D := ⟨_, rfl⟩
  rw [← hz] at h1 oz ez
  have e2 : hI h 241 102 = nI (dP D) := p.2.2.1
  refine R_in rfl rfl ?_
  refine R_gs 9 rfl ?_
  refine R_il rfl rfl (j := 102) rfl (by omega) e2 ?_
  refine R_gs 19 rfl ?_
  refine R_k rfl rfl (m_readName (σ := 2) kO (by omega) ht hf c p hn o (fun h2 v2 c2 n2 p2 => ?_))
  rw [← hz] at c2 n2 p2
  refine R_gs 26 rfl ?_
  refine R_k rfl rfl (m_takeOne kO c2 (fun h3 w3 m3 c3 e3 => ?_))
  refine R_gs 32 rfl ?_
  refine R_k rfl rfl (m_takeWord (w := 3) kO (by decide) c3 (fun h4 m4 c4 => ?_))
  rw [show tw 3 = 10 from rfl] at c4
  have p4 := (p2.mr m3).mr m4
  refine R_gs 39 rfl ?_
  refine R_k rfl rfl (m_takeTold (r := true) (σ := 1) kO c4 p4.2.2.2.2.2.2.1 oz.nm oz.nd (by omega) (fun h5 w5 m5 c5 e5 => ?_))
  refine R_gs 45 rfl ?_
  refine R_k rfl rfl (m_takeWord (w := 4) kO (by decide) c5 (fun h6 m6 c6 => ?_))
  rw [show tw 4 = 11 from rfl] at c6
  refine R_gs 52 rfl ?_
  refine R_k rfl rfl (m_takeNumber (m := 0) kO (by omega) c6 (fun h7 w7 m7 c7 e7 => ?_))
  have p7 := (((p4.mr m5).mr m6).mr m7)
  have V7 := ((((v2.trans m3.v).trans m4.v).trans m5.v).trans m6.v).trans m7.v
  refine R_gs 61 rfl ?_
  refine W_b rfl (fun hc61 => ?_) (fun hc61 => ?_)
  ·
    rw [c7.fz] at hc61
    rw [if_pos hc61] at h1
    have n1 := rn_z hc61
    have n2' := ex_z n1.1
    have n3 := rk_n oz n2'.1
    have n4 := rk_z n2'.1
    have n5 := ex_z n4.1
    have n6 := bl_z (by decide) (sp_z n5.1)
    have n6' := n6.1
    rw [Bool.not_eq_false', decide_eq_true_eq] at n6'
    have tz1 : tk K z.1.1 < 38 := (kO.2.1 _ c2.2.1).1
    have n7 := mea5 _ tz1 n6'
    have n8 := ez n6.2
    have n9 : z.2.2 = dP D := n8.2.2.2.2.2
    have n10 : dP D < 6 := n8.2.1
    have w3e := e3 n5.1
    have w5e := e5 n2'.1
    have w7e := e7 hc61
    have pX := pdm_X (x := ((mea (tk K z.1.1)).toNatClampNeg, (rk K (dN z.2.1) 1 (ex K 10 (sp K (bl K (!decide (rol (tk K z.1.1) = 5)) 1 z.1)))).2.toNatClampNeg, tn K (ex K 11 (rk K (dN z.2.1) 1 (ex K 10 (sp K (bl K (!decide (rol (tk K z.1.1) = 5)) 1 z.1)))).1).1)) p7 (show z.2.2 = dM z.2.1 by rw [n9, n8.2.2.2.2.1]; exact hM.symm) (by omega)
    dsimp only at pX
    rw [← n7.1, ← n3.1, ← w7e, ← w5e, ← w3e, n9] at pX
    rw [n9, ← w5e, ← w3e] at h1
    refine R_gs 70 rfl ?_
    refine R_is rfl rfl (j := 108 + 3 * dP D) (ix_add (ix_lit 108) (ix_mul (ix_lit 3) (ix_nI _))) (by omega) ?_
    refine R_gs 79 rfl ?_
    refine R_is rfl rfl (j := 108 + 3 * dP D + 1) (ix_add (ix_add (ix_lit 108) (ix_mul (ix_lit 3) (ix_nI _))) (ix_lit 1)) (by omega) ?_
    refine R_gs 89 rfl ?_
    refine R_is rfl rfl (j := 108 + 3 * dP D + 2) (ix_add (ix_add (ix_lit 108) (ix_mul (ix_lit 3) (ix_nI _))) (ix_lit 2)) (by omega) ?_
    refine W_f rfl (by first | rfl | exact ⟨rfl, by first | decide | assumption | exact Or.inl rfl | exact Or.inr rfl | exact b2i_01 _⟩) ?_
    refine h1 _ (((V7.trans (YV.w1 (by omega) _)).trans (YV.w1 (by omega) _)).trans (YV.w1 (by omega) _)) (((c7.v1 (by omega) _).v1 (by omega) _).v1 (by omega) _) (fun _ => ⟨n, ?_, pX⟩)
    refine Nat.le_trans n2 ?_
    exact rn_ge (ex_le (rk_le (ex_le (sp_le (bl_le (Nat.le_refl _))))))
  ·
    rw [c7.fz] at hc61
    rw [if_neg hc61] at h1
    refine W_f rfl (by first | rfl | exact ⟨rfl, by first | decide | assumption | exact Or.inl rfl | exact Or.inr rfl | exact b2i_01 _⟩) ?_
    exact h1 _ V7 c7 (fun e => absurd e hc61)
theorem m_readSays (kO : TokOK K) (ht : tk K s.1 = 12) (hf : s.2 = 0) (c : MF h K s) (p : PdM h D n) (hn : n ≤ s.1) (o : PdO D) (oB : PdB D) (h1 : ∀ h', YV h h' → MF h' K (lnO K s D).1 → ((lnO K s D).1.2 = 0 → ∃ n, n ≤ (lnO K s D).1.1 ∧ PdM h' (lnO K s D).2 n) → Q none h') : Rc (d + 6) m_X13_readSays [.ref 235] h Q := by
  have hs := c.2.1
  have o1 := o.1
  have o3 := o.2.2.1
  have o4 := o.2.2.2.1
  have tz1 : tz K 12 s = true := (by unfold tz; rw [decide_eq_true hf, decide_eq_true ht]; rfl)
  have f0 := c.nx kO (by decide) tz1
  have m0 := MR.w7 h (hI h 235 7 + 1)
  have q0 : s.1 ≤ (sp K s).1 := sp_le (Nat.le_refl _)
  unfold lnO at h1
  dsimp only at h1
  have ny := rk_n (K := K) (s := sp K s) (σ := 2) o
  have gy : (sp K s).1 ≤ (rk K (dN D) 2 (sp K s)).1.1 := rk_le (Nat.le_refl _)
  obtain ⟨y, hy⟩ : ∃ y, y = rk K (dN D) 2 (sp K s) := ⟨_, rfl⟩
  rw [← hy] at h1 ny gy
  have nx := lu_n (K := K) (s := y.1) (σ := 0) o
  have zx := lu_z (K := K) (s := y.1) (N := dN D) (σ := 0)
  have gx : y.1.1 = (lu K (dN D) 0 y.1).1.1 := (by unfold lu; dsimp only; rw [bl_1, bl_1])
  obtain ⟨x, hx⟩ : ∃ x, x = lu K (dN D) 0 y.1 := ⟨_, rfl⟩
  rw [← hx] at h1 nx zx gx
  have bz : ∀ k, 0 < k → x.1.2 = 0 → ¬ (bl K true k x.1).2 = 0 := fun k hk hs => by rw [bl_y hs]; dsimp only; omega
  refine R_in rfl rfl ?_
  refine R_gs 14 rfl ?_
  refine R_k rfl rfl (m_takeTold (r := true) (σ := 2) kO f0 (p.mr m0).2.2.2.2.2.2.1 o.nm o.nd (by omega) (fun h2 w2 m2 c2 e2 => ?_))
  rw [← hy] at c2 e2
  have p2 := (p.mr m0).mr m2
  refine R_gs 21 rfl ?_
  refine R_k rfl rfl (m_toldHere (r := true) (σ := 0) kO c2 p2.2.2.2.2.2.2.1 o.nm o.nd (by omega) (fun h3 w3 m3 c3 e3 => ?_))
  rw [← hx] at c3 e3
  have p3 := p2.mr m3
  have V3 := (m0.v.trans m2.v).trans m3.v
  refine R_gs 38 rfl ?_
  refine W_b rfl (fun hc38 => ?_) (fun hc38 => ?_)
  ·
    rw [c3.fz] at hc38
    have y1 := ny (zx hc38).1
    have x1 := nx hc38
    have y2 : y.2.toNatClampNeg < dP D := y1.2
    have x2 : x.2.toNatClampNeg < dS D := x1.2
    have v5 := (p3.2.2.2.2.2.1 y.2.toNatClampNeg (by omega)).1 x.2.toNatClampNeg (by omega)
    have w2e := (e2 (zx hc38).1).trans y1.1
    have w3e := (e3 hc38).trans x1.1
    rw [w2e, w3e]
    have tnz : tk K x.1.1 ≠ 0 := (by rw [← gx]; exact (c2.val kO (zx hc38).2.1).2.2)
    obtain ⟨u1, u2⟩ := sp_1 kO c3.2.1 hc38 tnz
    have d9 := oB.1 y.2.toNatClampNeg x.2.toNatClampNeg
    rw [decide_eq_true hc38, Bool.true_and] at h1
    refine R_gs 46 rfl ?_
    refine R_il rfl rfl (j := 126 + 5 * y.2.toNatClampNeg + x.2.toNatClampNeg) (ix_add (ix_add (ix_lit 126) (ix_mul (ix_lit 5) (ix_nI _))) (ix_nI _)) (by omega) v5 ?_
    refine W_b rfl (fun hc47 => ?_) (fun hc47 => ?_)
    ·
      rw [show (nI (dO D y.2.toNatClampNeg x.2.toNatClampNeg) ≤ 0 ↔ dO D y.2.toNatClampNeg x.2.toNatClampNeg ≤ 0) from nI_leI (b := 0) (by omega) (by omega)] at hc47
      rw [decide_eq_false (by omega), bl_n (s := x.1) (k := 3) (Or.inl rfl), u1] at h1
      refine R_gs 64 rfl ?_
      refine W_bt rfl (c3.fl.mpr hc38) ?_
      refine R_gs 80 rfl ?_
      refine R_k rfl rfl (m_takeNumber (m := 1) kO (by omega) (s := (x.1.1 + 1, 0)) (c3.st (MR.w7 _ _) u2 (by show hI h3 235 7 + 1 = _; rw [c3.2.2.1, nI_1]) (by show hI h3 235 8 = _; rw [c3.2.2.2.1, hc38]) (Nat.zero_le _)) (fun h7 w7 m7 c7 e7 => ?_))
      refine R_gs 89 rfl ?_
      refine W_b rfl (fun hc89 => ?_) (fun hc89 => ?_)
      ·
        rw [c7.fz] at hc89
        rw [if_pos hc89] at h1
        have pX := pdm_O (v := tn K (x.1.1 + 1)) (p' := y.2.toNatClampNeg) (w := x.2.toNatClampNeg) ((p3.mr (MR.w7 h3 (hI h3 235 7 + 1))).mr m7) o4 (by omega) (by omega)
        rw [← e7 hc89] at pX
        refine R_gs 99 rfl ?_
        refine R_is rfl rfl (j := 126 + 5 * y.2.toNatClampNeg + x.2.toNatClampNeg) (ix_add (ix_add (ix_lit 126) (ix_mul (ix_lit 5) (ix_nI _))) (ix_nI _)) (by omega) ?_
        refine W_f rfl (by first | rfl | exact ⟨rfl, by first | decide | assumption | exact Or.inl rfl | exact Or.inr rfl | exact b2i_01 _⟩) ?_
        exact h1 _ (((V3.trans (MR.w7 _ _).v).trans m7.v).trans (YV.w1 (by omega) _)) (c7.v1 (by omega) _) (fun _ => ⟨n, rn_ge (by dsimp only; omega), pX⟩)
      ·
        rw [c7.fz] at hc89
        rw [if_neg hc89] at h1
        refine W_f rfl (by first | rfl | exact ⟨rfl, by first | decide | assumption | exact Or.inl rfl | exact Or.inr rfl | exact b2i_01 _⟩) ?_
        exact h1 _ ((V3.trans (MR.w7 _ _).v).trans m7.v) c7 (fun e => absurd e hc89)
    ·
      rw [show (nI (dO D y.2.toNatClampNeg x.2.toNatClampNeg) ≤ 0 ↔ dO D y.2.toNatClampNeg x.2.toNatClampNeg ≤ 0) from nI_leI (b := 0) (by omega) (by omega)] at hc47
      rw [decide_eq_true (by omega), sp_n (bz 3 (by omega) hc38)] at h1
      refine R_gs 52 rfl ?_
      refine R_k rfl rfl (m_wrong kO (k := 3) (by decide) c3 (fun h4 m4 c4 => ?_))
      refine R_gs 64 rfl ?_
      refine W_bf rfl (fun e => bz 3 (by omega) hc38 (c4.fl.mp e)) ?_
      refine R_gs 80 rfl ?_
      refine R_k rfl rfl (m_takeNumber (m := 1) kO (by omega) (c4.st (MR.w7 _ _) c4.2.1 (by show hI h4 235 7 + 0 = _; rw [c4.2.2.1, Int32.add_zero]) c4.2.2.2.1 c4.2.2.2.2.1) (fun h7 w7 m7 c7 e7 => ?_))
      refine R_gs 89 rfl ?_
      refine W_bf rfl (fun e => bz 3 (by omega) hc38 (rn_z (c7.fz.mp e)).1) ?_
      refine W_f rfl (by first | rfl | exact ⟨rfl, by first | decide | assumption | exact Or.inl rfl | exact Or.inr rfl | exact b2i_01 _⟩) ?_
      exact h1 _ (((V3.trans m4.v).trans (MR.w7 _ _).v).trans m7.v) c7 (fun e => absurd (rn_z e).1 (bz 3 (by omega) hc38))
  ·
    rw [c3.fz] at hc38
    rw [decide_eq_false hc38, Bool.false_and, bl_n (s := x.1) (k := 3) (Or.inl rfl), sp_n hc38] at h1
    refine R_gs 64 rfl ?_
    refine W_bf rfl (fun e => hc38 (c3.fl.mp e)) ?_
    refine R_gs 80 rfl ?_
    refine R_k rfl rfl (m_takeNumber (m := 1) kO (by omega) (c3.st (MR.w7 _ _) c3.2.1 (by show hI h3 235 7 + 0 = _; rw [c3.2.2.1, Int32.add_zero]) c3.2.2.2.1 c3.2.2.2.2.1) (fun h7 w7 m7 c7 e7 => ?_))
    refine R_gs 89 rfl ?_
    refine W_bf rfl (fun e => hc38 (rn_z (c7.fz.mp e)).1) ?_
    refine W_f rfl (by first | rfl | exact ⟨rfl, by first | decide | assumption | exact Or.inl rfl | exact Or.inr rfl | exact b2i_01 _⟩) ?_
    exact h1 _ ((V3.trans (MR.w7 _ _).v).trans m7.v) c7 (fun e => absurd (rn_z e).1 hc38)
end
