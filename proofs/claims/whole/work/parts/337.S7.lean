section
variable {d a : Nat} {h h' : AH} {K : TKs} {s : RS} {D : PD} {N : SN'} {Q : Option Value → AH → Prop}
/-! what is found is told -/
theorem fnN_v {σ : Nat} {l : List Nat} : ∀ m j, fnN N σ l j m = -1 ∨ ∃ k, j ≤ k ∧ k < j + m ∧ (N.2 k).1 = σ ∧ (N.2 k).2.1 = l ∧ fnN N σ l j m = nI (N.2 k).2.2
  | 0, _ => Or.inl rfl
  | m + 1, j => by
    rw [fnN_s]
    split
    · rename_i e
      exact Or.inr ⟨j, Nat.le_refl _, by omega, e.2, e.1, rfl⟩
    · rcases fnN_v (σ := σ) (l := l) m (j + 1) with e | ⟨k, h1, h2, h3⟩
      · exact Or.inl e
      · exact Or.inr ⟨k, by omega, by omega, h3⟩
theorem lu_z {σ : Nat} (hz : (lu K N σ s).1.2 = 0) : s.2 = 0 ∧ isNm (tk K s.1) = true ∧ ∃ k, k < N.1 ∧ (N.2 k).1 = σ ∧ (N.2 k).2.1 = tl K s.1 ∧ (lu K N σ s).2 = nI (N.2 k).2.2 := by
  unfold lu at *
  dsimp only at hz ⊢
  obtain ⟨z1, z2⟩ := bl_z (by decide) hz
  obtain ⟨z3, z4⟩ := bl_z (by decide) z2
  rw [if_pos z2] at z1 ⊢
  refine ⟨z4, by rw [Bool.not_eq_false'] at z3; exact z3, ?_⟩
  rcases fnN_v (N := N) (σ := σ) (l := tl K s.1) N.1 0 with e | ⟨k, -, h2, h3, h4, h5⟩
  · exact absurd e (of_decide_eq_false z1)
  · exact ⟨k, by omega, h3, h4, h5⟩
theorem rk_z {σ : Nat} (hz : (rk K N σ s).1.2 = 0) : s.2 = 0 ∧ isNm (tk K s.1) = true ∧ ∃ k, k < N.1 ∧ (N.2 k).1 = σ ∧ (N.2 k).2.1 = tl K s.1 ∧ (rk K N σ s).2 = nI (N.2 k).2.2 := lu_z (sp_z hz)
/-- the number of a known name, as a number -/
theorem lu_n {σ : Nat} (o : PdO D) (hz : (lu K (dN D) σ s).1.2 = 0) : (lu K (dN D) σ s).2 = nI (lu K (dN D) σ s).2.toNatClampNeg ∧ (lu K (dN D) σ s).2.toNatClampNeg < dct D σ := by
  obtain ⟨-, -, k, h1, h2, -, h4⟩ := lu_z hz
  have := o.2.2.2.2.2.1 k h1
  have od := dct_le o σ
  rw [h2] at this
  rw [h4, nI_clamp (by omega)]
  exact ⟨rfl, this.2.2⟩
theorem rk_n {σ : Nat} (o : PdO D) (hz : (rk K (dN D) σ s).1.2 = 0) : (rk K (dN D) σ s).2 = nI (rk K (dN D) σ s).2.toNatClampNeg ∧ (rk K (dN D) σ s).2.toNatClampNeg < dct D σ := lu_n o (sp_z hz)
theorem rn_z {m : Nat} (hz : (rn K m s).2 = 0) : s.2 = 0 ∧ tk K s.1 = 2 ∧ m ≤ tn K s.1 ∧ tn K s.1 ≤ 9 := by
  unfold rn at hz
  obtain ⟨z1, z2⟩ := bl_z (by decide) (sp_z hz)
  obtain ⟨z3, z4⟩ := bl_z (by decide) z2
  rw [Bool.or_eq_false_iff, decide_eq_false_iff_not, decide_eq_false_iff_not] at z1
  rw [Bool.not_eq_false', decide_eq_true_eq] at z3
  exact ⟨z4, z3, by omega, by omega⟩
theorem ex_z {t : Nat} (hz : (ex K t s).2 = 0) : s.2 = 0 ∧ tk K s.1 = t := by
  unfold ex at hz
  obtain ⟨z1, z2⟩ := bl_z (by decide) (sp_z hz)
  rw [Bool.not_eq_false', decide_eq_true_eq] at z1
  exact ⟨z2, z1⟩
/-! the class: lines -/
theorem c_readNewName {σ : Nat} (kO : TokOK K) (ha : a = 143 ∨ a = 171) (hσ : σ ≤ 2) (ht : tk K s.1 = 7 + σ) (c : CF h K s) (p : PdC h a D) (o : PdO D) (h1 : ∀ h', Fr (xdr a) h h' → CF h' K (lnN K σ s D).1 → PdC h' a (lnN K σ s D).2.1 → Q (some (.int (nI (lnN K σ s D).2.2))) h') : Rc (d + 3) m_X8_readNewName [.ref 6, .ref a] h Q := by
  unfold lnN at h1
  dsimp only at h1
  obtain ⟨s2, es⟩ : ∃ s2, s2 = sp K (bl K (decide (dmx σ ≤ dct D σ)) 5 s) := ⟨_, rfl⟩
  rw [← es] at h1
  refine R_in rfl rfl ?_
  refine R_gs 7 rfl ?_
  rw [c.tokS ht]
  refine R_gs 11 rfl ?_
  refine R_k rfl (q_ld ha) (c_isFull ha hσ p o ?_)
  refine R_gs 15 rfl ?_
  refine R_k rfl rfl (c_blameIf kO (k := 5) (by decide) c (fun h2 f2 c2 => ?_))
  refine R_gs 19 rfl ?_
  refine R_k rfl rfl (c_step kO c2 (fun h3 f3 c3 => ?_))
  rw [← es] at c3
  have p3 := p.xr ha (f2.trans f3)
  have t1 := c3.t38 kO
  refine R_gs 30 rfl ?_
  rw [c3.tok]
  refine R_k rfl (q_tk t1) (c_isName t1 ?_)
  refine R_j 41 (!isNm (tk K s2.1)) rfl (by rw [b2i0]; simp) rfl rfl ?_
  refine R_gs 42 rfl ?_
  refine R_k rfl rfl (c_blameIf kO (k := 1) (by decide) c3 (fun h4 f4 c4 => ?_))
  have p4 := p3.xr ha f4
  refine R_gs 54 rfl ?_
  refine R_k rfl (q_ld ha) (c_hasName (N := dN D) ha p4.2.2.2.2.2.2.1.1 o.nm.1 ?_)
  refine R_gs 58 rfl ?_
  refine R_k rfl rfl (c_blameIf kO (k := 3) (by decide) c4 (fun h5 f5 c5 => ?_))
  rw [bl_c (b' := hsN (dN D) (tl K s2.1)) (fun e => by
  have nz := bl_z (by decide) e
  rw [Bool.not_eq_false'] at nz
  have vl := c4.val kO (by rw [bl_1]; exact nz.1)
  rw [bl_1] at vl
  exact hs_is p4.2.2.2.2.2.2.1 o.nm vl.1 vl.2)] at c5
  have p5 := p4.xr ha f5
  have F5 := ((f2.trans f3).trans f4).trans f5
  refine R_gs 65 rfl ?_
  refine W_b rfl (fun hc65 => ?_) (fun hc65 => ?_)
  ·
    rw [c5.fz] at hc65
    rw [if_pos hc65, if_pos hc65] at h1
    have z1 := (bl_z (by decide) hc65).2
    have z2 := bl_z (by decide) z1
    rw [Bool.not_eq_false'] at z2
    have z3 := z2.2
    rw [es] at z3
    have z4 := of_decide_eq_false (bl_z (by decide) (sp_z z3)).1
    have vl := c5.val kO (by rw [bl_1, bl_1]; exact z2.1)
    rw [bl_1, bl_1] at vl
    refine R_gs 77 rfl ?_
    rw [vl.2]
    refine R_k rfl (q_ld ha) (c_addName ha hσ p5 o (by omega) (fun h6 f6 p6 => ?_))
    refine R_gs 86 rfl ?_
    refine R_k rfl rfl (c_step kO (c5.da ha f6) (fun h7 f7 c7 => ?_))
    refine R_gs 90 rfl ?_
    refine W_f rfl (by first | rfl | exact ⟨rfl, by first | decide | assumption | exact Or.inl rfl | exact Or.inr rfl | exact b2i_01 _⟩) ?_
    exact h1 _ ((F5.dr.trans f6.da).trans f7.dr) c7 (p6.xr ha f7)
  ·
    rw [c5.fz] at hc65
    rw [if_neg hc65, if_neg hc65] at h1
    refine R_gs 86 rfl ?_
    refine R_k rfl rfl (c_step kO c5 (fun h7 f7 c7 => ?_))
    refine R_gs 90 rfl ?_
    refine W_f rfl (by first | rfl | exact ⟨rfl, by first | decide | assumption | exact Or.inl rfl | exact Or.inr rfl | exact b2i_01 _⟩) ?_
    exact h1 _ (F5.trans f7).dr c7 (p5.xr ha f7)
theorem wI_o (h : AH) {b c : Nat} (hb : b ≠ c) (k : Nat) (v : Int32) : hI (wI h c k v) b = hI h b := wI_ne h k v hb
theorem pdc_X {p : Nat} {x : Nat × Nat × Nat} (c : PdC h a D) (hp : p = dM D) : PdC (wI (wI (wI h (a + 4) p (nI x.1)) (a + 5) p (nI x.2.1)) (a + 6) p (nI x.2.2)) a (setX D p x) := by
  obtain ⟨c1, c2, c3, c4, c5, c6, ⟨c7, c7'⟩, ⟨⟨c8, c8'⟩, c8''⟩, ⟨⟨c9, c9'⟩, c9''⟩⟩ := c
  have e : ∀ b, b ≠ a + 4 → b ≠ a + 5 → b ≠ a + 6 → hI (wI (wI (wI h (a + 4) p (nI x.1)) (a + 5) p (nI x.2.1)) (a + 6) p (nI x.2.2)) b = hI h b := fun b h4 h5 h6 => by
    rw [wI_o _ h6, wI_o _ h5, wI_o _ h4]
  refine ⟨?_, ?_, ?_, ?_, ?_, ?_, ⟨?_, ?_⟩, ⟨⟨?_, ?_⟩, ?_⟩, ⟨⟨?_, ?_⟩, ?_⟩⟩
  · rw [e a (by omega) (by omega) (by omega)]; exact c1
  · rw [e a (by omega) (by omega) (by omega)]; exact c2
  · rw [e a (by omega) (by omega) (by omega)]; exact c3
  · rw [e a (by omega) (by omega) (by omega)]; exact c4
  · intro q hq
    have hq : q < p + 1 := hq
    rw [wI_o _ (by omega : a + 4 ≠ a + 6), wI_o _ (by omega : a + 4 ≠ a + 5), wI_at, wI_o _ (by omega : a + 5 ≠ a + 6), wI_at, wI_at, wI_o _ (by omega : a + 5 ≠ a + 4), wI_o _ (by omega : a + 6 ≠ a + 5), wI_o _ (by omega : a + 6 ≠ a + 4)]
    show _ = nI (up1 (dX D) p x q).1 ∧ _ = nI (up1 (dX D) p x q).2.1 ∧ _ = nI (up1 (dX D) p x q).2.2
    unfold up1
    by_cases eq : q = p
    · rw [if_pos eq, if_pos eq, if_pos eq, if_pos eq]; exact ⟨rfl, rfl, rfl⟩
    · rw [if_neg eq, if_neg eq, if_neg eq, if_neg eq]; exact c5 q (by omega)
  · intro q hq
    rw [e _ (by omega) (by omega) (by omega), e _ (by omega) (by omega) (by omega), e _ (by omega) (by omega) (by omega)]; exact c6 q hq
  · rw [e a (by omega) (by omega) (by omega)]; exact c7
  · intro k hk
    rw [e _ (by omega) (by omega) (by omega)]; exact c7' k hk
  · rw [e _ (by omega) (by omega) (by omega)]; exact c8
  · rw [e _ (by omega) (by omega) (by omega)]; exact c8'
  · rw [e _ (by omega) (by omega) (by omega)]; exact c8''
  · rw [e _ (by omega) (by omega) (by omega)]; exact c9
  · rw [e _ (by omega) (by omega) (by omega)]; exact c9'
  · rw [e _ (by omega) (by omega) (by omega)]; exact c9''
theorem pdc_O {p w v : Nat} (hp : p < 6) (c : PdC h a D) : PdC (wI h (a + 8 + p) w (nI v)) a (setO D p w v) := by
  obtain ⟨c1, c2, c3, c4, c5, c6, ⟨c7, c7'⟩, ⟨⟨c8, c8'⟩, c8''⟩, ⟨⟨c9, c9'⟩, c9''⟩⟩ := c
  have e : ∀ b, b ≠ a + 8 + p → hI (wI h (a + 8 + p) w (nI v)) b = hI h b := fun b hb => wI_o _ hb _ _
  refine ⟨?_, ?_, ?_, ?_, ?_, ?_, ⟨?_, ?_⟩, ⟨⟨?_, ?_⟩, ?_⟩, ⟨⟨?_, ?_⟩, ?_⟩⟩
  · rw [e a (by omega)]; exact c1
  · rw [e a (by omega)]; exact c2
  · rw [e a (by omega)]; exact c3
  · rw [e a (by omega)]; exact c4
  · intro q hq
    rw [e _ (by omega), e _ (by omega), e _ (by omega)]; exact c5 q hq
  · intro q hq
    refine ⟨fun u hu => ?_, fun r hr => ?_, ?_⟩
    · show _ = nI (up3 (dO D) p w v q u)
      unfold up3
      by_cases eq : q = p
      · subst eq
        rw [if_pos rfl, wI_at]
        unfold up1
        by_cases eu : u = w
        · rw [if_pos eu, if_pos eu]
        · rw [if_neg eu, if_neg eu]; exact (c6 q hq).1 u hu
      · rw [if_neg eq, e _ (by omega)]; exact (c6 q hq).1 u hu
    · rw [e _ (by omega)]; exact (c6 q hq).2.1 r hr
    · rw [e _ (by omega)]; exact (c6 q hq).2.2
  · rw [e a (by omega)]; exact c7
  · intro k hk
    rw [e _ (by omega)]; exact c7' k hk
  · rw [e _ (by omega)]; exact c8
  · rw [e _ (by omega)]; exact c8'
  · rw [e _ (by omega)]; exact c8''
  · rw [e _ (by omega)]; exact c9
  · rw [e _ (by omega)]; exact c9'
  · rw [e _ (by omega)]; exact c9''
theorem pdc_G {p r v : Nat} (hp : p < 6) (hr : r < 31) (c : PdC h a D) : PdC (wI (wI h (a + 15 + p) r (nI v)) (a + 21) p (dT D p ||| nI (2 ^ r))) a (setG D p r v) := by
  obtain ⟨c1, c2, c3, c4, c5, c6, ⟨c7, c7'⟩, ⟨⟨c8, c8'⟩, c8''⟩, ⟨⟨c9, c9'⟩, c9''⟩⟩ := c
  have e : ∀ b, b ≠ a + 15 + p → b ≠ a + 21 → hI (wI (wI h (a + 15 + p) r (nI v)) (a + 21) p (dT D p ||| nI (2 ^ r))) b = hI h b := fun b hb hb2 => by rw [wI_o _ hb2, wI_o _ hb]
  refine ⟨?_, ?_, ?_, ?_, ?_, ?_, ⟨?_, ?_⟩, ⟨⟨?_, ?_⟩, ?_⟩, ⟨⟨?_, ?_⟩, ?_⟩⟩
  · rw [e a (by omega) (by omega)]; exact c1
  · rw [e a (by omega) (by omega)]; exact c2
  · rw [e a (by omega) (by omega)]; exact c3
  · rw [e a (by omega) (by omega)]; exact c4
  · intro q hq
    rw [e _ (by omega) (by omega), e _ (by omega) (by omega), e _ (by omega) (by omega)]; exact c5 q hq
  · intro q hq
    refine ⟨fun u hu => ?_, fun u hu => ?_, ?_⟩
    · rw [e _ (by omega) (by omega)]; exact (c6 q hq).1 u hu
    · show _ = nI (up3 (dG D) p r v q u)
      unfold up3
      rw [wI_o _ (by omega : a + 15 + q ≠ a + 21)]
      by_cases eq : q = p
      · subst eq
        rw [if_pos rfl, wI_at]
        unfold up1
        by_cases eu : u = r
        · rw [if_pos eu, if_pos eu]
        · rw [if_neg eu, if_neg eu]; exact (c6 q hq).2.1 u hu
      · rw [if_neg eq, wI_o _ (by omega : a + 15 + q ≠ a + 15 + p)]; exact (c6 q hq).2.1 u hu
    · show _ = up1 (dT D) p (dT D p ||| nI (2 ^ r)) q
      rw [wI_at]
      unfold up1
      by_cases eq : q = p
      · rw [if_pos eq, if_pos eq]
      · rw [if_neg eq, if_neg eq, wI_o _ (by omega : a + 21 ≠ a + 15 + p)]; exact (c6 q hq).2.2
  · rw [e a (by omega) (by omega)]; exact c7
  · intro k hk
    rw [e _ (by omega) (by omega)]; exact c7' k hk
  · rw [e _ (by omega) (by omega)]; exact c8
  · rw [e _ (by omega) (by omega)]; exact c8'
  · rw [e _ (by omega) (by omega)]; exact c8''
  · rw [e _ (by omega) (by omega)]; exact c9
  · rw [e _ (by omega) (by omega)]; exact c9'
  · rw [e _ (by omega) (by omega)]; exact c9''
theorem pdc_K {p r : Nat} (c : PdC h a D) : PdC (wI h a 13 (dE D ||| nI (2 ^ pr p r))) a (setK D p r) := by
  obtain ⟨c1, c2, c3, c4, c5, c6, ⟨c7, c7'⟩, ⟨⟨c8, c8'⟩, c8''⟩, ⟨⟨c9, c9'⟩, c9''⟩⟩ := c
  have e : ∀ b, b ≠ a → hI (wI h a 13 (dE D ||| nI (2 ^ pr p r))) b = hI h b := fun b hb => wI_o _ hb _ _
  refine ⟨?_, ?_, ?_, ?_, ?_, ?_, ⟨?_, ?_⟩, ⟨⟨?_, ?_⟩, ?_⟩, ⟨⟨?_, ?_⟩, ?_⟩⟩
  · rw [wI_at, if_neg (by decide)]; exact c1
  · rw [wI_at, if_neg (by decide)]; exact c2
  · rw [wI_at, if_neg (by decide)]; exact c3
  · rw [wI_at, if_pos rfl]; rfl
  · intro q hq
    rw [e _ (by omega), e _ (by omega), e _ (by omega)]; exact c5 q hq
  · intro q hq
    rw [e _ (by omega), e _ (by omega), e _ (by omega)]; exact c6 q hq
  · rw [wI_at, if_neg (by decide)]; exact c7
  · intro k hk
    rw [e _ (by omega)]; exact c7' k hk
  · rw [e _ (by omega)]; exact c8
  · rw [e _ (by omega)]; exact c8'
  · rw [e _ (by omega)]; exact c8''
  · rw [e _ (by omega)]; exact c9
  · rw [e _ (by omega)]; exact c9'
  · rw [e _ (by omega)]; exact c9''
end
