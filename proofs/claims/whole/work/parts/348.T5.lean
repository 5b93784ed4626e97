section
variable {d k : Nat} {K : TKs}
theorem cy_products {v : Int32} {X : EX} (kO : TokOK K) (o : EXo K X) (HX : CY K k (d + 3) m_X13_takePart [.ref 235, .int v] X) : CY K k (d + 4) m_X13_products [.ref 235, .int v] (JL K 3 1000 X) := by
  intro h s c0 Q c hl hn h1
  have hs := c.2.1
  have k1 := kO.1
  refine R_in rfl rfl ?_
  refine R_gs 2 rfl ?_
  refine R_k rfl rfl (HX _ s c0 _ c hl hn (fun h2 y2 f2 e2 => ?_))
  refine w_meas (W := fun (y : AH × Nat × (RS × List Int32)) => Rw (d + 3) Q (m_X13_products, 5, [some (.ref 235), some (.int v)], [], 262, y.1)) (JI K X 3 k h s c0) (fun y => K.1 - y.2.2.1.1) (s0 := (h2, 1000, X s)) (JI.start kO o hs y2 f2 e2) (fun y hi w => ?_)
  ·
    obtain ⟨g, m, z⟩ := y
    have i := hi
    obtain ⟨i1, i2, i3, i4, i5, i6⟩ := hi
    dsimp only at i1 i2 i3 i4 i5 i6 ⊢
    have t3 : tk K z.1.1 < 38 := (i2.tg kO).1
    have rl := rol_l _ t3
    refine R_gs 8 rfl ?_
    refine R_k rfl rfl (m_hasSign (t := 34) kO (by decide) (by decide) i2 (fun h5 m5 f5 => ?_))
    refine W_b rfl (fun hc11 => ?_) (fun hc11 => ?_)
    ·
      rw [b2i0] at hc11
      rw [hs_no hc11] at f5
      refine W_f rfl (by first | rfl | exact ⟨rfl, by first | decide | assumption | exact Or.inl rfl | exact Or.inr rfl | exact b2i_01 _⟩) ?_
      rw [i.fin (fun e => by have := rl.2.2.2.mp e.2; exact tz_f hc11 ⟨e.1, this⟩)] at h1; exact h1 _ (i1.trans m5.y) f5 (i3.mr m5)
    ·
      rw [b2i0] at hc11
      rw [Bool.not_eq_false] at hc11
      rw [hs_sp kO i4.1 (by decide) hc11] at f5
      obtain ⟨q1, q2⟩ := sp_tz kO i4.1 (by decide) hc11
      have o7 := o (sp K z.1) (by rw [q1]; exact q2)
      have q3 : (sp K z.1).1 = z.1.1 + 1 := (by rw [q1])
      refine R_gs 16 rfl ?_
      refine R_k rfl rfl (HX _ (sp K z.1) _ _ f5 (i3.mr m5) (by rw [List.length_append]; omega) (fun h6 y6 f6 e6 => ?_))
      refine R_gs 23 rfl ?_
      refine R_k rfl rfl (m_emit (o := 6) (a := 0) (v := mea 34) (by unfold StepM; decide) f6 e6 (by rw [List.length_append, List.length_append]; omega) (fun h7 y7 f7 e7 => ?_))
      refine R_gs 5 rfl ?_
      have nx := i.nx kO o (t := 34) (by decide) hc11 rfl ((m5.y.trans y6).trans y7) f7 e7
      exact w _ nx.1 nx.2
theorem cy_sums {v : Int32} {X : EX} (kO : TokOK K) (o : EXo K X) (HX : CY K k (d + 3) m_X13_products [.ref 235, .int v] X) : CY K k (d + 4) m_X13_sums [.ref 235, .int v] (JL K 2 1000 X) := by
  intro h s c0 Q c hl hn h1
  have hs := c.2.1
  have k1 := kO.1
  refine R_in rfl rfl ?_
  refine R_gs 2 rfl ?_
  refine R_k rfl rfl (HX _ s c0 _ c hl hn (fun h2 y2 f2 e2 => ?_))
  refine w_meas (W := fun (y : AH × Nat × (RS × List Int32)) => ∀ x2 : Option Value, Rw (d + 3) Q (m_X13_sums, 5, [some (.ref 235), some (.int v), x2], [], 262, y.1)) (JI K X 2 k h s c0) (fun y => K.1 - y.2.2.1.1) (s0 := (h2, 1000, X s)) (JI.start kO o hs y2 f2 e2) (fun y hi w => ?_) none
  ·
    intro x2
    obtain ⟨g, m, z⟩ := y
    have i := hi
    obtain ⟨i1, i2, i3, i4, i5, i6⟩ := hi
    dsimp only at i1 i2 i3 i4 i5 i6 ⊢
    have t3 : tk K z.1.1 < 38 := (i2.tg kO).1
    have rl := rol_l _ t3
    refine R_gs 8 rfl ?_
    refine R_k rfl rfl (m_isSign (t := 32) kO (by decide) (by decide) i2 ?_)
    refine W_b rfl (fun hc11 => ?_) (fun hc11 => ?_)
    ·
      rw [b2i0] at hc11
      refine R_gs 17 rfl ?_
      refine R_k rfl rfl (m_isSign (t := 33) kO (by decide) (by decide) i2 ?_)
      refine W_b rfl (fun hc20 => ?_) (fun hc20 => ?_)
      ·
        rw [b2i0] at hc20
        refine W_f rfl (by first | rfl | exact ⟨rfl, by first | decide | assumption | exact Or.inl rfl | exact Or.inr rfl | exact b2i_01 _⟩) ?_
        rw [i.fin (fun e => (rl.2.2.1.mp e.2).elim (fun q => tz_f hc11 ⟨e.1, q⟩) (fun q => tz_f hc20 ⟨e.1, q⟩))] at h1; exact h1 _ i1 i2 i3
      ·
        rw [b2i0] at hc20
        rw [Bool.not_eq_false] at hc20
        obtain ⟨q1, q2⟩ := sp_tz kO i4.1 (by decide) hc20
        have f5 := i2.nx kO (by decide) hc20
        refine R_gs 26 rfl ?_
        refine R_k rfl rfl (m_isSign (t := 32) kO (by decide) (by decide) i2 ?_)
        refine R_gs 42 rfl ?_
        have o7 := o (sp K z.1) (by rw [q1]; exact q2)
        have q3 : (sp K z.1).1 = z.1.1 + 1 := (by rw [q1])
        refine R_k rfl rfl (HX _ (sp K z.1) _ _ f5 (i3.mr (MR.w7 _ _)) (by rw [List.length_append]; omega) (fun h6 y6 f6 e6 => ?_))
        refine R_gs 47 rfl ?_
        refine W_bt rfl ((by rw [hc11]; rfl)) ?_
        refine R_gs 56 rfl ?_
        refine R_k rfl rfl (m_emit (o := 5) (a := 0) (v := mea 33) (by unfold StepM; decide) f6 e6 (by rw [List.length_append, List.length_append]; omega) (fun h7 y7 f7 e7 => ?_))
        refine R_gs 5 rfl ?_
        have nx := i.nx kO o (t := 33) (by decide) hc20 rfl (((MR.w7 g (hI g 235 7 + 1)).y.trans y6).trans y7) f7 e7
        exact w _ nx.1 nx.2 _
    ·
      rw [b2i0] at hc11
      rw [Bool.not_eq_false] at hc11
      obtain ⟨q1, q2⟩ := sp_tz kO i4.1 (by decide) hc11
      have f5 := i2.nx kO (by decide) hc11
      refine R_gs 26 rfl ?_
      refine R_k rfl rfl (m_isSign (t := 32) kO (by decide) (by decide) i2 ?_)
      refine R_gs 42 rfl ?_
      have o7 := o (sp K z.1) (by rw [q1]; exact q2)
      have q3 : (sp K z.1).1 = z.1.1 + 1 := (by rw [q1])
      refine R_k rfl rfl (HX _ (sp K z.1) _ _ f5 (i3.mr (MR.w7 _ _)) (by rw [List.length_append]; omega) (fun h6 y6 f6 e6 => ?_))
      refine R_gs 47 rfl ?_
      refine W_bf rfl ((by rw [hc11]; decide)) ?_
      refine R_gs 56 rfl ?_
      refine R_k rfl rfl (m_emit (o := 4) (a := 0) (v := mea 32) (by unfold StepM; decide) f6 e6 (by rw [List.length_append, List.length_append]; omega) (fun h7 y7 f7 e7 => ?_))
      refine R_gs 5 rfl ?_
      have nx := i.nx kO o (t := 32) (by decide) hc11 rfl (((MR.w7 g (hI g 235 7 + 1)).y.trans y6).trans y7) f7 e7
      exact w _ nx.1 nx.2 _
theorem cy_all {v : Int32} {X : EX} (kO : TokOK K) (o : EXo K X) (HX : CY K k (d + 3) m_X13_test [.ref 235, .int v] X) : CY K k (d + 4) m_X13_all [.ref 235, .int v] (JL K 0 1000 X) := by
  intro h s c0 Q c hl hn h1
  have hs := c.2.1
  have k1 := kO.1
  refine R_in rfl rfl ?_
  refine R_gs 2 rfl ?_
  refine R_k rfl rfl (HX _ s c0 _ c hl hn (fun h2 y2 f2 e2 => ?_))
  refine w_meas (W := fun (y : AH × Nat × (RS × List Int32)) => ∀ x2 : Option Value, Rw (d + 3) Q (m_X13_all, 5, [some (.ref 235), some (.int v), x2], [], 262, y.1)) (JI K X 0 k h s c0) (fun y => K.1 - y.2.2.1.1) (s0 := (h2, 1000, X s)) (JI.start kO o hs y2 f2 e2) (fun y hi w => ?_) none
  ·
    intro x2
    obtain ⟨g, m, z⟩ := y
    have i := hi
    obtain ⟨i1, i2, i3, i4, i5, i6⟩ := hi
    dsimp only at i1 i2 i3 i4 i5 i6 ⊢
    have t3 : tk K z.1.1 < 38 := (i2.tg kO).1
    have rl := rol_l _ t3
    refine R_gs 8 rfl ?_
    refine R_k rfl rfl (m_isWord (w := 21) kO (by decide) i2 ?_)
    rw [show tw 21 = 28 from rfl]
    refine W_b rfl (fun hc11 => ?_) (fun hc11 => ?_)
    ·
      rw [b2i0] at hc11
      refine R_gs 17 rfl ?_
      refine R_k rfl rfl (m_isWord (w := 22) kO (by decide) i2 ?_)
      rw [show tw 22 = 29 from rfl]
      refine W_b rfl (fun hc20 => ?_) (fun hc20 => ?_)
      ·
        rw [b2i0] at hc20
        refine W_f rfl (by first | rfl | exact ⟨rfl, by first | decide | assumption | exact Or.inl rfl | exact Or.inr rfl | exact b2i_01 _⟩) ?_
        rw [i.fin (fun e => (rl.1.mp e.2).elim (fun q => tz_f hc11 ⟨e.1, q⟩) (fun q => tz_f hc20 ⟨e.1, q⟩))] at h1; exact h1 _ i1 i2 i3
      ·
        rw [b2i0] at hc20
        rw [Bool.not_eq_false] at hc20
        obtain ⟨q1, q2⟩ := sp_tz kO i4.1 (by decide) hc20
        have f5 := i2.nx kO (by decide) hc20
        refine R_gs 26 rfl ?_
        refine R_k rfl rfl (m_isWord (w := 21) kO (by decide) i2 ?_)
        rw [show tw 21 = 28 from rfl]
        refine R_gs 42 rfl ?_
        have o7 := o (sp K z.1) (by rw [q1]; exact q2)
        have q3 : (sp K z.1).1 = z.1.1 + 1 := (by rw [q1])
        refine R_k rfl rfl (HX _ (sp K z.1) _ _ f5 (i3.mr (MR.w7 _ _)) (by rw [List.length_append]; omega) (fun h6 y6 f6 e6 => ?_))
        refine R_gs 47 rfl ?_
        refine W_bt rfl ((by rw [hc11]; rfl)) ?_
        refine R_gs 58 rfl ?_
        refine R_k rfl rfl (m_emit (o := 10) (a := 0) (v := mea 29) (by unfold StepM; decide) f6 e6 (by rw [List.length_append, List.length_append]; omega) (fun h7 y7 f7 e7 => ?_))
        refine R_gs 5 rfl ?_
        have nx := i.nx kO o (t := 29) (by decide) hc20 rfl (((MR.w7 g (hI g 235 7 + 1)).y.trans y6).trans y7) f7 e7
        exact w _ nx.1 nx.2 _
    ·
      rw [b2i0] at hc11
      rw [Bool.not_eq_false] at hc11
      obtain ⟨q1, q2⟩ := sp_tz kO i4.1 (by decide) hc11
      have f5 := i2.nx kO (by decide) hc11
      refine R_gs 26 rfl ?_
      refine R_k rfl rfl (m_isWord (w := 21) kO (by decide) i2 ?_)
      rw [show tw 21 = 28 from rfl]
      refine R_gs 42 rfl ?_
      have o7 := o (sp K z.1) (by rw [q1]; exact q2)
      have q3 : (sp K z.1).1 = z.1.1 + 1 := (by rw [q1])
      refine R_k rfl rfl (HX _ (sp K z.1) _ _ f5 (i3.mr (MR.w7 _ _)) (by rw [List.length_append]; omega) (fun h6 y6 f6 e6 => ?_))
      refine R_gs 47 rfl ?_
      refine W_bf rfl ((by rw [hc11]; decide)) ?_
      refine R_gs 58 rfl ?_
      refine R_k rfl rfl (m_emit (o := 9) (a := 0) (v := mea 28) (by unfold StepM; decide) f6 e6 (by rw [List.length_append, List.length_append]; omega) (fun h7 y7 f7 e7 => ?_))
      refine R_gs 5 rfl ?_
      have nx := i.nx kO o (t := 28) (by decide) hc11 rfl (((MR.w7 g (hI g 235 7 + 1)).y.trans y6).trans y7) f7 e7
      exact w _ nx.1 nx.2 _
theorem cy_test {v : Int32} {X : EX} (kO : TokOK K) (o : EXo K X) (HX : CY K k (d + 3) m_X13_sums [.ref 235, .int v] X) : CY K k (d + 4) m_X13_test [.ref 235, .int v] (JL K 1 1 X) := by
  intro h s c0 Q c hl hn h1
  have hs := c.2.1
  have k1 := kO.1
  have o1 := o s hs
  have jY : ∀ t, rol t = 1 → tz K t (X s).1 = true → JL K 1 1 X s = ((X (sp K (X s).1)).1, (X s).2 ++ ((X (sp K (X s).1)).2 ++ [mea t])) := fun t hr hz => by
    obtain ⟨z1, z2⟩ := tz_t hz
    show jl K X 1 1 (X s) = _
    rw [jl_s (by omega) ⟨z1, by rw [z2]; exact hr⟩, z2]; rfl
  refine R_in rfl rfl ?_
  refine R_gs 2 rfl ?_
  refine R_k rfl rfl (HX _ s c0 _ c hl hn (fun h2 y2 f2 e2 => ?_))
  have t3 : tk K (X s).1.1 < 38 := (f2.tg kO).1
  have rl := rol_l _ t3
  refine R_gs 8 rfl ?_
  refine R_k rfl rfl (m_isSign (t := 30) kO (by decide) (by decide) f2 ?_)
  refine R_gs 15 rfl ?_
  refine R_k rfl rfl (m_hasSign (t := 30) kO (by decide) (by decide) f2 (fun h3 m3 f3 => ?_))
  refine W_b rfl (fun hc18 => ?_) (fun hc18 => ?_)
  ·
    rw [b2i0] at hc18
    rw [hs_no hc18] at f3
    refine R_gs 24 rfl ?_
    refine R_k rfl rfl (m_hasSign (t := 31) kO (by decide) (by decide) f3 (fun h4 m4 f4 => ?_))
    refine W_b rfl (fun hc27 => ?_) (fun hc27 => ?_)
    ·
      rw [b2i0] at hc27
      rw [hs_no hc27] at f4
      refine W_f rfl (by first | rfl | exact ⟨rfl, by first | decide | assumption | exact Or.inl rfl | exact Or.inr rfl | exact b2i_01 _⟩) ?_
      rw [show JL K 1 1 X s = X s from jl_e (Or.inr (fun e => (rl.2.1.mp e.2).elim (fun q => tz_f hc18 ⟨e.1, q⟩) (fun q => tz_f hc27 ⟨e.1, q⟩)))] at h1; exact h1 _ ((y2.trans m3.y).trans m4.y) f4 ((e2.mr m3).mr m4)
    ·
      rw [b2i0] at hc27
      rw [Bool.not_eq_false] at hc27
      rw [hs_sp kO o1.1 (by decide) hc27] at f4
      obtain ⟨q1, q2⟩ := sp_tz kO o1.1 (by decide) hc27
      refine R_gs 32 rfl ?_
      have o7 := o (sp K (X s).1) (by rw [q1]; exact q2)
      have q3 : (sp K (X s).1).1 = (X s).1.1 + 1 := (by rw [q1])
      refine R_k rfl rfl (HX _ (sp K (X s).1) _ _ f4 ((e2.mr m3).mr m4) (by rw [List.length_append]; omega) (fun h6 y6 f6 e6 => ?_))
      refine R_gs 37 rfl ?_
      refine W_bt rfl ((by rw [hc18]; rfl)) ?_
      refine R_gs 48 rfl ?_
      refine R_k rfl rfl (m_emit (o := 8) (a := 0) (v := mea 31) (by unfold StepM; decide) f6 e6 (by rw [List.length_append, List.length_append]; omega) (fun h7 y7 f7 e7 => ?_))
      refine W_f rfl (by first | rfl | exact ⟨rfl, by first | decide | assumption | exact Or.inl rfl | exact Or.inr rfl | exact b2i_01 _⟩) ?_
      rw [jY 31 rfl hc27] at h1; exact h1 _ ((((y2.trans m3.y).trans m4.y).trans y6).trans y7) f7 (by dsimp only; rw [← List.append_assoc, ← List.append_assoc]; exact e7)
  ·
    rw [b2i0] at hc18
    rw [Bool.not_eq_false] at hc18
    rw [hs_sp kO o1.1 (by decide) hc18] at f3
    obtain ⟨q1, q2⟩ := sp_tz kO o1.1 (by decide) hc18
    refine R_gs 32 rfl ?_
    have o7 := o (sp K (X s).1) (by rw [q1]; exact q2)
    have q3 : (sp K (X s).1).1 = (X s).1.1 + 1 := (by rw [q1])
    refine R_k rfl rfl (HX _ (sp K (X s).1) _ _ f3 (e2.mr m3) (by rw [List.length_append]; omega) (fun h6 y6 f6 e6 => ?_))
    refine R_gs 37 rfl ?_
    refine W_bf rfl ((by rw [hc18]; decide)) ?_
    refine R_gs 48 rfl ?_
    refine R_k rfl rfl (m_emit (o := 7) (a := 0) (v := mea 30) (by unfold StepM; decide) f6 e6 (by rw [List.length_append, List.length_append]; omega) (fun h7 y7 f7 e7 => ?_))
    refine W_f rfl (by first | rfl | exact ⟨rfl, by first | decide | assumption | exact Or.inl rfl | exact Or.inr rfl | exact b2i_01 _⟩) ?_
    rw [jY 30 rfl hc18] at h1; exact h1 _ (((y2.trans m3.y).trans y6).trans y7) f7 (by dsimp only; rw [← List.append_assoc, ← List.append_assoc]; exact e7)
end
