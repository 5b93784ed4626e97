section
variable {d b : Nat} {K : TKs}
theorem cx_part0 (kO : TokOK K) (hb : lwI b) : CX K b (d + 3) m_X8_readPart [.ref 6, .ref b, .int 5] (eP K 0) := by
  intro h s l Q c hl hn h1
  have t1 := c.t38 kO
  have key : ∀ x, (∃ g, Fr xrd h g ∧ CF g K (bl K true 5 (bl K (!stPt (tk K s.1)) 1 s)) ∧ x = g) → Q none x := by
    rintro x ⟨g, f, cg, rfl⟩
    exact h1 _ f.rx (told_xr hb f) cg (by rw [show (eP K 0 s).2 = [] from rfl, List.append_nil]; exact hl.xr hb f)
  have nz : ∀ s : RS, ¬ (bl K true 5 s).2 = 0 := fun s => by
    rcases Nat.eq_zero_or_pos s.2 with e | e
    · rw [bl_y e]; dsimp only; omega
    · rw [bl_n (Or.inr (by omega))]; omega
  refine R_in rfl rfl ?_
  refine R_gs 7 rfl ?_
  rw [c.tok]
  refine R_gs 20 rfl ?_
  refine R_k rfl (q_tk t1) (c_startsPart t1 ?_)
  refine R_j 31 (!stPt (tk K s.1)) rfl (by rw [b2i0]; simp) rfl rfl ?_
  refine R_gs 32 rfl ?_
  refine R_k rfl rfl (c_blameIf kO (k := 1) (by decide) c (fun h2 f2 c2 => ?_))
  refine R_gs 38 rfl ?_
  refine R_jn 46 (true) rfl (by decide) rfl rfl ?_
  refine R_gs 47 rfl ?_
  refine R_k rfl rfl (c_blameIf kO (k := 5) (by decide) c2 (fun h3 f3 c3 => ?_))
  refine R_gs 51 rfl ?_
  refine R_k rfl rfl (c_step kO c3 (fun h4 f4 c4 => ?_))
  rw [sp_n (nz _)] at c4
  refine R_gs 58 rfl ?_
  refine W_bf rfl (fun e => nz _ (c4.fz.mp e)) ?_
  refine W_f rfl (by first | rfl | exact ⟨rfl, by first | decide | assumption | exact Or.inl rfl | exact Or.inr rfl | exact b2i_01 _⟩) ?_
  exact key _ ⟨_, (f2.trans f3).trans f4, c4, rfl⟩
theorem cx_partS {a : Nat} (kO : TokOK K) (hb : lwI b) (ha : a + 1 ≤ 5) (HP : CX K b (d + 3) m_X8_readPart [.ref 6, .ref b, .int (nI (5 - a))] (eP K a)) (HJ : CX K b (d + 3) m_X8_readJoined [.ref 6, .ref b, .int 0, .int (nI (5 - a))] (eJ K (eP K a) 0)) : CX K b (d + 4) m_X8_readPart [.ref 6, .ref b, .int (nI (5 - (a + 1)))] (eP K (a + 1)) := by
  intro h s l Q c hl hn h1
  have t1 := c.t38 kO
  have kb : b = 165 ∨ b = 168 ∨ b = 193 ∨ b = 196 := hb
  have hs : s.1 < K.1 := c.2.1.1
  have k1 := kO.1
  have er : nI (5 - (a + 1)) + 1 = nI (5 - a) := (by rw [nI_1]; congr 1; omega)
  have oP := eP_o kO a
  have oJ := eJ_o kO oP 0
  unfold eP at h1
  dsimp only at h1
  refine R_in rfl rfl ?_
  refine R_gs 7 rfl ?_
  rw [c.tok]
  refine R_gs 20 rfl ?_
  refine R_k rfl (q_tk t1) (c_startsPart t1 ?_)
  refine R_j 31 (!stPt (tk K s.1)) rfl (by rw [b2i0]; simp) rfl rfl ?_
  refine R_gs 32 rfl ?_
  refine R_k rfl rfl (c_blameIf kO (k := 1) (by decide) c (fun h2 f2 c2 => ?_))
  refine R_gs 38 rfl ?_
  refine R_jn 46 (false) rfl (⟨fun _ => (nI_ltI (b := 5) (by omega) (by omega)).mpr (by omega), fun _ => rfl⟩) rfl rfl ?_
  refine R_gs 47 rfl ?_
  refine R_k rfl rfl (c_blameIf kO (k := 5) (by decide) c2 (fun h3 f3 c3 => ?_))
  rw [bl_n (Or.inl rfl)] at c3
  refine R_gs 51 rfl ?_
  refine R_k rfl rfl (c_step kO c3 (fun h4 f4 c4 => ?_))
  have F4 := (f2.trans f3).trans f4
  refine R_gs 58 rfl ?_
  refine W_b rfl (fun hc58 => ?_) (fun hc58 => ?_)
  ·
    rw [c4.fz] at hc58
    obtain ⟨p1, p2, p3, p4⟩ := sP_1 kO hs hc58
    rw [if_pos hc58] at h1
    rw [p3] at c4 h1
    refine R_gs 66 rfl ?_
    refine W_d rfl (by omega) (by omega) (by omega) (by omega) (fun hc66 => ?_) (fun hc66 => ?_)
    ·
      have q27 : tk K s.1 = 27 := (by omega)
      rw [if_pos q27] at h1
      refine R_gs 74 rfl ?_
      rw [er]
      refine R_k rfl rfl (HP _ (s.1 + 1, 0) l _ c4 (hl.xr hb F4) (by dsimp only; omega) (fun h5 f5 t5 c5 l5 => ?_))
      have o5 := oP (s.1 + 1, 0) p4
      dsimp only at o5
      refine R_gs 80 rfl ?_
      refine R_k rfl (q_lw hb) (c_lawAdd (v := -4) hb l5 (by rw [List.length_append]; omega) (fun h6 f6 t6 l6 => ?_))
      refine R_gs 152 rfl ?_
      refine W_f rfl (by first | rfl | exact ⟨rfl, by first | decide | assumption | exact Or.inl rfl | exact Or.inr rfl | exact b2i_01 _⟩) ?_
      exact h1 _ ((F4.rx.trans f5).trans f6.lx) (t6.trans (t5.trans (told_xr hb F4))) (c5.xl hb f6) (by rw [← List.append_assoc]; exact l6)
    ·
      have q27 : ¬ tk K s.1 = 27 := (by omega)
      rw [if_neg q27] at h1
      refine R_gs 90 rfl ?_
      refine W_d rfl (by omega) (by omega) (by omega) (by omega) (fun hc90 => ?_) (fun hc90 => ?_)
      ·
        have q4 : tk K s.1 = 4 := (by omega)
        rw [if_pos q4] at h1
        refine R_gs 99 rfl ?_
        rw [er]
        refine R_k rfl rfl (HJ _ (s.1 + 1, 0) l _ c4 (hl.xr hb F4) (by dsimp only; omega) (fun h5 f5 t5 j4 l5 => ?_))
        have t5' := j4.t38 kO
        refine R_gs 110 rfl ?_
        rw [CF.tok j4]
        refine R_gs 113 rfl ?_
        refine R_jdn 121 (!decide (tk K (eJ K (eP K a) 0 (s.1 + 1, 0)).1.1 = 5)) rfl (by omega) (by omega) (by omega) (by omega) (by rw [Bool.not_eq_false', decide_eq_true_eq]; constructor <;> intro _ <;> omega) rfl rfl ?_
        refine R_gs 122 rfl ?_
        refine R_k rfl rfl (c_blameIf kO (k := 1) (by decide) j4 (fun h6 f6 c6 => ?_))
        refine R_gs 126 rfl ?_
        refine R_k rfl rfl (c_step kO c6 (fun h7 f7 c7 => ?_))
        refine R_gs 152 rfl ?_
        refine W_f rfl (by first | rfl | exact ⟨rfl, by first | decide | assumption | exact Or.inl rfl | exact Or.inr rfl | exact b2i_01 _⟩) ?_
        exact h1 _ ((F4.rx.trans f5).trans (f6.trans f7).rx) ((told_xr hb (f6.trans f7)).trans (t5.trans (told_xr hb F4))) c7 (l5.xr hb (f6.trans f7))
      ·
        have q4 : ¬ tk K s.1 = 4 := (by omega)
        rw [if_neg q4] at h1
        refine R_gs 137 rfl ?_
        refine W_d rfl (by omega) (by omega) (by omega) (by omega) (fun hc137 => ?_) (fun hc137 => ?_)
        ·
          have q2 : tk K s.1 = 2 := (by omega)
          have e9 : hJ h 1 9 = lN64 (tn K s.1) := c.2.1.2.2.2.2.1 q2
          refine R_gs 149 rfl ?_
          rw [e9, l64_i]
          rw [if_pos q2] at h1
          refine R_k rfl (q_lw hb) (c_lawAdd hb (hl.xr hb F4) (by omega) (fun h6 f6 t6 l6 => ?_))
          refine W_f rfl (by first | rfl | exact ⟨rfl, by first | decide | assumption | exact Or.inl rfl | exact Or.inr rfl | exact b2i_01 _⟩) ?_
          exact h1 _ (F4.rx.trans f6.lx) (t6.trans (told_xr hb F4)) (c4.xl hb f6) l6
        ·
          have q2 : ¬ tk K s.1 = 2 := (by omega)
          refine R_gs 146 rfl ?_
          refine W_c rfl (SH_t t1) ?_
          rw [tkF2]
          rw [if_neg q2] at h1
          refine R_k rfl (q_lw hb) (c_lawAdd hb (hl.xr hb F4) (by omega) (fun h6 f6 t6 l6 => ?_))
          refine W_f rfl (by first | rfl | exact ⟨rfl, by first | decide | assumption | exact Or.inl rfl | exact Or.inr rfl | exact b2i_01 _⟩) ?_
          exact h1 _ (F4.rx.trans f6.lx) (t6.trans (told_xr hb F4)) (c4.xl hb f6) l6
  ·
    rw [c4.fz] at hc58
    rw [if_neg hc58] at h1
    refine W_f rfl (by first | rfl | exact ⟨rfl, by first | decide | assumption | exact Or.inl rfl | exact Or.inr rfl | exact b2i_01 _⟩) ?_
    exact h1 _ F4.rx (told_xr hb F4) c4 (by rw [List.append_nil]; exact hl.xr hb F4)
theorem cx_j4 {v : Int32} {P : EX} (HP : CX K b d m_X8_readPart [.ref 6, .ref b, .int v] P) : CX K b (d + 1) m_X8_readJoined [.ref 6, .ref b, .int 4, .int v] P := by
  intro h s l Q c hl hn h1
  refine R_in rfl rfl ?_
  refine R_gs 2 rfl ?_
  refine W_bf rfl (by decide) ?_
  refine R_gs 8 rfl ?_
  refine R_k rfl rfl (HP _ s l _ c hl hn (fun h5 f5 t5 c5 l5 => ?_))
  refine W_f rfl (by first | rfl | exact ⟨rfl, by first | decide | assumption | exact Or.inl rfl | exact Or.inr rfl | exact b2i_01 _⟩) ?_
  exact h1 _ f5 t5 c5 l5
theorem cx_j1 {l : Nat} {v : Int32} {X : EX} (kO : TokOK K) (hb : lwI b) (hl3 : 1 ≤ 3) (hl1 : 1 = 1 ↔ 1 = 1) (o : EXo K X) (HX : CX K b (d + 3) m_X8_readJoined [.ref 6, .ref b, .int (nI (1 + 1)), .int v] X) : CX K b (d + 4) m_X8_readJoined [.ref 6, .ref b, .int (nI 1), .int v] (JL K 1 1 X) := by
  intro h s c0 Q c hl hn h1
  have kb : b = 165 ∨ b = 168 ∨ b = 193 ∨ b = 196 := hb
  have hs : s.1 < K.1 := c.2.1.1
  have k1 := kO.1
  have o1 := o s hs
  have hL : ¬ nI 1 = 1 ↔ ¬ 1 = 1 := (by rw [show (nI 1 = 1 ↔ 1 = 1) from nI_eq (b := 1) (by omega) (by omega), hl1])
  unfold JL at h1
  refine R_in rfl rfl ?_
  refine R_gs 2 rfl ?_
  refine W_bt rfl ((nI_leI (b := 3) (by omega) (by omega)).mpr hl3) ?_
  refine R_gs 14 rfl ?_
  refine W_bt rfl (by first | rfl | exact hL.mpr (by decide)) ?_
  refine R_gs 32 rfl ?_
  rw [nI_1]
  refine R_k rfl rfl (HX _ s c0 _ c hl hn (fun h5 f5 t5 c5 l5 => ?_))
  refine R_gs 38 rfl ?_
  refine w_meas (W := fun (y : AH × Nat × (RS × List Int32)) => ∀ x6 : Option Value, Rw (d + 3) Q (m_X8_readJoined, 38, [some (.ref 6), some (.ref b), some (.int (nI 1)), some (.int v), some (.int 1), some (.int (nI y.2.1)), x6], [], 262, y.1)) (fun y => Fr (xex b) h y.1 ∧ hI y.1 b 3 = hI h b 3 ∧ CF y.1 K y.2.2.1 ∧ LawC y.1 b (c0 ++ y.2.2.2) ∧ y.2.1 ≤ 1 ∧ (y.2.2.1.1 < K.1 ∧ s.1 + y.2.2.2.length ≤ y.2.2.1.1) ∧ jl K X 1 1 (X s) = jl K X 1 (1 - y.2.1) y.2.2) (fun y => 1 - y.2.1) (s0 := (h5, 0, X s)) ⟨f5, t5, c5, l5, Nat.zero_le _, o1, rfl⟩ (fun y hi w => ?_) none
  ·
    intro x6
    obtain ⟨g, i, z⟩ := y
    obtain ⟨i1, i2, i3, i4, i5, i6, i7⟩ := hi
    dsimp only at i1 i2 i3 i4 i5 i6 i7 ⊢
    have t3 := i3.t38 kO
    refine R_gs 42 rfl ?_
    refine W_b rfl (fun hc42 => ?_) (fun hc42 => ?_)
    ·
      rw [show ((1 : Int32) ≤ nI i ↔ 1 ≤ i) from nI_leI (a := 1) (by omega) (by omega)] at hc42
      refine W_f rfl (by first | rfl | exact ⟨rfl, by first | decide | assumption | exact Or.inl rfl | exact Or.inr rfl | exact b2i_01 _⟩) ?_
      rw [i7, show 1 - i = 0 by omega, jl_e (Or.inl rfl)] at h1; exact h1 _ i1 i2 i3 i4
    ·
      rw [show ((1 : Int32) ≤ nI i ↔ 1 ≤ i) from nI_leI (a := 1) (by omega) (by omega)] at hc42
      refine R_gs 49 rfl ?_
      refine W_b rfl (fun hc49 => ?_) (fun hc49 => ?_)
      ·
        rw [i3.fz] at hc49
        refine R_gs 59 rfl ?_
        rw [i3.tok]
        refine W_c rfl (SH_t t3) ?_
        rw [tkF1 t3]
        refine R_gs 63 rfl ?_
        refine W_b rfl (fun hc63 => ?_) (fun hc63 => ?_)
        ·
          rw [nI_eq (by have := (rol_L _ t3).2; omega) (by omega)] at hc63
          refine R_gs 73 rfl ?_
          rw [i3.tok]
          refine W_c rfl (SH_t t3) ?_
          rw [tkF2]
          refine R_gs 79 rfl ?_
          refine R_k rfl rfl (c_step kO i3 (fun h6 f6 c6 => ?_))
          obtain ⟨e1, e2⟩ := sp_1 kO i6.1 hc49 (rol_0 (by omega))
          have o7 := o (sp K z.1) (by rw [e1]; exact e2)
          have e3 : (sp K z.1).1 = z.1.1 + 1 := (by rw [e1])
          refine R_gs 88 rfl ?_
          rw [nI_1]
          refine R_k rfl rfl (HX _ (sp K z.1) _ _ c6 (i4.xr hb f6) (by rw [List.length_append]; omega) (fun h7 f7 t7 c7 l7 => ?_))
          refine R_gs 94 rfl ?_
          refine R_k rfl (q_lw hb) (c_lawAdd hb l7 (by rw [List.length_append, List.length_append]; omega) (fun h8 f8 t8 l8 => ?_))
          refine R_gs 38 rfl ?_
          rw [nI_1]; refine w (h8, i + 1, ((X (sp K z.1)).1, z.2 ++ ((X (sp K z.1)).2 ++ [mea (tk K z.1.1)]))) ⟨((i1.trans f6.rx).trans f7).trans f8.lx, t8.trans (t7.trans ((told_xr hb f6).trans i2)), c7.xl hb f8, ?_, by dsimp only; omega, ?_, ?_⟩ (by dsimp only; omega) _
          · show LawC h8 b (c0 ++ (z.2 ++ ((X (sp K z.1)).2 ++ [mea (tk K z.1.1)]))); rw [← List.append_assoc, ← List.append_assoc]; exact l8
          · show (X (sp K z.1)).1.1 < K.1 ∧ s.1 + (z.2 ++ ((X (sp K z.1)).2 ++ [mea (tk K z.1.1)])).length ≤ (X (sp K z.1)).1.1; rw [List.length_append, List.length_append, List.length_singleton]; exact ⟨o7.1, by omega⟩
          · dsimp only; rw [i7, jl_s (by omega) ⟨hc49, hc63⟩, Nat.sub_sub]
        ·
          rw [nI_eq (by have := (rol_L _ t3).2; omega) (by omega)] at hc63
          refine W_f rfl (by first | rfl | exact ⟨rfl, by first | decide | assumption | exact Or.inl rfl | exact Or.inr rfl | exact b2i_01 _⟩) ?_
          rw [i7, jl_e (Or.inr (fun e => hc63 e.2))] at h1; exact h1 _ i1 i2 i3 i4
      ·
        rw [i3.fz] at hc49
        refine W_f rfl (by first | rfl | exact ⟨rfl, by first | decide | assumption | exact Or.inl rfl | exact Or.inr rfl | exact b2i_01 _⟩) ?_
        rw [i7, jl_e (Or.inr (fun e => hc49 e.1))] at h1; exact h1 _ i1 i2 i3 i4
theorem cx_jm {l : Nat} {v : Int32} {X : EX} (kO : TokOK K) (hb : lwI b) (hl3 : l ≤ 3) (hl1 : l = 1 ↔ 1000 = 1) (o : EXo K X) (HX : CX K b (d + 3) m_X8_readJoined [.ref 6, .ref b, .int (nI (l + 1)), .int v] X) : CX K b (d + 4) m_X8_readJoined [.ref 6, .ref b, .int (nI l), .int v] (JL K l 1000 X) := by
  intro h s c0 Q c hl hn h1
  have kb : b = 165 ∨ b = 168 ∨ b = 193 ∨ b = 196 := hb
  have hs : s.1 < K.1 := c.2.1.1
  have k1 := kO.1
  have o1 := o s hs
  have hL : ¬ nI l = 1 ↔ ¬ 1000 = 1 := (by rw [show (nI l = 1 ↔ l = 1) from nI_eq (b := 1) (by omega) (by omega), hl1])
  unfold JL at h1
  refine R_in rfl rfl ?_
  refine R_gs 2 rfl ?_
  refine W_bt rfl ((nI_leI (b := 3) (by omega) (by omega)).mpr hl3) ?_
  refine R_gs 14 rfl ?_
  refine W_bf rfl (by first | rfl | exact hL.mpr (by decide)) ?_
  refine R_gs 32 rfl ?_
  rw [nI_1]
  refine R_k rfl rfl (HX _ s c0 _ c hl hn (fun h5 f5 t5 c5 l5 => ?_))
  refine R_gs 38 rfl ?_
  refine w_meas (W := fun (y : AH × Nat × (RS × List Int32)) => ∀ x6 : Option Value, Rw (d + 3) Q (m_X8_readJoined, 38, [some (.ref 6), some (.ref b), some (.int (nI l)), some (.int v), some (.int 1000), some (.int (nI y.2.1)), x6], [], 262, y.1)) (fun y => Fr (xex b) h y.1 ∧ hI y.1 b 3 = hI h b 3 ∧ CF y.1 K y.2.2.1 ∧ LawC y.1 b (c0 ++ y.2.2.2) ∧ y.2.1 ≤ 1000 ∧ (y.2.2.1.1 < K.1 ∧ s.1 + y.2.2.2.length ≤ y.2.2.1.1) ∧ jl K X l 1000 (X s) = jl K X l (1000 - y.2.1) y.2.2) (fun y => 1000 - y.2.1) (s0 := (h5, 0, X s)) ⟨f5, t5, c5, l5, Nat.zero_le _, o1, rfl⟩ (fun y hi w => ?_) none
  ·
    intro x6
    obtain ⟨g, i, z⟩ := y
    obtain ⟨i1, i2, i3, i4, i5, i6, i7⟩ := hi
    dsimp only at i1 i2 i3 i4 i5 i6 i7 ⊢
    have t3 := i3.t38 kO
    refine R_gs 42 rfl ?_
    refine W_b rfl (fun hc42 => ?_) (fun hc42 => ?_)
    ·
      rw [show ((1000 : Int32) ≤ nI i ↔ 1000 ≤ i) from nI_leI (a := 1000) (by omega) (by omega)] at hc42
      refine W_f rfl (by first | rfl | exact ⟨rfl, by first | decide | assumption | exact Or.inl rfl | exact Or.inr rfl | exact b2i_01 _⟩) ?_
      rw [i7, show 1000 - i = 0 by omega, jl_e (Or.inl rfl)] at h1; exact h1 _ i1 i2 i3 i4
    ·
      rw [show ((1000 : Int32) ≤ nI i ↔ 1000 ≤ i) from nI_leI (a := 1000) (by omega) (by omega)] at hc42
      refine R_gs 49 rfl ?_
      refine W_b rfl (fun hc49 => ?_) (fun hc49 => ?_)
      ·
        rw [i3.fz] at hc49
        refine R_gs 59 rfl ?_
        rw [i3.tok]
        refine W_c rfl (SH_t t3) ?_
        rw [tkF1 t3]
        refine R_gs 63 rfl ?_
        refine W_b rfl (fun hc63 => ?_) (fun hc63 => ?_)
        ·
          rw [nI_eq (by have := (rol_L _ t3).2; omega) (by omega)] at hc63
          refine R_gs 73 rfl ?_
          rw [i3.tok]
          refine W_c rfl (SH_t t3) ?_
          rw [tkF2]
          refine R_gs 79 rfl ?_
          refine R_k rfl rfl (c_step kO i3 (fun h6 f6 c6 => ?_))
          obtain ⟨e1, e2⟩ := sp_1 kO i6.1 hc49 (rol_0 (by omega))
          have o7 := o (sp K z.1) (by rw [e1]; exact e2)
          have e3 : (sp K z.1).1 = z.1.1 + 1 := (by rw [e1])
          refine R_gs 88 rfl ?_
          rw [nI_1]
          refine R_k rfl rfl (HX _ (sp K z.1) _ _ c6 (i4.xr hb f6) (by rw [List.length_append]; omega) (fun h7 f7 t7 c7 l7 => ?_))
          refine R_gs 94 rfl ?_
          refine R_k rfl (q_lw hb) (c_lawAdd hb l7 (by rw [List.length_append, List.length_append]; omega) (fun h8 f8 t8 l8 => ?_))
          refine R_gs 38 rfl ?_
          rw [nI_1]; refine w (h8, i + 1, ((X (sp K z.1)).1, z.2 ++ ((X (sp K z.1)).2 ++ [mea (tk K z.1.1)]))) ⟨((i1.trans f6.rx).trans f7).trans f8.lx, t8.trans (t7.trans ((told_xr hb f6).trans i2)), c7.xl hb f8, ?_, by dsimp only; omega, ?_, ?_⟩ (by dsimp only; omega) _
          · show LawC h8 b (c0 ++ (z.2 ++ ((X (sp K z.1)).2 ++ [mea (tk K z.1.1)]))); rw [← List.append_assoc, ← List.append_assoc]; exact l8
          · show (X (sp K z.1)).1.1 < K.1 ∧ s.1 + (z.2 ++ ((X (sp K z.1)).2 ++ [mea (tk K z.1.1)])).length ≤ (X (sp K z.1)).1.1; rw [List.length_append, List.length_append, List.length_singleton]; exact ⟨o7.1, by omega⟩
          · dsimp only; rw [i7, jl_s (by omega) ⟨hc49, hc63⟩, Nat.sub_sub]
        ·
          rw [nI_eq (by have := (rol_L _ t3).2; omega) (by omega)] at hc63
          refine W_f rfl (by first | rfl | exact ⟨rfl, by first | decide | assumption | exact Or.inl rfl | exact Or.inr rfl | exact b2i_01 _⟩) ?_
          rw [i7, jl_e (Or.inr (fun e => hc63 e.2))] at h1; exact h1 _ i1 i2 i3 i4
      ·
        rw [i3.fz] at hc49
        refine W_f rfl (by first | rfl | exact ⟨rfl, by first | decide | assumption | exact Or.inl rfl | exact Or.inr rfl | exact b2i_01 _⟩) ?_
        rw [i7, jl_e (Or.inr (fun e => hc49 e.1))] at h1; exact h1 _ i1 i2 i3 i4
/-- all levels over the parts, and the parts themselves -/
theorem cx_J {v : Int32} {P : EX} (kO : TokOK K) (hb : lwI b) (o : EXo K P) (HP : CX K b (d + 2) m_X8_readPart [.ref 6, .ref b, .int v] P) : CX K b (d + 7) m_X8_readJoined [.ref 6, .ref b, .int 0, .int v] (eJ K P 0) := by
  have o3 := JL_o (m := 1000) kO (by omega : 3 < 4) o
  have o2 := JL_o (m := 1000) kO (by omega : 2 < 4) o3
  have o1 := JL_o (m := 1) kO (by omega : 1 < 4) o2
  have j4 := cx_j4 HP
  have j3 := cx_jm (l := 3) (d := d) kO hb (by omega) (by omega) o j4
  have j2 := cx_jm (l := 2) (d := d + 1) kO hb (by omega) (by omega) o3 j3
  have j1 := cx_j1 (l := 1) (d := d + 2) kO hb (by omega) (by omega) o2 j2
  exact cx_jm (l := 0) (d := d + 3) kO hb (by omega) (by omega) o1 j1
theorem cx_P (kO : TokOK K) (hb : lwI b) : ∀ a, a ≤ 5 → CX K b (d + 3 + 6 * a) m_X8_readPart [.ref 6, .ref b, .int (nI (5 - a))] (eP K a)
  | 0, _ => cx_part0 kO hb
  | a + 1, ha => by
    have ih := cx_P kO hb a (by omega)
    have j := cx_J (d := d + 1 + 6 * a) kO hb (eP_o kO a) (ih.le (by omega))
    exact (cx_partS (d := d + 5 + 6 * a) kO hb ha (ih.le (by omega)) (j.le (by omega))).le (by omega)
theorem cx_E (kO : TokOK K) (hb : lwI b) : CX K b (d + 38) m_X8_readJoined [.ref 6, .ref b, .int 0, .int 0] (eE K) :=
  (cx_J (d := d + 31) kO hb (eP_o kO 5) (cx_P (d := d) kO hb 5 (by omega))).le (by omega)
end
