section
variable {d a g : Nat} {h h' : AH} {K : TKs} {s : RS} {N : SN'} {D : SD'} {T : ST'} {Q : Option Value → AH → Prop}
theorem c_dayLine (kO : TokOK K) (ha : a = 143 ∨ a = 171) (hg : g = 199 ∨ g = 203) (c : CF h K s) (hN : NamC h a N) (nO : NmO N) (p : DayC h g D) (dO : D.1 ≤ 30) (h1 : ∀ h', Fr (xdd g) h h' → CF h' K (ddL K N s D).1 → DayC h' g (ddL K N s D).2 → Q none h') : Rc (d + 5) m_X8_readDayLine [.ref 6, .ref g, .ref a] h Q := by
  have t1 := c.t38 kO
  have p1 := p.1
  have hg' := hg
  obtain ⟨t, et⟩ : ∃ t, t = tk K s.1 := ⟨_, rfl⟩
  have fin : ∀ (w : RS × Int32) (y : RS × Int32) (g3 : AH) (x : Int32), y = dl1 K N t (dl0 K s D) → w = dl2 K N t y → Fr xrd h g3 → CF g3 K w.1 → x = y.2 → Rw (d + 4) Q (m_X8_readDayLine, 163, [some (.ref 6), some (.ref g), some (.ref a), some (.ref (1000 + t)), some (.int x), some (.int w.2)], [], 262, g3) := by
    intro w y g3 x ey ew f3 c3 ex'
    have p3 := p.xr hg' f3
    have zz : (ex K 6 w.1).2 = 0 → y.2 = nI y.2.toNatClampNeg ∧ w.2 = nI w.2.toNatClampNeg ∧ vb t = true ∧ D.1 < 30 := fun e => by
      have z1 := (ex_z e).1
      rw [ew] at z1
      have z2 := dl2_z z1
      have z3 := z2
      rw [ey] at z3
      have z4 := dl0_z (dl1_z z3)
      rw [← et] at z4
      refine ⟨?_, ?_, z4.2.1, z4.2.2⟩
      · rw [ey]; exact (dl1_n nO z3).1
      · rw [ew]; exact (dl2_n nO z1).1
    unfold ddL at h1
    dsimp only at h1
    rw [← et, ← ey, ← ew] at h1
    subst ex'
    refine R_gs 167 rfl ?_
    refine R_k rfl rfl (c_expect kO (t := 6) (by omega) c3 (fun h4 f4 c4 => ?_))
    refine R_gs 174 rfl ?_
    refine W_b rfl (fun hc174 => ?_) (fun hc174 => ?_)
    ·
      rw [c4.fz] at hc174
      rw [if_pos hc174] at h1
      have z9 := zz hc174
      have hv := z9.2.2.1
      unfold vb at hv
      rw [Bool.and_eq_true, decide_eq_true_eq, decide_eq_true_eq] at hv
      rw [z9.1, z9.2.1, show 1000 + t = 1017 + (t - 17) by omega]
      refine R_gs 183 rfl ?_
      refine R_k rfl (q_dy hg') (c_dayAdd (l := (t - 17, y.2.toNatClampNeg, w.2.toNatClampNeg)) hg' (p3.xr hg' f4) z9.2.2.2 (by dsimp only; omega) (fun h5 f5 p5 => ?_))
      refine W_f rfl (by first | rfl | exact ⟨rfl, by first | decide | assumption | exact Or.inl rfl | exact Or.inr rfl | exact b2i_01 _⟩) ?_
      exact h1 _ ((f3.trans f4).dd.trans f5.dg) (c4.dg hg' f5) p5
    ·
      rw [c4.fz] at hc174
      rw [if_neg hc174] at h1
      refine W_f rfl (by first | rfl | exact ⟨rfl, by first | decide | assumption | exact Or.inl rfl | exact Or.inr rfl | exact b2i_01 _⟩) ?_
      exact h1 _ (f3.trans f4).dd c4 (p3.xr hg' f4)
  rw [← et] at t1
  have sz : ∀ g2, Fr xrd h g2 → hI g2 g 3 = nI D.1 := fun g2 f => by rw [f.I (xrd_f (by omega) (by omega))]; exact p1
  rcases hg with rfl | rfl
  all_goals
    refine R_in rfl rfl ?_
    refine R_gs 7 rfl ?_
    rw [show va_rf (hR h 1 7) = .ref (1000 + t) from by rw [et]; exact c.tok]
    refine R_gs 16 rfl ?_
    refine R_k rfl rfl (c_isVerb t1 ?_)
    refine R_j 27 (!vb t) rfl (by rw [b2i0]; simp) rfl rfl ?_
    refine R_gs 28 rfl ?_
    refine R_k rfl rfl (c_blameIf kO (k := 1) (by decide) c (fun h2 f2 c2 => ?_))
    refine R_gs 38 rfl ?_
    rw [sz _ f2]
    refine R_jn 46 (decide (30 ≤ D.1)) rfl (by rw [decide_eq_false_iff_not]; exact ⟨fun e => (nI_ltI (b := 30) (by omega) (by omega)).mpr (by omega), fun e => by have := (nI_ltI (b := 30) (by omega) (by omega)).mp e; omega⟩) rfl rfl ?_
    refine R_gs 47 rfl ?_
    refine R_k rfl rfl (c_blameIf kO (k := 5) (by decide) c2 (fun h3 f3 c3 => ?_))
    refine R_gs 51 rfl ?_
    refine R_k rfl rfl (c_step kO c3 (fun h4 f4 c4 => ?_))
    rw [show sp K (bl K (decide (30 ≤ D.1)) 5 (bl K (!vb t) 1 s)) = dl0 K s D from by unfold dl0; rw [← et]] at c4
    have F4 := (f2.trans f3).trans f4
    refine R_gs 58 rfl ?_
    refine W_d rfl (by omega) (by omega) (by omega) (by omega) (fun hc58 => ?_) (fun hc58 => ?_)
    ·
      have e22 : t = 22 := (by omega)
      have ey : (dl0 K s D, (0 : Int32)) = dl1 K N t (dl0 K s D) := (by unfold dl1; rw [if_pos e22])
      refine R_gs 75 rfl ?_
      refine W_d rfl (by omega) (by omega) (by omega) (by omega) (fun he => absurd he (by omega)) (fun _ => ?_)
      refine R_gs 95 rfl ?_
      refine W_d rfl (by omega) (by omega) (by omega) (by omega) (fun he => absurd he (by omega)) (fun _ => ?_)
      refine R_gs 115 rfl ?_
      refine W_d rfl (by omega) (by omega) (by omega) (by omega) (fun he => absurd he (by omega)) (fun _ => ?_)
      refine R_gs 122 rfl ?_
      refine W_d rfl (by omega) (by omega) (by omega) (by omega) (fun he => absurd he (by omega)) (fun _ => ?_)
      exact fin (dl0 K s D, 0) (dl0 K s D, 0) _ _ ey (by unfold dl2; rw [if_neg (by omega), if_neg (by omega), if_neg (by omega)]) F4 c4 rfl
    ·
      have e22 : ¬ t = 22 := (by omega)
      have ey : rk K N 2 (dl0 K s D) = dl1 K N t (dl0 K s D) := (by unfold dl1; rw [if_neg e22])
      refine R_gs 66 rfl ?_
      refine R_k rfl rfl (c_readKnown kO ha (σ := 2) (hN.xr ha F4) nO (by omega) c4 (fun h5 f5 c5 => ?_))
      have F5 := F4.trans f5
      refine R_gs 75 rfl ?_
      refine W_d rfl (by omega) (by omega) (by omega) (by omega) (fun hc75 => ?_) (fun hc75 => ?_)
      ·
        refine R_gs 83 rfl ?_
        refine R_k rfl rfl (c_readKnown kO ha (σ := 0) (hN.xr ha F5) nO (by omega) c5 (fun h6 f6 c6 => ?_))
        refine R_gs 163 rfl ?_
        exact fin (rk K N 0 (rk K N 2 (dl0 K s D)).1) (rk K N 2 (dl0 K s D)) _ _ ey (by unfold dl2; rw [if_pos (by omega)]) (F5.trans f6) c6 rfl
      ·
        refine R_gs 95 rfl ?_
        refine W_d rfl (by omega) (by omega) (by omega) (by omega) (fun hc95 => ?_) (fun hc95 => ?_)
        ·
          refine R_gs 103 rfl ?_
          refine R_k rfl rfl (c_readKnown kO ha (σ := 1) (hN.xr ha F5) nO (by omega) c5 (fun h6 f6 c6 => ?_))
          refine R_gs 163 rfl ?_
          exact fin (rk K N 1 (rk K N 2 (dl0 K s D)).1) (rk K N 2 (dl0 K s D)) _ _ ey (by unfold dl2; rw [if_neg (by omega), if_pos (by omega)]) (F5.trans f6) c6 rfl
        ·
          refine R_gs 115 rfl ?_
          refine W_d rfl (by omega) (by omega) (by omega) (by omega) (fun hc115 => ?_) (fun hc115 => ?_)
          ·
            refine R_gs 130 rfl ?_
            refine R_k rfl rfl (c_lookUp kO ha (σ := 2) (hN.xr ha F5) nO (by omega) c5 (fun h6 f6 c6 => ?_))
            refine R_gs 140 rfl ?_
            refine W_b rfl (fun hc140 => ?_) (fun hc140 => ?_)
            ·
              rw [c6.fz] at hc140
              refine R_gs 147 rfl ?_
              refine R_j 155 (decide ((lu K N 2 (rk K N 2 (dl0 K s D)).1).2 = (rk K N 2 (dl0 K s D)).2)) rfl (by rw [decide_eq_true_eq]) rfl rfl ?_
              refine R_gs 156 rfl ?_
              refine R_k rfl rfl (c_blameIf kO (k := 3) (by decide) c6 (fun h7 f7 c7 => ?_))
              rw [show decide ((lu K N 2 (rk K N 2 (dl0 K s D)).1).2 = (rk K N 2 (dl0 K s D)).2) = (decide ((lu K N 2 (rk K N 2 (dl0 K s D)).1).1.2 = 0) && decide ((lu K N 2 (rk K N 2 (dl0 K s D)).1).2 = (rk K N 2 (dl0 K s D)).2)) from by rw [decide_eq_true hc140, Bool.true_and]] at c7
              refine R_gs 160 rfl ?_
              refine R_k rfl rfl (c_step kO c7 (fun h8 f8 c8 => ?_))
              exact fin (sp K (bl K (decide ((lu K N 2 (rk K N 2 (dl0 K s D)).1).1.2 = 0) && decide ((lu K N 2 (rk K N 2 (dl0 K s D)).1).2 = (rk K N 2 (dl0 K s D)).2)) 3 (lu K N 2 (rk K N 2 (dl0 K s D)).1).1), (lu K N 2 (rk K N 2 (dl0 K s D)).1).2) (rk K N 2 (dl0 K s D)) _ _ ey (by unfold dl2; rw [if_neg (by omega), if_neg (by omega), if_pos (by omega)]) (((F5.trans f6).trans f7).trans f8) c8 rfl
            ·
              rw [c6.fz] at hc140
              refine R_gs 156 rfl ?_
              refine R_k rfl rfl (c_blameIf kO (b := false) (k := 3) (by decide) c6 (fun h7 f7 c7 => ?_))
              rw [show false = (decide ((lu K N 2 (rk K N 2 (dl0 K s D)).1).1.2 = 0) && decide ((lu K N 2 (rk K N 2 (dl0 K s D)).1).2 = (rk K N 2 (dl0 K s D)).2)) from by rw [decide_eq_false hc140, Bool.false_and]] at c7
              refine R_gs 160 rfl ?_
              refine R_k rfl rfl (c_step kO c7 (fun h8 f8 c8 => ?_))
              exact fin (sp K (bl K (decide ((lu K N 2 (rk K N 2 (dl0 K s D)).1).1.2 = 0) && decide ((lu K N 2 (rk K N 2 (dl0 K s D)).1).2 = (rk K N 2 (dl0 K s D)).2)) 3 (lu K N 2 (rk K N 2 (dl0 K s D)).1).1), (lu K N 2 (rk K N 2 (dl0 K s D)).1).2) (rk K N 2 (dl0 K s D)) _ _ ey (by unfold dl2; rw [if_neg (by omega), if_neg (by omega), if_pos (by omega)]) (((F5.trans f6).trans f7).trans f8) c8 rfl
          ·
            refine R_gs 122 rfl ?_
            refine W_d rfl (by omega) (by omega) (by omega) (by omega) (fun hc122 => ?_) (fun hc122 => ?_)
            ·
              refine R_gs 130 rfl ?_
              refine R_k rfl rfl (c_lookUp kO ha (σ := 2) (hN.xr ha F5) nO (by omega) c5 (fun h6 f6 c6 => ?_))
              refine R_gs 140 rfl ?_
              refine W_b rfl (fun hc140 => ?_) (fun hc140 => ?_)
              ·
                rw [c6.fz] at hc140
                refine R_gs 147 rfl ?_
                refine R_j 155 (decide ((lu K N 2 (rk K N 2 (dl0 K s D)).1).2 = (rk K N 2 (dl0 K s D)).2)) rfl (by rw [decide_eq_true_eq]) rfl rfl ?_
                refine R_gs 156 rfl ?_
                refine R_k rfl rfl (c_blameIf kO (k := 3) (by decide) c6 (fun h7 f7 c7 => ?_))
                rw [show decide ((lu K N 2 (rk K N 2 (dl0 K s D)).1).2 = (rk K N 2 (dl0 K s D)).2) = (decide ((lu K N 2 (rk K N 2 (dl0 K s D)).1).1.2 = 0) && decide ((lu K N 2 (rk K N 2 (dl0 K s D)).1).2 = (rk K N 2 (dl0 K s D)).2)) from by rw [decide_eq_true hc140, Bool.true_and]] at c7
                refine R_gs 160 rfl ?_
                refine R_k rfl rfl (c_step kO c7 (fun h8 f8 c8 => ?_))
                exact fin (sp K (bl K (decide ((lu K N 2 (rk K N 2 (dl0 K s D)).1).1.2 = 0) && decide ((lu K N 2 (rk K N 2 (dl0 K s D)).1).2 = (rk K N 2 (dl0 K s D)).2)) 3 (lu K N 2 (rk K N 2 (dl0 K s D)).1).1), (lu K N 2 (rk K N 2 (dl0 K s D)).1).2) (rk K N 2 (dl0 K s D)) _ _ ey (by unfold dl2; rw [if_neg (by omega), if_neg (by omega), if_pos (by omega)]) (((F5.trans f6).trans f7).trans f8) c8 rfl
              ·
                rw [c6.fz] at hc140
                refine R_gs 156 rfl ?_
                refine R_k rfl rfl (c_blameIf kO (b := false) (k := 3) (by decide) c6 (fun h7 f7 c7 => ?_))
                rw [show false = (decide ((lu K N 2 (rk K N 2 (dl0 K s D)).1).1.2 = 0) && decide ((lu K N 2 (rk K N 2 (dl0 K s D)).1).2 = (rk K N 2 (dl0 K s D)).2)) from by rw [decide_eq_false hc140, Bool.false_and]] at c7
                refine R_gs 160 rfl ?_
                refine R_k rfl rfl (c_step kO c7 (fun h8 f8 c8 => ?_))
                exact fin (sp K (bl K (decide ((lu K N 2 (rk K N 2 (dl0 K s D)).1).1.2 = 0) && decide ((lu K N 2 (rk K N 2 (dl0 K s D)).1).2 = (rk K N 2 (dl0 K s D)).2)) 3 (lu K N 2 (rk K N 2 (dl0 K s D)).1).1), (lu K N 2 (rk K N 2 (dl0 K s D)).1).2) (rk K N 2 (dl0 K s D)) _ _ ey (by unfold dl2; rw [if_neg (by omega), if_neg (by omega), if_pos (by omega)]) (((F5.trans f6).trans f7).trans f8) c8 rfl
            ·
              exact fin ((rk K N 2 (dl0 K s D)).1, 0) (rk K N 2 (dl0 K s D)) _ _ ey (by unfold dl2; rw [if_neg (by omega), if_neg (by omega), if_neg (by omega)]) F5 c5 rfl
end
