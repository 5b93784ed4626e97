def lrR : Room := { frames := 8, cells := 1, slots := 6, locals := 512 }
theorem c_rests {d : Nat} {h : AH} {a : Nat} {g l w : Int32} {Q : Option Value → AH → Prop} (hT : rsT g l w = false) (h1 : Q (some (.int (rsA g l w))) h) : Rc (d + 4) m_X12_rests [.ref a, .int g, .int l, .int w] h Q :=
  Cl_of rfl (Nat.le_refl _) rfl (x_rests (fun _ => h1) (fun q => by rw [hT] at q; cases q))
theorem w_lr {h : AH} {g l w : Int32} {Q : Option Value → AH → Prop} (hT : rsT g l w = false) (h1 : Q (some (.int 0)) (wJ h 261 0 (rsA g l w).toInt64)) : Wps ρ1 (Cl ρ1 4) 262 Q (fun _ => False) (m_L_rests, 0, [some (.ref 0), some (.int g), some (.int l), some (.int w), some (.ref 261), none], [], 262, h) := by
  refine W_g 7 400 rfl ?_
  refine W_k (n1 := 262) (Cl.cm _) rfl rfl (c_rests (d := 0) hT ?_)
  refine W_g 11 400 rfl ?_
  refine W_c rfl ⟨1, rfl, by decide, by unfold vp_in; decide⟩ ?_
  refine W_g 20 400 rfl ?_
  exact W_f rfl rfl h1
set_option maxHeartbeats 4000000 in
theorem mt_rests {l : Launch} (hf : l.flags = flags0) {G : AG} {ad : Nat → Nat} {g l' w : Int32} {h : AH} : Met l yL_rests (lrW :: wAll) lrR (fun v U => PreM ρ1 G ad [.ref 0, .int g, .int l', .int w, .ref 261] 262 h v U ∧ TW0 G U) (PostM ρ1 G ad 262 262 (fun v h' => v = some (.int (b2i (rsT g l' w))) ∧ h' = if rsT g l' w = true then h else wJ h 261 0 (rsA g l' w).toInt64)) 1 6 (Ab G) := by
  refine MetFree.of_bodyS (code := cL_rests) (maxLocals := 6) (ret := some .int) (by decide) (fun args s m h hn => ?_) (fun p e s m args below meth c s1 B hml hP _ => ?_)
  · obtain ⟨m', meth, c, h0, h1, h2, h3, h4, h5, h6, h7, -⟩ := Cond.codeWith_spec (atoms_spec (ws := lrW :: wAll) h _ List.mem_cons_self)
    cases hn.symm.trans h0
    exact ⟨meth, c, h1, h2, h3, h4, h6, h7⟩
  obtain ⟨⟨rfl, hH, hV, hG⟩, hW0⟩ := hP
  have hts0 := atoms_spec (ws := lrW :: wAll) B.pre
  have hts : ∀ u ∈ wAll, u.before ([.ref 0, .int g, .int l', .int w, .ref 261].map (cv ad)).toArray s = true := fun u hu => hts0 u (List.mem_cons_of_mem _ hu)
  have hown : s.vm.findClass (cnX 13) = some m.cls := findClass_of_methodNamed B.named
  have F : FF p s m ([.ref 0, .int g, .int l', .int w, .ref 261].map (cv ad)).toArray meth c lrR m_L_rests cL_rests 6 (some .int) 13 262 262 0 0 :=
    ⟨B.exec, B.bytes, hml, B.returns, B.notSynchronized, hown, hts, t_L_rests.1, by decide, (name_of_methodNamed B.named B.method).1, by decide, by decide, by rw [Nat.sub_self]; decide, by rw [Nat.sub_self]; decide⟩
  have F1 : FF p s m ([.ref 0, .int g, .int l', .int w, .ref 261].map (cv ad)).toArray meth c lrR m_L_rests cL_rests 6 (some .int) 13 262 262 1 6 :=
    ⟨B.exec, B.bytes, hml, B.returns, B.notSynchronized, hown, hts, t_L_rests.1, by decide, (name_of_methodNamed B.named B.method).1, by decide, by decide, by rw [Nat.sub_self]; decide, by rw [Nat.sub_self]; decide⟩
  obtain ⟨m2, meth2, c2, h0, h1, h2, -, -, htab, -⟩ := Cond.codeWith_spec (hts0 lrW List.mem_cons_self)
  cases B.named.symm.trans h0
  cases B.method.symm.trans h1
  cases (Stand.of_body B).code.symm.trans h2
  have ea : a1 m_L_rests [.ref 0, .int g, .int l', .int w, .ref 261] 262 h = some (m_L_rests, 0, [some (.ref 0), some (.int g), some (.int l'), some (.int w), some (.ref 261), none], [], 262, h) := rfl
  unfold a1 at ea
  obtain ⟨lv, e1, e2, e3, e4⟩ := q_args_some (ad := ad) 6 [.ref 0, .int g, .int l', .int w, .ref 261] _ 0 ea
  obtain rfl : lv = [some (.ref 0), some (.int g), some (.int l'), some (.int w), some (.ref 261), none] := (Prod.mk.inj (Prod.mk.inj (Prod.mk.inj (Option.some.inj e1)).2).2).1
  have hl := lv_entry ([.ref 0, .int g, .int l', .int w, .ref 261].map (cv ad)) (n := 6) e3
  have key : W p l e lrR s m ([.ref 0, .int g, .int l', .int w, .ref 261].map (cv ad)).toArray below meth c s.heap [] 0 0 (MQ below (PostM ρ1 G ad 262 262 (fun v h' => v = some (.int (b2i (rsT g l' w))) ∧ h' = if rsT g l' w = true then h else wJ h 261 0 (rsA g l' w).toInt64)) ([.ref 0, .int g, .int l', .int w, .ref 261].map (cv ad)).toArray s 1 6 (Ab G)) (entryFrame m ([.ref 0, .int g, .int l', .int w, .ref 261].map (cv ad)).toArray 6) := by
    rw [lg_entry_eq]
    generalize (lg_sl ([.ref 0, .int g, .int l', .int w, .ref 261].map (cv ad)) ++ List.replicate (6 - (lg_sl ([.ref 0, .int g, .int l', .int w, .ref 261].map (cv ad))).length) Slot.unset).toArray = ls at hl ⊢
    have hL : LV ls 6 ad [some (.ref 0), some (.int g), some (.int l'), some (.int w), some (.ref 261), none] := ⟨hl.1, hl.2.1, e2, fun i v hi => by
      have h5 := e4 i v hi
      rw [Nat.zero_add] at h5
      exact hl.2.2 _ h5⟩
    cases hT : rsT g l' w with
    | true =>
      have k2 := sd_all (l := l) (e := e) (below := below) multiLaw F hG (d := 0) (by decide) (by decide) (Snd_all multiLaw l ρ1 G 0) (Qw := MQ below (PostM ρ1 G ad 262 262 (fun v h' => v = some (.int (b2i true)) ∧ h' = if true = true then h else wJ h 261 0 (rsA g l' w).toInt64)) ([.ref 0, .int g, .int l', .int w, .ref 261].map (cv ad)).toArray s 1 6 (Ab G)) (ad0 := ad) (Q := fun _ _ => False) (S := fun τ => τ = (m_L_rests, 7, [some (.ref 0), some (.int g), some (.int l'), some (.int w), some (.ref 261), none], [.int w, .int l', .int g, .ref 0, .int 0, .ref 261], 262, h))
        (fun τ hτ => by
          subst hτ
          refine wa_lr hf F F1 hW0 hG htab (by decide) (by decide) hT (fun t hq => ?_)
          obtain ⟨o, q1, q2, ⟨⟨v, h', ad', r1, ⟨rfl, rfl⟩, r3, r4⟩, q4⟩, q5⟩ := hq
          rw [Nat.sub_self, Nat.sub_self] at q5
          exact ⟨o, q1, q2, ⟨⟨_, _, ad', r1, ⟨rfl, rfl⟩, r3, r4⟩, q4⟩, q5⟩)
        (fun _ _ _ _ _ _ x => False.elim x)
        (σ := (m_L_rests, 0, [some (.ref 0), some (.int g), some (.int l'), some (.int w), some (.ref 261), none], [], 262, h)) (W_g 7 400 rfl (W_stop rfl))
        ad ls s.heap [] rfl hL hH hV va_S.rf (Nat.le_refl _) (Nat.le_refl _) (fun _ _ => rfl)
      dsimp only at k2
      simp only [Nat.sub_self, Nat.zero_add, List.map_nil] at k2
      exact k2
    | false =>
      refine W.widen (k := 1) (n := 6) (Nat.zero_le _) (Nat.zero_le _) ?_
      have k2 := sd_all (l := l) (e := e) (below := below) multiLaw F1 hG (d := 4) (by decide) (by decide) (Snd_all multiLaw l ρ1 G 4) (Qw := MQ below (PostM ρ1 G ad 262 262 (fun v h' => v = some (.int (b2i false)) ∧ h' = if false = true then h else wJ h 261 0 (rsA g l' w).toInt64)) ([.ref 0, .int g, .int l', .int w, .ref 261].map (cv ad)).toArray s (1 + (262 - 262)) (6 + (sl 262 - sl 262)) (Ab G)) (ad0 := ad) (S := fun _ => False) (fun _ h => False.elim h) (fun τ P v h2 q t x => sd_f1 (e := e) F1 q t x)
        (w_lr (h := h) hT ⟨rfl, rfl⟩) ad ls s.heap [] rfl hL hH hV va_S.rf (Nat.le_refl _) (Nat.le_refl _) (fun _ _ => rfl)
      dsimp only at k2
      simp only [Nat.sub_self, Nat.add_zero, List.map_nil] at k2
      exact k2
  obtain ⟨t, a1, o, b1, b2, b3⟩ := key s1 (by rw [B.state]; rfl) (Stand.of_body B)
  exact ⟨t, o, a1, b1, b2, b3.1, b3.2⟩
