set_option maxHeartbeats 4000000 in
/-- the law's call of rests -/
theorem wa_call {G : AG} {p : Program} {l : Launch} {e : Env} {R : Room} {s : State} {m : MethodId} {args : Array Value} {below : List Frame} {meth : Method} {c : Code} {Qw : State → Prop} {ad0 : Nat → Nat} {gc gs : Nat} (hf : l.flags = flags0) (F : FF p s m args meth c R m_L_law cL_law 7 (some .boolean) 13 0 262 gc gs) (hW0 : TW0 G s) (hG : G.1 ≤ s.heap.size)
    (hR1 : 9 ≤ R.frames) (hR2 : 537 ≤ R.locals) (hc : gc + (262 - 0) + 1 ≤ R.cells) (hs : gs + (sl 262 - sl 0) + 6 ≤ R.slots) {g l' w : Int32} {h : AH} {lv : AL}
    (k1 : WA ρ1 G p l e R s m args below meth c Qw m_L_law 7 0 262 (gc + 1) (gs + 6) ad0 (m_L_law, 1212, lv, [.int (b2i (rsT g l' w))], 262, if rsT g l' w = true then h else wJ h 261 0 (rsA g l' w).toInt64)) :
    WA ρ1 G p l e R s m args below meth c Qw m_L_law 7 0 262 gc gs ad0 (m_L_law, 1209, lv, [.ref 261, .int w, .int l', .int g, .ref 0], 262, h) := by
  intro ad ls H locs hμ hl hH hV hS hn0 hn1 had
  dsimp only at hl hH ⊢
  obtain ⟨hx, hb, hml, hr, hlk, hown, hts, hck, hol, hnm, hfr, hlo, hRc, hRs⟩ := id F
  have hown2 : s.vm.findClass "SnapWedLaw" = some m.cls := hown
  obtain ⟨mk, methM, cM, hnamed, hmethM, -, -, -, -, -, -, hsigM⟩ := Cond.codeWith_spec (hts lrW lr_in)
  have hstatic : methM.isStatic = true := Cond.static_spec hnamed hmethM (hts _ (wT5 (i := 116) rfl rfl))
  obtain ⟨kP, hkP, -⟩ := className_of_methodNamed hnamed
  have hini : (Cond.initialized yL_rests.cls).before args s = true := hts _ (wT1 (i := 0) rfl rfl)
  have hinitP : kP.init = .initialized := Cond.initialized_spec (findClass_of_methodNamed hnamed) hkP hini
  have hd : decode cL_law 1209 = .ok (.invokestatic 153, 3) := (chk_at (i := .invokestatic 153) (nx := 1212) (hck 1209) rfl).2.1
  intro T hT X
  subst hT
  have hws : ∀ u ∈ lrW :: wAll, ∀ (a' : Array Value) (U : State), s.WarmedH U.vm → u.before a' U = true := by
    refine pay_in hts (fun u hu => ?_)
    have hm : u ∈ wAll := by
      rcases List.mem_cons.mp hu with e | e
      · rw [e]; exact lr_in
      · exact e
    exact ⟨hm, wAll_good hm⟩
  have hK : Back l R p e below s args yL_rests 3 8 (PreOf R 1 6 (fun v U => PreM ρ1 G ad [.ref 0, .int g, .int l', .int w, .ref 261] 262 h v U ∧ TW0 G U)) (PostOf (PostM ρ1 G ad 262 262 (fun v h' => v = some (.int (b2i (rsT g l' w))) ∧ h' = if rsT g l' w = true then h else wJ h 261 0 (rsA g l' w).toInt64)) 1 6 (Ab G)) := by
    refine Back.of_freeWith (handlers := [(0, 12, 15, 13)]) (S := headSpec (lrW :: wAll) lrR) (P := fun v U => PreM ρ1 G ad [.ref 0, .int g, .int l', .int w, .ref 261] 262 h v U ∧ TW0 G U) (K := fun _ _ _ _ _ => True) (Q := fun a st o t => PostM ρ1 G ad 262 262 (fun v h' => v = some (.int (b2i (rsT g l' w))) ∧ h' = if rsT g l' w = true then h else wJ h 261 0 (rsA g l' w).toInt64) a st o t ∧ ∃ L, FrameEnd st o t L 1 6 ∧ ∀ q ∈ L, Ab G q.base) (bytes := cL_rests) (maxL := 6) (ret := some .int)
      (E := fun a st o t L k n => k = 1 ∧ n = 6 ∧ ∀ q ∈ L, Ab G q.base) (mt_rests hf) (by show 8 + 1 ≤ _; omega) (by show 8 + (6 + 11) + 512 ≤ _; omega) ?_ ?_ (fun _ _ _ _ _ _ _ _ _ => trivial) ?_ ?_
    · intro m meth c A a X hp
      exact ⟨atoms_intro fun w hw => hws w hw _ _ X.warmed, hws lrW List.mem_cons_self _ _ X.warmed, word_at X.warmed (Or.inl (by first | rfl | simp [Cond.onTables, Cond.keeps, Cond.steady])) hini, hp.1, hp.2.1⟩
    · intro m meth c A a g mk X hp
      exact PreT.blind _ _ _ _ hp.2.2
    · intro a st o t hq
      obtain ⟨hq, L, hF, hL⟩ := hq
      exact ⟨L, 1, 6, hF, rfl, rfl, hL⟩
    · intro m meth c A a g mk v t L k n X hp hq hF hE
      obtain ⟨e1, e2, hL⟩ := hE
      subst e1; subst e2
      exact ⟨g, mk, t, L, rfl, rfl, hq.1, rfl, hL, rfl, rfl⟩
  obtain ⟨vm1, X1, hstep1⟩ := X.invokestatic hx hown2 (hts _ (wT5 (i := 115) rfl rfl)) hnamed hmethM hstatic hkP hinitP ⟨by decide, by decide⟩ (g := F0 m 1209 ls ([.ref 261, .int w, .int l', .int g, .ref 0].map (cv ad))) rfl (argsL := [.ref (ad 0), .int g, .int l', .int w, .ref (ad 261)]) (rest := []) (by
      have h5 : (parseMethodDescriptor yL_rests.desc).map (fun d => d.parameters.length) = some 5 := by decide +kernel
      rw [hsigM] at h5
      exact (Option.some.inj h5).symm) rfl (by rw [hb]; exact hd)
  obtain ⟨v, ⟨U', l2, c2, s2⟩, X', hpost, hsteps⟩ := hK m meth c ⟨T.setVm vm1, locs, gc + (262 - 0), gs + (sl 262 - sl 0)⟩ (F0 m 1209 ls []) (.invokestatic 153) mk ([.ref (ad 0), .int g, .int l', .int w, .ref (ad 261)] : List Value).toArray X1 rfl (hl.1.trans hml.symm) (by rw [hb]; exact hd) (by show 2 * 0 + 0 ≤ 8; omega) (X1.named hnamed)
    ⟨hc, hs, pre_at (s := s) (av := [.ref 0, .int g, .int l', .int w, .ref 261]) hG hH hV hS (T.setVm vm1) rfl X1.warmed, hW0.moved X1.warmed (fun a h1 h2 => hS.2.1 a h1 h2)⟩
  obtain ⟨g', mk', t, L, e1, e2, ⟨⟨v0, h', ad', hv, ⟨rfl, rfl⟩, hagr, hHR⟩, hz, hk⟩, q1, q2, q3, q4⟩ := hpost
  have ee : ad' = ad := funext (fun i => hagr i (by omega))
  subst ee
  dsimp only [Pt.U, Pt.locs, Pt.cells, Pt.slots] at X' e1 e2 q1 q3 q4 hsteps
  subst q1; subst q3; subst q4
  have hv := Outcome.returned.inj hv
  subst hv
  have hS1 : va_S (Ab G) s.heap U'.heap (locs ++ L) := ⟨Nat.le_trans hS.1 (by rw [e1]; exact hz), fun q q1 q2 => by rw [e1]; exact (hk q (Nat.lt_of_lt_of_le q1 hS.1) q2).trans (hS.2.1 q q1 q2), fun q hq => by
    rcases List.mem_append.mp hq with h4 | h4
    · exact hS.2.2 q h4
    · exact q2 q h4⟩
  have w1 := k1 ad' ls U'.heap (locs ++ L) rfl hl (by rw [e1]; exact hHR) (hV.kept (old_kept hG hS hS1)) hS1 (Nat.zero_le _) (Nat.le_refl _) had
  dsimp only at w1
  have e5 : gc + 1 + (262 - 0) = gc + (262 - 0) + 1 := by omega
  have e6 : gs + 6 + (sl 262 - sl 0) = gs + (sl 262 - sl 0) + 6 := by omega
  rw [e5, e6] at w1
  obtain ⟨tt, t1, t2⟩ := w1 U' rfl X'
  refine ⟨tt, hstep1 _ fun acts => ?_, t2⟩
  rw [doInvoke_state]
  exact hsteps.trans t1
