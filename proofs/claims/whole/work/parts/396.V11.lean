/-- what a throw asks of a state, beside the tables' words -/
def TW0 (G : AG) (U : State) : Prop := va_Zq Bundle.tN "UNASSIGNED_STACK" Bundle.steD (Ab G) U U.heap ∧ va_Zq Bundle.tN "SUPPRESSED_SENTINEL" Bundle.listD (Ab G) U U.heap ∧ (∃ q, vk_R "SnapWed" 283 "no such window" q U) ∧ (∃ q, vk_R "SnapWed" 292 "no such rest" q U) ∧ (∀ (tc : ClassId) (tk : Class) (tb : Nat), U.vm.findClass Bundle.tN = some tc → U.vm.classes[tc]? = some tk → tk.statics = some tb → tb < G.1) ∧
  (Cond.laysStatic Bundle.tN "UNASSIGNED_STACK" Bundle.steD).before #[] U = true ∧ (Cond.laysStatic Bundle.tN "SUPPRESSED_SENTINEL" Bundle.listD).before #[] U = true ∧ va_Nw (.declares (Bundle.initS "java/lang/RuntimeException")) U ∧ va_Nw (.declares (Bundle.initS "java/lang/Exception")) U ∧ va_Nw (.declares (Bundle.initS Bundle.tN)) U
theorem ls_moved {G : AG} {A A' : Array Value} {s U : State} {n d : String} (h5 : ∀ (tc : ClassId) (tk : Class) (tb : Nat), s.vm.findClass Bundle.tN = some tc → s.vm.classes[tc]? = some tk → tk.statics = some tb → tb < G.1) (h : (Cond.laysStatic Bundle.tN n d).before A s = true) (hW : s.WarmedH U.vm) (hk : ∀ a : Nat, a < s.heap.size → ¬ Ab G a → U.heap[a]? = s.heap[a]?) : (Cond.laysStatic Bundle.tN n d).before A' U = true := by
  obtain ⟨c, k, i, f, a, cell, hc, hi, hst, ha, hcell, hs, hcls, hlt, hty⟩ := Cond.laysStatic_spec h
  obtain ⟨k', hi', hek⟩ := State.fieldFound?_setVm hW.alike hi
  have hi2 : U.fieldFound? Bundle.tN n d = some (c, k', i, f) := hi'
  have hlt2 := h5 c k a hc (State.fieldFound?_spec hi).1 ha
  have hcell2 : U.heap[a]? = some cell := (hk a (Array.getElem?_eq_some_iff.mp hcell).1 (Nat.not_le.mpr hlt2)).trans hcell
  exact Cond.laysStatic_of (s := U) (by rw [hW.alike.findClass]; exact hc) hi2 hst (by rw [hek]; exact ha) hcell2 hs hcls hlt (by rw [hek]; exact hty)
theorem TW0.moved {G : AG} {s U : State} (h : TW0 G s) (hW : s.WarmedH U.vm) (hk : ∀ a : Nat, a < s.heap.size → ¬ Ab G a → U.heap[a]? = s.heap[a]?) : TW0 G U := by
  obtain ⟨h1, h2, ⟨q3, h3⟩, ⟨q4, h4⟩, h5, h6, h7, h8, h9, h10⟩ := h
  refine ⟨(va_Zq.moved hW.alike h1).kept hk, (va_Zq.moved hW.alike h2).kept hk, ⟨q3, h3.warm hW⟩, ⟨q4, h4.warm hW⟩, fun tc tk tb a1 a2 a3 => ?_, ls_moved h5 h6 hW hk, ls_moved h5 h7 hW hk, h8.warmD hW, h9.warmD hW, h10.warmD hW⟩
  have b1 : s.vm.findClass Bundle.tN = some tc := by rw [← hW.alike.findClass]; exact a1
  obtain ⟨k, hk2⟩ := Vm.classAt_of_findClass b1
  obtain ⟨k', c1, c2⟩ := hW.alike.2.2 _ _ hk2
  have e1 : k' = tk := Option.some.inj (c1.symm.trans a2)
  refine h5 tc k tb b1 hk2 ?_
  rw [← e1, c2] at a3
  exact a3
theorem zq_ref {C n d : String} {A : Nat → Prop} {s : State} {args : Array Value} (h : va_Zq C n d A s s.heap) : (Cond.isRef (.static C n d)).before args s = true := by
  rcases h with h | ⟨t, h⟩
  all_goals
    obtain ⟨cf, kf, fi, f, a, cell, h1, h2, h3, h4, h5, h6, h7, h8⟩ := h
    have he : (Term.static C n d).eval args s none [] s = cell.slots[f.slot]? := by
      simp [Term.eval, State.fieldNamed?, h1, h2, h4, h5, h6]
    simp only [Cond.before, Cond.holds, Cond.value]
    rw [he, h7]
    rfl
theorem t5_in {w : Cond} (h : lw_tbl.any (fun v => decide (v = w)) = true) (g : goodWord w = true) : w ∈ wAll := by
  obtain ⟨v, h1, h2⟩ := List.any_eq_true.mp h
  obtain rfl := of_decide_eq_true h2
  obtain ⟨i, hi⟩ := List.getElem?_of_mem h1
  exact wAll_in hi g
theorem TW.of {G : AG} {args : Array Value} {s : State} (hts : ∀ w ∈ wAll, w.before args s = true) (h : TW0 G s) : TW G args s := by
  obtain ⟨h1, h2, h3, h4, h5, h6, h7, h8, h9, h10⟩ := h
  have A1 : ∀ w ∈ Bundle.throwableAtoms, w.before args s = true := List.forall_mem_cons.mpr ⟨hts _ (wT1 (i := 20) rfl rfl), List.forall_mem_cons.mpr ⟨hts _ (wT5 (i := 145) rfl rfl), List.forall_mem_cons.mpr ⟨hts _ (wT5 (i := 154) rfl rfl), List.forall_mem_cons.mpr ⟨hts _ (wT5 (i := 156) rfl rfl), List.forall_mem_cons.mpr ⟨hts _ (wT5 (i := 159) rfl rfl), List.forall_mem_cons.mpr ⟨hts _ (wT5 (i := 161) rfl rfl), List.forall_mem_cons.mpr ⟨hts _ (wT5 (i := 146) rfl rfl), List.forall_mem_cons.mpr ⟨hts _ (wT5 (i := 147) rfl rfl), List.forall_mem_cons.mpr ⟨hts _ (wT1 (i := 30) rfl rfl), List.forall_mem_cons.mpr ⟨hts _ (wT1 (i := 31) rfl rfl), List.forall_mem_cons.mpr ⟨hts _ (wT5 (i := 148) rfl rfl), List.forall_mem_cons.mpr ⟨hts _ (wT5 (i := 153) rfl rfl), List.forall_mem_cons.mpr ⟨hts _ (wT5 (i := 157) rfl rfl), List.forall_mem_cons.mpr ⟨hts _ (wT5 (i := 177) rfl rfl), List.forall_mem_cons.mpr ⟨hts _ (wT5 (i := 135) rfl rfl), List.forall_mem_cons.mpr ⟨hts _ (wT5 (i := 178) rfl rfl), List.forall_mem_cons.mpr ⟨hts _ (wT5 (i := 137) rfl rfl), List.forall_mem_cons.mpr ⟨hts _ (wT5 (i := 179) rfl rfl), List.forall_mem_cons.mpr ⟨hts _ (wT5 (i := 139) rfl rfl), List.forall_mem_cons.mpr ⟨hts _ (wT5 (i := 149) rfl rfl), List.forall_mem_cons.mpr ⟨ls_moved h5 h6 (State.WarmedH.refl s) (fun _ _ _ => rfl), List.forall_mem_cons.mpr ⟨hts _ (wT5 (i := 151) rfl rfl), List.forall_mem_cons.mpr ⟨ls_moved h5 h7 (State.WarmedH.refl s) (fun _ _ _ => rfl), List.forall_mem_cons.mpr ⟨hts _ (wT5 (i := 141) rfl rfl), (fun _ h => by cases h)⟩⟩⟩⟩⟩⟩⟩⟩⟩⟩⟩⟩⟩⟩⟩⟩⟩⟩⟩⟩⟩⟩⟩⟩
  have A2 : ∀ w ∈ Bundle.throwableSAtoms, w.before args s = true := List.forall_mem_cons.mpr ⟨hts _ (wT5 (i := 173) rfl rfl), List.forall_mem_cons.mpr ⟨hts _ (wT5 (i := 174) rfl rfl), List.forall_mem_cons.mpr ⟨hts _ (wT5 (i := 176) rfl rfl), List.forall_mem_cons.mpr ⟨hts _ (wT5 (i := 141) rfl rfl), (fun _ h => by cases h)⟩⟩⟩⟩
  have A3 : ∀ w ∈ Bundle.passSAtoms "java/util/NoSuchElementException" "java/lang/RuntimeException" 13 nseB, w.before args s = true := List.forall_mem_cons.mpr ⟨hts _ (wT5 (i := 164) rfl rfl), List.forall_mem_cons.mpr ⟨hts _ (wT5 (i := 165) rfl rfl), List.forall_mem_cons.mpr ⟨hts _ (wT5 (i := 166) rfl rfl), List.forall_mem_cons.mpr ⟨hts _ (wT5 (i := 167) rfl rfl), List.forall_mem_cons.mpr ⟨va_Nw.use rfl h8, (fun _ h => by cases h)⟩⟩⟩⟩⟩
  have A4 : ∀ w ∈ Bundle.passSAtoms "java/lang/RuntimeException" "java/lang/Exception" 7 Bundle.six, w.before args s = true := List.forall_mem_cons.mpr ⟨hts _ (wT5 (i := 167) rfl rfl), List.forall_mem_cons.mpr ⟨hts _ (wT5 (i := 168) rfl rfl), List.forall_mem_cons.mpr ⟨hts _ (wT5 (i := 169) rfl rfl), List.forall_mem_cons.mpr ⟨hts _ (wT5 (i := 170) rfl rfl), List.forall_mem_cons.mpr ⟨va_Nw.use rfl h9, (fun _ h => by cases h)⟩⟩⟩⟩⟩
  have A5 : ∀ w ∈ Bundle.passSAtoms "java/lang/Exception" Bundle.tN 7 Bundle.six, w.before args s = true := List.forall_mem_cons.mpr ⟨hts _ (wT5 (i := 170) rfl rfl), List.forall_mem_cons.mpr ⟨hts _ (wT5 (i := 171) rfl rfl), List.forall_mem_cons.mpr ⟨hts _ (wT5 (i := 172) rfl rfl), List.forall_mem_cons.mpr ⟨hts _ (wT5 (i := 173) rfl rfl), List.forall_mem_cons.mpr ⟨va_Nw.use rfl h10, (fun _ h => by cases h)⟩⟩⟩⟩⟩
  refine ⟨List.forall_mem_append.mpr ⟨List.forall_mem_append.mpr ⟨List.forall_mem_append.mpr ⟨List.forall_mem_append.mpr ⟨A1, A2⟩, A3⟩, List.forall_mem_append.mpr ⟨A4, A5⟩⟩, ?_⟩, hts _ (wT5 (i := 123) rfl rfl), hts _ (wT1 (i := 23) rfl rfl), h3, h4, h5⟩
  exact List.forall_mem_cons.mpr ⟨hts _ (wT5 (i := 163) rfl rfl), List.forall_mem_cons.mpr ⟨hts _ (wT5 (i := 124) rfl rfl), List.forall_mem_cons.mpr ⟨hts _ (wT5 (i := 132) rfl rfl), List.forall_mem_cons.mpr ⟨hts _ (wT5 (i := 133) rfl rfl), List.forall_mem_cons.mpr ⟨hts _ (wT5 (i := 134) rfl rfl), List.forall_mem_cons.mpr ⟨hts _ (wT5 (i := 136) rfl rfl), List.forall_mem_cons.mpr ⟨hts _ (wT5 (i := 138) rfl rfl), List.forall_mem_cons.mpr ⟨hts _ (wT5 (i := 140) rfl rfl), List.forall_mem_cons.mpr ⟨zq_ref h1, List.forall_mem_cons.mpr ⟨zq_ref h2, List.forall_mem_cons.mpr ⟨hts _ (wT5 (i := 144) rfl rfl), List.forall_mem_cons.mpr ⟨hts _ (wT5 (i := 143) rfl rfl), List.forall_mem_cons.mpr ⟨hts _ (wT5 (i := 142) rfl rfl), (fun _ h => by cases h)⟩⟩⟩⟩⟩⟩⟩⟩⟩⟩⟩⟩⟩
theorem hr_more {ρ : AR} {G : AG} {ad : Nat → Nat} {n : Nat} {h : AH} {H H1 : Heap} (hH : HR ρ G ad n h H) (hk : ∀ b : Nat, b < H.size → H1[b]? = H[b]?) : HR ρ G ad n h H1 :=
  ⟨hH.1.kept (fun k q hq => hk _ (hH.1 k q hq).lt), hH.2⟩
