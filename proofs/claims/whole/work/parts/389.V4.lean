theorem thr_sel {pl : Platform} {l : Launch} {e : Env} {args : Array Value} {s : State} (ha : l.admits e) {X : String} {cX : ClassId} {y : MethodName} {q : MethodId} (hf : s.vm.findClass X = some cX) (hy : s.methodNamed? y = some q) (hp : y.cls ≠ "java/lang/invoke/MethodHandle" ∧ y.cls ≠ "java/lang/invoke/VarHandle") (h : (Cond.selects X y y).holds args s none s [] = true) : selectMethod e.platform s.vm cX q = .method q := by
  obtain ⟨c2, r2, m2, q1, q2, q3, q4, -⟩ := Cond.selects_spec h
  obtain rfl : c2 = cX := Option.some.inj (q1.symm.trans hf)
  obtain rfl : r2 = q := Option.some.inj (q2.symm.trans (State.methodFound?_of_named hy hp))
  obtain rfl : m2 = r2 := Option.some.inj (q3.symm.trans hy)
  rw [Launch.admits_selectMethod ha]
  exact q4
set_option maxHeartbeats 2000000 in
/-- from the constructor's call to the end by a throw -/
theorem thr_go {p : Program} {l : Launch} {e : Env} {R : Room} {s : State} {m : MethodId} {args : Array Value} {below : List Frame} {meth : Method} {c : Code} {V : State} {locs : List Loc} {cells slots : Nat} (S0 : Stand p l e R s m args below meth c V locs cells slots) (hexec : p.tables.exec = Jvm.exec) (htr : e.platform.stackTraces = false)
    {own : String} {ic : Nat} {X Y : String} {jx : Nat} {bx : ByteArray} {names : List String} (hown : s.vm.findClass own = some m.cls) (hX : Bundle.fit X = true) (hY : Bundle.fit Y = true) (hn : ∀ n ∈ names, Bundle.fit n = true)
    (d0 : decode bx 0 = .ok (.aload_n 0, 1)) (d1 : decode bx 1 = .ok (.aload_n 1, 1)) (d2 : decode bx 2 = .ok (.invokespecial jx, 3)) (d5 : decode bx 5 = .ok (.return_, 1))
    (h : ∀ w ∈ thrW own ic X Y jx bx names, w.before args s = true) (hlocs : ∀ (tc : ClassId) (tk : Class) (tb : Nat), s.vm.findClass Bundle.tN = some tc → s.vm.classes[tc]? = some tk → tk.statics = some tb → ∀ x ∈ locs, x.base ≠ tb)
    {a : Addr} {cX : ClassId} {kX : Class} (hfX : s.vm.findClass X = some cX) (hkX : s.vm.classes[cX]? = some kX) (hcell : V.heap[a]? = some (freshCell cX kX)) (hnew : s.heap.size ≤ a) {msg : Value} (hmsg : msg.isRef = true)
    {g : JFrame} (hg : g.method = m) (hsize : g.locals.size = c.maxLocals) (hlocked : g.locked = none) (hentered : g.entered = []) (hstack : g.stack = [msg, .ref a, .ref a])
    (e6 : decode c.code g.pc = .ok (.invokespecial ic, 3)) (e9 : decode c.code (g.pc + 3) = .ok (.athrow, 1)) (hout : ∀ x ∈ c.exceptionTable.toList, covers x (g.pc + 3) = false)
    (hRf : names.length + 4 < R.frames) (hRl : 2 * g.monitorRoom + 1 + (13 * (names.length + 2) + 42) ≤ R.locals) (hlocks : meth.locks = false) :
    ∃ (U : State) (x : Cell) (K : List Loc), Steps p.tables e below (V.setTop g) U ∧ U.status = .running ∧ Ended U below (.threw a) ∧ s.WarmedH U.vm ∧ U.heap = (V.setCell a x).heap ∧ x.cls = cX ∧ x.vm = .none ∧ (∀ q ∈ K, q.base = a) ∧ s.sameButNew ({ U with vm := s.vm } : State) (locs ++ K) cells slots := by
  have p1 : e.platform.frameOwnsMonitors = true := by rw [S0.admits.platform]
  have p2 : e.platform.finalization = false := by rw [S0.admits.platform]
  have p3 : e.platform.magicAccessors = ({} : Platform).magicAccessors := by rw [S0.admits.platform]
  have w : ∀ x ∈ thrW own ic X Y jx bx names, x.holds args s none s [] = true := fun x hx => h x hx
  obtain ⟨T, Z0, TL, -, TY⟩ := ThrowableC.of_atoms (args := args) p1 p2 p3 (fun x hx => h x (by simp [thrW, hx]))
  obtain ⟨Z, M, ZL, ML, hZ⟩ := Init0T.ofS_atoms (args := args) p3 TL TY (fun x hx => h x (by simp [thrW, hx]))
  obtain ⟨P1, Ps, hlen, l1, lr, hP1, k1, k2⟩ := thr_chain (args := args) p3 hZ hX hY hn d0 d1 d2 d5 (fun x hx => h x (by simp [thrW, hx])) (fun x hx => h x (by simp [thrW, hx]))
  obtain rfl : cX = P1.m.cls := Option.some.inj (hfX.symm.trans (findClass_of_methodNamed hP1))
  obtain ⟨c1, k1', i1, i2, hord, -, -, -⟩ := Cond.instantiable_spec (w (.instantiable X 6) (by simp [thrW]))
  obtain rfl : c1 = P1.m.cls := Option.some.inj (i1.symm.trans hfX)
  obtain rfl : k1' = kX := Option.some.inj (i2.symm.trans hkX)
  have s0 := thr_sel (pl := e.platform) S0.admits hfX TY.fill0 (by decide) (w (.selects X Bundle.tFill0 Bundle.tFill0) (by simp [thrW]))
  have s1 := thr_sel (pl := e.platform) S0.admits hfX TY.fill (by decide) (w (.selects X Bundle.tFill Bundle.tFill) (by simp [thrW]))
  obtain ⟨cS, hcS, hiS⟩ := TY.statics
  obtain ⟨u0, hu0⟩ := Cond.staticRefV TY.unassigned TL.unassignedStatic TL.statics hcS hiS (w (.isRef (.static Bundle.tN "UNASSIGNED_STACK" Bundle.steD)) (by simp [thrW]))
  obtain ⟨sen, hsen⟩ := Cond.staticRefV TY.sentinel TL.sentinelStatic TL.statics hcS hiS (w (.isRef (.static Bundle.tN "SUPPRESSED_SENTINEL" Bundle.listD)) (by simp [thrW]))
  obtain ⟨b1, b2, fB, b3, b4, b5, b6, -, b7, b8, b9⟩ := Cond.ownField (t := .object "java/lang/Object") TY.found TL.cls (by decide +kernel) (w (.fieldLink Bundle.tN 198 Bundle.tN "backtrace" "Ljava/lang/Object;") (by simp [thrW])) (w (.lays Bundle.tN Bundle.tN "backtrace" "Ljava/lang/Object;") (by simp [thrW])) e.platform p3
  have hno : ∀ i, (⟨T.aS, i⟩ : Loc) ∉ locs := fun i hm => hlocs _ _ _ TY.found TL.cls TL.statics _ hm rfl
  obtain ⟨cV, v1, v2, -, v4⟩ := S0.same.2.2.2.2.2 T.aS cS hcS
  have vk : cV.vm ≠ .unknown := by
    rw [v2]
    intro hu
    rw [show cS.vm = .unknown from hu] at hiS
    cases hiS
  have hne : T.aS ≠ a := Nat.ne_of_lt (Nat.lt_of_lt_of_le (Array.getElem?_eq_some_iff.mp hcS).1 hnew)
  obtain ⟨iM, hM⟩ := TY.msg
  obtain ⟨tC, dC, aC, nC⟩ := Cond.laysAt hfX hkX TY.cause (w (.lays X Bundle.tN "cause" "Ljava/lang/Throwable;") (by simp [thrW]))
  obtain ⟨tS, dS, aS, nS⟩ := Cond.laysAt hfX hkX TY.stack (w (.lays X Bundle.tN "stackTrace" Bundle.steD) (by simp [thrW]))
  obtain ⟨tP, dP, aP, nP⟩ := Cond.laysAt hfX hkX TY.supp (w (.lays X Bundle.tN "suppressedExceptions" Bundle.listD) (by simp [thrW]))
  obtain ⟨tM, dM, aM, nM⟩ := Cond.laysAt hfX hkX hM (w (.lays X Bundle.tN "detailMessage" "Ljava/lang/String;") (by simp [thrW]))
  obtain ⟨tB, dB, aB, nB⟩ := Cond.laysAt hfX hkX b9 (w (.lays X Bundle.tN "backtrace" "Ljava/lang/Object;") (by simp [thrW]))
  have a1 := Cond.laysApart aB aC nB nC (by rw [b7, TY.causeName]; decide)
  have a2 := Cond.laysApart aB aS nB nS (by rw [b7, TY.stackName]; decide)
  have a3 := Cond.laysApart aB aP nB nP (by rw [b7, TY.suppName]; decide)
  have hsk : SkipFacts T e.platform s (fun u => u) u0 ((preparedCellV T.toThrowableT (freshCell P1.m.cls k1') a u0 sen).withEntry V.cur) := by
    refine ⟨{ ci198 := b1, i198 := b2, fBack := fB }, ⟨b3, b4, b5, b6⟩, ?_, fun _ _ => rfl⟩
    have hd := fresh_default (c := P1.m.cls) tB
    rw [b8] at hd
    simpa [Cell.setSlot, Cell.withEntry, Array.getElem?_setIfInBounds, a1, a2, a3, a1.symm, a2.symm, a3.symm, defaultValue] using hd
  obtain ⟨tm, mC, cd, kC, vm1, t1, -, -, -, -, -, -, -, wm1, st1⟩ := Steps.initColdS (tb := p.tables) (e := e) (below := below) (s := s) (U := V) S0.here hexec S0.warmed p3 hown (t := Bundle.initS X) rfl rfl (Bundle.fit_spec hX).2 (args := args) (bytes := bx) (maxL := 2) (h (.methodLink own ic (Bundle.initS X)) (by simp [thrW])) (h (.instanceMethod (Bundle.initS X)) (by simp [thrW, Bundle.passSAtoms])) (h (.code (Bundle.initS X) bx 2 none) (by simp [thrW, Bundle.passSAtoms])) (f := g) hg (a := a) (msg := msg) (rest := [.ref a]) hstack e6
  obtain rfl : tm = P1.m := Option.some.inj (t1.symm.trans hP1)
  have S1 := S0.noted wm1
  obtain ⟨vm2, S2, st2⟩ := S1.ctorMessageOffV hexec (g := { g with stack := [.ref a] }) hg hsize T TL Z ZL M ML (P1 :: Ps) (fun P hP => by rcases List.mem_cons.mp hP with rfl | hP; exact l1; exact lr P hP) ⟨k1, k2⟩ (u0 := u0) (sen := sen) (self := a) hmsg (cell := freshCell P1.m.cls k1') (cellS := cV) hcell (fun _ => by simp) (by simp) rfl rfl s0 s1 v1 hne vk (by rw [v4 _ (hno _)]; exact hu0) (by rw [v4 _ (hno _)]; exact hsen)
    (Takes.of_laid hkX hord tC (by rw [TY.causeType]; rfl)) (Takes.of_laid hkX hord tS (by rw [TY.stackType]; exact fits_refV_array _ u0)) (Takes.of_laid hkX hord tP (by rw [TY.suppType]; exact fits_refV_object _ sen)) (Takes.of_laid hkX hord tM (by rw [TY.msgType]; exact fits_refV_object _ ⟨msg, hmsg⟩)) TY.objLocals hsk htr [] e6
    (by rw [List.length_cons, hlen]; omega) (by rw [List.length_cons, hlen]; show 2 * g.monitorRoom + 1 + _ ≤ _; omega)
  obtain ⟨z1, z2, z3, z4, z5⟩ := S2.athrowLeaves hexec (g := { g with stack := [.ref a], pc := g.pc + 3 }) hg hlocked hentered hout (a := a) (rest := []) rfl e9 hlocks
  refine ⟨_, plainBareV T.toThrowableT (freshCell P1.m.cls k1') a u0 sen msg, _, st1 _ (fun acts => ?_), z2, z3, z4, rfl, rfl, rfl, fun q hq => ?_, z5⟩
  · rw [doInvoke_state]
    exact st2 _ z1
  · simp only [List.mem_cons, List.not_mem_nil, or_false] at hq
    rcases hq with rfl | rfl | rfl | rfl | rfl <;> rfl
