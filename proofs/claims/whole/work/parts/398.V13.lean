set_option maxHeartbeats 2000000 in
/-- a call that ends by X12_rests' throw -/
theorem call_thr {p : Program} {l : Launch} {e : Env} {R : Room} {s : State} {m : MethodId} {args : Array Value} {below : List Frame} {meth : Method} {c : Code} {T : State} {locs : List Loc} {cells slots : Nat} (X : Stand p l e R s m args below meth c T locs cells slots) (hexec : p.tables.exec = Jvm.exec)
    {own C : String} {index : Nat} {y : MethodName} {bytes : ByteArray} {maxL : Nat} {ret : Option FieldType} (hown : s.vm.findClass own = some m.cls) (hlink : (Cond.methodLink own index y).before args s = true) (hinst : (Cond.instanceMethod y).before args s = true) (hsel : (Cond.selects C y y).before args s = true)
    (hcode : (Cond.code y bytes maxL ret).before args s = true) (hini : (Cond.initialized y.cls).before args s = true) (hy : y.cls ≠ "java/lang/invoke/MethodHandle" ∧ y.cls ≠ "java/lang/invoke/VarHandle") {Wd : Nat} {ws : List Cond} {rm : Room} {Pc : Array Value → State → Prop} {G : AG} {ad : Nat → Nat} {h : AH}
    (hM : MetFree l y (headSpec ws rm) Pc (fun _ _ _ _ _ => True) (QT G ad h)) (hblind : FrameBlind Pc) (hws : ∀ w ∈ ws, ∀ (a' : Array Value) (U : State), s.WarmedH U.vm → w.before a' U = true) (hfr : rm.frames + 1 ≤ R.frames) (hlo : Wd + (maxL + 11) + rm.locals ≤ R.locals) (hcells : cells + rm.cells ≤ R.cells) (hslots : slots + rm.slots ≤ R.slots)
    {b : Addr} {cellB : Cell} (hcell : T.heap[b]? = some cellB) (hobj : cellB.vm.isStatics = false) (hcls : s.vm.findClass C = some cellB.cls)
    {g : JFrame} (hg : g.method = m) (hsize : g.locals.size = c.maxLocals) {argsL rest : List Value} (hlen : ∀ sig, parseMethodDescriptor y.desc = some sig → argsL.length = sig.parameters.length)
    (hstack : g.stack = argsL.reverse ++ .ref b :: rest) (hW : 2 * g.monitorRoom + (rest.map fun v => v.category).sum ≤ Wd) (hdg : decode c.code g.pc = .ok (.invokevirtual index, 3))
    (hPc : ∀ vm1, s.WarmedH vm1 → Pc (Value.ref b :: argsL).toArray (T.setVm vm1)) :
    ∃ (A : Addr) (cX : ClassId) (x : Cell) (L : List Loc) (T' : State), HR ρ1 G ad 262 h T'.heap ∧ va_S (Ab G) T.heap T'.heap L ∧ T'.heap[A]? = some x ∧ s.vm.findClass "java/util/NoSuchElementException" = some cX ∧ x.cls = cX ∧ x.vm = .none ∧
      Stand p l e R s m args below meth c T' (locs ++ L) (cells + 1) (slots + 6) ∧ ∀ target, Steps p.tables e below ((T'.setTop { g with stack := rest }).pushFrame (.throwing A)) target → Steps p.tables e below (T.setTop g) target := by
  obtain ⟨mk, methM, hnamed, hmethM, hstM, habM⟩ := Cond.instanceMethod_spec hinst
  obtain ⟨methM', cM, hmethM', -, -, -, -, -, -, hsigM⟩ := Cond.code_spec hnamed hcode
  cases hmethM.symm.trans hmethM'
  obtain ⟨c2, r2, m2, q1, q2, q3, q4, kP, hkP, hkPi⟩ := Cond.selects_spec hsel
  cases hcls.symm.trans q1
  cases (State.methodFound?_of_named hnamed hy).symm.trans q2
  cases hnamed.symm.trans q3
  have hselP : selectMethod e.platform s.vm cellB.cls mk = .method mk := by rw [Launch.admits_selectMethod X.admits]; exact q4
  obtain ⟨vm1, X1, hstep1⟩ := X.invokevirtual hexec hown hlink hnamed hmethM hstM hkP hkPi hy (a := b) (cell := cellB) hcell
    (fun z h => by rw [h] at hobj; cases hobj) hselP hmethM habM hkP hkPi (g := g) hg (argsL := argsL) (rest := rest) (hlen _ hsigM) hstack hdg
  have hcodeU : (Cond.code y bytes maxL ret).before (Value.ref b :: argsL).toArray (T.setVm vm1) = true := word_at X1.warmed (Or.inl (by first | rfl | simp [Cond.onTables, Cond.keeps, Cond.steady])) hcode
  have hiniU : (Cond.initialized y.cls).before (Value.ref b :: argsL).toArray (T.setVm vm1) = true := word_at X1.warmed (Or.inl (by first | rfl | simp [Cond.onTables, Cond.keeps, Cond.steady])) hini
  have hn := X1.named hnamed
  have hp := hPc vm1 X1.warmed
  have hheap : (T.setVm vm1).heap = T.heap := rfl
  generalize T.setVm vm1 = U at X1 hstep1 hcodeU hiniU hn hp hheap
  obtain ⟨methY, cY, hmY, hcY, -, hlY, -, -, -, -⟩ := Cond.code_spec hn hcodeU
  obtain ⟨kY, hkY, -⟩ := className_of_methodNamed hn
  have hinitY : kY.init = .initialized := Cond.initialized_spec (findClass_of_methodNamed hn) hkY hiniU
  have hat : At U g.method c below := by rw [hg]; exact X1.here
  have happ : (headSpec ws rm).appliesLoose y e.platform (U.calling { g with stack := rest } mk (Value.ref b :: argsL).toArray) = true :=
    Spec.appliesLoose_calling (g := { g with stack := rest }) hat hdg hn hkY hinitY
      (X1.room_calling (g := { g with stack := rest }) (R' := rm) hsize hmY hcY hfr (by rw [hlY]; show 2 * g.monitorRoom + (rest.map fun v => v.category).sum + (maxL + 11) + rm.locals ≤ R.locals; omega) hcells hslots) (atoms_intro fun w hw => hws w hw _ _ X1.warmed)
  obtain ⟨mid, hmid⟩ := hat.above
  have hfrm : (U.setTop { g with stack := rest }).frames = (.java { g with stack := rest } :: mid) ++ below := by rw [State.frames_setTop' _ hat.top, hmid]; rfl
  obtain ⟨o, s2, hsteps, -, hend, hq⟩ := Steps.callFree hM p X1.admits X1.cas X1.clock (acts := []) hfrm happ (hblind _ _ _ _ hp) trivial
  rw [State.frames_setTop' _ hat.top] at hend
  have hq2 : QT G ad h (Value.ref b :: argsL).toArray (U.calling { g with stack := rest } mk (Value.ref b :: argsL).toArray) o s2 := hq
  obtain ⟨A, cX, x, L, rfl, k1, k2, k3, k4, k5, k6, k7, k8⟩ := hq2
  obtain ⟨f1, f2, f3, f4, f5, f6⟩ := k8
  have e3 : s2 = ({ (U.calling { g with stack := rest } mk (Value.ref b :: argsL).toArray).setFrames s2.frames with heap := s2.heap, slotsUsed := s2.slotsUsed } : State).setVm s2.vm := by
    have : s2 = ({ s2 with vm := (U.calling { g with stack := rest } mk (Value.ref b :: argsL).toArray).vm } : State).setVm s2.vm := rfl
    rw [f1] at this
    exact this
  have hf2 : s2.frames = .throwing A :: .java { g with stack := rest } :: U.frames.tail := hend
  have hW' : U.WarmedH s2.vm := k7
  obtain ⟨g0, hg0⟩ := Option.isSome_iff_exists.mp hat.top
  obtain ⟨r, hr⟩ := State.topJava?_eq_some.mp hg0
  have hs2 : s2 = ((({ U with heap := s2.heap, slotsUsed := s2.slotsUsed } : State).setVm s2.vm).setTop { g with stack := rest }).pushFrame (.throwing A) := by
    have hr' : (({ U with heap := s2.heap, slotsUsed := s2.slotsUsed } : State).setVm s2.vm).frames = .java g0 :: r := hr
    refine e3.trans ?_
    rw [hf2, State.calling_eq hat.top, State.setFrames_setFrames, State.pushFrame, State.frames_setTop _ hr', State.setTop_of_frames _ hr', State.setFrames_setFrames, hr]
    rfl
  have hsame : U.sameButNew ({ U with heap := s2.heap, slotsUsed := s2.slotsUsed } : State) L 1 6 := by
    refine ⟨?_, f2, f3, f4, f5, f6⟩
    obtain ⟨t, ht, -⟩ := State.frames_cons hr
    show ({ U with heap := s2.heap, slotsUsed := s2.slotsUsed } : State) = { U.setFrames U.frames with heap := s2.heap, slotsUsed := s2.slotsUsed }
    rw [State.setFrames_self ht]
  have k4' : s.vm.findClass "java/util/NoSuchElementException" = some cX := by
    rw [← X1.warmed.alike.findClass]
    exact k4
  subst hg
  refine ⟨A, cX, x, L, (({ U with heap := s2.heap, slotsUsed := s2.slotsUsed } : State).setVm s2.vm), k1, by rw [← hheap]; exact k2, k3, k4', k5, k6,
    ⟨X1.admits, X1.cas, X1.clock, X1.frames, X1.room, X1.hears, X1.method, X1.code, (X1.here.setHeapUsed s2.heap s2.slotsUsed).setVm hW'.alike, X1.tail, State.WarmedH.trans X1.warmed hW', X1.limits, X1.bytes, X1.same.trans (hsame.setVm s.vm)⟩, fun target ht => hstep1 _ fun acts => ?_⟩
  rw [doInvoke_state]
  rw [← hs2] at ht
  exact hsteps.trans ht
