set_option maxHeartbeats 2000000 in
/-- new, dup, a string, the constructor, athrow: the method ends by a throw -/
theorem W.thr {p : Program} {l : Launch} {e : Env} {R : Room} {s : State} {m : MethodId} {args : Array Value} {below : List Frame} {meth : Method} {c : Code} {H : Heap} {locs : List Loc} {cells slots : Nat} {Qw : State → Prop} {cc : ByteArray} (hexec : p.tables.exec = Jvm.exec) (hb : c.code = cc) (htr : e.platform.stackTraces = false)
    {own : String} {ix kx ic : Nat} {X Y : String} {jx : Nat} {bx : ByteArray} {names : List String} {tx : String} {q : Nat} (hown : s.vm.findClass own = some m.cls) (hX : Bundle.fit X = true) (hY : Bundle.fit Y = true) (hn : ∀ n ∈ names, Bundle.fit n = true)
    (d0 : decode bx 0 = .ok (.aload_n 0, 1)) (d1 : decode bx 1 = .ok (.aload_n 1, 1)) (d2 : decode bx 2 = .ok (.invokespecial jx, 3)) (d5 : decode bx 5 = .ok (.return_, 1))
    (h : ∀ w ∈ thrW own ic X Y jx bx names, w.before args s = true) (hcl : (Cond.classLink own ix X).before args s = true) (hin : (Cond.initialized X).before args s = true) (hZ : vk_R own kx tx q s)
    (hlocs : ∀ (tc : ClassId) (tk : Class) (tb : Nat), s.vm.findClass Bundle.tN = some tc → s.vm.classes[tc]? = some tk → tk.statics = some tb → ∀ x ∈ locs, x.base ≠ tb) (hH : s.heap.size ≤ H.size) {pc : Nat} {ls : Array Slot} (hsize : ls.size = c.maxLocals)
    (e0 : decode cc pc = .ok (.new ix, 3)) (e3 : decode cc (pc + 3) = .ok (.dup, 1)) (e4 : decode cc (pc + 4) = .ok (.ldc_w kx, 3)) (e7 : decode cc (pc + 7) = .ok (.invokespecial ic, 3)) (e10 : decode cc (pc + 10) = .ok (.athrow, 1)) (hout : ∀ x ∈ c.exceptionTable.toList, covers x (pc + 10) = false)
    (hc1 : cells + 1 ≤ R.cells) (hs1 : slots + 6 ≤ R.slots) (hRf : names.length + 4 < R.frames) (hRl : 1 + (13 * (names.length + 2) + 42) ≤ R.locals) (hlocks : meth.locks = false)
    (k : ∀ (U : State) (cX : ClassId) (x : Cell) (K : List Loc), U.status = .running → Ended U below (.threw H.size) → s.WarmedH U.vm → U.heap.size = H.size + 1 → (∀ b : Nat, b < H.size → U.heap[b]? = H[b]?) → U.heap[H.size]? = some x → s.vm.findClass X = some cX → x.cls = cX → x.vm = .none → (∀ q ∈ K, q.base = H.size) → s.sameButNew ({ U with vm := s.vm } : State) (locs ++ K) (cells + 1) (slots + 6) → Qw U) :
    W p l e R s m args below meth c H locs cells slots Qw (F0 m pc ls []) := by
  refine W.newc (C := X) (n := 6) hexec hb hown hcl (h (.instantiable X 6) (by simp [thrW])) hin (g := F0 m pc ls []) rfl e0 hc1 hs1 (fun cC kC f1 f2 f3 f4 => ?_)
  refine lv_dup (pc := pc + 3) (ls := ls) (rest := []) hexec hb e3 rfl ?_
  intro T hT St
  have hst := St.ldcStringW hexec hown (text := tx) (a := q) hZ.1 hZ.2 (g := F0 m (pc + 4) ls [.ref H.size, .ref H.size]) rfl (by rw [hb]; exact e4)
  have hcell : T.heap[H.size]? = some (freshCell cC kC) := by rw [hT]; exact Array.getElem?_push_size
  have hlt : H.size < T.heap.size := by rw [hT, Array.size_push]; omega
  obtain ⟨U, x, K, q1, q2, q3, q4, q5, q6, q7, q8, q9⟩ := thr_go St hexec htr hown hX hY hn d0 d1 d2 d5 h hlocs f1 f2 hcell hH (msg := .ref q) rfl (g := F0 m (pc + 7) ls [.ref q, .ref H.size, .ref H.size]) rfl hsize rfl rfl rfl (by rw [hb]; exact e7) (by rw [hb]; exact e10) hout hRf (by show 2 * 0 + 1 + _ ≤ _; omega) hlocks
  refine ⟨U, hst _ q1, k U cC x K q2 q3 q4 ?_ (fun b hb2 => ?_) ?_ f1 q6 q7 q8 q9⟩
  · rw [q5, size_setCell, hT, Array.size_push]
  · rw [q5, heapAt_setCell_ne _ (show H.size ≠ b by omega), hT, Array.getElem?_push, if_neg (by omega)]
  · rw [q5]
    exact heapAt_setCell_self _ hlt
