/-! rows of rows: new int[m][k] is one instruction -/
def mO (cA : ClassId) (q m i : Nat) : Cell := arrV cA m (fun j => if j < i then .ref (q + j + 1) else .null)
def mI (cI : ClassId) (k : Nat) : Cell := { cls := cI, slots := Array.replicate k (.int 0), vm := .none }
def mS (S : State) (cA cI : ClassId) (m k : Nat) : Nat → State
  | 0 => S.pushCell { cls := cA, slots := Array.replicate m .null, vm := .none }
  | i + 1 => ((mS S cA cI m k i).pushCell (mI cI k)).setCell S.heap.size ((mO cA S.heap.size m i).setSlot i (.ref (S.heap.size + i + 1)))
section MUL
variable {S : State} {cA cI : ClassId} {m k : Nat}
theorem mO_up (q i : Nat) : (mO cA q m i).setSlot i (.ref (q + i + 1)) = mO cA q m (i + 1) := by
  unfold mO
  rw [arrV_store]
  congr 1
  funext j
  unfold updV
  by_cases h : j = i
  · rw [if_pos h, if_pos (by omega), h]
  · rw [if_neg h]
    dsimp only
    by_cases h2 : j < i
    · rw [if_pos h2, if_pos (by omega)]
    · rw [if_neg h2, if_neg (by omega)]
theorem mS_size (i : Nat) : (mS S cA cI m k i).heap.size = S.heap.size + i + 1 := by
  induction i with
  | zero => exact Array.size_push _
  | succ i ih =>
    show (State.setCell (State.pushCell (mS S cA cI m k i) (mI cI k)) _ _).heap.size = _
    rw [size_setCell]
    show (Array.push (mS S cA cI m k i).heap _).size = _
    rw [Array.size_push, ih]
    omega
theorem mS_vm (i : Nat) : (mS S cA cI m k i).vm = S.vm := by
  induction i with
  | zero => rfl
  | succ i ih => exact ih
theorem mS_topj (i : Nat) : (mS S cA cI m k i).topJava? = S.topJava? := by
  induction i with
  | zero => rfl
  | succ i ih => exact ih
theorem mS_used (i : Nat) : (mS S cA cI m k i).slotsUsed = S.slotsUsed + m + i * k := by
  induction i with
  | zero =>
    show S.slotsUsed + (Array.replicate m Value.null).size = _
    rw [Array.size_replicate]
    omega
  | succ i ih =>
    show (mS S cA cI m k i).slotsUsed + (Array.replicate k (Value.int 0)).size = _
    rw [Array.size_replicate, ih, Nat.succ_mul]
    omega
theorem mS_top (f : JFrame) (i : Nat) : mS (S.setTop f) cA cI m k i = (mS S cA cI m k i).setTop f := by
  induction i with
  | zero => rfl
  | succ i ih =>
    show State.setCell (State.pushCell (mS (S.setTop f) cA cI m k i) (mI cI k)) _ _ = _
    rw [ih]
    rfl
theorem mS_out (i : Nat) : (mS S cA cI m k i).heap[S.heap.size]? = some (mO cA S.heap.size m i) := by
  cases i with
  | zero =>
    show (S.heap.push _)[S.heap.size]? = _
    rw [Array.getElem?_push_size, arrV_new]
    rfl
  | succ i =>
    show (State.setCell _ _ _).heap[_]? = _
    rw [heapAt_setCell_self _ (by show S.heap.size < (Array.push _ _).size; rw [Array.size_push, mS_size]; omega), mO_up]
theorem mS_old {a : Nat} (ha : a < S.heap.size) (i : Nat) : (mS S cA cI m k i).heap[a]? = S.heap[a]? := by
  induction i with
  | zero =>
    show (S.heap.push _)[a]? = _
    rw [Array.getElem?_push, if_neg (by omega)]
  | succ i ih =>
    show (State.setCell (State.pushCell (mS S cA cI m k i) (mI cI k)) _ _).heap[_]? = _
    rw [heapAt_setCell_ne _ (show S.heap.size ≠ a by omega)]
    show (Array.push (mS S cA cI m k i).heap _)[a]? = _
    rw [Array.getElem?_push, if_neg (by rw [mS_size]; omega)]
    exact ih
theorem mS_in {j i : Nat} (h : j < i) : (mS S cA cI m k i).heap[S.heap.size + j + 1]? = some (mI cI k) := by
  induction i with
  | zero => omega
  | succ i ih =>
    show (State.setCell (State.pushCell (mS S cA cI m k i) (mI cI k)) _ _).heap[_]? = _
    rw [heapAt_setCell_ne _ (show S.heap.size ≠ S.heap.size + j + 1 by omega)]
    show (Array.push (mS S cA cI m k i).heap _)[_]? = _
    rw [Array.getElem?_push]
    by_cases e1 : j = i
    · rw [if_pos (by rw [mS_size]; omega)]
    · rw [if_neg (by rw [mS_size]; omega)]
      exact ih (by omega)
theorem mS_stand {p : Program} {l : Launch} {e : Env} {R : Room} {s : State} {m' : MethodId} {args : Array Value} {below : List Frame} {meth : Method} {c : Code} {T : State} {locs : List Loc} {cells slots : Nat} (X : Stand p l e R s m' args below meth c T locs cells slots) (i : Nat) : Stand p l e R s m' args below meth c (mS T cA cI m k i) (locs ++ (List.range i).map (fun j => ⟨T.heap.size, j⟩)) (cells + i + 1) (slots + m + i * k) := by
  induction i with
  | zero =>
    have h := X.pushed { cls := cA, slots := Array.replicate m .null, vm := .none }
    simpa [mS] using h
  | succ i ih =>
    have h1 := ih.pushed (mI cI k)
    have h2 := h1.stored (a := T.heap.size) (cell := mO cA T.heap.size m i) (by show (Array.push _ _)[_]? = _; rw [Array.getElem?_push, if_neg (by rw [mS_size]; omega)]; exact mS_out i) i (.ref (T.heap.size + i + 1))
    rw [List.range_succ, List.map_append, ← List.append_assoc]
    have e1 : slots + m + (i + 1) * k = slots + m + i * k + (mI cI k).slots.size := by
      show _ = _ + (Array.replicate k (Value.int 0)).size
      rw [Array.size_replicate, Nat.succ_mul]
      omega
    rw [e1]
    exact h2
theorem mk_row {E : CtlPost} {e : Env} {d : Bool} {acts : List Action} {kI : Class} {cX : ClassId} {n2 : Int32} {Q : Addr → Pre} (hkI : S.vm.classes[cI]? = some kI) (hI : kI.kind = .array cX .int) (hk : ¬ n2 < 0) (hl2 : ¬ n2.toNatClampNeg > e.platform.arrayLengthLimit) (hh2 : ¬ n2.toNatClampNeg * 4 > e.platform.maxHeapBytes)
    (hc : S.heap.size < e.platform.maxCells) (hs : S.slotsUsed + n2.toNatClampNeg ≤ e.platform.maxSlots) (hq : ∀ acts', Q S.heap.size d acts' (S.pushCell (mI cI n2.toNatClampNeg))) : wp (multianewarray.make cI [n2]) Q E e d acts S := by
  rw [multianewarray.make]
  simp only [wp_bind', W.ite, hk, if_false, wp_pure', W.theClass, hkI, Option.some.injEq, exists_eq_left', hI]
  exact W.newArray_of hkI hI hl2 hh2 hc hs rfl hq
theorem mk_wp {E : CtlPost} {e : Env} {d : Bool} {acts : List Action} {kA kI : Class} {cX : ClassId} {n1 n2 : Int32} {Q : Addr → Pre}
    (hkA : S.vm.classes[cA]? = some kA) (hA : kA.kind = .array cI (.array .int)) (hkI : S.vm.classes[cI]? = some kI) (hI : kI.kind = .array cX .int)
    (hn : ¬ n1 < 0) (hk : ¬ n2 < 0) (hl1 : ¬ n1.toNatClampNeg > e.platform.arrayLengthLimit) (hl2 : ¬ n2.toNatClampNeg > e.platform.arrayLengthLimit)
    (hh1 : ¬ n1.toNatClampNeg * 4 > e.platform.maxHeapBytes) (hh2 : ¬ n2.toNatClampNeg * 4 > e.platform.maxHeapBytes)
    (hc : S.heap.size + n1.toNatClampNeg + 1 ≤ e.platform.maxCells) (hs : S.slotsUsed + n1.toNatClampNeg + n1.toNatClampNeg * n2.toNatClampNeg ≤ e.platform.maxSlots)
    (hq : ∀ d' acts', Q S.heap.size d' acts' (mS S cA cI n1.toNatClampNeg n2.toNatClampNeg n1.toNatClampNeg)) : wp (multianewarray.make cA [n1, n2]) Q E e d acts S := by
  rw [multianewarray.make]
  simp only [wp_bind', W.ite, hn, if_false, wp_pure', W.theClass, hkA, Option.some.injEq, exists_eq_left', hA]
  refine W.newArray_of hkA hA hl1 hh1 (by omega) (by omega) rfl (fun acts' => ?_)
  simp only [List.find?, hk, decide_false]
  split
  all_goals
    rw [wp_bind', Std.Legacy.Range.forIn_eq_forIn_range']
    refine wp_forIn_inv (fun rest s' => ∃ i, i ≤ n1.toNatClampNeg ∧ rest = List.range' i (n1.toNatClampNeg - i) ∧ s' = mS S cA cI n1.toNatClampNeg n2.toNatClampNeg i) _ _ ⟨0, Nat.zero_le _, by simp [Std.Legacy.Range.size], rfl⟩ ?_ ?_
    · rintro x rest s' d' acts2 Q' ⟨i, hi, hr, rfl⟩ hnext
      obtain ⟨r, hr'⟩ : ∃ r, n1.toNatClampNeg - i = r + 1 := by
        cases h : n1.toNatClampNeg - i with
        | zero => rw [h] at hr; cases hr
        | succ r => exact ⟨r, rfl⟩
      rw [hr', List.range'_succ] at hr
      obtain ⟨rfl, rfl⟩ := List.cons.inj hr
      simp only [wp_bind']
      have hv : ∀ cell : Cell, ((mS S cA cI n1.toNatClampNeg n2.toNatClampNeg x).pushCell cell).vm.classes[cA]? = some kA := fun cell => by
        show (mS S cA cI n1.toNatClampNeg n2.toNatClampNeg x).vm.classes[cA]? = _
        rw [mS_vm]
        exact hkA
      have hle : (x + 1) * n2.toNatClampNeg ≤ n1.toNatClampNeg * n2.toNatClampNeg := Nat.mul_le_mul_right _ (by omega)
      rw [Nat.succ_mul] at hle
      refine mk_row (by rw [mS_vm]; exact hkI) hI hk hl2 hh2 (by rw [mS_size]; omega) (by rw [mS_used]; omega) (fun acts3 => ?_)
      simp only [W.writeLoc, wp_pure', wp_bind']
      refine ⟨mO cA S.heap.size n1.toNatClampNeg x, (by show (Array.push _ _)[_]? = _; rw [Array.getElem?_push, if_neg (by rw [mS_size]; omega)]; exact mS_out x), (fun h => by cases h), (by unfold mO; rw [arrV_size]; omega), ?_, ?_⟩
      · have hf : ∀ a : Addr, fits (.array .int) (.ref a) = true := fun _ => rfl
        simp [State.fitsSlot, State.slotType?, mO, arrV, mS_vm, hkA, hA, hf]
      · refine hnext _ _ _ ⟨x + 1, by omega, by congr 1; omega, ?_⟩
        rw [mS_size]
        rfl
    · rintro s' d' acts2 ⟨i, hi, hr, rfl⟩
      have hr' : n1.toNatClampNeg - i = 0 := by
        cases h : n1.toNatClampNeg - i with
        | zero => rfl
        | succ r => rw [h] at hr; cases hr
      obtain rfl : i = n1.toNatClampNeg := by omega
      simp only [wp_pure']
      exact hq _ _
end MUL
theorem mult_wp {T : State} {cA cI : ClassId} {E : CtlPost} {e : Env} {d : Bool} {acts : List Action} {f : JFrame} {index : Nat} {vm1 : Vm} {kA kI : Class} {cX : ClassId} {n1 n2 : Int32} {rest : List Value} {Q : Unit → Pre} (hs0 : T.topJava?.isSome) (hg : (Jvm.resolveClass f.method.cls index).Gives e.toSetting T.vm (.ok cA) vm1) (hsz : vm1.classes.size ≤ T.vm.classes.size) (hstack : f.stack = .int n2 :: .int n1 :: rest)
    (hkA : vm1.classes[cA]? = some kA) (hA : kA.kind = .array cI (.array .int)) (hkI : vm1.classes[cI]? = some kI) (hI : kI.kind = .array cX .int)
    (hn : ¬ n1 < 0) (hk : ¬ n2 < 0) (hl1 : ¬ n1.toNatClampNeg > e.platform.arrayLengthLimit) (hl2 : ¬ n2.toNatClampNeg > e.platform.arrayLengthLimit)
    (hh1 : ¬ n1.toNatClampNeg * 4 > e.platform.maxHeapBytes) (hh2 : ¬ n2.toNatClampNeg * 4 > e.platform.maxHeapBytes)
    (hc : T.heap.size + n1.toNatClampNeg + 1 ≤ e.platform.maxCells) (hs : T.slotsUsed + n1.toNatClampNeg + n1.toNatClampNeg * n2.toNatClampNeg ≤ e.platform.maxSlots)
    (hq : ∀ acts', Q () true acts' ((mS (T.setVm vm1) cA cI n1.toNatClampNeg n2.toNatClampNeg n1.toNatClampNeg).setTop { f with stack := .ref T.heap.size :: rest })) : wp (multianewarray.sem index 2) Q E e d acts (T.setTop f) := by
  simp only [multianewarray.sem, wp_bind']
  rw [W.resolveClassAt_links (State.method?_setTop f hs0) hg hsz]
  rw [show (T.setTop f).setVm vm1 = (T.setVm vm1).setTop f from rfl]
  have hp := fun Q' => popN_top (E := E) (e := e) (d := d) (acts := acts) (s := T.setVm vm1) (f := f) (Q := Q') hs0 (args := [.int n1, .int n2]) (rest := rest) hstack
  rw [wp_bind']
  refine (hp _).mpr ?_
  simp only [List.mapM_cons, List.mapM_nil, wp_bind', wp_pure']
  refine mk_wp (S := (T.setVm vm1).setTop { f with stack := rest }) hkA hA hkI hI hn hk hl1 hl2 hh1 hh2 hc hs (fun d' acts' => ?_)
  rw [mS_top]
  have ht : (mS (T.setVm vm1) cA cI n1.toNatClampNeg n2.toNatClampNeg n1.toNatClampNeg).topJava?.isSome := by
    rw [mS_topj]
    exact hs0
  simp only [wp_bind', W.mark, W.pushRef, State.topJava?_setTop' _ ht, Option.some.injEq, exists_eq_left', State.setTop_setTop]
  exact hq _
theorem W.multi {p : Program} {l : Launch} {e : Env} {R : Room} {s : State} {m : MethodId} {args : Array Value} {below : List Frame} {meth : Method} {c : Code} {H : Heap} {locs : List Loc} {cells slots : Nat} {Q : State → Prop} {cc : ByteArray} (hexec : p.tables.exec = Jvm.exec) (hb : c.code = cc) {own : String} {index : Nat} (hown : s.vm.findClass own = some m.cls) (hclink : (Cond.classLink own index "[[I").before args s = true) {cA cI : ClassId} {kA kI : Class} {cX : ClassId} (hfA : s.vm.findClass "[[I" = some cA) (hkA : s.vm.classes[cA]? = some kA) (hA : kA.kind = .array cI (.array .int)) (hkI : s.vm.classes[cI]? = some kI) (hI : kI.kind = .array cX .int)
    {n1 n2 : Int32} {rest : List Value} {pc : Nat} {ls : Array Slot} (hdg : decode cc pc = .ok (.multianewarray index 2, 4)) (hn : ¬ n1 < 0) (hk : ¬ n2 < 0) (hn1 : n1.toNatClampNeg ≤ 1000) (hk1 : n2.toNatClampNeg ≤ 1000) (hcells : cells + (n1.toNatClampNeg + 1) ≤ R.cells) (hslots : slots + (n1.toNatClampNeg + n1.toNatClampNeg * n2.toNatClampNeg) ≤ R.slots)
    (kk : ∀ H1 : Heap, H1.size = H.size + n1.toNatClampNeg + 1 → H1[H.size]? = some (mO cA H.size n1.toNatClampNeg n1.toNatClampNeg) → (∀ j, j < n1.toNatClampNeg → H1[H.size + j + 1]? = some (mI cI n2.toNatClampNeg)) → (∀ a : Nat, a < H.size → H1[a]? = H[a]?) →
      W p l e R s m args below meth c H1 (locs ++ (List.range n1.toNatClampNeg).map (fun j => ⟨H.size, j⟩)) (cells + n1.toNatClampNeg + 1) (slots + n1.toNatClampNeg + n1.toNatClampNeg * n2.toNatClampNeg) Q (F0 m (pc + 4) ls (.ref H.size :: rest))) : W p l e R s m args below meth c H locs cells slots Q (F0 m pc ls (.int n2 :: .int n1 :: rest)) := by
  intro T hT X
  subst hT; subst hb
  have hpl : e.platform.magicAccessors = ({} : Platform).magicAccessors := by rw [X.admits.platform]
  obtain ⟨cc', hfcc, hcl⟩ := Cond.classLink_spec hown hclink e.platform hpl
  cases hfA.symm.trans hfcc
  obtain ⟨hg1, hwarm1, hready1⟩ := State.classEntry (e := e) X.warmed hcl
  have hsz : (T.vm.noted m.cls index (.cls cA)).classes.size ≤ T.vm.classes.size := by no_record
  generalize T.vm.noted m.cls index (.cls cA) = vm1 at hg1 hwarm1 hready1 hsz
  have hal : s.vm.Alike vm1 := hwarm1.alike
  obtain ⟨kA1, hkA1, heA⟩ := hal.2.2 _ _ hkA
  obtain ⟨kI1, hkI1, heI⟩ := hal.2.2 _ _ hkI
  have hA1 : kA1.kind = .array cI (.array .int) := by rw [heA]; exact hA
  have hI1 : kI1.kind = .array cX .int := by rw [heI]; exact hI
  have X1 := mS_stand (cA := cA) (cI := cI) (m := n1.toNatClampNeg) (k := n2.toNatClampNeg) (X.noted hwarm1) n1.toNatClampNeg
  obtain ⟨hr1, hr2⟩ := X.roomAbove hcells hslots
  obtain ⟨t', a1, b1⟩ := kk (mS (T.setVm vm1) cA cI n1.toNatClampNeg n2.toNatClampNeg n1.toNatClampNeg).heap (mS_size _) (mS_out _) (fun j hj => mS_in hj) (fun a ha => mS_old (S := T.setVm vm1) ha _) _ rfl X1
  refine ⟨t', ?_, b1⟩
  jvm_step X.here [hexec, hdg]
  refine mult_wp X.here.top hg1 hsz rfl hkA1 hA1 hkI1 hI1 hn hk (by rw [Launch.admits_arrayLengthLimit X.admits]; omega) (by rw [Launch.admits_arrayLengthLimit X.admits]; omega) (by rw [Launch.admits_maxHeapBytes X.admits]; omega) (by rw [Launch.admits_maxHeapBytes X.admits]; omega) (by omega) (by omega) (fun acts' acts2 => ?_)
  have ht : (mS (T.setVm vm1) cA cI n1.toNatClampNeg n2.toNatClampNeg n1.toNatClampNeg).topJava?.isSome := by
    rw [mS_topj]
    exact X.here.top
  simp [jvm, afterInstr, State.modifyTopJava_eq_setTop _ (State.topJava?_setTop' _ ht), State.setTop_setTop]
  exact a1
def adM (ad : Nat → Nat) (n M q : Nat) : Nat → Nat := fun i => if n ≤ i ∧ i ≤ n + M then q + (i - n) else ad i
theorem adM_ne {ad : Nat → Nat} {n M q i : Nat} (h : i < n ∨ n + M < i) : adM ad n M q i = ad i := if_neg (by omega)
theorem adM_at {ad : Nat → Nat} {n M q i : Nat} (h1 : n ≤ i) (h2 : i ≤ n + M) : adM ad n M q i = q + (i - n) := if_pos ⟨h1, h2⟩
theorem sl_rows {n k : Nat} (M : Nat) (h : ∀ j, j < M → SH (n + j) = (11, k)) : sl (n + M) = sl n + M * k := by
  induction M with
  | zero => simp
  | succ M ih =>
    show sl (n + M) + (SH (n + M)).2 = _
    rw [ih (fun j hj => h j (by omega)), h M (by omega), Nat.succ_mul]
    show sl n + M * k + k = _
    omega
theorem mI_arr (cI : ClassId) (k : Nat) : mI cI k = vp_cell cI (k, .inl (fun _ => 0)) := arrV_new cI k (.int 0)
theorem nm_rows : "[" ++ (FieldType.array .int).toString = "[[I" := by decide +kernel
set_option maxHeartbeats 4000000 in
theorem multiLaw : MultiLaw := by
  intro p l e R s m args below meth c Qw ρ G μ cc ml rt own n0 n' gc gs ad0 F hG j k pc nx x y v lv st n h P τ' hnx hi hs hp hX
  obtain ⟨rfl, hd⟩ := hnx rfl
  have hi' : (CLx.contains (own, j, x) && (Nat.beq k 2 && Nat.beq x 17)) = true := hi
  rw [Bool.and_eq_true, Bool.and_eq_true] at hi'
  obtain ⟨hcl0, hk2, hx17⟩ := hi'
  have hk2 := Nat.eq_of_beq_eq_true hk2
  have hx17 := Nat.eq_of_beq_eq_true hx17
  subst hk2
  subst hx17
  rcases st with _ | ⟨w1, st⟩
  · simp [c1i] at hs
  cases w1 with
  | int K =>
    rcases st with _ | ⟨w2, st⟩
    · simp [c1i] at hs
    cases w2 with
    | int M =>
      obtain ⟨rfl, rfl⟩ := Prod.mk.inj (Option.some.inj hs)
      obtain ⟨hlt, h262, hSH, hm0, hk0, hm3, hk3, hrows, hfr⟩ := hp
      intro ad ls H locs hμ hl hH hV hS hn0 hn1 had
      dsimp only at hμ hl hH hn0 hn1 ⊢
      obtain ⟨hx, hb, hml, hr, hlk, hown, hts, hck, hol, hnm, hfr2, hlo, hRc, hRs⟩ := id F
      have hcl : clW (own, j, 17) ∈ wAll := by
        obtain ⟨b, hw⟩ := all_zip (by decide +kernel) CL_ok _ (inL hcl0)
        exact inAt_in hw
      obtain ⟨cI, cA, kA, f1, f2, f3, f4⟩ := hV.1.2.2.2
      obtain rfl : cA = G.2.2.1 17 := Option.some.inj (f2.symm.trans (hV.1.1.2 6 _ rfl).2)
      obtain rfl : cI = G.2.2.1 11 := Option.some.inj (f1.symm.trans (hV.1.1.2 0 _ rfl).2)
      obtain ⟨-, kI, hkI, cX, hcX⟩ := (hV.1.1.2 0 _ rfl).1 0 (fun _ => .null)
      have hsl1 : sl (n + 1 + M.toNatClampNeg) = sl (n + 1) + M.toNatClampNeg * K.toNatClampNeg := sl_rows _ hrows
      have hsl2 : sl (n + 1) = sl n + M.toNatClampNeg := by
        show sl n + (SH n).2 = _
        rw [hSH]
      have hsl3 : sl (n + 1 + M.toNatClampNeg) ≤ sl n' := sl_mono (by omega)
      have hsl4 := sl_mono hn0
      rw [nm_rows] at f2
      obtain ⟨g1, g2⟩ := (Bool.and_eq_true _ _).mp hfr.2
      have g2 : st.all (q_ro n) = true := by simpa [q_ro] using g2
      refine W.multi hx hb hown (hts _ hcl) f2 f3 f4 hkI hcX hd hm0 hk0 hm3 hk3 (by omega) (by omega) (fun H1 z1 o1 i1 k1 => ?_)
      have hag : ∀ i, i < n ∨ n + 1 + M.toNatClampNeg ≤ i → adM ad n M.toNatClampNeg H.size i = ad i := fun i hi => adM_ne (by omega)
      have hS1 : va_S (Ab G) s.heap H1 (locs ++ (List.range M.toNatClampNeg).map (fun j => (⟨H.size, j⟩ : Loc))) := by
        refine ⟨by have := hS.1; omega, fun a h1 h2 => ?_, fun lo hlo => ?_⟩
        · rw [k1 a (by have := hS.1; omega)]
          exact hS.2.1 a h1 h2
        · rcases List.mem_append.mp hlo with h1 | h1
          · exact hS.2.2 lo h1
          · obtain ⟨t, -, rfl⟩ := List.mem_map.mp h1
            exact Nat.le_trans hG hS.1
      have hlow : ∀ a, a < n → ad a < H.size := fun a ha => (hH.1 a _ (wsA_at ha)).lt
      have hGH : G.1 ≤ H.size := Nat.le_trans hG hS.1
      generalize hh' : ((fun b => if n < b ∧ b ≤ n + M.toNatClampNeg then (fun _ => 0) else h.1 b, h.2.1, fun b => if b = n then (fun j => if j < M.toNatClampNeg then some (n + 1 + j) else none) else if n < b ∧ b ≤ n + M.toNatClampNeg then (fun _ => none) else h.2.2 b) : AH) = h' at hX
      have q1 : ∀ b, (b ≤ n ∨ n + M.toNatClampNeg < b) → hI h' b = hI h b := fun b hb => by subst hh'; exact if_neg (by omega)
      have q2 : ∀ b, (n < b ∧ b ≤ n + M.toNatClampNeg) → hI h' b = fun _ => 0 := fun b hb => by subst hh'; exact if_pos hb
      have q3 : ∀ b, hJ h' b = hJ h b := fun b => by subst hh'; rfl
      have q4 : ∀ b, (b < n ∨ n + M.toNatClampNeg < b) → hR h' b = hR h b := fun b hb => by
        subst hh'
        exact (if_neg (by omega)).trans (if_neg (by omega))
      have q5 : hR h' n = fun j => if j < M.toNatClampNeg then some (n + 1 + j) else none := by subst hh'; exact if_pos rfl
      have q6 : ∀ b, (n < b ∧ b ≤ n + M.toNatClampNeg) → hR h' b = fun _ => none := fun b hb => by
        subst hh'
        exact (if_neg (by omega)).trans (if_pos hb)
      clear hh'
      have hrf : ∀ a, a < n → ent ρ G (adM ad n M.toNatClampNeg H.size) h' a = ent ρ G ad h a := by
        intro a ha
        rw [ent_congr (q1 a (by omega)) (q3 a) (q4 a (Or.inl ha))]
        exact ent_ad hfr.1 (fun t b hb => adM_ne (by rcases hH.2.2.2.2 (by omega) a t b ha hb with h1 | h1 <;> omega))
      have hP1 : va_P G.2.1 vwCl (wsA ρ G (adM ad n M.toNatClampNeg H.size) (n + 1 + M.toNatClampNeg) h') H1 := by
        intro t q hq
        have ht : t < n + 1 + M.toNatClampNeg := by simpa [wsA] using (List.getElem?_eq_some_iff.mp hq).1
        rw [wsA_at ht] at hq
        obtain rfl := Option.some.inj hq
        by_cases t1 : t < n
        · rw [hrf t t1, adM_ne (Or.inl t1)]
          exact (hH.1 t _ (wsA_at t1)).kept (k1 _ (hlow t t1))
        · by_cases t2 : t = n
          · rw [t2, ent_ref hSH (by simp), adM_at (Nat.le_refl _) (by omega), Nat.sub_self, Nat.add_zero]
            show H1[H.size]? = some (arrV (G.2.2.1 17) M.toNatClampNeg (fun i => va_rf ((rfR ρ h' n i).map (adM ad n M.toNatClampNeg H.size))))
            rw [o1]
            unfold mO
            congr 2
            funext i
            unfold rfR
            rw [hfr.1.2 n, q5]
            dsimp only
            by_cases hi : i < M.toNatClampNeg
            · rw [if_pos hi, if_pos hi]
              show _ = Value.ref (adM ad n M.toNatClampNeg H.size (n + 1 + i))
              rw [adM_at (by omega) (by omega), show H.size + (n + 1 + i - n) = H.size + i + 1 by omega]
            · rw [if_neg hi, if_neg hi]
              rfl
          · obtain ⟨i, rfl⟩ : ∃ i, t = n + 1 + i := ⟨t - (n + 1), by omega⟩
            rw [ent_int (hrows i (by omega)) (by simp), adM_at (by omega) (by omega), q2 _ (by omega)]
            show H1[_]? = some (vp_cell _ _)
            rw [show H.size + (n + 1 + i - n) = H.size + i + 1 by omega, i1 i (by omega), mI_arr]
      have hD1 : va_D (Ab G) (wsA ρ G (adM ad n M.toNatClampNeg H.size) (n + 1 + M.toNatClampNeg) h') := by
        refine ⟨fun i i' p q hi hj hpq => ?_, fun t q hq => ?_⟩
        · have ti : i < n + 1 + M.toNatClampNeg := by simpa [wsA] using (List.getElem?_eq_some_iff.mp hi).1
          have tj : i' < n + 1 + M.toNatClampNeg := by simpa [wsA] using (List.getElem?_eq_some_iff.mp hj).1
          rw [wsA_at ti] at hi
          rw [wsA_at tj] at hj
          obtain rfl := Option.some.inj hi
          obtain rfl := Option.some.inj hj
          dsimp only at hpq
          by_cases a1 : i < n
          · rw [adM_ne (Or.inl a1)] at hpq
            by_cases a2 : i' < n
            · rw [adM_ne (Or.inl a2)] at hpq
              exact hH.2.1.1 i i' _ _ (wsA_at a1) (wsA_at a2) hpq
            · rw [adM_at (by omega) (by omega)] at hpq
              have := hlow i a1
              omega
          · rw [adM_at (i := i) (by omega) (by omega)] at hpq
            by_cases a2 : i' < n
            · rw [adM_ne (Or.inl a2)] at hpq
              have := hlow i' a2
              omega
            · rw [adM_at (by omega) (by omega)] at hpq
              omega
        · have ti : t < n + 1 + M.toNatClampNeg := by simpa [wsA] using (List.getElem?_eq_some_iff.mp hq).1
          rw [wsA_at ti] at hq
          obtain rfl := Option.some.inj hq
          show G.1 ≤ adM ad n M.toNatClampNeg H.size t
          by_cases a1 : t < n
          · rw [adM_ne (Or.inl a1)]
            exact hH.2.1.2 t _ (wsA_at a1)
          · rw [adM_at (by omega) (by omega)]
            omega
      have hN1 : NRV (n + 1 + M.toNatClampNeg) h' := by
        refine ⟨by omega, fun _ a t b ha hb => ?_⟩
        by_cases a1 : a < n
        · rw [q4 a (Or.inl a1)] at hb
          rcases hH.2.2.2.2 (by omega) a t b a1 hb with h1 | h1
          · exact Or.inl (by omega)
          · exact Or.inr h1
        · by_cases a2 : a = n
          · rw [a2, q5] at hb
            dsimp only at hb
            by_cases h1 : t < M.toNatClampNeg
            · rw [if_pos h1] at hb
              have := Option.some.inj hb
              exact Or.inl (by omega)
            · rw [if_neg h1] at hb
              cases hb
          · rw [q6 a (by omega)] at hb
            cases hb
      have w := hX (adM ad n M.toNatClampNeg H.size) ls H1 _ rfl (hl.agree (n := n) (n1 := n + 1 + M.toNatClampNeg) (by omega) hag g1) ⟨hP1, hD1, hH.2.2.1.of (fun b hb => q1 b (by omega)), hN1⟩ ((new_kept hG hS hS1 hV).ad (fun i hi => hag i (Or.inr (by omega)))) hS1 (by dsimp only; omega) (by dsimp only; omega) (fun i hi => (hag i (by omega)).trans (had i hi))
      dsimp only at w
      have e1 : gc + (n + 1 + M.toNatClampNeg - n0) = gc + (n - n0) + M.toNatClampNeg + 1 := by omega
      have e2 : gs + (sl (n + 1 + M.toNatClampNeg) - sl n0) = gs + (sl n - sl n0) + M.toNatClampNeg + M.toNatClampNeg * K.toNatClampNeg := by
        rw [hsl1, hsl2]
        omega
      have e3 : (Value.ref n :: st).map (cv (adM ad n M.toNatClampNeg H.size)) = .ref H.size :: st.map (cv ad) := by
        rw [List.map_cons, st_agree (n := n) (n1 := n + 1 + M.toNatClampNeg) (by omega) hag g2]
        show Value.ref (adM ad n M.toNatClampNeg H.size n) :: _ = _
        rw [adM_at (Nat.le_refl _) (by omega), Nat.sub_self, Nat.add_zero]
      rw [e1, e2, e3] at w
      exact w
    | _ => simp [c1i] at hs
  | _ => simp [c1i] at hs
