def nseB : ByteArray := ⟨#[0x2a, 0x2b, 0xb7, 0x00, 0x0d, 0xb1]⟩
/-- what a throw asks of a state -/
def TW (G : AG) (args : Array Value) (s : State) : Prop :=
  (∀ w ∈ thrW "SnapWed" 285 "java/util/NoSuchElementException" "java/lang/RuntimeException" 13 nseB ["java/lang/Exception"], w.before args s = true) ∧ (Cond.classLink "SnapWed" 281 "java/util/NoSuchElementException").before args s = true ∧ (Cond.initialized "java/util/NoSuchElementException").before args s = true ∧
  (∃ q, vk_R "SnapWed" 283 "no such window" q s) ∧ (∃ q, vk_R "SnapWed" 292 "no such rest" q s) ∧ (∀ (tc : ClassId) (tk : Class) (tb : Nat), s.vm.findClass Bundle.tN = some tc → s.vm.classes[tc]? = some tk → tk.statics = some tb → tb < G.1)
set_option maxHeartbeats 2000000 in
theorem wa_thr {G : AG} {p : Program} {l : Launch} {e : Env} {R : Room} {s : State} {m : MethodId} {args : Array Value} {below : List Frame} {meth : Method} {c : Code} {Qw : State → Prop} {cc : ByteArray} {ml : Nat} {rt : Option FieldType} {own gc gs : Nat} {ad0 : Nat → Nat} (F : FF p s m args meth c R m_X12_rests cc ml rt own 262 262 gc gs) (ho : cnX own = "SnapWed") (htr : e.platform.stackTraces = false) (hW : TW G args s) (hout : ∀ pc, ∀ x ∈ c.exceptionTable.toList, covers x pc = false)
    (hc1 : gc + 1 ≤ R.cells) (hs1 : gs + 6 ≤ R.slots) (hRf : 5 < R.frames) (hRl : 82 ≤ R.locals) {pc : Nat} (hp : pc = 25 ∨ pc = 88) {lv : AL} {h : AH}
    (k : ∀ (ad : Nat → Nat) (H : Heap) (locs K : List Loc) (U : State) (cX : ClassId) (x : Cell), HR ρ1 G ad 262 h H → VR G ad s H → va_S (Ab G) s.heap H locs → (∀ i, i < 262 ∨ 262 ≤ i → ad i = ad0 i) → U.status = .running → Ended U below (.threw H.size) → s.WarmedH U.vm → U.heap.size = H.size + 1 → (∀ b : Nat, b < H.size → U.heap[b]? = H[b]?) → U.heap[H.size]? = some x → s.vm.findClass "java/util/NoSuchElementException" = some cX → x.cls = cX → x.vm = .none → (∀ q ∈ K, q.base = H.size) → s.sameButNew ({ U with vm := s.vm } : State) (locs ++ K) (gc + 1) (gs + 6) → Qw U) :
    WA ρ1 G p l e R s m args below meth c Qw m_X12_rests ml 262 262 gc gs ad0 (m_X12_rests, pc, lv, [], 262, h) := by
  intro ad ls H locs hμ hl hH hV hS hn0 hn1 had
  dsimp only at hl hH had ⊢
  obtain ⟨hx, hb, hml, hr, hlk, hown, hts, hck, hol, hnm, hfr, hlo, hRc, hRs⟩ := id F
  obtain ⟨w1, w2, w3, ⟨q1, w4⟩, ⟨q2, w5⟩, w6⟩ := hW
  rw [ho] at hown
  have hsz : ls.size = c.maxLocals := hl.1.trans hml.symm
  have hlocs : ∀ (tc : ClassId) (tk : Class) (tb : Nat), s.vm.findClass Bundle.tN = some tc → s.vm.classes[tc]? = some tk → tk.statics = some tb → ∀ x ∈ locs, x.base ≠ tb := fun tc tk tb t1 t2 t3 x hx2 => by
    have a1 := w6 tc tk tb t1 t2 t3
    have a2 : G.1 ≤ x.base := hS.2.2 x hx2
    intro q
    rw [q] at a2
    exact absurd a1 (Nat.not_lt.mpr a2)
  simp only [Nat.sub_self, Nat.add_zero]
  have fx : Bundle.fit "java/util/NoSuchElementException" = true := by decide +kernel
  have fy : Bundle.fit "java/lang/RuntimeException" = true := by decide +kernel
  have fn : ∀ n ∈ ["java/lang/Exception"], Bundle.fit n = true := by
    intro n hn
    obtain rfl := List.mem_singleton.mp hn
    decide +kernel
  rcases hp with rfl | rfl
  · exact W.thr hx hb htr hown fx fy fn (by decide +kernel) (by decide +kernel) (by decide +kernel) (by decide +kernel) w1 w2 w3 w4 hlocs hS.1 hsz
      (chk_at (i := .new 281) (nx := 28) (hck 25) rfl).2.1 (chk_at (i := .dup) (nx := 29) (hck 28) rfl).2.1 (chk_at (i := .ldc_w 283) (nx := 32) (hck 29) rfl).2.1 (chk_at (i := .invokespecial 285) (nx := 35) (hck 32) rfl).2.1 (chk_at (i := .athrow) (nx := 36) (hck 35) rfl).2.1 (hout _) hc1 hs1 hRf (by show 1 + (13 * (1 + 2) + 42) ≤ _; omega) hlk
      (fun U cX x K z1 z2 z3 z4 z5 z6 z7 z8 z9 z10 z11 => k ad H locs K U cX x hH hV hS had z1 z2 z3 z4 z5 z6 z7 z8 z9 z10 z11)
  · exact W.thr hx hb htr hown fx fy fn (by decide +kernel) (by decide +kernel) (by decide +kernel) (by decide +kernel) w1 w2 w3 w5 hlocs hS.1 hsz
      (chk_at (i := .new 281) (nx := 91) (hck 88) rfl).2.1 (chk_at (i := .dup) (nx := 92) (hck 91) rfl).2.1 (chk_at (i := .ldc_w 292) (nx := 95) (hck 92) rfl).2.1 (chk_at (i := .invokespecial 285) (nx := 98) (hck 95) rfl).2.1 (chk_at (i := .athrow) (nx := 99) (hck 98) rfl).2.1 (hout _) hc1 hs1 hRf (by show 1 + (13 * (1 + 2) + 42) ≤ _; omega) hlk
      (fun U cX x K z1 z2 z3 z4 z5 z6 z7 z8 z9 z10 z11 => k ad H locs K U cX x hH hV hS had z1 z2 z3 z4 z5 z6 z7 z8 z9 z10 z11)
