/-- how X12_rests ends by its throw -/
def QT (G : AG) (ad : Nat → Nat) (h : AH) : Array Value → State → Outcome → State → Prop := fun _ s o t => ∃ (A : Addr) (cX : ClassId) (x : Cell) (L : List Loc), o = .threw A ∧ HR ρ1 G ad 262 h t.heap ∧ va_S (Ab G) s.heap t.heap L ∧ t.heap[A]? = some x ∧ s.vm.findClass "java/util/NoSuchElementException" = some cX ∧ x.cls = cX ∧ x.vm = .none ∧ s.WarmedH t.vm ∧ s.sameButNew ({ t with vm := s.vm } : State) L 1 6
set_option maxHeartbeats 2000000 in
theorem mf_rests {l : Launch} (hf : l.flags = flags0) {G : AG} {ad : Nat → Nat} {a : Nat} {g l' w : Int32} {h : AH} (hT : rsT g l' w = true) {cc : ByteArray} {ml : Nat} {rt : Option FieldType} {np own : Nat} (hMM : MMx m_X12_rests cc ml rt np own) {rm : Room} (r1 : 6 ≤ rm.frames) (r2 : 384 ≤ rm.locals) (r3 : 1 ≤ rm.cells) (r4 : 6 ≤ rm.slots) :
    MetFree l (myX m_X12_rests) (headSpec (Cond.code (myX m_X12_rests) cc ml rt :: wAll) rm) (fun v U => PreM ρ1 G ad [.ref a, .int g, .int l', .int w] 262 h v U ∧ TW0 G U) (fun _ _ _ _ _ => True) (QT G ad h) := by
  refine mf_ofW (cc := cc) (maxL := ml) (ret := rt) hMM.2.2.2.1 rfl ?_
  intro p e s m args below meth c s1 B hml hv
  obtain ⟨⟨rfl, hH, hV, hG⟩, hW0⟩ := hv
  have hts0 := atoms_spec (ws := Cond.code (myX m_X12_rests) cc ml rt :: wAll) B.pre
  have hts : ∀ u ∈ wAll, u.before ([.ref a, .int g, .int l', .int w].map (cv ad)).toArray s = true := fun u hu => hts0 u (List.mem_cons_of_mem _ hu)
  have hown : s.vm.findClass (cnX own) = some m.cls := by
    have h1 := findClass_of_methodNamed B.named
    rw [hMM.1.2.2] at h1
    exact h1
  have ho : cnX own = "SnapWed" := hMM.1.2.2.symm.trans (by decide +kernel)
  have F : FF p s m ([.ref a, .int g, .int l', .int w].map (cv ad)).toArray meth c rm m_X12_rests cc ml rt own 262 262 0 0 :=
    ⟨B.exec, B.bytes, hml, B.returns, B.notSynchronized, hown, hts, hMM.1.1, hMM.2.2.1, (name_of_methodNamed B.named B.method).1, by omega, by omega, by omega, by omega⟩
  have hem := B.noHandlers (hts0 _ List.mem_cons_self)
  have hout : ∀ pc, ∀ x ∈ c.exceptionTable.toList, covers x pc = false := by
    intro pc x hx
    rw [Array.isEmpty_iff.mp hem] at hx
    cases hx
  have ea : a1 m_X12_rests [.ref a, .int g, .int l', .int w] 262 h = some (m_X12_rests, 0, [some (.ref a), some (.int g), some (.int l'), some (.int w), none, none], [], 262, h) := rfl
  unfold a1 at ea
  rw [hMM.2.2.2.2.2.2] at ea
  obtain ⟨lv, e1, e2, e3, e4⟩ := q_args_some (ad := ad) ml [.ref a, .int g, .int l', .int w] _ 0 ea
  obtain rfl : lv = [some (.ref a), some (.int g), some (.int l'), some (.int w), none, none] := (Prod.mk.inj (Prod.mk.inj (Prod.mk.inj (Option.some.inj e1)).2).2).1
  have hl := lv_entry ([.ref a, .int g, .int l', .int w].map (cv ad)) (n := ml) e3
  rw [lg_entry_eq]
  generalize (lg_sl ([.ref a, .int g, .int l', .int w].map (cv ad)) ++ List.replicate (ml - (lg_sl ([.ref a, .int g, .int l', .int w].map (cv ad))).length) Slot.unset).toArray = ls at hl ⊢
  have hL : LV ls ml ad [some (.ref a), some (.int g), some (.int l'), some (.int w), none, none] := ⟨hl.1, hl.2.1, e2, fun i v hi => by
    have h5 := e4 i v hi
    rw [Nat.zero_add] at h5
    exact hl.2.2 _ h5⟩
  have key := wa_rests (l := l) (e := e) (below := below) (Qw := FQ below (QT G ad h) ([.ref a, .int g, .int l', .int w].map (cv ad)).toArray s) F hG (d := 0) (by omega) (by omega) (a := a) (h := h)
    (fun t hq => by
      obtain ⟨o, _, _, ⟨⟨v, h', ad', _, ⟨q, _⟩, _⟩, _⟩, _⟩ := hq
      rw [hT] at q
      cases q)
    (fun _ pc x4 x5 hp => wa_thr (l := l) F ho (no_trace hf B.admits) (TW.of hts hW0) hout (by omega) (by omega) (by omega) (by omega) hp (fun ad' H locs K U cX x hH' hV' hS' had z1 z2 z3 z4 z5 z6 z7 z8 z9 z10 z11 => by
      have ee : ad' = ad := funext (fun i => had i (by omega))
      subst ee
      refine ⟨.threw H.size, z1, z2, H.size, cX, x, locs ++ K, rfl, hr_more hH' z5, ⟨?_, fun q h1 h2 => ?_, fun q hq => ?_⟩, z6, z7, z8, z9, z3, z11⟩
      · rw [z4]
        exact Nat.le_succ_of_le hS'.1
      · exact (z5 q (Nat.lt_of_lt_of_le h1 hS'.1)).trans (hS'.2.1 q h1 h2)
      · rcases List.mem_append.mp hq with h3 | h3
        · exact hS'.2.2 q h3
        · show G.1 ≤ q.base
          rw [z10 q h3]
          exact Nat.le_trans hG hS'.1))
    ad ls s.heap [] rfl hL hH hV va_S.rf (Nat.le_refl _) (Nat.le_refl _) (fun _ _ => rfl)
  dsimp only at key
  simp only [Nat.sub_self, Nat.zero_add, List.map_nil] at key
  exact key
