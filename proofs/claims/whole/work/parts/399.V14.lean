theorem TW0.same {G : AG} {u U : State} (hv : U.vm = u.vm) (hh : U.heap = u.heap) (h : TW0 G u) : TW0 G U :=
  h.moved (by rw [hv]; exact State.WarmedH.refl u) (fun a _ _ => by rw [hh])
def lrW : Cond := .codeWith yL_rests cL_rests 6 (some .int) [(0, 12, 15, 13)]
theorem lr_in : lrW ∈ wAll := wT5 (i := 117) rfl rfl
theorem lc_in : Cond.classLink "SnapWedLaw" 13 "java/util/NoSuchElementException" ∈ wAll := wT5 (i := 118) rfl rfl
theorem PreT.blind {G : AG} {ad : Nat → Nat} {av : List Value} {h : AH} : FrameBlind (fun v U => PreM ρ1 G ad av 262 h v U ∧ TW0 G U) := fun a U g mk q => ⟨PreM.blind a U g mk q.1, TW0.same (u := U) (U := U.calling g mk a) rfl rfl q.2⟩
set_option maxHeartbeats 4000000 in
/-- L_rests where X12_rests throws -/
theorem wa_lr {G : AG} {p : Program} {l : Launch} {e : Env} {R : Room} {s : State} {m : MethodId} {args : Array Value} {below : List Frame} {meth : Method} {c : Code} {Qw : State → Prop} {ad0 : Nat → Nat} (hf : l.flags = flags0) (F : FF p s m args meth c R m_L_rests cL_rests 6 (some .int) 13 262 262 0 0) (F1 : FF p s m args meth c R m_L_rests cL_rests 6 (some .int) 13 262 262 1 6) (hW0 : TW0 G s) (hG : G.1 ≤ s.heap.size)
    (htab : c.exceptionTable.toList.map (fun h => (h.startPc, h.endPc, h.handlerPc, h.catchType)) = [(0, 12, 15, 13)]) (hR1 : 7 ≤ R.frames) (hR2 : 448 ≤ R.locals) {g l' w : Int32} {h : AH} (hT : rsT g l' w = true)
    (hQ : ∀ t, MQ below (PostM ρ1 G ad0 262 262 (fun v h' => v = some (.int 1) ∧ h' = h)) args s (1 + (262 - 262)) (6 + (sl 262 - sl 262)) (Ab G) t → Qw t) :
    WA ρ1 G p l e R s m args below meth c Qw m_L_rests 6 262 262 0 0 ad0 (m_L_rests, 7, [some (.ref 0), some (.int g), some (.int l'), some (.int w), some (.ref 261), none], [.int w, .int l', .int g, .ref 0, .int 0, .ref 261], 262, h) := by
  intro ad ls H locs hμ hl hH hV hS hn0 hn1 had
  dsimp only at hl hH ⊢
  have ee : ad = ad0 := funext (fun i => had i (by omega))
  subst ee
  obtain ⟨hx, hb, hml, hr, hlk, hown, hts, hck, hol, hnm, hfr, hlo, hRc, hRs⟩ := id F
  have hqo : q_ok m_X12_rests = true := by decide
  obtain ⟨cc', ml', rt', np', own', hMM⟩ := MM_of hqo
  have hnp := np_eq hqo hMM
  have ho9 : own' = MOx m_X12_rests := hMM.1.2.1.symm
  obtain ⟨hnx, hd0, hi⟩ := chk_at (i := .invokevirtual 7) (nx := 10) (hck 7) rfl
  obtain ⟨-, hd⟩ := hnx rfl
  have hini : (Cond.initialized (myX m_X12_rests).cls).before args s = true := by
    rw [hMM.1.2.2]
    exact hts _ (IN_at hMM.2.2.1)
  have hk : MLk.contains (13, 7, 1, m_X12_rests) = true := by decide +kernel
  obtain ⟨pl, hw⟩ := ml_link hk
  obtain ⟨hw1, hw2⟩ := (Bool.and_eq_true _ _).mp hw
  have hlink : Cond.methodLink (cnX 13) 7 (myX m_X12_rests) ∈ wAll := inAt_in hw1
  have hw3 : (INx.any (fun r => Nat.beq r.1 m_X12_rests && decide (r.2 = myX m_X12_rests)) && SEx.any (fun r => Nat.beq r.1 m_X12_rests && decide (r.2 = myX m_X12_rests))) = true := hw2
  obtain ⟨hw4, hw5⟩ := (Bool.and_eq_true _ _).mp hw3
  have ho : own' < 11 ∨ own' = 12 := by rw [ho9]; exact Or.inl (by decide)
  have hrec := recv_at (b := 0) hH hV ho (by rw [ho9]; decide)
  rw [← hMM.1.2.2] at hrec
  obtain ⟨cellB, hc1, hc2, hc3⟩ := hrec
  have hml2 := hMM.2.2.2.2.2.1
  have hdesc := hMM.2.2.2.2.1
  intro T hTH X
  subst hTH
  have h3 : np' = 3 := hnp.trans (by decide)
  obtain ⟨A, cX, x, L, T', k1, k2, k3, k4, k5, k6, X', st⟩ := call_thr X hx hown (hts _ hlink) (hts _ (any_in hw4)) (hts _ (any_se hw5)) (hts _ hMM.2.1) hini ⟨hdesc.1, hdesc.2.1⟩ (Wd := 8)
    (mf_rests hf (G := G) (ad := ad) (a := 0) (h := h) hT hMM (rm := { frames := 6, cells := 1, slots := 6, locals := 384 }) (Nat.le_refl _) (Nat.le_refl _) (Nat.le_refl _) (Nat.le_refl _)) PreT.blind (pay_in hts (good_ws hMM.2.1)) (by show 6 + 1 ≤ _; omega) (by show 8 + (ml' + 11) + 384 ≤ _; omega)
    (by have := F1.2.2.2.2.2.2.2.2.2.2.2.2.1; show 0 + (262 - 262) + 1 ≤ _; omega) (by have h9 : 6 + (sl 262 - sl 262) ≤ R.slots := F1.2.2.2.2.2.2.2.2.2.2.2.2.2; rw [Nat.sub_self] at h9 ⊢; exact h9) hc1 hc2 hc3 (g := F0 m 7 ls ([.int w, .int l', .int g, .ref 0, .int 0, .ref 261].map (cv ad))) rfl (hl.1.trans hml.symm) (argsL := [.int g, .int l', .int w]) (rest := [.int 0, .ref (ad 261)])
    (fun sig hs => by
      have h5 := hdesc.2.2
      rw [hs, h3] at h5
      exact (Option.some.inj h5).symm) rfl (by show 2 * 0 + (1 + (1 + 0)) ≤ 8; omega) (by rw [hb]; exact hd)
    (fun vm1 hw1 => ⟨pre_at (s := s) (av := [.ref 0, .int g, .int l', .int w]) hG hH hV hS (T.setVm vm1) rfl hw1, hW0.moved hw1 (fun a h1 h2 => hS.2.1 a h1 h2)⟩)
  have hS1 : va_S (Ab G) s.heap T'.heap (locs ++ L) := ⟨Nat.le_trans hS.1 k2.1, fun q q1 q2 => (k2.2.1 q (Nat.lt_of_lt_of_le q1 hS.1) q2).trans (hS.2.1 q q1 q2), fun q hq => by
    rcases List.mem_append.mp hq with h4 | h4
    · exact hS.2.2 q h4
    · exact k2.2.2 q h4⟩
  have hV1 : VR G ad s T'.heap := hV.kept (old_kept hG hS hS1)
  have w15 : W p l e R s m args below meth c T'.heap (locs ++ L) (0 + (262 - 262) + 1) (0 + (sl 262 - sl 262) + 6) Qw (F0 m 15 ls [.ref A]) := by
    refine lv_astore (i := 5) (nL := 6) (rest := []) hx hb (by exact (chk_at (i := .astore 5) (nx := 17) (hck 15) rfl).2.1) hl.has (by decide) rfl (fun ls2 h2 => ?_)
    have w17 := sd_all (l := l) (e := e) (below := below) multiLaw F1 hG (d := 0) (by omega) (by omega) (Snd_all multiLaw l ρ1 G 0) (Qw := Qw) (ad0 := ad) (Q := fun v h' => v = some (.int 1) ∧ h' = h) (S := fun _ => False) (fun _ h => False.elim h) (fun τ P v h2 q t x => WA.mono hQ (sd_f1 F1 q t x))
      (σ := (m_L_rests, 17, [none, none, none, none, none, none], [], 262, h)) (W_g 18 400 rfl (W_f rfl rfl ⟨rfl, rfl⟩)) ad ls2 T'.heap (locs ++ L) rfl ⟨h2.1, h2.2.1, rfl, fun i v hi => ?_⟩ k1 hV1 hS1 (Nat.le_refl _) (Nat.le_refl _) (fun _ _ => rfl)
    · simp only [Nat.sub_self, Nat.add_zero, Nat.zero_add] at w17 ⊢
      exact w17
    · rcases i with _ | _ | _ | _ | _ | _ | i <;> simp at hi
  have hpl : e.platform.magicAccessors = ({} : Platform).magicAccessors := by rw [X.admits.platform]
  have hown2 : s.vm.findClass "SnapWedLaw" = some m.cls := hown
  obtain ⟨cc2, hfcc, hcl⟩ := Cond.classLink_spec hown2 (hts _ lc_in) e.platform hpl
  obtain rfl : cX = cc2 := Option.some.inj (k4.symm.trans hfcc)
  obtain ⟨hg1, hwarm1, hready1⟩ := State.classEntry (e := e) X'.warmed hcl
  have X2 := X'.noted hwarm1
  obtain ⟨t, t1, t2⟩ := w15 _ (by rfl) X2
  refine ⟨t, st t ?_, t2⟩
  obtain ⟨xe, hxe⟩ : ∃ xe : ExceptionTableEntry, c.exceptionTable.toList = [xe] ∧ xe = ⟨0, 12, 15, 13⟩ := by
    cases hlst : c.exceptionTable.toList with
    | nil => rw [hlst] at htab; cases htab
    | cons x0 rest =>
      rw [hlst, List.map_cons] at htab
      obtain ⟨q1, q2⟩ := List.cons.inj htab
      have q3 : rest = [] := List.map_eq_nil_iff.mp q2
      subst q3
      obtain ⟨a1, a2, a3, a4⟩ := x0
      simp only [Prod.mk.injEq] at q1
      obtain ⟨rfl, rfl, rfl, rfl⟩ := q1
      exact ⟨_, rfl, rfl⟩
  obtain ⟨hxe1, rfl⟩ := hxe
  have hat : At T' m c below := X'.here
  obtain ⟨hgo, hwi⟩ := At.throwing (g := F0 m 7 ls [.int 0, .ref (ad 261)]) hat A
  refine Steps.head hgo hwi ?_
  have hkX : ∃ k, (T'.vm.noted m.cls 13 (.cls cX)).classes[cX]? = some k := by
    have b1 : (T'.vm.noted m.cls 13 (.cls cX)).findClass "java/util/NoSuchElementException" = some cX := by
      rw [hwarm1.alike.findClass]
      exact k4
    exact Vm.classAt_of_findClass b1
  have hvm : ((T'.setTop (F0 m 7 ls [.int 0, .ref (ad 261)])).pushFrame (.throwing A)).vm = T'.vm := Stand.throwing_vm _ _ _
  have hhp : ((T'.setTop (F0 m 7 ls [.int 0, .ref (ad 261)])).pushFrame (.throwing A)).heap = T'.heap := Stand.throwing_heap _ _ _
  rw [stepThread_throwing (frames_entered hat.top _), (thr_caught (s := (T'.setTop (F0 m 7 ls [.int 0, .ref (ad 261)])).pushFrame (.throwing A)) (f := F0 m 7 ls [.int 0, .ref (ad 261)]) (vm' := T'.vm.noted m.cls 13 (.cls cX)) (cell := x) (by rw [hvm]; exact X'.method') X'.code hxe1 rfl (by decide) (by rw [hvm]; exact hg1) (by rw [hvm]; simp) (by rw [hhp]; exact k3) (fun k hk => by rw [k6] at hk; cases hk) (by rw [k5]; exact hkX) hkX (by rw [k5]; exact va_asg _ _)).1]
  obtain ⟨g0, hg0⟩ := Option.isSome_iff_exists.mp hat.top
  obtain ⟨r, hr0⟩ := State.topJava?_eq_some.mp hg0
  have e9 : (((T'.setTop (F0 m 7 ls [.int 0, .ref (ad 261)])).pushFrame (.throwing A)).setVm (T'.vm.noted m.cls 13 (.cls cX))).setFrames (.java { F0 m 7 ls [.int 0, .ref (ad 261)] with pc := 15, stack := [.ref A] } :: T'.frames.tail) = (T'.setVm (T'.vm.noted m.cls 13 (.cls cX))).setTop (F0 m 15 ls [.ref A]) := by
    have hr' : (T'.setVm (T'.vm.noted m.cls 13 (.cls cX))).frames = .java g0 :: r := hr0
    rw [State.setTop_of_frames _ hr', State.pushFrame, State.setTop_of_frames _ hr0, hr0]
    show ((((T'.setFrames _).setFrames _).setVm _).setFrames _) = _
    rw [State.setFrames_setFrames]
    show (((T'.setVm (T'.vm.noted m.cls 13 (.cls cX))).setFrames _).setFrames _) = _
    rw [State.setFrames_setFrames]
    rfl
  rw [e9]
  exact t1
