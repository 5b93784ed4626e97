/-! the contracts of all calls, by the depth -/
theorem q_args_some {β : Type} {r : β} {ad : Nat → Nat} : ∀ (m : Nat) (vs : List Value) (k : AL → Option β) (off : Nat), q_args vs m k = some r → ∃ lv, k lv = some r ∧ lv.length = m ∧ (lg_sl (vs.map (cv ad))).length ≤ m ∧ ∀ (i : Nat) (v : Value), lv[i]? = some (some v) → (off + i, cv ad v) ∈ lv_args off (vs.map (cv ad))
  | 0, [], k, off, h => ⟨[], by simpa [q_args] using h, rfl, by simp [lg_sl], fun i v hi => by simp at hi⟩
  | 0, v :: vs, k, off, h => by cases v <;> simp [q_args] at h
  | m + 1, [], k, off, h => by
    rw [q_args] at h
    obtain ⟨lv, h1, h2, h3, h4⟩ := q_args_some (ad := ad) m [] _ (off + 1) h
    refine ⟨none :: lv, h1, by simp [h2], by simp [lg_sl], fun i v hi => ?_⟩
    cases i with
    | zero => simp at hi
    | succ i =>
      have := h4 i v (by simpa using hi)
      simp [lv_args] at this
  | m + 1, .int x :: vs, k, off, h => by
    rw [q_args] at h
    obtain ⟨lv, h1, h2, h3, h4⟩ := q_args_some (ad := ad) m vs _ (off + 1) h
    refine ⟨some (.int x) :: lv, h1, by simp [h2], ?_, fun i v hi => ?_⟩
    · have e : lg_sl ((Value.int x :: vs).map (cv ad)) = .val (.int x) :: lg_sl (vs.map (cv ad)) := by simp [lg_sl, cv, Value.category]
      rw [e, List.length_cons]
      omega
    · have e : lv_args off ((Value.int x :: vs).map (cv ad)) = (off, .int x) :: lv_args (off + 1) (vs.map (cv ad)) := by simp [lv_args, cv, Value.category]
      rw [e]
      cases i with
      | zero =>
        simp at hi
        rw [← hi]
        exact List.mem_cons_self
      | succ i =>
        have h5 := h4 i v (by simpa using hi)
        rw [show off + (i + 1) = off + 1 + i by omega]
        exact List.mem_cons_of_mem _ h5
  | m + 1, .ref x :: vs, k, off, h => by
    rw [q_args] at h
    obtain ⟨lv, h1, h2, h3, h4⟩ := q_args_some (ad := ad) m vs _ (off + 1) h
    refine ⟨some (.ref x) :: lv, h1, by simp [h2], ?_, fun i v hi => ?_⟩
    · have e : lg_sl ((Value.ref x :: vs).map (cv ad)) = .val (.ref (ad x)) :: lg_sl (vs.map (cv ad)) := by simp [lg_sl, cv, Value.category]
      rw [e, List.length_cons]
      omega
    · have e : lv_args off ((Value.ref x :: vs).map (cv ad)) = (off, .ref (ad x)) :: lv_args (off + 1) (vs.map (cv ad)) := by simp [lv_args, cv, Value.category]
      rw [e]
      cases i with
      | zero =>
        simp at hi
        rw [← hi]
        exact List.mem_cons_self
      | succ i =>
        have h5 := h4 i v (by simpa using hi)
        rw [show off + (i + 1) = off + 1 + i by omega]
        exact List.mem_cons_of_mem _ h5
  | 1, .long x :: vs, k, off, h => by simp [q_args] at h
  | m + 2, .long x :: vs, k, off, h => by
    rw [q_args] at h
    obtain ⟨lv, h1, h2, h3, h4⟩ := q_args_some (ad := ad) m vs _ (off + 2) h
    refine ⟨some (.long x) :: none :: lv, h1, by simp [h2], ?_, fun i v hi => ?_⟩
    · have e : lg_sl ((Value.long x :: vs).map (cv ad)) = .val (.long x) :: .second :: lg_sl (vs.map (cv ad)) := by simp [lg_sl, cv, Value.category]
      rw [e, List.length_cons, List.length_cons]
      omega
    · have e : lv_args off ((Value.long x :: vs).map (cv ad)) = (off, .long x) :: lv_args (off + 2) (vs.map (cv ad)) := by simp [lv_args, cv, Value.category]
      rw [e]
      match i, hi with
      | 0, hi =>
        simp at hi
        rw [← hi]
        exact List.mem_cons_self
      | 1, hi => simp at hi
      | i + 2, hi =>
        have h5 := h4 i v (by simpa using hi)
        rw [show off + (i + 2) = off + 2 + i by omega]
        exact List.mem_cons_of_mem _ h5
  | m + 1, .null :: vs, k, off, h => by simp [q_args] at h
  | m + 1, .float x :: vs, k, off, h => by simp [q_args] at h
  | m + 1, .double x :: vs, k, off, h => by simp [q_args] at h
  | m + 1, .retAddr x :: vs, k, off, h => by simp [q_args] at h
section SND
variable {p : Program} {l : Launch} {e : Env} {R : Room} {s : State} {m : MethodId} {args : Array Value} {below : List Frame} {meth : Method} {c : Code} {Qw : State → Prop}
variable {ρ : AR} {G : AG} {μ : Nat} {cc : ByteArray} {ml : Nat} {rt : Option FieldType} {own n0 n' gc gs : Nat} {ad0 : Nat → Nat}
/-- a run of the abstract machine is one of the machine -/
theorem sd_all (hML : MultiLaw) (F : FF p s m args meth c R μ cc ml rt own n0 n' gc gs) (hG : G.1 ≤ s.heap.size) {d : Nat} (hd1 : d + 1 ≤ R.frames) (hd2 : 64 * (d + 1) ≤ R.locals) (hSn : Snd l ρ G d) {Q : Option Value → AH → Prop} {S : AS → Prop} (hS : ∀ τ, S τ → WA ρ G p l e R s m args below meth c Qw μ ml n0 n' gc gs ad0 τ) (hf : ∀ τ P v h, f1 n' τ = some (P, v, h) → P → Q v h → WA ρ G p l e R s m args below meth c Qw μ ml n0 n' gc gs ad0 τ)
    {σ : AS} (w : Wps ρ (Cl ρ d) n' Q S σ) : WA ρ G p l e R s m args below meth c Qw μ ml n0 n' gc gs ad0 σ :=
  w (WA ρ G p l e R s m args below meth c Qw μ ml n0 n' gc gs ad0) hS (fun _ _ q x => sd_s1 F hG q x) (fun _ _ _ q t x => sd_c1 hML F hG q t x) (fun _ _ _ _ q x1 x2 => sd_b1 F q x1 x2) (fun _ _ _ _ _ q a1 a2 b1 b2 x1 x2 => sd_d1 F q a1 a2 b1 b2 x1 x2) (fun _ _ _ _ _ _ q x1 x2 => sd_w1 F q x1 x2) (fun _ _ _ _ _ _ _ _ q t x => sd_k1 F hG hd1 hd2 hSn q t x) hf
end SND
theorem Snd_all (hML : MultiLaw) (l : Launch) (ρ : AR) (G : AG) : ∀ d, Snd l ρ G d
  | 0 => fun μ av n h n1 Q ad hC => hC.elim
  | d + 1 => by
    intro μ av n h n1 Q ad hC
    obtain ⟨hn, hq, σ, ea, w⟩ := hC
    refine ⟨hn, hq, fun cc ml rt np own hMM => ?_⟩
    refine Met.ofW (cc := cc) (maxL := ml) (ret := rt) hMM.2.2.2.1 rfl ?_
    intro p e s m args below meth c s₁ B hml hv
    obtain ⟨rfl, hH, hV, hG⟩ := hv
    have hts0 := atoms_spec (ws := Cond.code (myX μ) cc ml rt :: wAll) B.pre
    have hown : s.vm.findClass (cnX own) = some m.cls := by
      have h1 := findClass_of_methodNamed B.named
      rw [hMM.1.2.2] at h1
      exact h1
    have F : FF p s m (av.map (cv ad)).toArray meth c (rmA (d + 1) n n1) μ cc ml rt own n n1 0 0 :=
      ⟨B.exec, B.bytes, hml, B.returns, B.notSynchronized, hown, fun w hw => hts0 w (List.mem_cons_of_mem _ hw), hMM.1.1, hMM.2.2.1, (name_of_methodNamed B.named B.method).1, Nat.le_add_left 1 d, (by show 64 ≤ 64 * (d + 1); omega), (Nat.le_of_eq (Nat.zero_add _)), (Nat.le_of_eq (Nat.zero_add _))⟩
    unfold a1 at ea
    rw [hMM.2.2.2.2.2.2] at ea
    obtain ⟨lv, e1, e2, e3, e4⟩ := q_args_some (ad := ad) ml av _ 0 ea
    obtain rfl := Option.some.inj e1
    have hl := lv_entry (av.map (cv ad)) (n := ml) e3
    rw [lg_entry_eq]
    generalize (lg_sl (av.map (cv ad)) ++ List.replicate (ml - (lg_sl (av.map (cv ad))).length) Slot.unset).toArray = ls at hl ⊢
    have hL : LV ls ml ad lv := ⟨hl.1, hl.2.1, e2, fun i v hi => by
      have h5 := e4 i v hi
      rw [Nat.zero_add] at h5
      exact hl.2.2 _ h5⟩
    have key := sd_all (e := e) (below := below) hML F hG (Nat.le_refl _) (Nat.le_refl _) (Snd_all hML l ρ G d) (Qw := MQ below (PostM ρ G ad n n1 Q) (av.map (cv ad)).toArray s (0 + (n1 - n)) (0 + (sl n1 - sl n)) (Ab G)) (fun _ h => False.elim h) (fun τ P v h2 q t x => sd_f1 (e := e) F q t x) w ad ls s.heap [] rfl hL hH hV va_S.rf (Nat.le_refl n) hn (fun _ _ => rfl)
    dsimp only at key
    simp only [Nat.sub_self, Nat.zero_add] at key
    exact key
