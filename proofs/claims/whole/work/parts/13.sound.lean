/-! calls -/
theorem q_pop_some {β : Type} {r : β} : ∀ {st : List Value} {y : Nat} {acc : List Value} {k : List Value → List Value → Option β}, q_pop st y acc k = some r → ∃ xs rest, st = xs ++ rest ∧ xs.length = y ∧ k (xs.reverse ++ acc) rest = some r
  | st, 0, acc, k, h => ⟨[], st, rfl, rfl, by simpa [q_pop] using h⟩
  | [], y + 1, acc, k, h => by simp [q_pop] at h
  | v :: st, y + 1, acc, k, h => by
    rw [q_pop] at h
    obtain ⟨xs, rest, h1, h2, h3⟩ := q_pop_some (st := st) (y := y) (acc := v :: acc) h
    exact ⟨v :: xs, rest, by rw [h1]; rfl, by simp [h2], by simpa using h3⟩
def rmA (d n n1 : Nat) : Room := { frames := d, cells := n1 - n, slots := sl n1 - sl n, locals := 64 * d }
def PreM (ρ : AR) (G : AG) (ad : Nat → Nat) (av : List Value) (n : Nat) (h : AH) : Array Value → State → Prop := va_Pc (av.map (cv ad)) (fun U => HR ρ G ad n h U.heap ∧ VR G ad U U.heap ∧ G.1 ≤ U.heap.size)
def MMx (μ : Nat) (cc : ByteArray) (ml : Nat) (rt : Option FieldType) (np own : Nat) : Prop := MOK μ (myX μ) cc rt own ∧ Cond.code (myX μ) cc ml rt ∈ wAll ∧ own < 18 ∧ plainName (myX μ).cls = true ∧ ((myX μ).cls ≠ "java/lang/invoke/MethodHandle" ∧ (myX μ).cls ≠ "java/lang/invoke/VarHandle" ∧ (parseMethodDescriptor (myX μ).desc).map (fun d => d.parameters.length) = some np) ∧ ml + 19 ≤ 64 ∧ MLx μ = ml
theorem MM_of {μ : Nat} (h : q_ok μ = true) : ∃ cc ml rt np own, MMx μ cc ml rt np own := by
  unfold q_ok at h
  simp only [Bool.and_eq_true, Bool.not_eq_true'] at h
  have h1 := Nat.le_of_ble_eq_true h.1.1
  rcases MA_287 μ h1 with (e | e) | hm
  · rw [e] at h
    exact absurd h.1.2 (by decide)
  · rw [e] at h
    exact absurd h.2 (by decide)
  · exact hm
/-- the contracts of calls at most d deep -/
def Snd (l : Launch) (ρ : AR) (G : AG) (d : Nat) : Prop := ∀ (μ : Nat) (av : List Value) (n : Nat) (h : AH) (n1 : Nat) (Q : Option Value → AH → Prop) (ad : Nat → Nat), Cl ρ d μ av n h n1 Q →
  n ≤ n1 ∧ q_ok μ = true ∧ ∀ cc ml rt np own, MMx μ cc ml rt np own → Met l (myX μ) (Cond.code (myX μ) cc ml rt :: wAll) (rmA d n n1) (PreM ρ G ad av n h) (PostM ρ G ad n n1 Q) (n1 - n) (sl n1 - sl n) (Ab G)
theorem good_ws {μ : Nat} {cc : ByteArray} {ml : Nat} {rt : Option FieldType} (h : Cond.code (myX μ) cc ml rt ∈ wAll) : GoodIn wAll (Cond.code (myX μ) cc ml rt :: wAll) := by
  intro w hw
  have hm : w ∈ wAll := by
    rcases List.mem_cons.mp hw with e | e
    · rw [e]; exact h
    · exact e
  exact ⟨hm, wAll_good hm⟩
theorem nest_on {w : Cond} (h : isNest w = true) : w.onTables = true := by
  cases w <;> first | rfl | (simp [isNest] at h)
theorem VR.same {G : AG} {ad : Nat → Nat} {u U : State} {H : Heap} (hv : u.vm = U.vm) (h : VR G ad u H) : VR G ad U H := by
  have ha : u.vm.Alike U.vm := by rw [hv]; exact Vm.Alike.refl _
  exact ⟨⟨va_K.moved ha h.1.1, h.1.2.1.moved ha, h.1.2.2.1.moved ha, h.1.2.2.2.moved ha⟩, fun w hw => va_Nw.same (nest_on (List.mem_filter.mp hw).2) hv (h.2.1 w hw), h.2.2.moved ha⟩
theorem PreM.blind {ρ : AR} {G : AG} {ad : Nat → Nat} {av : List Value} {n : Nat} {h : AH} : FrameBlind (PreM ρ G ad av n h) := by
  intro a U g mk q
  obtain ⟨q1, q2, q3, q4⟩ := q
  exact ⟨q1, q2, VR.same (u := U) (U := U.calling g mk a) rfl q3, q4⟩
theorem NP_all : (List.range 287).all (fun μ => decide ((parseMethodDescriptor (myX μ).desc).map (fun d => d.parameters.length) = some (NPx μ))) = true := by decide +kernel
theorem np_eq {μ : Nat} {cc : ByteArray} {ml : Nat} {rt : Option FieldType} {np own : Nat} (hq : q_ok μ = true) (h : MMx μ cc ml rt np own) : np = NPx μ := by
  unfold q_ok at hq
  simp only [Bool.and_eq_true, Bool.not_eq_true'] at hq
  have h1 := of_decide_eq_true (List.all_eq_true.mp NP_all μ (List.mem_range.mpr (Nat.le_of_ble_eq_true hq.1.1)))
  rw [h.2.2.2.2.1.2.2] at h1
  exact Option.some.inj h1
/-- a method link's words -/
theorem ml_link {q : Nat × Nat × Nat × Nat} (h : MLk.contains q = true) : ∃ pl, ((bif Nat.ble q.2.2.1 2 || Nat.beq q.2.2.1 6 then inAt pl (mlW q) else (nsAt pl (mlW q) && isNest (mlW q))) && mlG q) = true := by
  have hm := inL h
  rw [MLk_cut] at hm
  simp only [List.mem_append] at hm
  rcases hm with hm | hm | hm | hm
  · exact all_zip (by decide +kernel) ML_ok0 q hm
  · exact all_zip (by decide +kernel) ML_ok1 q hm
  · exact all_zip (by decide +kernel) ML_ok2 q hm
  · exact all_zip (by decide +kernel) ML_ok3 q hm
theorem any_st {μ : Nat} (h : STx.any (fun r => Nat.beq r.1 μ && decide (r.2 = myX μ)) = true) : Cond.static (myX μ) ∈ wAll := by
  obtain ⟨r, h1, h2⟩ := List.any_eq_true.mp h
  obtain ⟨b, hb⟩ := all_zip (by decide +kernel) ST_ok r h1
  rw [Bool.and_eq_true, decide_eq_true_eq] at h2
  rw [← h2.2]
  exact inAt_in hb
theorem any_in {μ : Nat} (h : INx.any (fun r => Nat.beq r.1 μ && decide (r.2 = myX μ)) = true) : Cond.instanceMethod (myX μ) ∈ wAll := by
  obtain ⟨r, h1, h2⟩ := List.any_eq_true.mp h
  obtain ⟨b, hb⟩ := all_zip (by decide +kernel) IN_ok r h1
  rw [Bool.and_eq_true, decide_eq_true_eq] at h2
  rw [← h2.2]
  exact inAt_in hb
theorem any_se {μ : Nat} (h : SEx.any (fun r => Nat.beq r.1 μ && decide (r.2 = myX μ)) = true) : Cond.selects (myX μ).cls (myX μ) (myX μ) ∈ wAll := by
  obtain ⟨r, h1, h2⟩ := List.any_eq_true.mp h
  obtain ⟨b, hb⟩ := all_zip (by decide +kernel) SE_ok r h1
  rw [Bool.and_eq_true, decide_eq_true_eq] at h2
  rw [← h2.2]
  exact inAt_in hb
section SND
variable {p : Program} {l : Launch} {e : Env} {R : Room} {s : State} {m : MethodId} {args : Array Value} {below : List Frame} {meth : Method} {c : Code} {Qw : State → Prop}
variable {ρ : AR} {G : AG} {μ : Nat} {cc : ByteArray} {ml : Nat} {rt : Option FieldType} {own n0 n' gc gs : Nat} {ad0 : Nat → Nat}
/-- behind a call -/
theorem sd_back (hG : G.1 ≤ s.heap.size) {pc : Nat} {lv : AL} {rest st0 : List Value} {n n1 : Nat} {ad : Nat → Nat} {ls : Array Slot} {H : Heap} {locs : List Loc} {a : Array Value}
    (hr : va_Run p l e R s m args below meth c H locs (gc + (n - n0)) (gs + (sl n - sl n0)) (n1 - n) (sl n1 - sl n) (F0 m pc ls st0) (rest.map (cv ad)) (PostM ρ G ad n n1 (fun v h' => WA ρ G p l e R s m args below meth c Qw μ ml n0 n' gc gs ad0 (q_mk μ (pc + 3) lv rest n1 v h')) a) (Ab G))
    (hl : LV ls ml ad lv) (hV : VR G ad s H) (hS : va_S (Ab G) s.heap H locs) (hn0 : n0 ≤ n) (hn : n ≤ n1) (hn1 : n1 ≤ n') (had : ∀ i, i < n0 ∨ n' ≤ i → ad i = ad0 i)
    (hro : (Nat.beq n n1 || (lv.all (q_rl n) && rest.all (q_ro n))) = true) : W p l e R s m args below meth c H locs (gc + (n - n0)) (gs + (sl n - sl n0)) Qw (F0 m pc ls st0) := by
  intro T hT X
  obtain ⟨v, st₀, t, T', L, h0, X', hL, e1, e2, ⟨⟨v0, h', ad', hv, hQ, hagr, hHR⟩, hz, hk⟩, st⟩ := hr T hT X
  have hv : v = v0.map (cv ad') := Outcome.returned.inj hv
  rw [h0] at hz hk
  have hS1 : va_S (Ab G) s.heap T'.heap (locs ++ L) := ⟨Nat.le_trans hS.1 (by rw [e1]; exact hz), fun q q1 q2 => by rw [e1, hk q (Nat.lt_of_lt_of_le q1 hS.1) q2]; exact hS.2.1 q q1 q2, fun q hq => by
      rcases List.mem_append.mp hq with h | h
      · exact hS.2.2 q h
      · exact hL q h⟩
  have h1000 : n1 ≤ 1000 := hHR.2.2.2.1
  have hall : (∀ i, ad' i = ad i) ∨ (lv.all (q_rl n) && rest.all (q_ro n)) = true := by
    rw [Bool.or_eq_true] at hro
    rcases hro with h | h
    · have := Nat.eq_of_beq_eq_true h
      subst this
      exact Or.inl (fun i => hagr i (by omega))
    · exact Or.inr h
  have hlv : LV ls ml ad' lv := by
    rcases hall with h | h
    · have e : ad' = ad := funext h
      rw [e]
      exact hl
    · exact hl.agree h1000 hagr ((Bool.and_eq_true _ _).mp h).1
  have hrest : rest.map (cv ad') = rest.map (cv ad) := by
    rcases hall with h | h
    · have e : ad' = ad := funext h
      rw [e]
    · exact st_agree h1000 hagr ((Bool.and_eq_true _ _).mp h).2
  have hVV : VR G ad' s T'.heap := (hV.kept (old_kept hG hS hS1)).ad (fun i hi => hagr i (Or.inr (by omega)))
  have hQ : WA ρ G p l e R s m args below meth c Qw μ ml n0 n' gc gs ad0 (q_mk μ (pc + 3) lv rest n1 v0 h') := hQ
  rw [q_mk_eq] at hQ
  have w := hQ ad' ls T'.heap (locs ++ L) rfl hlv (by rw [e1]; exact hHR) hVV hS1 (by dsimp only; omega) hn1 (fun i hi => (hagr i (by omega)).trans (had i hi))
  dsimp only at w
  have e5 : gc + (n1 - n0) = gc + (n - n0) + (n1 - n) := by omega
  have e6 : gs + (sl n1 - sl n0) = gs + (sl n - sl n0) + (sl n1 - sl n) := by
    have := sl_mono hn0
    have := sl_mono hn
    omega
  rw [e5, e6] at w
  have e7 : (v0.toList ++ rest).map (cv ad') = v.toList ++ rest.map (cv ad) := by
    rw [List.map_append, hrest, hv]
    cases v0 <;> rfl
  rw [e7] at w
  obtain ⟨t2, a1, b1⟩ := w T' rfl X'
  exact ⟨t2, st t2 a1, b1⟩
end SND
