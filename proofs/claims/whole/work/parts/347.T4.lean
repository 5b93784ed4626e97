def yem (q : Nat) : Bool := Nat.beq q 235 || (Nat.beq q 242 || Nat.beq q 243)
/-- what laying steps changes: nothing of what lies ahead -/
def YR (k : Nat) (h h' : AH) : Prop := Fr yem h h' ∧ (∀ j, j ≠ 7 → j ≠ 8 → j ≠ 13 → hI h' 235 j = hI h 235 j) ∧ ∀ j, j < 1100 + k → hI h' 242 j = hI h 242 j ∧ hI h' 243 j = hI h 243 j
def EmM (h : AH) (k : Nat) (c : List Int32) : Prop := hI h 235 13 = nI (k + c.length) ∧ ∀ i (hi : i < c.length), StepM (hI h 242 (1100 + (k + i))) (hI h 243 (1100 + (k + i))) c[i]
def CY (K : TKs) (k d μ : Nat) (av : List Value) (X : EX) : Prop := ∀ (h : AH) (s : RS) (c : List Int32) (Q : Option Value → AH → Prop), MF h K s → EmM h k c → k + c.length ≤ s.1 → (∀ h', YR k h h' → MF h' K (X s).1 → EmM h' k (c ++ (X s).2) → Q none h') → Rc d μ av h Q
section
variable {d k : Nat} {h h' h'' : AH} {K : TKs} {s : RS} {c : List Int32} {Q : Option Value → AH → Prop}
theorem YR.refl (h : AH) : YR k h h := ⟨Fr.refl _ h, fun _ _ _ _ => rfl, fun _ _ => ⟨rfl, rfl⟩⟩
theorem YR.trans (a : YR k h h') (b : YR k h' h'') : YR k h h'' := ⟨a.1.trans b.1, fun j h7 h8 h13 => (b.2.1 j h7 h8 h13).trans (a.2.1 j h7 h8 h13), fun j hj => ⟨(b.2.2 j hj).1.trans (a.2.2 j hj).1, (b.2.2 j hj).2.trans (a.2.2 j hj).2⟩⟩
theorem MR.y (m : MR h h') : YR k h h' := ⟨m.1.mono (fun q hq => by unfold yem; rw [hq]; rfl), fun j h7 h8 _ => m.2 j h7 h8, fun j _ => ⟨by rw [m.1.I rfl], by rw [m.1.I rfl]⟩⟩
theorem EmM.mr (m : MR h h') (e : EmM h k c) : EmM h' k c := by
  unfold EmM at *
  rw [m.2 13 (by decide) (by decide), m.1.I rfl, m.1.I rfl]; exact e
theorem CY.le {e μ : Nat} {av : List Value} {X : EX} (hd : d ≤ e) (cy : CY K k d μ av X) : CY K k e μ av X := fun h s l Q c1 c2 c3 c4 => Cl.le hd (cy h s l Q c1 c2 c3 c4)
theorem m_emit0 {n : Nat} {o a : Int32} (e : hI h 235 13 = nI n) (hn : n < 1100) (h1 : Q none (wI (wI (wI h 242 (1100 + n) o) 243 (1100 + n) a) 235 13 (hI h 235 13 + 1))) : Rc (d + 1) m_X13_emit [.ref 235, .int o, .int a] h Q := by
  refine R_in rfl rfl ?_
  refine R_gs 13 rfl ?_
  refine R_is rfl rfl (j := 1100 + n) (ix_add (ix_lit 1100) e) (by omega) ?_
  refine R_gs 27 rfl ?_
  refine R_is rfl rfl (j := 1100 + n) (ix_add (ix_lit 1100) e) (by omega) ?_
  refine R_gs 38 rfl ?_
  refine W_f rfl (by first | rfl | exact ⟨rfl, by first | decide | assumption | exact Or.inl rfl | exact Or.inr rfl | exact b2i_01 _⟩) ?_
  exact h1
theorem emM_add {o a v : Int32} (st : StepM o a v) (e : EmM h k c) : EmM (wI (wI (wI h 242 (1100 + (k + c.length)) o) 243 (1100 + (k + c.length)) a) 235 13 (hI h 235 13 + 1)) k (c ++ [v]) := by
  have e2 : ∀ j, hI (wI (wI (wI h 242 (1100 + (k + c.length)) o) 243 (1100 + (k + c.length)) a) 235 13 (hI h 235 13 + 1)) 242 j = if j = 1100 + (k + c.length) then o else hI h 242 j := fun j => wI_at h 242 (1100 + (k + c.length)) o j
  have e3 : ∀ j, hI (wI (wI (wI h 242 (1100 + (k + c.length)) o) 243 (1100 + (k + c.length)) a) 235 13 (hI h 235 13 + 1)) 243 j = if j = 1100 + (k + c.length) then a else hI h 243 j := fun j => wI_at (wI h 242 (1100 + (k + c.length)) o) 243 (1100 + (k + c.length)) a j
  refine ⟨?_, fun i hi => ?_⟩
  · show hI h 235 13 + 1 = _
    rw [e.1, nI_1, List.length_append]; rfl
  · rw [e2, e3]
    rw [List.length_append, List.length_singleton] at hi
    by_cases ei : i = c.length
    · subst ei; rw [if_pos rfl, if_pos rfl]; simpa using st
    · rw [if_neg (by omega), if_neg (by omega), List.getElem_append_left (by omega)]; exact e.2 i (by omega)
theorem m_emit {o a v : Int32} (st : StepM o a v) (f : MF h K s) (e : EmM h k c) (hn : k + c.length < 1100) (h1 : ∀ h', YR k h h' → MF h' K s → EmM h' k (c ++ [v]) → Q none h') : Rc (d + 1) m_X13_emit [.ref 235, .int o, .int a] h Q := by
  refine m_emit0 e.1 hn (h1 _ ⟨((((Fr.refl _ h).wI rfl).wI rfl).wI rfl), fun j h7 h8 h13 => (wI_at _ _ _ _ _).trans (if_neg h13), fun j hj => ⟨?_, ?_⟩⟩ (f.fr (X := yem) (((Fr.refl _ h).wI rfl).wI rfl |>.wI rfl) rfl rfl rfl rfl rfl rfl) (emM_add st e))
  · exact (wI_at h 242 (1100 + (k + c.length)) o j).trans (if_neg (by omega))
  · exact (wI_at (wI h 242 (1100 + (k + c.length)) o) 243 (1100 + (k + c.length)) a j).trans (if_neg (by omega))
theorem sp_tz {t : Nat} (kO : TokOK K) (hs : s.1 < K.1) (ht : t ≠ 0) (hz : tz K t s = true) : sp K s = (s.1 + 1, 0) ∧ s.1 + 1 < K.1 := by
  obtain ⟨z1, z2⟩ := tz_t hz
  exact sp_1 kO hs z1 (by rw [z2]; exact ht)
theorem MF.nx (f : MF h K s) {t : Nat} (kO : TokOK K) (ht : t ≠ 0) (hz : tz K t s = true) : MF (wI h 235 7 (hI h 235 7 + 1)) K (sp K s) := by
  obtain ⟨e1, e2⟩ := sp_tz kO f.2.1 ht hz
  rw [e1]
  exact f.st (MR.w7 _ _) e2 (by show hI h 235 7 + 1 = _; rw [f.2.2.1, nI_1]) (by show hI h 235 8 = _; rw [f.2.2.2.1, (tz_t hz).1]) (Nat.zero_le _)
theorem hs_sp {t : Nat} (kO : TokOK K) (hs : s.1 < K.1) (ht : t ≠ 0) (hz : tz K t s = true) : hs1 K t s = sp K s := by
  unfold hs1; rw [if_pos hz, (sp_tz kO hs ht hz).1]
theorem hs_no {t : Nat} (hz : tz K t s = false) : hs1 K t s = s := by
  unfold hs1; rw [if_neg (by rw [hz]; decide)]
theorem eP_f : ∀ a, ¬ s.2 = 0 → eP K a s = (s, [])
  | 0, e => by
    show (bl K true 5 (bl K (!stPt (tk K s.1)) 1 s), ([] : List Int32)) = _
    rw [bl_n (s := s) (Or.inr e), bl_n (Or.inr e)]
  | a + 1, e => by
    unfold eP
    dsimp only
    rw [bl_n (Or.inr e), sp_n e, if_neg e]
theorem rol_l : ∀ t, t < 38 → (rol t = 0 ↔ t = 28 ∨ t = 29) ∧ (rol t = 1 ↔ t = 30 ∨ t = 31) ∧ (rol t = 2 ↔ t = 32 ∨ t = 33) ∧ (rol t = 3 ↔ t = 34) := by decide +kernel
end
/-- how far the model's loops have come -/
def JI (K : TKs) (X : EX) (l k : Nat) (h : AH) (s : RS) (c0 : List Int32) (y : AH × Nat × (RS × List Int32)) : Prop := YR k h y.1 ∧ MF y.1 K y.2.2.1 ∧ EmM y.1 k (c0 ++ y.2.2.2) ∧ (y.2.2.1.1 < K.1 ∧ s.1 + y.2.2.2.length ≤ y.2.2.1.1) ∧ K.1 ≤ y.2.1 + y.2.2.1.1 + 1 ∧ jl K X l 1000 (X s) = jl K X l y.2.1 y.2.2
section
variable {k l : Nat} {h h2 h3 g : AH} {K : TKs} {s : RS} {c0 : List Int32} {X : EX} {m : Nat} {z : RS × List Int32}
/-- one joint more -/
theorem JI.nx (kO : TokOK K) (o : EXo K X) (i : JI K X l k h s c0 (g, m, z)) {t : Nat} (ht : t ≠ 0) (hz : tz K t z.1 = true) (hr : rol t = l) (y : YR k g h3) (f : MF h3 K (X (sp K z.1)).1) (e : EmM h3 k (c0 ++ z.2 ++ (X (sp K z.1)).2 ++ [mea t])) : JI K X l k h s c0 (h3, m - 1, ((X (sp K z.1)).1, z.2 ++ ((X (sp K z.1)).2 ++ [mea t]))) ∧ K.1 - (X (sp K z.1)).1.1 < K.1 - z.1.1 := by
  obtain ⟨i1, i2, i3, i4, i5, i6⟩ := i
  dsimp only at i1 i2 i3 i4 i5 i6
  obtain ⟨z1, z2⟩ := tz_t hz
  obtain ⟨e1, e2⟩ := sp_tz kO i4.1 ht hz
  have o7 := o (sp K z.1) (by rw [e1]; exact e2)
  have e3 : (sp K z.1).1 = z.1.1 + 1 := by rw [e1]
  refine ⟨⟨i1.trans y, f, ?_, ⟨o7.1, ?_⟩, ?_, ?_⟩, by omega⟩
  · dsimp only; rw [← List.append_assoc, ← List.append_assoc]; exact e
  · dsimp only; rw [List.length_append, List.length_append, List.length_singleton]; omega
  · dsimp only; omega
  · dsimp only; rw [i6, jl_s (by omega) ⟨z1, by rw [z2]; exact hr⟩, z2]
theorem JI.start (kO : TokOK K) (o : EXo K X) (hs : s.1 < K.1) (y : YR k h h2) (f : MF h2 K (X s).1) (e : EmM h2 k (c0 ++ (X s).2)) : JI K X l k h s c0 (h2, 1000, X s) := ⟨y, f, e, o s hs, by have := kO.1; dsimp only; omega, rfl⟩
theorem JI.fin (i : JI K X l k h s c0 (g, m, z)) (hx : ¬ (z.1.2 = 0 ∧ rol (tk K z.1.1) = l)) : JL K l 1000 X s = z := by
  show jl K X l 1000 (X s) = z
  rw [i.2.2.2.2.2]
  exact jl_e (Or.inr hx)
end
