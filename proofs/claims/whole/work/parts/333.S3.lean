theorem l64_i {n : Nat} : (lN64 n).toInt32 = nI n := by rw [show lN64 n = lN n from rfl, lN_i]
/-! laws, the class: steps are laid -/
def xlw (b q : Nat) : Bool := Nat.beq q b || Nat.beq q (b + 1)
def xex (b q : Nat) : Bool := xrd q || xlw b q
def lwI (b : Nat) : Prop := b = 165 ∨ b = 168 ∨ b = 193 ∨ b = 196
theorem xlw_f {b q : Nat} (h1 : q ≠ b) (h2 : q ≠ b + 1) : xlw b q = false := by unfold xlw; rw [bq_f h1, bq_f h2]; rfl
theorem Fr.rx {b : Nat} {h h' : AH} (f : Fr xrd h h') : Fr (xex b) h h' := f.mono (fun q hq => by unfold xex; rw [hq]; rfl)
theorem Fr.lx {b : Nat} {h h' : AH} (f : Fr (xlw b) h h') : Fr (xex b) h h' := f.mono (fun q hq => by unfold xex; rw [hq, Bool.or_true])
theorem q_lw {b : Nat} (hb : lwI b) : q_rc 262 2 [.ref b] = true := by
  rcases hb with rfl | rfl | rfl | rfl <;> rfl
theorem q_ld {a : Nat} (ha : a = 143 ∨ a = 171) : q_rc 262 5 [.ref a] = true := by
  rcases ha with rfl | rfl <;> rfl
section
variable {d b : Nat} {h h' : AH} {K : TKs} {s : RS} {c : List Int32} {Q : Option Value → AH → Prop}
theorem LawC.xr (hb : lwI b) (f : Fr xrd h h') (l : LawC h b c) : LawC h' b c := by
  have : b = 165 ∨ b = 168 ∨ b = 193 ∨ b = 196 := hb
  exact l.fr f (xrd_f (by omega) (by omega)) (xrd_f (by omega) (by omega))
theorem told_xr (hb : lwI b) (f : Fr xrd h h') : hI h' b 3 = hI h b 3 := by
  have : b = 165 ∨ b = 168 ∨ b = 193 ∨ b = 196 := hb
  rw [f.I (xrd_f (by omega) (by omega))]
theorem CF.xl (hb : lwI b) (f : Fr (xlw b) h h') (c : CF h K s) : CF h' K s := by
  have : b = 165 ∨ b = 168 ∨ b = 193 ∨ b = 196 := hb
  exact c.fr f (xlw_f (by omega) (by omega)) (xlw_f (by omega) (by omega)) (xlw_f (by omega) (by omega)) (xlw_f (by omega) (by omega)) (xlw_f (by omega) (by omega))
theorem lawC_add {v : Int32} (l : LawC h b c) : LawC (wI (wI h (b + 1) c.length v) b 2 (hI h b 2 + 1)) b (c ++ [v]) := by
  refine ⟨?_, fun i hi => ?_⟩
  · rw [wI_at, if_pos rfl, List.length_append, l.1, nI_1]; rfl
  · rw [wI_ne _ _ _ (by omega : b + 1 ≠ b), wI_at]
    rw [List.length_append, List.length_singleton] at hi
    by_cases e : i = c.length
    · subst e; rw [if_pos rfl]; simp
    · rw [if_neg e, List.getElem_append_left (by omega)]; exact l.2 i (by omega)
theorem c_lawAdd {v : Int32} (hb : lwI b) (l : LawC h b c) (hc : c.length < 1000) (h1 : ∀ h', Fr (xlw b) h h' → hI h' b 3 = hI h b 3 → LawC h' b (c ++ [v]) → Q none h') : Rc (d + 1) m_X3_add [.ref b, .int v] h Q := by
  have l1 := l.1
  have l9 := lawC_add (v := v) l
  rcases hb with rfl | rfl | rfl | rfl
  all_goals
    refine R_in rfl rfl ?_
    refine R_gs 7 rfl ?_
    try rw [l1]
    refine W_bf rfl (fun e => absurd ((nI_leI (a := 1000) (by omega) (by omega)).mp e) (by omega)) ?_
    refine R_gs 19 rfl ?_
    try rw [l1]
    refine R_is rfl rfl (ix_nI _) (by omega) ?_
    refine R_gs 30 rfl ?_
    try rw [l1]
    refine W_f rfl (by first | rfl | exact ⟨rfl, by first | decide | assumption | exact Or.inl rfl | exact Or.inr rfl | exact b2i_01 _⟩) ?_
    exact h1 _ (((Fr.refl _ h).wI rfl).wI rfl) rfl l9
theorem c_lawClear (hb : lwI b) (h1 : ∀ h', Fr (xlw b) h h' → hI h' b 3 = 0 → LawC h' b [] → Q none h') : Rc (d + 1) m_X3_clear [.ref b] h Q := by
  rcases hb with rfl | rfl | rfl | rfl
  all_goals
    refine R_in rfl rfl ?_
    refine R_gs 7 rfl ?_
    refine W_c rfl ⟨rfl, by decide, by decide, Or.inl rfl⟩ ?_
    refine W_f rfl (by first | rfl | exact ⟨rfl, by first | decide | assumption | exact Or.inl rfl | exact Or.inr rfl | exact b2i_01 _⟩) ?_
    exact h1 _ (((Fr.refl _ h).wI rfl).wI rfl) rfl ⟨rfl, fun i hi => absurd hi (Nat.not_lt_zero i)⟩
end
/-- a call that reads as X does -/
def CX (K : TKs) (b d μ : Nat) (av : List Value) (X : EX) : Prop := ∀ (h : AH) (s : RS) (c : List Int32) (Q : Option Value → AH → Prop), CF h K s → LawC h b c → c.length ≤ s.1 → (∀ h', Fr (xex b) h h' → hI h' b 3 = hI h b 3 → CF h' K (X s).1 → LawC h' b (c ++ (X s).2) → Q none h') → Rc d μ av h Q
def EXo (K : TKs) (X : EX) : Prop := ∀ s : RS, s.1 < K.1 → (X s).1.1 < K.1 ∧ s.1 + (X s).2.length ≤ (X s).1.1
theorem CX.le {K : TKs} {b d e μ : Nat} {av : List Value} {X : EX} (hd : d ≤ e) (c : CX K b d μ av X) : CX K b e μ av X := fun h s l Q c1 c2 c3 c4 => Cl.le hd (c h s l Q c1 c2 c3 c4)
section
variable {K : TKs} {s : RS} {X : EX} {l m : Nat} {z : RS × List Int32}
theorem nx_1 (kO : TokOK K) {i : Nat} (hi : i < K.1) (ht : tk K i ≠ 0) : nxI K i = i + 1 ∧ i + 1 < K.1 := by
  have : i + 1 < K.1 := by
    rcases Nat.lt_or_ge (i + 1) K.1 with e | e
    · exact e
    · have : i = K.1 - 1 := by omega
      rw [this] at ht
      exact absurd kO.2.2.2.1 ht
  exact ⟨by unfold nxI; rw [if_pos this], this⟩
theorem sp_1 (kO : TokOK K) (hi : s.1 < K.1) (hf : s.2 = 0) (ht : tk K s.1 ≠ 0) : sp K s = (s.1 + 1, 0) ∧ s.1 + 1 < K.1 := by
  have := nx_1 kO hi ht
  refine ⟨?_, this.2⟩
  unfold sp; rw [if_pos hf, this.1]
theorem sp_n (hf : ¬ s.2 = 0) : sp K s = s := if_neg hf
theorem rol_0 {t : Nat} (h : rol t < 4) : t ≠ 0 := by intro e; subst e; exact absurd h (by decide)
theorem jl_e (h : m = 0 ∨ ¬ (z.1.2 = 0 ∧ rol (tk K z.1.1) = l)) : jl K X l m z = z := by
  cases m with
  | zero => rfl
  | succ m =>
    show (if _ then _ else _) = _
    rw [if_neg]
    rcases h with e | e
    · omega
    · exact e
theorem jl_s (hm : 0 < m) (h : z.1.2 = 0 ∧ rol (tk K z.1.1) = l) : jl K X l m z = jl K X l (m - 1) ((X (sp K z.1)).1, z.2 ++ ((X (sp K z.1)).2 ++ [mea (tk K z.1.1)])) := by
  cases m with
  | zero => omega
  | succ m =>
    show (if _ then _ else _) = _
    rw [if_pos h]; rfl
theorem jl_o (kO : TokOK K) (hl : l < 4) (o : EXo K X) {i : Nat} : ∀ (m : Nat) (z : RS × List Int32), z.1.1 < K.1 → i + z.2.length ≤ z.1.1 → (jl K X l m z).1.1 < K.1 ∧ i + (jl K X l m z).2.length ≤ (jl K X l m z).1.1
  | 0, z, h1, h2 => ⟨h1, h2⟩
  | m + 1, z, h1, h2 => by
    by_cases e : z.1.2 = 0 ∧ rol (tk K z.1.1) = l
    · rw [jl_s (by omega) e]
      obtain ⟨e1, e2⟩ := sp_1 kO h1 e.1 (rol_0 (by omega))
      have := o (sp K z.1) (by rw [e1]; exact e2)
      refine jl_o kO hl o m _ this.1 ?_
      rw [e1] at this ⊢
      dsimp only at this ⊢
      rw [List.length_append, List.length_append, List.length_singleton]; omega
    · rw [jl_e (Or.inr e)]; exact ⟨h1, h2⟩
theorem JL_o (kO : TokOK K) (hl : l < 4) (o : EXo K X) : EXo K (JL K l m X) := fun s hs => jl_o kO hl o m (X s) (o s hs).1 (o s hs).2
theorem eJ_o (kO : TokOK K) (o : EXo K X) : ∀ l, EXo K (eJ K X l)
  | 0 => JL_o kO (by omega) (JL_o kO (by omega) (JL_o kO (by omega) (JL_o kO (by omega) o)))
  | 1 => JL_o kO (by omega) (JL_o kO (by omega) (JL_o kO (by omega) o))
  | 2 => JL_o kO (by omega) (JL_o kO (by omega) o)
  | 3 => JL_o kO (by omega) o
  | _ + 4 => o
theorem stPt_0 : ∀ t, stPt t = true → t ≠ 0 := by
  intro t h e
  subst e
  exact absurd h (by decide)
/-- reading on where a part begins -/
theorem sP_1 (kO : TokOK K) (hi : s.1 < K.1) (hf : (sp K (bl K (!stPt (tk K s.1)) 1 s)).2 = 0) : stPt (tk K s.1) = true ∧ s.2 = 0 ∧ sp K (bl K (!stPt (tk K s.1)) 1 s) = (s.1 + 1, 0) ∧ s.1 + 1 < K.1 := by
  have h1 : s.2 = 0 := by
    rcases Nat.eq_zero_or_pos s.2 with e | e
    · exact e
    · rw [bl_n (Or.inr (by omega)), sp_n (by omega)] at hf; exact hf
  have h2 : stPt (tk K s.1) = true := by
    cases e : stPt (tk K s.1) with
    | true => rfl
    | false =>
      rw [e] at hf
      rw [show (!false) = true from rfl, bl_y h1, sp_n (by dsimp only; omega)] at hf
      dsimp only at hf; omega
  have := sp_1 kO hi h1 (stPt_0 _ h2)
  refine ⟨h2, h1, ?_, this.2⟩
  rw [h2, show (!true) = false from rfl, bl_n (Or.inl rfl)]; exact this.1
theorem bs_o (kO : TokOK K) {b : Bool} {k : Nat} (hi : s.1 < K.1) : (sp K (bl K b k s)).1 < K.1 ∧ s.1 ≤ (sp K (bl K b k s)).1 := by
  unfold sp
  split
  · rw [bl_1]; dsimp only; unfold nxI; split <;> omega
  · rw [bl_1]; omega
theorem eP_o (kO : TokOK K) : ∀ a, EXo K (eP K a)
  | 0 => fun s hs => by
    show (bl K true 5 (bl K _ 1 s)).1 < K.1 ∧ s.1 + 0 ≤ (bl K true 5 (bl K _ 1 s)).1
    rw [bl_1, bl_1]; omega
  | a + 1 => fun s hs => by
    have ih := eP_o kO a
    unfold eP
    dsimp only
    by_cases hf : (sp K (bl K (!stPt (tk K s.1)) 1 s)).2 = 0
    · obtain ⟨-, -, e1, e2⟩ := sP_1 kO hs hf
      rw [if_pos hf, e1]
      split
      · have := ih (s.1 + 1, 0) e2
        dsimp only at this ⊢
        rw [List.length_append, List.length_singleton]; omega
      · split
        · have := eJ_o kO ih 0 (s.1 + 1, 0) e2
          have h3 := bs_o kO (b := !decide (tk K (eJ K (eP K a) 0 (s.1 + 1, 0)).1.1 = 5)) (k := 1) this.1
          unfold ex
          dsimp only at this ⊢
          omega
        · dsimp only; rw [List.length_singleton]; omega
    · rw [if_neg hf]
      have := bs_o kO (b := !stPt (tk K s.1)) (k := 1) hs
      dsimp only
      rw [List.length_nil]; omega
end
