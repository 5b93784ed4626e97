def CodeR (h : AH) (k : Nat) (c : List Int32) : Prop := (∀ i (hi : i < c.length), StepM (hI h 242 (1100 + (k + i))) (hI h 243 (1100 + (k + i))) c[i]) ∧ hI h 242 (1100 + (k + c.length)) = 0
def LwM (h : AH) (j n : Nat) (df : List Int32) (c : List Int32 × Bool) : Prop := (c.2 = false ∧ hI h 241 j = -1 ∧ c.1 = df) ∨ (c.2 = true ∧ ∃ k, hI h 241 j = nI k ∧ k + c.1.length < n ∧ CodeR h k c.1)
/-- the model's draft, with n steps laid -/
def PdM (h : AH) (D : PD) (n : Nat) : Prop := hI h 241 100 = nI (dS D) ∧ hI h 241 101 = nI (dQ D) ∧ hI h 241 102 = nI (dP D) ∧ hI h 241 105 = dE D ∧
  (∀ p, p < dM D → hI h 241 (108 + 3 * p) = nI (dX D p).1 ∧ hI h 241 (108 + 3 * p + 1) = nI (dX D p).2.1 ∧ hI h 241 (108 + 3 * p + 2) = nI (dX D p).2.2) ∧
  (∀ p, p < 6 → (∀ w, w < 5 → hI h 241 (126 + 5 * p + w) = nI (dO D p w)) ∧ (∀ q, q < 6 → hI h 241 (160 + 6 * p + q) = if bt (dT D p) q = true then nI (dG D p q + 1) else 0)) ∧
  NmX h true (dN D) ∧ (bt (hI h 235 20) 0 = (dC D).2 ∧ bt (hI h 235 20) 1 = (dD D).2) ∧ hI h 235 13 = nI n ∧ LwM h 103 n [1] (dC D) ∧ LwM h 104 n [1, -1, -9, -2, -9] (dD D)
def ypv (q : Nat) : Bool := Nat.beq q 235 || (Nat.beq q 241 || (Nat.beq q 242 || (Nat.beq q 243 || (Nat.beq q 245 || Nat.beq q 247))))
/-- what reading a province leaves as it was -/
def YV (h h' : AH) : Prop := Fr ypv h h' ∧ (∀ j, j < 100 → hI h' 241 j = hI h 241 j) ∧ (∀ j, j < 1100 → hI h' 242 j = hI h 242 j ∧ hI h' 243 j = hI h 243 j) ∧ ∀ k, k ≠ 7 → k ≠ 8 → k ≠ 13 → k ≠ 19 → k ≠ 20 → hI h' 235 k = hI h 235 k
section
variable {d k n : Nat} {h h' h'' : AH} {K : TKs} {s : RS} {D : PD} {N : SN'} {Q : Option Value → AH → Prop}
theorem YV.refl (h : AH) : YV h h := ⟨Fr.refl _ h, fun _ _ => rfl, fun _ _ => ⟨rfl, rfl⟩, fun _ _ _ _ _ _ => rfl⟩
theorem YV.trans (a : YV h h') (b : YV h' h'') : YV h h'' := ⟨a.1.trans b.1, fun j hj => (b.2.1 j hj).trans (a.2.1 j hj), fun j hj => ⟨(b.2.2.1 j hj).1.trans (a.2.2.1 j hj).1, (b.2.2.1 j hj).2.trans (a.2.2.1 j hj).2⟩, fun k a1 a2 a3 a4 a5 => (b.2.2.2 k a1 a2 a3 a4 a5).trans (a.2.2.2 k a1 a2 a3 a4 a5)⟩
theorem MR.v (m : MR h h') : YV h h' := ⟨m.1.mono (fun q hq => by unfold ypv; rw [hq]; rfl), fun j _ => by rw [m.1.I rfl], fun j _ => ⟨by rw [m.1.I rfl], by rw [m.1.I rfl]⟩, fun k a1 a2 _ _ _ => m.2 k a1 a2⟩
theorem YR.v (m : YR k h h') : YV h h' := ⟨m.1.mono (fun q hq => by unfold yem at hq; unfold ypv; simp only [Bool.or_eq_true, Nat.beq_eq] at hq ⊢; omega), fun j _ => by rw [m.1.I rfl], fun j hj => m.2.2 j (by omega), fun k a1 a2 a3 _ _ => m.2.1 k a1 a2 a3⟩
/-- a place of the draft is laid -/
theorem YV.w1 {j : Nat} (hj : 100 ≤ j) (v : Int32) : YV h (wI h 241 j v) := ⟨(Fr.refl _ h).wI rfl, fun i hi => (wI_at _ _ _ _ _).trans (if_neg (by omega)), fun _ _ => ⟨rfl, rfl⟩, fun _ _ _ _ _ _ => rfl⟩
theorem NmX.fr {r : Bool} (x : NmX h r N) {X : Nat → Bool} (f : Fr X h h') (e1 : hI h' 235 19 = hI h 235 19) (e0 : hI h' 235 18 = hI h 235 18) (x4 : X 244 = false) (x5 : X 245 = false) (x6 : X 246 = false) (x7 : X 247 = false) : NmX h' r N := by
  cases r
  · refine ⟨e0.trans x.1, fun k hk => ?_⟩
    have := x.2 k hk
    simp only [Bool.false_eq_true, if_false] at this ⊢
    rw [f.J x4, f.I x6]; exact this
  · refine ⟨e1.trans x.1, fun k hk => ?_⟩
    have := x.2 k hk
    simp only [if_true] at this ⊢
    rw [f.J x5, f.I x7]; exact this
theorem PdM.mr (p : PdM h D n) (m : MR h h') : PdM h' D n := by
  obtain ⟨c1, c2, c3, c4, c5, c6, c7, c8, c9, c10, c11⟩ := p
  have e1 : hI h' 241 = hI h 241 := m.1.I rfl
  have e2 : hI h' 242 = hI h 242 := m.1.I rfl
  have e3 : hI h' 243 = hI h 243 := m.1.I rfl
  unfold PdM LwM CodeR
  unfold LwM CodeR at c10 c11
  rw [e1, e2, e3, m.2 20 (by decide) (by decide), m.2 13 (by decide) (by decide)]
  exact ⟨c1, c2, c3, c4, c5, c6, c7.fr m.1 (m.2 19 (by decide) (by decide)) (m.2 18 (by decide) (by decide)) rfl rfl rfl rfl, c8, c9, c10, c11⟩
theorem NmX.mr {r : Bool} (x : NmX h r N) (m : MR h h') : NmX h' r N := x.fr m.1 (m.2 19 (by decide) (by decide)) (m.2 18 (by decide) (by decide)) rfl rfl rfl rfl
theorem PdO.nd (o : PdO D) : NmD (dN D) := o.2.2.2.2.2.2
/-- where the model's reading stands -/
def MdI (h : AH) (K : TKs) (s : RS) (D : PD) : Prop := MF h K s ∧ (s.2 = 0 → ∃ n, n ≤ s.1 ∧ PdM h D n)
theorem fd_hs (l : List Nat) (nO : NmO N) : (0 : Int32) ≤ fdN N l 0 N.1 ↔ hsN N l = true := by
  unfold hsN
  rw [anyN_iff]
  have key : ∀ m j, j + m ≤ N.1 → ((0 : Int32) ≤ fdN N l j m ↔ ∃ i, j ≤ i ∧ i < j + m ∧ (N.2 i).2.1 = l) := by
    intro m
    induction m with
    | zero => intro j _; exact ⟨fun e => absurd (show (0 : Int32) ≤ -1 from e) (by decide), fun ⟨i, h1, h2, _⟩ => by omega⟩
    | succ m ih =>
      intro j hj
      rw [fdN_s]
      by_cases e : (N.2 j).2.1 = l
      · rw [if_pos e]
        have := nO.2 j (by omega)
        exact ⟨fun _ => ⟨j, Nat.le_refl _, by omega, e⟩, fun _ => nI_pos' (by omega)⟩
      · rw [if_neg e, ih (j + 1) (by omega)]
        constructor
        · rintro ⟨i, h1, h2, h3⟩; exact ⟨i, by omega, by omega, h3⟩
        · rintro ⟨i, h1, h2, h3⟩
          refine ⟨i, ?_, by omega, h3⟩
          rcases Nat.eq_or_lt_of_le h1 with q | q
          · subst q; exact absurd h3 e
          · omega
  rw [key N.1 0 (by omega)]
  constructor
  · rintro ⟨i, -, h2, h3⟩; exact ⟨i, by omega, decide_eq_true h3⟩
  · rintro ⟨i, h2, h3⟩; exact ⟨i, Nat.zero_le _, by omega, of_decide_eq_true h3⟩
theorem pdm_ct (p : PdM h D n) {σ : Nat} (hσ : σ ≤ 2) : hI h 241 (100 + σ) = nI (dct D σ) := by
  have : σ = 0 ∨ σ = 1 ∨ σ = 2 := by omega
  rcases this with rfl | rfl | rfl
  · exact p.1
  · exact p.2.1
  · exact p.2.2.1
theorem pdm_add {σ : Nat} {l : List Nat} {v7 : Int32} (p : PdM h D n) (hσ : σ ≤ 2) : PdM (wI (wI (wI (wI (wJ h 245 (dN D).1 (lN64 (pkM l))) 247 (dN D).1 (nI (20 * σ) + nI (dct D σ))) 235 19 (hI h 235 19 + 1)) 235 7 v7) 241 (100 + σ) (nI (dct D σ) + 1)) (addN D σ l) n := by
  obtain ⟨c1, c2, c3, c4, c5, c6, ⟨c7, c7'⟩, c8, c9, c10, c11⟩ := p
  have e : ∀ j, hI (wI (wI (wI (wI (wJ h 245 (dN D).1 (lN64 (pkM l))) 247 (dN D).1 (nI (20 * σ) + nI (dct D σ))) 235 19 (hI h 235 19 + 1)) 235 7 v7) 241 (100 + σ) (nI (dct D σ) + 1)) 241 j = if j = 100 + σ then nI (dct D σ) + 1 else hI h 241 j := fun j => wI_at _ _ _ _ _
  have e7 : ∀ j, hI (wI (wI (wI (wI (wJ h 245 (dN D).1 (lN64 (pkM l))) 247 (dN D).1 (nI (20 * σ) + nI (dct D σ))) 235 19 (hI h 235 19 + 1)) 235 7 v7) 241 (100 + σ) (nI (dct D σ) + 1)) 247 j = if j = (dN D).1 then nI (20 * σ) + nI (dct D σ) else hI h 247 j := fun j => wI_at (wJ h 245 (dN D).1 (lN64 (pkM l))) 247 (dN D).1 (nI (20 * σ) + nI (dct D σ)) j
  have e5 : ∀ j, hJ (wI (wI (wI (wI (wJ h 245 (dN D).1 (lN64 (pkM l))) 247 (dN D).1 (nI (20 * σ) + nI (dct D σ))) 235 19 (hI h 235 19 + 1)) 235 7 v7) 241 (100 + σ) (nI (dct D σ) + 1)) 245 j = if j = (dN D).1 then lN64 (pkM l) else hJ h 245 j := fun j => wJ_at _ _ _ _ _
  refine ⟨?_, ?_, ?_, ?_, fun q hq => ?_, fun q hq => ⟨fun w hw => ?_, fun r hr => ?_⟩, ⟨?_, fun i hi => ?_⟩, c8, c9, ?_, ?_⟩
  · rw [e]
    show _ = nI (if σ = 0 then dS D + 1 else dS D)
    by_cases h0 : σ = 0
    · subst h0; rw [if_pos rfl, if_pos rfl, nI_1]; rfl
    · rw [if_neg (by omega), if_neg h0]; exact c1
  · rw [e]
    show _ = nI (if σ = 1 then dQ D + 1 else dQ D)
    by_cases h0 : σ = 1
    · subst h0; rw [if_pos rfl, if_pos rfl, nI_1]; rfl
    · rw [if_neg (by omega), if_neg h0]; exact c2
  · rw [e]
    show _ = nI (if σ = 2 then dP D + 1 else dP D)
    by_cases h0 : σ = 2
    · subst h0; rw [if_pos rfl, if_pos rfl, nI_1]; rfl
    · rw [if_neg (by omega), if_neg h0]; exact c3
  · rw [e, if_neg (by omega)]; exact c4
  · rw [e, e, e, if_neg (by omega), if_neg (by omega), if_neg (by omega)]; exact c5 q hq
  · rw [e, if_neg (by omega)]; exact (c6 q hq).1 w hw
  · rw [e, if_neg (by omega)]; exact (c6 q hq).2 r hr
  · show hI h 235 19 + 1 = nI ((dN D).1 + 1)
    rw [show hI h 235 19 = nI (dN D).1 from c7, nI_1]
  · have hi : i < (dN D).1 + 1 := hi
    simp only [if_true] at c7' ⊢
    rw [e5, e7]
    show _ = lN64 (pkM (up1 (dN D).2 (dN D).1 (σ, l, dct D σ) i).2.1) ∧ _ = nI (20 * (up1 (dN D).2 (dN D).1 (σ, l, dct D σ) i).1 + (up1 (dN D).2 (dN D).1 (σ, l, dct D σ) i).2.2)
    unfold up1
    by_cases ei : i = (dN D).1
    · rw [if_pos ei, if_pos ei, if_pos ei]; exact ⟨rfl, nI_add _ _⟩
    · rw [if_neg ei, if_neg ei, if_neg ei]; exact c7' i (by omega)
  · rcases c10 with ⟨q1, q2, q3⟩ | ⟨q1, k, q2, q3, q4⟩
    · exact Or.inl ⟨q1, by rw [e, if_neg (by omega)]; exact q2, q3⟩
    · exact Or.inr ⟨q1, k, by rw [e, if_neg (by omega)]; exact q2, q3, q4⟩
  · rcases c11 with ⟨q1, q2, q3⟩ | ⟨q1, k, q2, q3, q4⟩
    · exact Or.inl ⟨q1, by rw [e, if_neg (by omega)]; exact q2, q3⟩
    · exact Or.inr ⟨q1, k, by rw [e, if_neg (by omega)]; exact q2, q3, q4⟩
theorem m_readName {σ : Nat} (kO : TokOK K) (hσ : σ ≤ 2) (ht : tk K s.1 = 7 + σ) (hf : s.2 = 0) (c : MF h K s) (p : PdM h D n) (hn : n ≤ s.1) (o : PdO D) (h1 : ∀ h', YV h h' → MF h' K (lnN K σ s D).1 → n ≤ (lnN K σ s D).1.1 → PdM h' (lnN K σ s D).2.1 n → Q none h') : Rc (d + 4) m_X13_readName [.ref 235, .int (nI σ), .int (nI (dmx σ)), .int (nI (20 * σ))] h Q := by
  have hs := c.2.1
  have k1 := kO.1
  have od := dct_le o σ
  have dm : dct D σ ≤ dmx σ ∧ dmx σ ≤ 6 := (by
    obtain ⟨o1, o2, o3, -⟩ := o
    have e3 : σ = 0 ∨ σ = 1 ∨ σ = 2 := by omega
    rcases e3 with rfl | rfl | rfl
    · exact ⟨o1, by decide⟩
    · exact ⟨o2, by decide⟩
    · exact ⟨o3, by decide⟩)
  have e8 := pdm_ct p hσ
  have tz7 : tz K (7 + σ) s = true := (by unfold tz; rw [decide_eq_true hf, decide_eq_true ht]; rfl)
  obtain ⟨q1, q2⟩ := sp_tz kO hs (by omega : 7 + σ ≠ 0) tz7
  have bz : ∀ k, 0 < k → ∀ s : RS, s.2 = 0 → ¬ (bl K true k s).2 = 0 := fun k hk s hs => by rw [bl_y hs]; dsimp only; omega
  have nN : (dN D).1 ≤ 15 := o.nm.1
  have nt : dct D σ < dmx σ → (dN D).1 < 15 := fun hlt => by
    obtain ⟨o1, o2, o3, o4, o5, -⟩ := o
    have e3 : σ = 0 ∨ σ = 1 ∨ σ = 2 := by omega
    rcases e3 with rfl | rfl | rfl
    · have : dS D < 5 := hlt; omega
    · have : dQ D < 4 := hlt; omega
    · have : dP D < 6 := hlt; omega
  unfold lnN at h1
  dsimp only at h1
  refine R_in rfl rfl ?_
  refine R_gs 8 rfl ?_
  refine R_il rfl rfl (j := 100 + σ) (ix_add (ix_lit 100) (ix_nI σ)) (by omega) e8 ?_
  refine R_gs 14 rfl ?_
  refine W_b rfl (fun hc14 => ?_) (fun hc14 => ?_)
  ·
    rw [nI_eq (by omega) (by omega)] at hc14
    rw [decide_eq_true (by omega : dmx σ ≤ dct D σ), sp_n (bz 5 (by omega) s hf), bl_n (s := bl K true 5 s) (Or.inr (bz 5 (by omega) s hf)), bl_n (s := bl K true 5 s) (Or.inr (bz 5 (by omega) s hf)), sp_n (bz 5 (by omega) s hf)] at h1
    refine R_gs 19 rfl ?_
    refine R_k rfl rfl (m_wrong kO (k := 5) (by decide) c (fun h2 m2 c2 => ?_))
    refine W_f rfl (by first | rfl | exact ⟨rfl, by first | decide | assumption | exact Or.inl rfl | exact Or.inr rfl | exact b2i_01 _⟩) ?_
    rw [if_neg (bz 5 (by omega) s hf)] at h1; exact h1 _ m2.v c2 (by rw [bl_1]; exact hn) (p.mr m2)
  ·
    rw [nI_eq (by omega) (by omega)] at hc14
    rw [decide_eq_false (by omega : ¬ dmx σ ≤ dct D σ), bl_n (s := s) (k := 5) (Or.inl rfl), q1] at h1
    have f2 := c.nx kO (by omega : 7 + σ ≠ 0) tz7
    rw [q1] at f2
    have p2 := p.mr (MR.w7 h (hI h 235 7 + 1))
    have t2 : tk K (s.1 + 1) < 38 := (f2.tg kO).1
    dsimp only at h1
    refine R_gs 34 rfl ?_
    refine R_k rfl rfl (m_isName kO f2 ?_)
    rw [show (decide ((s.1 + 1, (0 : Nat)).2 = 0) && isNm (tk K (s.1 + 1, (0 : Nat)).1)) = isNm (tk K (s.1 + 1)) from rfl]
    refine W_b rfl (fun hc37 => ?_) (fun hc37 => ?_)
    ·
      rw [b2i0] at hc37
      rw [hc37, show (!false) = true from rfl, bl_n (s := bl K true 1 (s.1 + 1, 0)) (Or.inr (bz 1 (by omega) _ rfl)), sp_n (bz 1 (by omega) _ rfl)] at h1
      refine R_gs 42 rfl ?_
      refine R_k rfl rfl (m_wrong kO (k := 1) (by decide) f2 (fun h3 m3 c3 => ?_))
      refine R_gs 65 rfl ?_
      refine W_bf rfl (fun e => bz 1 (by omega) _ rfl (c3.fz.mp e)) ?_
      refine W_f rfl (by first | rfl | exact ⟨rfl, by first | decide | assumption | exact Or.inl rfl | exact Or.inr rfl | exact b2i_01 _⟩) ?_
      rw [if_neg (bz 1 (by omega) _ rfl)] at h1; exact h1 _ ((MR.w7 h _).v.trans m3.v) c3 (by rw [bl_1]; dsimp only; omega) (p2.mr m3)
    ·
      rw [b2i0] at hc37
      rw [Bool.not_eq_false] at hc37
      rw [hc37, show (!true) = false from rfl, bl_n (s := (s.1 + 1, 0)) (k := 1) (Or.inl rfl)] at h1
      have vl := f2.val kO hc37
      have fh := fd_hs (tl K (s.1 + 1)) o.nm
      refine R_gs 50 rfl ?_
      refine R_k rfl rfl (m_find (r := true) kO f2 p2.2.2.2.2.2.2.1 o.nm hc37 ?_)
      refine W_b rfl (fun hc53 => ?_) (fun hc53 => ?_)
      ·
        have hh : hsN (dN D) (tl K (s.1 + 1)) = false := (by rw [← Bool.not_eq_true, ← fh]; exact Int32.not_le.mpr hc53)
        rw [hh, bl_n (s := (s.1 + 1, 0)) (k := 3) (Or.inl rfl)] at h1
        refine R_gs 65 rfl ?_
        refine W_bt rfl (f2.fz.mpr rfl) ?_
        refine R_gs 84 rfl ?_
        refine R_ll rfl rfl (j := s.1 + 1) f2.2.2.1 (by omega) vl.2.1 ?_
        refine R_ls rfl rfl (j := (dN D).1) p2.2.2.2.2.2.2.1.1 (by have := nt (by omega); omega) ?_
        refine R_gs 98 rfl ?_
        refine R_is rfl rfl (j := (dN D).1) p2.2.2.2.2.2.2.1.1 (by have := nt (by omega); omega) ?_
        refine R_gs 128 rfl ?_
        refine R_il rfl rfl (j := 100 + σ) (ix_add (ix_lit 100) (ix_nI σ)) (by omega) (v := nI (dct D σ)) e8 ?_
        refine R_gs 131 rfl ?_
        refine R_is rfl rfl (j := 100 + σ) (ix_add (ix_lit 100) (ix_nI σ)) (by omega) ?_
        refine W_f rfl (by first | rfl | exact ⟨rfl, by first | decide | assumption | exact Or.inl rfl | exact Or.inr rfl | exact b2i_01 _⟩) ?_
        obtain ⟨u1, u2⟩ := sp_1 kO f2.2.1 rfl vl.2.2
        rw [u1] at h1
        rw [if_pos rfl] at h1
        refine h1 _ ⟨((((((Fr.refl _ h).wI rfl).wJ rfl).wI rfl).wI rfl).wI rfl).wI rfl, fun j hj => (wI_at _ _ _ _ _).trans (if_neg (by omega)), fun _ _ => ⟨rfl, rfl⟩, fun k a1 a2 a3 a4 a5 => by show hI (wI (wI (wI (wJ (wI h 235 7 _) 245 _ _) 247 _ _) 235 19 _) 235 7 _) 235 k = _; rw [wI_at, if_neg a1, wI_at, if_neg a4]; show hI (wI h 235 7 _) 235 k = _; rw [wI_at, if_neg a1]⟩ ?_ (by dsimp only; omega) (pdm_add p2 hσ)
        refine ⟨fun i hi => f2.1 i hi, u2, ?_, f2.2.2.2.1, Nat.zero_le _, fun w hw => f2.2.2.2.2.2 w hw⟩
        show hI (wI h 235 7 (hI h 235 7 + 1)) 235 7 + 1 = _
        rw [f2.2.2.1, nI_1]
      ·
        have hh : hsN (dN D) (tl K (s.1 + 1)) = true := (by rw [← fh]; exact Int32.not_lt.mp hc53)
        rw [hh, sp_n (bz 3 (by omega) _ rfl)] at h1
        refine R_gs 58 rfl ?_
        refine R_k rfl rfl (m_wrong kO (k := 3) (by decide) f2 (fun h3 m3 c3 => ?_))
        refine R_gs 65 rfl ?_
        refine W_bf rfl (fun e => bz 3 (by omega) _ rfl (c3.fz.mp e)) ?_
        refine W_f rfl (by first | rfl | exact ⟨rfl, by first | decide | assumption | exact Or.inl rfl | exact Or.inr rfl | exact b2i_01 _⟩) ?_
        rw [if_neg (bz 3 (by omega) _ rfl)] at h1; exact h1 _ ((MR.w7 h _).v.trans m3.v) c3 (by rw [bl_1]; dsimp only; omega) (p2.mr m3)
end
