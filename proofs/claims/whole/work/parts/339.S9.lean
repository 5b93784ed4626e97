theorem sw_t : ∀ t, t < 38 → ∀ j : Nat, j < 8 → (SWM.getD t 0).toInt = 1 + (j : Int) → t = [7, 8, 9, 12, 13, 14, 15, 16].getD j 0 := by decide +kernel
theorem sw_d : ∀ t, t < 38 → ((SWM.getD t 0).toInt < 1 ∨ 1 + 8 ≤ (SWM.getD t 0).toInt) → t ≠ 7 ∧ t ≠ 8 ∧ t ≠ 9 ∧ t ≠ 12 ∧ t ≠ 13 ∧ t ≠ 14 ∧ t ≠ 15 ∧ t ≠ 16 := by decide +kernel
section
variable {d a b : Nat} {h h' : AH} {K : TKs} {s : RS} {D : PD} {N : SN'} {Q : Option Value → AH → Prop}
theorem c_ord {t : Nat} (ht : t < 38) (h1 : Q (some (.int (nI t))) h) : Rc (d + 1) m_Jx29ce0_ordinal_8abf5 [.ref (1000 + t)] h Q := by
  refine R_in rfl rfl ?_
  refine R_gs 1 rfl ?_
  refine W_c rfl (SH_t ht) ?_
  rw [show tkF 3 (1000 + t - 1000) = .int (nI t) from by rw [Nat.add_sub_cancel_left]; rfl]
  refine W_f rfl (by first | rfl | exact ⟨rfl, by first | decide | assumption | exact Or.inl rfl | exact Or.inr rfl | exact b2i_01 _⟩) ?_
  exact h1
theorem c_readLaw {t : Bool} (kO : TokOK K) (hb : lwI b) (c : CF h K s) (hT : hI h b 3 = b2i t) (h1 : ∀ h', Fr (xex b) h h' → hI h' b 3 = 1 → CF h' K (eE K (sp K (bl K t 3 s))).1 → LawC h' b (eE K (sp K (bl K t 3 s))).2 → Q none h') : Rc (d + 39) m_X8_readLaw [.ref 6, .ref b] h Q := by
  have hb' := hb
  rcases hb with rfl | rfl | rfl | rfl
  all_goals
    refine R_in rfl rfl ?_
    refine R_gs 6 rfl ?_
    rw [hT]
    refine R_k rfl rfl (c_blameIf kO (b := t) (k := 3) (by decide) c (fun h2 f2 c2 => ?_))
    refine R_gs 10 rfl ?_
    refine R_k rfl rfl (c_step kO c2 (fun h3 f3 c3 => ?_))
    refine R_gs 14 rfl ?_
    refine R_k rfl rfl (c_lawClear hb' (fun h4 f4 e4 l4 => ?_))
    refine R_gs 19 rfl ?_
    refine W_c rfl ⟨rfl, by decide, by decide, Or.inr rfl⟩ ?_
    refine R_gs 26 rfl ?_
    refine R_k rfl rfl (cx_E kO hb' _ (sp K (bl K t 3 s)) [] _ ((c3.xl hb' f4).xl hb' ((Fr.refl _ h4).wI rfl)) ⟨l4.1, l4.2⟩ (Nat.zero_le _) (fun h5 f5 t5 c5 l5 => ?_))
    rw [List.nil_append] at l5
    refine W_f rfl (by first | rfl | exact ⟨rfl, by first | decide | assumption | exact Or.inl rfl | exact Or.inr rfl | exact b2i_01 _⟩) ?_
    exact h1 _ (((f2.trans f3).rx.trans (f4.trans ((Fr.refl _ h4).wI rfl)).lx).trans f5) t5 c5 l5
theorem pdc_C {k : Nat} {c : List Int32} (hk : k ≤ 1) (p : PdC h a D) (ha : a = 143 ∨ a = 171) (f : Fr (xex (a + 22 + 3 * k)) h h') (t : hI h' (a + 22 + 3 * k) 3 = 1) (l : LawC h' (a + 22 + 3 * k) c) : PdC h' a (setC D k c) := by
  have xf : ∀ q, a ≤ q → q ≠ a + 22 + 3 * k → q ≠ a + 22 + 3 * k + 1 → xex (a + 22 + 3 * k) q = false := fun q h1 h2 h3 => by
    unfold xex; rw [xrd_f (by omega) (by omega), xlw_f h2 h3]; rfl
  obtain ⟨c1, c2, c3, c4, c5, c6, c7, ⟨c8, c8'⟩, ⟨c9, c9'⟩⟩ := p
  refine ⟨?_, ?_, ?_, ?_, ?_, ?_, ?_, ⟨?_, ?_⟩, ⟨?_, ?_⟩⟩
  · rw [f.I (xf a (by omega) (by omega) (by omega))]; exact c1
  · rw [f.I (xf a (by omega) (by omega) (by omega))]; exact c2
  · rw [f.I (xf a (by omega) (by omega) (by omega))]; exact c3
  · rw [f.I (xf a (by omega) (by omega) (by omega))]; exact c4
  · intro p hp
    rw [f.I (xf _ (by omega) (by omega) (by omega)), f.I (xf _ (by omega) (by omega) (by omega)), f.I (xf _ (by omega) (by omega) (by omega))]; exact c5 p hp
  · intro p hp
    rw [f.I (xf (a + 8 + p) (by omega) (by omega) (by omega)), f.I (xf (a + 15 + p) (by omega) (by omega) (by omega)), f.I (xf (a + 21) (by omega) (by omega) (by omega))]; exact c6 p hp
  · exact c7.fr f (xf a (by omega) (by omega) (by omega)) (xf _ (by omega) (by omega) (by omega)) (xf _ (by omega) (by omega) (by omega)) (xf _ (by omega) (by omega) (by omega))
  · show LawC h' (a + 22) (if k = 0 then (c, true) else dC D).1
    rcases Nat.eq_zero_or_pos k with e | e
    · subst e; exact l
    · rw [if_neg (by omega)]; exact c8.fr f (xf _ (by omega) (by omega) (by omega)) (xf _ (by omega) (by omega) (by omega))
  · show hI h' (a + 22) 3 = b2i (if k = 0 then (c, true) else dC D).2
    rcases Nat.eq_zero_or_pos k with e | e
    · subst e; exact t
    · rw [if_neg (by omega), f.I (xf _ (by omega) (by omega) (by omega))]; exact c8'
  · show LawC h' (a + 25) (if k = 0 then dD D else (c, true)).1
    rcases Nat.eq_zero_or_pos k with e | e
    · subst e; exact c9.fr f (xf _ (by omega) (by omega) (by omega)) (xf _ (by omega) (by omega) (by omega))
    · have : k = 1 := by omega
      subst this; exact l
  · show hI h' (a + 25) 3 = b2i (if k = 0 then dD D else (c, true)).2
    rcases Nat.eq_zero_or_pos k with e | e
    · subst e; rw [if_pos rfl, f.I (xf _ (by omega) (by omega) (by omega))]; exact c9'
    · have : k = 1 := by omega
      subst this; exact t
theorem Fr.xd {k : Nat} (hk : k ≤ 1) (f : Fr (xex (a + 22 + 3 * k)) h h') : Fr (xdr a) h h' := f.mono (fun q hq => by
  unfold xex xlw at hq
  unfold xdr
  cases e : xrd q with
  | true => rfl
  | false =>
    rw [e, Bool.false_or, Bool.or_eq_true, Nat.beq_eq, Nat.beq_eq] at hq
    exact xda_t (by omega) (by omega))
theorem lnL_0 : lnL K 0 s D = ((eE K (sp K (bl K (dC D).2 3 s))).1, setC D 0 (eE K (sp K (bl K (dC D).2 3 s))).2) := by unfold lnL; dsimp only; rw [if_pos rfl]
theorem lnL_1 : lnL K 1 s D = ((eE K (sp K (bl K (dD D).2 3 s))).1, setC D 1 (eE K (sp K (bl K (dD D).2 3 s))).2) := by unfold lnL; dsimp only; rw [if_neg (by decide)]
theorem lnA_7 (et : tk K s.1 = 7) : lnA K s D = ((lnN K 0 s D).1, (lnN K 0 s D).2.1) := by unfold lnA; dsimp only; rw [if_pos et]
theorem lnA_8 (et : tk K s.1 = 8) : lnA K s D = ((lnN K 1 s D).1, (lnN K 1 s D).2.1) := by unfold lnA; dsimp only; rw [if_neg (by omega), if_pos et]
theorem lnA_9 (et : tk K s.1 = 9) : lnA K s D = lnX K s D := by unfold lnA; dsimp only; rw [if_neg (by omega), if_neg (by omega), if_pos et]
theorem lnA_12 (et : tk K s.1 = 12) : lnA K s D = lnO K s D := by unfold lnA; dsimp only; rw [if_neg (by omega), if_neg (by omega), if_neg (by omega), if_pos et]
theorem lnA_13 (et : tk K s.1 = 13) : lnA K s D = lnG K s D := by unfold lnA; dsimp only; rw [if_neg (by omega), if_neg (by omega), if_neg (by omega), if_neg (by omega), if_pos et]
theorem lnA_14 (et : tk K s.1 = 14) : lnA K s D = lnK K s D := by unfold lnA; dsimp only; rw [if_neg (by omega), if_neg (by omega), if_neg (by omega), if_neg (by omega), if_neg (by omega), if_pos et]
theorem lnA_15 (et : tk K s.1 = 15) : lnA K s D = lnL K 0 s D := by unfold lnA; dsimp only; rw [if_neg (by omega), if_neg (by omega), if_neg (by omega), if_neg (by omega), if_neg (by omega), if_neg (by omega), if_pos et]
theorem lnA_16 (et : tk K s.1 = 16) : lnA K s D = lnL K 1 s D := by unfold lnA; dsimp only; rw [if_neg (by omega), if_neg (by omega), if_neg (by omega), if_neg (by omega), if_neg (by omega), if_neg (by omega), if_neg (by omega), if_pos et]
theorem lnA_d (et : tk K s.1 ≠ 7 ∧ tk K s.1 ≠ 8 ∧ tk K s.1 ≠ 9 ∧ tk K s.1 ≠ 12 ∧ tk K s.1 ≠ 13 ∧ tk K s.1 ≠ 14 ∧ tk K s.1 ≠ 15 ∧ tk K s.1 ≠ 16) : lnA K s D = (bl K true 1 s, D) := by unfold lnA; dsimp only; rw [if_neg (by omega), if_neg (by omega), if_neg (by omega), if_neg (by omega), if_neg (by omega), if_neg (by omega), if_neg (by omega), if_neg (by omega)]
theorem c_provLine (kO : TokOK K) (ha : a = 143 ∨ a = 171) (hS : St h) (c : CF h K s) (p : PdC h a D) (o : PdO D) (oB : PdB D) (hM : dM D = dP D) (h1 : ∀ h', Fr (xdr a) h h' → CF h' K (ex K 6 (lnA K s D).1) → PdC h' a (lnA K s D).2 → Q none h') : Rc (d + 40) m_X8_readProvinceLine [.ref 6, .ref a] h Q := by
  have ha' := ha
  have t1 := c.t38 kO
  rcases ha with rfl | rfl
  all_goals
    refine R_in rfl rfl ?_
    refine R_gs 10 rfl ?_
    rw [c.tok]
    refine R_k rfl (q_tk4 t1) (c_ord t1 ?_)
    refine R_sl rfl rfl (by decide) rfl t1 (hS.2 _ t1) ?_
    refine W_w rfl (fun jj tt ht hz => ?_) (fun hz => ?_)
    ·
      have hjj : jj < 8 := by rcases Nat.lt_or_ge jj 8 with hq | hq; exact hq; rw [List.getElem?_eq_none (by simpa using hq)] at ht; cases ht
      by_cases e0 : jj = 0
      ·
        subst e0; cases ht
        refine R_gs 62 rfl ?_
        have et := sw_t _ t1 0 (by decide) hz
        rw [lnA_7 et] at h1
        refine R_k rfl rfl (c_readNewName kO ha' (σ := 0) (by omega) et c p o (fun h2 f2 c2 p2 => ?_))
        refine R_gs 132 rfl ?_
        refine R_k rfl rfl (c_expect kO (t := 6) (by omega) c2 (fun h3 f3 c3 => ?_))
        refine W_f rfl (by first | rfl | exact ⟨rfl, by first | decide | assumption | exact Or.inl rfl | exact Or.inr rfl | exact b2i_01 _⟩) ?_
        exact h1 _ (f2.trans f3.dr) c3 (p2.xr ha' f3)
      by_cases e1 : jj = 1
      ·
        subst e1; cases ht
        refine R_gs 62 rfl ?_
        have et := sw_t _ t1 1 (by decide) hz
        rw [lnA_8 et] at h1
        refine R_k rfl rfl (c_readNewName kO ha' (σ := 1) (by omega) et c p o (fun h2 f2 c2 p2 => ?_))
        refine R_gs 132 rfl ?_
        refine R_k rfl rfl (c_expect kO (t := 6) (by omega) c2 (fun h3 f3 c3 => ?_))
        refine W_f rfl (by first | rfl | exact ⟨rfl, by first | decide | assumption | exact Or.inl rfl | exact Or.inr rfl | exact b2i_01 _⟩) ?_
        exact h1 _ (f2.trans f3.dr) c3 (p2.xr ha' f3)
      by_cases e2 : jj = 2
      ·
        subst e2; cases ht
        refine R_gs 71 rfl ?_
        have et := sw_t _ t1 2 (by decide) hz
        rw [lnA_9 et] at h1
        refine R_k rfl rfl (c_readNewPerson kO ha' et c p o hM (fun h2 f2 c2 p2 => ?_))
        refine R_gs 132 rfl ?_
        refine R_k rfl rfl (c_expect kO (t := 6) (by omega) c2 (fun h3 f3 c3 => ?_))
        refine W_f rfl (by first | rfl | exact ⟨rfl, by first | decide | assumption | exact Or.inl rfl | exact Or.inr rfl | exact b2i_01 _⟩) ?_
        exact h1 _ (f2.trans f3.dr) c3 (p2.xr ha' f3)
      by_cases e3 : jj = 3
      ·
        subst e3; cases ht
        refine R_gs 79 rfl ?_
        have et := sw_t _ t1 3 (by decide) hz
        rw [lnA_12 et] at h1
        refine R_k rfl rfl (c_readOdds kO ha' c p o oB (fun h2 f2 c2 p2 => ?_))
        refine R_gs 132 rfl ?_
        refine R_k rfl rfl (c_expect kO (t := 6) (by omega) c2 (fun h3 f3 c3 => ?_))
        refine W_f rfl (by first | rfl | exact ⟨rfl, by first | decide | assumption | exact Or.inl rfl | exact Or.inr rfl | exact b2i_01 _⟩) ?_
        exact h1 _ (f2.trans f3.dr) c3 (p2.xr ha' f3)
      by_cases e4 : jj = 4
      ·
        subst e4; cases ht
        refine R_gs 87 rfl ?_
        have et := sw_t _ t1 4 (by decide) hz
        rw [lnA_13 et] at h1
        refine R_k rfl rfl (c_readLiking kO ha' c p o (fun h2 f2 c2 p2 => ?_))
        refine R_gs 132 rfl ?_
        refine R_k rfl rfl (c_expect kO (t := 6) (by omega) c2 (fun h3 f3 c3 => ?_))
        refine W_f rfl (by first | rfl | exact ⟨rfl, by first | decide | assumption | exact Or.inl rfl | exact Or.inr rfl | exact b2i_01 _⟩) ?_
        exact h1 _ (f2.trans f3.dr) c3 (p2.xr ha' f3)
      by_cases e5 : jj = 5
      ·
        subst e5; cases ht
        refine R_gs 95 rfl ?_
        have et := sw_t _ t1 5 (by decide) hz
        rw [lnA_14 et] at h1
        refine R_k rfl rfl (c_readKept kO ha' c p o (fun h2 f2 c2 p2 => ?_))
        refine R_gs 132 rfl ?_
        refine R_k rfl rfl (c_expect kO (t := 6) (by omega) c2 (fun h3 f3 c3 => ?_))
        refine W_f rfl (by first | rfl | exact ⟨rfl, by first | decide | assumption | exact Or.inl rfl | exact Or.inr rfl | exact b2i_01 _⟩) ?_
        exact h1 _ (f2.trans f3.dr) c3 (p2.xr ha' f3)
      by_cases e6 : jj = 6
      ·
        subst e6; cases ht
        refine R_gs 106 rfl ?_
        have et := sw_t _ t1 6 (by decide) hz
        rw [lnA_15 et, lnL_0] at h1
        refine R_k rfl rfl (c_readLaw (t := (dC D).2) kO (by unfold lwI; omega) c p.2.2.2.2.2.2.2.1.2 (fun h2 f2' t2' c2 l2' => ?_))
        have p2 := pdc_C (k := 0) (by omega) p ha' f2' t2' l2'
        have f2 := Fr.xd (k := 0) (by omega) f2'
        refine R_gs 132 rfl ?_
        refine R_k rfl rfl (c_expect kO (t := 6) (by omega) c2 (fun h3 f3 c3 => ?_))
        refine W_f rfl (by first | rfl | exact ⟨rfl, by first | decide | assumption | exact Or.inl rfl | exact Or.inr rfl | exact b2i_01 _⟩) ?_
        exact h1 _ (f2.trans f3.dr) c3 (p2.xr ha' f3)
      by_cases e7 : jj = 7
      ·
        subst e7; cases ht
        refine R_gs 117 rfl ?_
        have et := sw_t _ t1 7 (by decide) hz
        rw [lnA_16 et, lnL_1] at h1
        refine R_k rfl rfl (c_readLaw (t := (dD D).2) kO (by unfold lwI; omega) c p.2.2.2.2.2.2.2.2.2 (fun h2 f2' t2' c2 l2' => ?_))
        have p2 := pdc_C (k := 1) (by omega) p ha' f2' t2' l2'
        have f2 := Fr.xd (k := 1) (by omega) f2'
        refine R_gs 132 rfl ?_
        refine R_k rfl rfl (c_expect kO (t := 6) (by omega) c2 (fun h3 f3 c3 => ?_))
        refine W_f rfl (by first | rfl | exact ⟨rfl, by first | decide | assumption | exact Or.inl rfl | exact Or.inr rfl | exact b2i_01 _⟩) ?_
        exact h1 _ (f2.trans f3.dr) c3 (p2.xr ha' f3)
      exact absurd hjj (by omega)
    ·
      refine R_gs 125 rfl ?_
      have et := sw_d _ t1 hz
      rw [lnA_d et] at h1
      refine R_k rfl rfl (c_blame kO (k := 1) (by decide) c (fun h2 f2' c2 => ?_))
      have p2 := p.xr ha' f2'
      refine R_gs 132 rfl ?_
      refine R_k rfl rfl (c_expect kO (t := 6) (by omega) c2 (fun h3 f3 c3 => ?_))
      refine W_f rfl (by first | rfl | exact ⟨rfl, by first | decide | assumption | exact Or.inl rfl | exact Or.inr rfl | exact b2i_01 _⟩) ?_
      exact h1 _ (f2'.dr.trans f3.dr) c3 (p2.xr ha' f3)
end
