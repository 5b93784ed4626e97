section
variable {d a : Nat} {h h' : AH} {K : TKs} {s : RS} {D : PD} {N : SN'} {Q : Option Value → AH → Prop}
theorem bl_z {b : Bool} {k : Nat} (hk : 0 < k) (hz : (bl K b k s).2 = 0) : b = false ∧ s.2 = 0 := by
  by_cases e : s.2 = 0
  · cases b with
    | false => exact ⟨rfl, e⟩
    | true => rw [bl_y e] at hz; dsimp only at hz; omega
  · rw [bl_n (Or.inr e)] at hz; exact absurd hz e
theorem bl_c {b b' : Bool} {k : Nat} (hb : s.2 = 0 → b = b') : bl K b k s = bl K b' k s := by
  by_cases e : s.2 = 0
  · rw [hb e]
  · rw [bl_n (Or.inr e), bl_n (Or.inr e)]
theorem sp_z (hz : (sp K s).2 = 0) : s.2 = 0 := by
  unfold sp at hz
  split at hz
  · assumption
  · exact hz
theorem CF.val (kO : TokOK K) (c : CF h K s) (hn : isNm (tk K s.1) = true) : LtO (tl K s.1) ∧ hJ h 1 9 = lN64 (pkC (tl K s.1)) := by
  have t1 := c.t38 kO
  have g := (c.tg kO).2.2.2.1 (nmW _ t1 hn).1
  exact ⟨g.1, c.2.1.2.2.2.2.2 g.1.1⟩
theorem CF.tokS (c : CF h K s) {σ : Nat} (ht : tk K s.1 = 7 + σ) : va_rf (hR h 1 7) = .ref (1007 + σ) := by
  rw [c.tok, ht, show 1000 + (7 + σ) = 1007 + σ by omega]
theorem NamC.xr (ha : a = 143 ∨ a = 171) (c : NamC h a N) (f : Fr xrd h h') : NamC h' a N := c.fr f (xrd_f (by omega) (by omega)) (xrd_f (by omega) (by omega)) (xrd_f (by omega) (by omega)) (xrd_f (by omega) (by omega))
theorem c_lookUp {σ : Nat} (kO : TokOK K) (ha : a = 143 ∨ a = 171) (hN : NamC h a N) (nO : NmO N) (hσ : σ ≤ 2) (c : CF h K s) (h1 : ∀ h', Fr xrd h h' → CF h' K (lu K N σ s).1 → Q (some (.int (lu K N σ s).2)) h') : Rc (d + 3) m_X8_lookUp [.ref 6, .ref a, .ref (1007 + σ)] h Q := by
  have t1 := c.t38 kO
  unfold lu at h1
  dsimp only at h1
  refine R_in rfl rfl ?_
  refine R_gs 8 rfl ?_
  rw [c.tok]
  refine R_k rfl (q_tk t1) (c_isName t1 ?_)
  refine R_j 19 (!isNm (tk K s.1)) rfl (by rw [b2i0]; simp) rfl rfl ?_
  refine R_gs 20 rfl ?_
  refine R_k rfl rfl (c_blameIf kO (k := 1) (by decide) c (fun h2 f2 c2 => ?_))
  refine R_gs 27 rfl ?_
  refine W_b rfl (fun hc27 => ?_) (fun hc27 => ?_)
  ·
    rw [c2.fz] at hc27
    rw [if_pos hc27] at h1
    have nz := bl_z (by decide) hc27
    rw [Bool.not_eq_false'] at nz
    have vl := c2.val kO (by rw [bl_1]; exact nz.1)
    rw [bl_1] at vl
    refine R_gs 39 rfl ?_
    rw [vl.2]
    refine R_k rfl (q_ld ha) (c_find ha (hN.xr ha f2) nO vl.1 hσ ?_)
    refine R_gs 50 rfl ?_
    refine R_j 58 (decide (fnd N σ (tl K s.1) = -1)) rfl (by rw [decide_eq_true_eq]) rfl rfl ?_
    refine R_gs 59 rfl ?_
    refine R_k rfl rfl (c_blameIf kO (k := 2) (by decide) c2 (fun h3 f3 c3 => ?_))
    refine R_gs 63 rfl ?_
    refine W_f rfl (by first | rfl | exact ⟨rfl, by first | decide | assumption | exact Or.inl rfl | exact Or.inr rfl | exact b2i_01 _⟩) ?_
    exact h1 _ (f2.trans f3) c3
  ·
    rw [c2.fz] at hc27
    rw [if_neg hc27] at h1
    refine R_gs 50 rfl ?_
    refine R_j 58 (decide ((-1 : Int32) = -1)) rfl (by decide) rfl rfl ?_
    refine R_gs 59 rfl ?_
    refine R_k rfl rfl (c_blameIf kO (k := 2) (by decide) c2 (fun h3 f3 c3 => ?_))
    refine R_gs 63 rfl ?_
    refine W_f rfl (by first | rfl | exact ⟨rfl, by first | decide | assumption | exact Or.inl rfl | exact Or.inr rfl | exact b2i_01 _⟩) ?_
    exact h1 _ (f2.trans f3) c3
theorem c_readKnown {σ : Nat} (kO : TokOK K) (ha : a = 143 ∨ a = 171) (hN : NamC h a N) (nO : NmO N) (hσ : σ ≤ 2) (c : CF h K s) (h1 : ∀ h', Fr xrd h h' → CF h' K (rk K N σ s).1 → Q (some (.int (rk K N σ s).2)) h') : Rc (d + 4) m_X8_readKnown [.ref 6, .ref a, .ref (1007 + σ)] h Q := by
  refine R_in rfl rfl ?_
  refine R_gs 3 rfl ?_
  refine R_k rfl rfl (c_lookUp kO ha hN nO hσ c (fun h2 f2 c2 => ?_))
  refine R_gs 8 rfl ?_
  refine R_k rfl rfl (c_step kO c2 (fun h3 f3 c3 => ?_))
  refine R_gs 12 rfl ?_
  refine W_f rfl (by first | rfl | exact ⟨rfl, by first | decide | assumption | exact Or.inl rfl | exact Or.inr rfl | exact b2i_01 _⟩) ?_
  exact h1 _ (f2.trans f3) c3
theorem c_readNumber {m : Nat} (kO : TokOK K) (hm : m ≤ 1) (c : CF h K s) (h1 : ∀ h' v, Fr xrd h h' → CF h' K (rn K m s) → ((rn K m s).2 = 0 → v = nI (tn K s.1)) → Q (some (.int v)) h') : Rc (d + 3) m_X8_readNumber [.ref 6, .int (nI m)] h Q := by
  have t1 := c.t38 kO
  have g3 := (c.tg kO).2.2.1
  have hv : tk K s.1 = 2 → (hJ h 1 9).toInt32 = nI (tn K s.1) ∧ tn K s.1 ≤ 9999 := fun e => ⟨by rw [c.2.1.2.2.2.2.1 e, l64_i]; rfl, g3 e⟩
  have key : ∀ b, (tk K s.1 = 2 → b = (decide (tn K s.1 < m) || decide (9 < tn K s.1))) → bl K b 4 (bl K (!decide (tk K s.1 = 2)) 1 s) = bl K (decide (tn K s.1 < m) || decide (9 < tn K s.1)) 4 (bl K (!decide (tk K s.1 = 2)) 1 s) := fun b hb => bl_c (fun e => by
    have := bl_z (by decide) e
    rw [Bool.not_eq_false', decide_eq_true_eq] at this
    exact hb this.1)
  have fin : (rn K m s).2 = 0 → (hJ h 1 9).toInt32 = nI (tn K s.1) := fun e => by
    have := bl_z (by decide) (bl_z (by decide) (sp_z e)).2
    rw [Bool.not_eq_false', decide_eq_true_eq] at this
    exact (hv this.1).1
  unfold rn at h1 fin
  refine R_in rfl rfl ?_
  refine R_gs 17 rfl ?_
  rw [c.tok]
  refine R_gs 20 rfl ?_
  refine R_jdn 28 (!decide (tk K s.1 = 2)) rfl (by omega) (by omega) (by omega) (by omega) (by rw [Bool.not_eq_false', decide_eq_true_eq]; constructor <;> intro _ <;> omega) rfl rfl ?_
  refine R_gs 29 rfl ?_
  refine R_k rfl rfl (c_blameIf kO (k := 1) (by decide) c (fun h2 f2 c2 => ?_))
  refine R_gs 35 rfl ?_
  refine W_b rfl (fun hc35 => ?_) (fun hc35 => ?_)
  ·
    refine R_gs 50 rfl ?_
    refine R_k rfl rfl (c_blameIf kO (b := true) (k := 4) (by decide) c2 (fun h3 f3 c3 => ?_))
    rw [key true (fun e => by have e1 := hv e; rw [e1.1, nI_ltI (by omega) (by omega)] at hc35; rw [decide_eq_true hc35]; rfl)] at c3
    refine R_gs 54 rfl ?_
    refine R_k rfl rfl (c_step kO c3 (fun h4 f4 c4 => ?_))
    refine R_gs 58 rfl ?_
    refine W_f rfl (by first | rfl | exact ⟨rfl, by first | decide | assumption | exact Or.inl rfl | exact Or.inr rfl | exact b2i_01 _⟩) ?_
    exact h1 _ _ ((f2.trans f3).trans f4) c4 fin
  ·
    refine R_gs 41 rfl ?_
    refine W_b rfl (fun hc41 => ?_) (fun hc41 => ?_)
    ·
      refine R_gs 50 rfl ?_
      refine R_k rfl rfl (c_blameIf kO (b := false) (k := 4) (by decide) c2 (fun h3 f3 c3 => ?_))
      rw [key false (fun e => by have e1 := hv e; rw [e1.1, nI_ltI (by omega) (by omega)] at hc35; rw [e1.1, show (nI (tn K s.1) ≤ 9 ↔ tn K s.1 ≤ 9) from nI_leI (b := 9) (by omega) (by omega)] at hc41; rw [decide_eq_false hc35, decide_eq_false (by omega)]; rfl)] at c3
      refine R_gs 54 rfl ?_
      refine R_k rfl rfl (c_step kO c3 (fun h4 f4 c4 => ?_))
      refine R_gs 58 rfl ?_
      refine W_f rfl (by first | rfl | exact ⟨rfl, by first | decide | assumption | exact Or.inl rfl | exact Or.inr rfl | exact b2i_01 _⟩) ?_
      exact h1 _ _ ((f2.trans f3).trans f4) c4 fin
    ·
      refine R_gs 50 rfl ?_
      refine R_k rfl rfl (c_blameIf kO (b := true) (k := 4) (by decide) c2 (fun h3 f3 c3 => ?_))
      rw [key true (fun e => by have e1 := hv e; rw [e1.1, show (nI (tn K s.1) ≤ 9 ↔ tn K s.1 ≤ 9) from nI_leI (b := 9) (by omega) (by omega)] at hc41; rw [decide_eq_true (by omega : 9 < tn K s.1), Bool.or_true])] at c3
      refine R_gs 54 rfl ?_
      refine R_k rfl rfl (c_step kO c3 (fun h4 f4 c4 => ?_))
      refine R_gs 58 rfl ?_
      refine W_f rfl (by first | rfl | exact ⟨rfl, by first | decide | assumption | exact Or.inl rfl | exact Or.inr rfl | exact b2i_01 _⟩) ?_
      exact h1 _ _ ((f2.trans f3).trans f4) c4 fin
/-! names that are told -/
theorem pdc_add {σ : Nat} {l : List Nat} (ha : a = 143 ∨ a = 171) (c : PdC h a D) (hσ : σ ≤ 2) : PdC (wI (wI (wR (wJ (wI h a (4 + σ) (nI (dct D σ) + 1)) (a + 1) (dN D).1 (lN64 (pkC l))) (a + 3) (dN D).1 (some (1007 + σ))) (a + 2) (dN D).1 (nI (dct D σ))) a 3 (hI h a 3 + 1)) a (addN D σ l) := by
  obtain ⟨c1, c2, c3, c4, c5, c6, ⟨c7, c7'⟩, ⟨⟨c8, c8'⟩, c8''⟩, ⟨⟨c9, c9'⟩, c9''⟩⟩ := c
  have e : ∀ k, hI (wI (wI (wR (wJ (wI h a (4 + σ) (nI (dct D σ) + 1)) (a + 1) (dN D).1 (lN64 (pkC l))) (a + 3) (dN D).1 (some (1007 + σ))) (a + 2) (dN D).1 (nI (dct D σ))) a 3 (hI h a 3 + 1)) a k = if k = 3 then hI h a 3 + 1 else if k = 4 + σ then nI (dct D σ) + 1 else hI h a k := fun k => by
    rw [wI_at, wI_ne _ _ _ (by omega : a ≠ a + 2)]
    show (if k = 3 then _ else hI (wI h a (4 + σ) _) a k) = _
    rw [wI_at]
  have e' : ∀ b, b ≠ a → b ≠ a + 2 → hI (wI (wI (wR (wJ (wI h a (4 + σ) (nI (dct D σ) + 1)) (a + 1) (dN D).1 (lN64 (pkC l))) (a + 3) (dN D).1 (some (1007 + σ))) (a + 2) (dN D).1 (nI (dct D σ))) a 3 (hI h a 3 + 1)) b = hI h b := fun b h1 h2 => by
    rw [wI_ne _ _ _ h1, wI_ne _ _ _ h2]
    show hI (wI h a (4 + σ) _) b = _
    rw [wI_ne _ _ _ h1]
  refine ⟨?_, ?_, ?_, ?_, ?_, ?_, ⟨?_, ?_⟩, ⟨⟨?_, ?_⟩, ?_⟩, ⟨⟨?_, ?_⟩, ?_⟩⟩
  · rw [e, if_neg (by omega)]
    show _ = nI (if σ = 0 then dS D + 1 else dS D)
    by_cases h0 : σ = 0
    · subst h0; rw [if_pos rfl, if_pos rfl, nI_1]; rfl
    · rw [if_neg (by omega), if_neg h0]; exact c1
  · rw [e, if_neg (by omega)]
    show _ = nI (if σ = 1 then dQ D + 1 else dQ D)
    by_cases h0 : σ = 1
    · subst h0; rw [if_pos rfl, if_pos rfl, nI_1]; rfl
    · rw [if_neg (by omega), if_neg h0]; exact c2
  · rw [e, if_neg (by omega)]
    show _ = nI (if σ = 2 then dP D + 1 else dP D)
    by_cases h0 : σ = 2
    · subst h0; rw [if_pos rfl, if_pos rfl, nI_1]; rfl
    · rw [if_neg (by omega), if_neg h0]; exact c3
  · rw [e, if_neg (by omega), if_neg (by omega)]; exact c4
  · intro p hp
    rw [e' _ (by omega) (by omega), e' _ (by omega) (by omega), e' _ (by omega) (by omega)]; exact c5 p hp
  · intro p hp
    rw [e' _ (by omega) (by omega), e' _ (by omega) (by omega), e' _ (by omega) (by omega)]; exact c6 p hp
  · rw [e, if_pos rfl, c7, nI_1]; rfl
  · intro k hk
    have hk : k < (dN D).1 + 1 := hk
    have w1 : hJ (wI (wI (wR (wJ (wI h a (4 + σ) (nI (dct D σ) + 1)) (a + 1) (dN D).1 (lN64 (pkC l))) (a + 3) (dN D).1 (some (1007 + σ))) (a + 2) (dN D).1 (nI (dct D σ))) a 3 (hI h a 3 + 1)) (a + 1) k = if k = (dN D).1 then lN64 (pkC l) else hJ h (a + 1) k := wJ_at (wI h a (4 + σ) (nI (dct D σ) + 1)) (a + 1) (dN D).1 (lN64 (pkC l)) k
    have w2 : hI (wI (wI (wR (wJ (wI h a (4 + σ) (nI (dct D σ) + 1)) (a + 1) (dN D).1 (lN64 (pkC l))) (a + 3) (dN D).1 (some (1007 + σ))) (a + 2) (dN D).1 (nI (dct D σ))) a 3 (hI h a 3 + 1)) (a + 2) k = if k = (dN D).1 then nI (dct D σ) else hI h (a + 2) k := by
      rw [wI_ne _ _ _ (by omega : a + 2 ≠ a), wI_at]
      show (if k = (dN D).1 then _ else hI (wI h a (4 + σ) _) (a + 2) k) = _
      rw [wI_ne _ _ _ (by omega : a + 2 ≠ a)]
    have w3 : hR (wI (wI (wR (wJ (wI h a (4 + σ) (nI (dct D σ) + 1)) (a + 1) (dN D).1 (lN64 (pkC l))) (a + 3) (dN D).1 (some (1007 + σ))) (a + 2) (dN D).1 (nI (dct D σ))) a 3 (hI h a 3 + 1)) (a + 3) k = if k = (dN D).1 then some (1007 + σ) else hR h (a + 3) k := wR_at (wJ (wI h a (4 + σ) (nI (dct D σ) + 1)) (a + 1) (dN D).1 (lN64 (pkC l))) (a + 3) (dN D).1 (some (1007 + σ)) k
    rw [w1, w2, w3]
    show _ = lN64 (pkC (up1 (dN D).2 (dN D).1 (σ, l, dct D σ) k).2.1) ∧ _ = nI (up1 (dN D).2 (dN D).1 (σ, l, dct D σ) k).2.2 ∧ _ = some (1007 + (up1 (dN D).2 (dN D).1 (σ, l, dct D σ) k).1)
    unfold up1
    by_cases ek : k = (dN D).1
    · rw [if_pos ek, if_pos ek, if_pos ek, if_pos ek]; exact ⟨rfl, rfl, rfl⟩
    · rw [if_neg ek, if_neg ek, if_neg ek, if_neg ek]; exact c7' k (by omega)
  · rw [e' _ (by omega) (by omega)]; exact c8
  · rw [e' _ (by omega) (by omega)]; exact c8'
  · rw [e' _ (by omega) (by omega)]; exact c8''
  · rw [e' _ (by omega) (by omega)]; exact c9
  · rw [e' _ (by omega) (by omega)]; exact c9'
  · rw [e' _ (by omega) (by omega)]; exact c9''
theorem pdo_add {σ : Nat} {l : List Nat} (o : PdO D) (hσ : σ ≤ 2) (hf : dct D σ < dmx σ) (hl : LtO l) (hn : hsN (dN D) l = false) : PdO (addN D σ l) := by
  obtain ⟨o1, o2, o3, o4, o5, o6, o7⟩ := o
  have hup : ∀ τ, dct D τ ≤ dct (addN D σ l) τ := fun τ => by
    unfold dct
    show (if τ = 0 then dS D else if τ = 1 then dQ D else dP D) ≤ (if τ = 0 then (if σ = 0 then dS D + 1 else dS D) else if τ = 1 then (if σ = 1 then dQ D + 1 else dQ D) else (if σ = 2 then dP D + 1 else dP D))
    split
    · split <;> omega
    · split
      · split <;> omega
      · split <;> omega
  have hown : dct D σ < dct (addN D σ l) σ := by
    have : σ = 0 ∨ σ = 1 ∨ σ = 2 := by omega
    rcases this with rfl | rfl | rfl
    · exact Nat.lt_succ_self _
    · exact Nat.lt_succ_self _
    · exact Nat.lt_succ_self _
  have e3 : σ = 0 ∨ σ = 1 ∨ σ = 2 := by omega
  refine ⟨?_, ?_, ?_, o4, ?_, fun k hk => ?_, fun j k hjk hk => ?_⟩
  · show (if σ = 0 then dS D + 1 else dS D) ≤ 5
    split
    · rename_i e; subst e; have : dS D < 5 := hf; omega
    · exact o1
  · show (if σ = 1 then dQ D + 1 else dQ D) ≤ 4
    split
    · rename_i e; subst e; have : dQ D < 4 := hf; omega
    · exact o2
  · show (if σ = 2 then dP D + 1 else dP D) ≤ 6
    split
    · rename_i e; subst e; have : dP D < 6 := hf; omega
    · exact o3
  · show (dN D).1 + 1 ≤ (if σ = 0 then dS D + 1 else dS D) + (if σ = 1 then dQ D + 1 else dQ D) + (if σ = 2 then dP D + 1 else dP D)
    rcases e3 with rfl | rfl | rfl <;> simp <;> omega
  · have hk : k < (dN D).1 + 1 := hk
    show (up1 (dN D).2 (dN D).1 (σ, l, dct D σ) k).1 ≤ 2 ∧ LtO (up1 (dN D).2 (dN D).1 (σ, l, dct D σ) k).2.1 ∧ (up1 (dN D).2 (dN D).1 (σ, l, dct D σ) k).2.2 < dct (addN D σ l) (up1 (dN D).2 (dN D).1 (σ, l, dct D σ) k).1
    unfold up1
    by_cases ek : k = (dN D).1
    · rw [if_pos ek]; exact ⟨hσ, hl, hown⟩
    · rw [if_neg ek]
      have := o6 k (by omega)
      exact ⟨this.1, this.2.1, Nat.lt_of_lt_of_le this.2.2 (hup _)⟩
  · have hk : k < (dN D).1 + 1 := hk
    show (up1 (dN D).2 (dN D).1 (σ, l, dct D σ) j).2.1 ≠ (up1 (dN D).2 (dN D).1 (σ, l, dct D σ) k).2.1
    unfold up1
    rw [if_neg (by omega : ¬ j = (dN D).1)]
    by_cases ek : k = (dN D).1
    · rw [if_pos ek]
      have := anyN_f hn (j := j) (by omega)
      exact of_decide_eq_false this
    · rw [if_neg ek]; exact o7 j k hjk (by omega)
theorem c_addName {σ : Nat} {l : List Nat} (ha : a = 143 ∨ a = 171) (hσ : σ ≤ 2) (c : PdC h a D) (o : PdO D) (hf : dct D σ < dmx σ) (h1 : ∀ h', Fr (xda a) h h' → PdC h' a (addN D σ l) → Q (some (.int (nI (dct D σ)))) h') : Rc (d + 1) m_X7_addName [.ref a, .ref (1007 + σ), .long (lN64 (pkC l))] h Q := by
  have pa := pdc_add (l := l) ha c hσ
  obtain ⟨o1, o2, o3, o4, o5, o6, o7⟩ := o
  obtain ⟨c1, c2, c3, c4, c5, c6, ⟨c7, c7'⟩, -⟩ := c
  have nt : (dN D).1 < 15 := (by
    have e3 : σ = 0 ∨ σ = 1 ∨ σ = 2 := by omega
    rcases e3 with rfl | rfl | rfl
    · have : dS D < 5 := hf; omega
    · have : dQ D < 4 := hf; omega
    · have : dP D < 6 := hf; omega)
  rcases ha with rfl | rfl
  all_goals
    refine R_in rfl rfl ?_
    refine R_gs 4 rfl ?_
    refine W_d rfl (by omega) (by omega) (by omega) (by omega) (fun hc4 => ?_) (fun hc4 => ?_)
    ·
      have e0 : σ = 0 := (by omega)
      subst e0
      refine R_gs 61 rfl ?_
      try rw [c1]
      refine W_bf rfl (fun e => absurd ((nI_leI (a := 15) (by omega) (by omega)).mp (c7 ▸ (show (15 : Int32) ≤ hI h _ 3 from e))) (by omega)) ?_
      refine R_gs 73 rfl ?_
      refine R_ls rfl rfl (j := (dN D).1) c7 (by omega) ?_
      refine R_gs 83 rfl ?_
      refine R_ts rfl rfl rfl (j := (dN D).1) c7 (by omega) (by omega) ?_
      refine R_gs 94 rfl ?_
      refine R_is rfl rfl (j := (dN D).1) c7 (by omega) ?_
      refine R_gs 107 rfl ?_
      refine W_f rfl (by first | rfl | exact ⟨rfl, by first | decide | assumption | exact Or.inl rfl | exact Or.inr rfl | exact b2i_01 _⟩) ?_
      exact h1 _ (((((Fr.refl _ h).wI rfl).wJ rfl).wR rfl).wI rfl |>.wI rfl) pa
    ·
      refine R_gs 25 rfl ?_
      refine W_d rfl (by omega) (by omega) (by omega) (by omega) (fun hc25 => ?_) (fun hc25 => ?_)
      ·
        have e1 : σ = 1 := (by omega)
        subst e1
        refine R_gs 61 rfl ?_
        try rw [c2]
        refine W_bf rfl (fun e => absurd ((nI_leI (a := 15) (by omega) (by omega)).mp (c7 ▸ (show (15 : Int32) ≤ hI h _ 3 from e))) (by omega)) ?_
        refine R_gs 73 rfl ?_
        refine R_ls rfl rfl (j := (dN D).1) c7 (by omega) ?_
        refine R_gs 83 rfl ?_
        refine R_ts rfl rfl rfl (j := (dN D).1) c7 (by omega) (by omega) ?_
        refine R_gs 94 rfl ?_
        refine R_is rfl rfl (j := (dN D).1) c7 (by omega) ?_
        refine R_gs 107 rfl ?_
        refine W_f rfl (by first | rfl | exact ⟨rfl, by first | decide | assumption | exact Or.inl rfl | exact Or.inr rfl | exact b2i_01 _⟩) ?_
        exact h1 _ (((((Fr.refl _ h).wI rfl).wJ rfl).wR rfl).wI rfl |>.wI rfl) pa
      ·
        have e2 : σ = 2 := (by omega)
        subst e2
        refine R_gs 61 rfl ?_
        try rw [c3]
        refine W_bf rfl (fun e => absurd ((nI_leI (a := 15) (by omega) (by omega)).mp (c7 ▸ (show (15 : Int32) ≤ hI h _ 3 from e))) (by omega)) ?_
        refine R_gs 73 rfl ?_
        refine R_ls rfl rfl (j := (dN D).1) c7 (by omega) ?_
        refine R_gs 83 rfl ?_
        refine R_ts rfl rfl rfl (j := (dN D).1) c7 (by omega) (by omega) ?_
        refine R_gs 94 rfl ?_
        refine R_is rfl rfl (j := (dN D).1) c7 (by omega) ?_
        refine R_gs 107 rfl ?_
        refine W_f rfl (by first | rfl | exact ⟨rfl, by first | decide | assumption | exact Or.inl rfl | exact Or.inr rfl | exact b2i_01 _⟩) ?_
        exact h1 _ (((((Fr.refl _ h).wI rfl).wJ rfl).wR rfl).wI rfl |>.wI rfl) pa
end
