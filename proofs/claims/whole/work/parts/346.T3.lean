/-- names as the model has them: those of the draft, or those that are told -/
def NmX (h : AH) (r : Bool) (N : SN') : Prop := hI h 235 (if r = true then 19 else 18) = nI N.1 ∧ ∀ k, k < N.1 → hJ h (if r = true then 245 else 244) k = lN64 (pkM (N.2 k).2.1) ∧ hI h (if r = true then 247 else 246) k = nI (20 * (N.2 k).1 + (N.2 k).2.2)
def fdN (N : SN') (l : List Nat) : Nat → Nat → Int32
  | _, 0 => -1
  | j, m + 1 => if (N.2 j).2.1 = l then nI (20 * (N.2 j).1 + (N.2 j).2.2) else fdN N l (j + 1) m
def NmD (N : SN') : Prop := ∀ j k, j < k → k < N.1 → (N.2 j).2.1 ≠ (N.2 k).2.1
theorem far : ∀ τ, τ < 3 → ∀ σ, σ < 3 → ∀ m, m < 6 → τ ≠ σ → ¬ (0 ≤ nI (20 * τ + m) - nI (20 * σ) ∧ nI (20 * τ + m) - nI (20 * σ) ≤ 5) := by decide +kernel
theorem far1 : ∀ σ, σ < 3 → ¬ (0 ≤ -1 - nI (20 * σ) ∧ -1 - nI (20 * σ) ≤ 5) := by decide +kernel
section
variable {d : Nat} {h h' : AH} {K : TKs} {s : RS} {N : SN'} {Q : Option Value → AH → Prop}
theorem fdN_s {l : List Nat} {j m : Nat} : fdN N l j (m + 1) = if (N.2 j).2.1 = l then nI (20 * (N.2 j).1 + (N.2 j).2.2) else fdN N l (j + 1) m := rfl
theorem fdN_n {l : List Nat} : ∀ m j, (∀ k, j ≤ k → k < j + m → (N.2 k).2.1 ≠ l) → fdN N l j m = -1
  | 0, _, _ => rfl
  | m + 1, j, hn => by rw [fdN_s, if_neg (hn j (Nat.le_refl _) (by omega))]; exact fdN_n m (j + 1) (fun k h1 h2 => hn k (by omega) (by omega))
theorem fnN_n {σ : Nat} {l : List Nat} : ∀ m j, (∀ k, j ≤ k → k < j + m → ¬ ((N.2 k).2.1 = l ∧ (N.2 k).1 = σ)) → fnN N σ l j m = -1
  | 0, _, _ => rfl
  | m + 1, j, hn => by rw [fnN_s, if_neg (hn j (Nat.le_refl _) (by omega))]; exact fnN_n m (j + 1) (fun k h1 h2 => hn k (by omega) (by omega))
theorem fdN_y {l : List Nat} {k : Nat} (hl : (N.2 k).2.1 = l) : ∀ m j, j ≤ k → k < j + m → (∀ i, j ≤ i → i < k → (N.2 i).2.1 ≠ l) → fdN N l j m = nI (20 * (N.2 k).1 + (N.2 k).2.2)
  | 0, j, h1, h2, _ => by omega
  | m + 1, j, h1, h2, h3 => by
    rw [fdN_s]
    by_cases e : j = k
    · subst e; rw [if_pos hl]
    · rw [if_neg (h3 j (Nat.le_refl _) (by omega))]
      exact fdN_y hl m (j + 1) (by omega) (by omega) (fun i q1 q2 => h3 i (by omega) q2)
theorem fnN_y {σ : Nat} {l : List Nat} {k : Nat} (hl : (N.2 k).2.1 = l) (hs : (N.2 k).1 = σ) : ∀ m j, j ≤ k → k < j + m → (∀ i, j ≤ i → i < k → (N.2 i).2.1 ≠ l) → fnN N σ l j m = nI (N.2 k).2.2
  | 0, j, h1, h2, _ => by omega
  | m + 1, j, h1, h2, h3 => by
    rw [fnN_s]
    by_cases e : j = k
    · subst e; rw [if_pos ⟨hl, hs⟩]
    · rw [if_neg (fun q => h3 j (Nat.le_refl _) (by omega) q.1)]
      exact fnN_y hl hs m (j + 1) (by omega) (by omega) (fun i q1 q2 => h3 i (by omega) q2)
/-- the model's way of looking up is the class's -/
theorem fd_fn (nO : NmO N) (nD : NmD N) {σ : Nat} (hσ : σ ≤ 2) (l : List Nat) : (fnd N σ l = -1 ∧ ¬ (0 ≤ fdN N l 0 N.1 - nI (20 * σ) ∧ fdN N l 0 N.1 - nI (20 * σ) ≤ 5)) ∨ (fnd N σ l ≠ -1 ∧ fdN N l 0 N.1 - nI (20 * σ) = fnd N σ l ∧ (0 ≤ fdN N l 0 N.1 - nI (20 * σ) ∧ fdN N l 0 N.1 - nI (20 * σ) ≤ 5)) := by
  unfold fnd
  by_cases ex : ∃ k, k < N.1 ∧ (N.2 k).2.1 = l
  · obtain ⟨k, hk, hl⟩ := ex
    have un : ∀ i, 0 ≤ i → i < k → (N.2 i).2.1 ≠ l := fun i _ hi => by rw [← hl]; exact nD i k hi hk
    have nk := nO.2 k hk
    rw [fdN_y hl N.1 0 (Nat.zero_le _) (by omega) un]
    by_cases es : (N.2 k).1 = σ
    · right
      rw [fnN_y hl es N.1 0 (Nat.zero_le _) (by omega) un, es, nI_sub (by omega), Nat.add_sub_cancel_left]
      refine ⟨fun e => ?_, rfl, nI_pos' (by omega), (nI_leI (b := 5) (by omega) (by omega)).mpr (by omega)⟩
      have := nI_pos' (n := (N.2 k).2.2) (by omega)
      rw [e] at this
      exact absurd this (by decide)
    · left
      refine ⟨fnN_n N.1 0 (fun i _ hi q => ?_), far _ (by omega) σ (by omega) _ nk.2.2 es⟩
      rcases Nat.lt_trichotomy i k with e | e | e
      · exact un i (Nat.zero_le _) e q.1
      · rw [e] at q; exact es q.2
      · exact nD k i e (by omega) (hl.trans q.1.symm)
  · left
    have hn : ∀ k, k < N.1 → (N.2 k).2.1 ≠ l := fun k hk e => ex ⟨k, hk, e⟩
    rw [fdN_n N.1 0 (fun k _ hk => hn k (by omega)), fnN_n N.1 0 (fun k _ hk q => hn k (by omega) q.1)]
    exact ⟨rfl, far1 σ (by omega)⟩
theorem MF.val (kO : TokOK K) (c : MF h K s) (hn : isNm (tk K s.1) = true) : LtO (tl K s.1) ∧ hJ h 239 s.1 = lN64 (pkM (tl K s.1)) ∧ tk K s.1 ≠ 0 := by
  have t1 := (c.tg kO).1
  have w := nmW _ t1 hn
  have g := (c.tg kO).2.2.2.1 w.1
  exact ⟨g.1, (c.1 s.1 c.2.1).2.2.2.1 g.1.1, w.2.1⟩
theorem m_find {r : Bool} (kO : TokOK K) (c : MF h K s) (hN : NmX h r N) (nO : NmO N) (hn : isNm (tk K s.1) = true) (h1 : Q (some (.int (fdN N (tl K s.1) 0 N.1))) h) : Rc (d + 1) m_X13_find [.ref 235, .int (b2i r)] h Q := by
  have n1 := nO.1
  have k1 := kO.1
  have c2 := c.2.1
  obtain ⟨lo, vl, -⟩ := c.val kO hn
  cases r
  ·
    have n9 := hN.1
    have n8 := hN.2
    simp only [if_true, if_false, Bool.false_eq_true] at n9 n8
    refine R_in rfl rfl ?_
    refine R_gs 2 rfl ?_
    refine w_inv (W := fun j (_ : Unit) => Rw d Q (m_X13_find, 2, [some (.ref 235), some (.int 0), some (.int (nI j))], [], 262, h)) N.1 (fun j _ => Q (some (.int (fdN N (tl K s.1) j (N.1 - j)))) h) (s0 := ()) h1 (fun j _ hj hi w => ?_) (fun _ hi => ?_)
    ·
      rw [show N.1 - j = N.1 - (j + 1) + 1 by omega, fdN_s] at hi
      have nj := nO.2 j hj
      obtain ⟨q1, q2⟩ := n8 j hj
      refine R_gs 4 rfl ?_
      refine W_bt rfl (by decide) ?_
      refine R_gs 18 rfl ?_
      try rw [n9]
      refine W_bf rfl (fun e => absurd ((nI_leI (by omega) (by omega)).mp e) (by omega)) ?_
      refine R_gs 22 rfl ?_
      refine W_bt rfl (by decide) ?_
      refine R_gs 39 rfl ?_
      refine R_ll rfl rfl (ix_nI _) (by omega) q1 ?_
      refine R_gs 48 rfl ?_
      refine R_ll rfl rfl (j := s.1) c.2.2.1 (by omega) vl ?_
      refine R_gs 50 rfl ?_
      refine W_b rfl (fun hc50 => ?_) (fun hc50 => ?_)
      ·
        rw [lg_eq, l64_eq nj.2.1.bM lo.bM, pkM_inj nj.2.1 lo] at hc50
        refine R_gs 54 rfl ?_
        refine W_bt rfl (by decide) ?_
        refine R_gs 71 rfl ?_
        refine R_il rfl rfl (ix_nI _) (by omega) q2 ?_
        refine W_f rfl (by first | rfl | exact ⟨rfl, by first | decide | assumption | exact Or.inl rfl | exact Or.inr rfl | exact b2i_01 _⟩) ?_
        rw [if_pos hc50] at hi; exact hi
      ·
        rw [lg_eq, l64_eq nj.2.1.bM lo.bM, pkM_inj nj.2.1 lo] at hc50
        refine R_gs 2 rfl ?_
        rw [nI_1]; rw [if_neg hc50] at hi; exact w () hi
    ·
      rw [Nat.sub_self] at hi
      refine R_gs 4 rfl ?_
      refine W_bt rfl (by decide) ?_
      refine R_gs 18 rfl ?_
      try rw [n9]
      refine W_bt rfl (Int32.le_refl _) ?_
      refine R_gs 80 rfl ?_
      refine W_f rfl (by first | rfl | exact ⟨rfl, by first | decide | assumption | exact Or.inl rfl | exact Or.inr rfl | exact b2i_01 _⟩) ?_
      exact hi
  ·
    have n9 := hN.1
    have n8 := hN.2
    simp only [if_true, if_false, Bool.false_eq_true] at n9 n8
    refine R_in rfl rfl ?_
    refine R_gs 2 rfl ?_
    refine w_inv (W := fun j (_ : Unit) => Rw d Q (m_X13_find, 2, [some (.ref 235), some (.int 1), some (.int (nI j))], [], 262, h)) N.1 (fun j _ => Q (some (.int (fdN N (tl K s.1) j (N.1 - j)))) h) (s0 := ()) h1 (fun j _ hj hi w => ?_) (fun _ hi => ?_)
    ·
      rw [show N.1 - j = N.1 - (j + 1) + 1 by omega, fdN_s] at hi
      have nj := nO.2 j hj
      obtain ⟨q1, q2⟩ := n8 j hj
      refine R_gs 4 rfl ?_
      refine W_bf rfl (by decide) ?_
      refine R_gs 18 rfl ?_
      try rw [n9]
      refine W_bf rfl (fun e => absurd ((nI_leI (by omega) (by omega)).mp e) (by omega)) ?_
      refine R_gs 22 rfl ?_
      refine W_bf rfl (by decide) ?_
      refine R_gs 30 rfl ?_
      refine R_ll rfl rfl (ix_nI _) (by omega) q1 ?_
      refine R_gs 48 rfl ?_
      refine R_ll rfl rfl (j := s.1) c.2.2.1 (by omega) vl ?_
      refine R_gs 50 rfl ?_
      refine W_b rfl (fun hc50 => ?_) (fun hc50 => ?_)
      ·
        rw [lg_eq, l64_eq nj.2.1.bM lo.bM, pkM_inj nj.2.1 lo] at hc50
        refine R_gs 54 rfl ?_
        refine W_bf rfl (by decide) ?_
        refine R_gs 62 rfl ?_
        refine R_il rfl rfl (ix_nI _) (by omega) q2 ?_
        refine R_gs 72 rfl ?_
        refine W_f rfl (by first | rfl | exact ⟨rfl, by first | decide | assumption | exact Or.inl rfl | exact Or.inr rfl | exact b2i_01 _⟩) ?_
        rw [if_pos hc50] at hi; exact hi
      ·
        rw [lg_eq, l64_eq nj.2.1.bM lo.bM, pkM_inj nj.2.1 lo] at hc50
        refine R_gs 2 rfl ?_
        rw [nI_1]; rw [if_neg hc50] at hi; exact w () hi
    ·
      rw [Nat.sub_self] at hi
      refine R_gs 4 rfl ?_
      refine W_bf rfl (by decide) ?_
      refine R_gs 18 rfl ?_
      try rw [n9]
      refine W_bt rfl (Int32.le_refl _) ?_
      refine R_gs 80 rfl ?_
      refine W_f rfl (by first | rfl | exact ⟨rfl, by first | decide | assumption | exact Or.inl rfl | exact Or.inr rfl | exact b2i_01 _⟩) ?_
      exact hi
theorem m_toldHere {r : Bool} {σ : Nat} (kO : TokOK K) (c : MF h K s) (hN : NmX h r N) (nO : NmO N) (nD : NmD N) (hσ : σ ≤ 2) (h1 : ∀ h' v, MR h h' → MF h' K (lu K N σ s).1 → ((lu K N σ s).1.2 = 0 → v = (lu K N σ s).2) → Q (some (.int v)) h') : Rc (d + 4) m_X13_toldHere [.ref 235, .int (b2i r), .int (nI (20 * σ))] h Q := by
  have bz : ∀ k, 0 < k → s.2 = 0 → ¬ (bl K true k s).2 = 0 := fun k hk hs => by rw [bl_y hs]; dsimp only; omega
  have lF : ¬ s.2 = 0 → (lu K N σ s).1 = s := fun e => by unfold lu; dsimp only; rw [bl_n (Or.inr (by rw [bl_n (Or.inr e)]; exact e)), bl_n (Or.inr e)]
  have lN : s.2 = 0 → isNm (tk K s.1) = false → (lu K N σ s).1 = bl K true 1 s := fun e e2 => by
    unfold lu; dsimp only; rw [e2, show (!false) = true from rfl, bl_n (s := bl K true 1 s) (Or.inr (bz 1 (by omega) e))]
  have lY : s.2 = 0 → isNm (tk K s.1) = true → lu K N σ s = (bl K (decide (fnd N σ (tl K s.1) = -1)) 2 s, fnd N σ (tl K s.1)) := fun e e2 => by
    unfold lu; dsimp only; rw [e2, show (!true) = false from rfl, bl_n (s := s) (k := 1) (Or.inl rfl), if_pos e]
  have fd := fd_fn nO nD hσ (tl K s.1)
  refine R_in rfl rfl ?_
  refine R_gs 4 rfl ?_
  refine W_b rfl (fun hc4 => ?_) (fun hc4 => ?_)
  ·
    rw [c.fz] at hc4
    refine R_gs 8 rfl ?_
    refine R_k rfl rfl (m_isName kO c ?_)
    rw [decide_eq_true hc4, Bool.true_and]
    refine W_b rfl (fun hc11 => ?_) (fun hc11 => ?_)
    ·
      rw [b2i0] at hc11
      refine R_gs 16 rfl ?_
      refine R_k rfl rfl (m_wrong kO (k := 1) (by decide) c (fun h2 m2 c2 => ?_))
      refine R_gs 23 rfl ?_
      refine W_bf rfl (fun e => bz 1 (by omega) hc4 (c2.fl.mp e)) ?_
      refine R_gs 42 rfl ?_
      refine W_bf rfl (fun e => bz 1 (by omega) hc4 (c2.fz.mp e)) ?_
      refine R_gs 63 rfl ?_
      refine W_bf rfl (fun e => bz 1 (by omega) hc4 (c2.fl.mp e)) ?_
      refine R_gs 71 rfl ?_
      refine W_f rfl (by first | rfl | exact ⟨rfl, by first | decide | assumption | exact Or.inl rfl | exact Or.inr rfl | exact b2i_01 _⟩) ?_
      rw [lN hc4 hc11] at h1; exact h1 _ _ m2 c2 (fun e => absurd e (bz 1 (by omega) hc4))
    ·
      rw [b2i0] at hc11
      rw [Bool.not_eq_false] at hc11
      rw [lY hc4 hc11] at h1
      dsimp only at h1
      refine R_gs 23 rfl ?_
      refine W_bt rfl (c.fl.mpr hc4) ?_
      refine R_gs 32 rfl ?_
      refine R_k rfl rfl (m_find kO c hN nO hc11 ?_)
      refine R_gs 42 rfl ?_
      refine W_bt rfl (c.fz.mpr hc4) ?_
      refine R_gs 48 rfl ?_
      refine R_k rfl rfl (m_isIn (fun hx48 => ?_) (fun hx48 => ?_))
      ·
        refine W_bf rfl (by decide) ?_
        refine R_gs 63 rfl ?_
        refine W_bt rfl (c.fl.mpr hc4) ?_
        refine R_gs 71 rfl ?_
        refine W_f rfl (by first | rfl | exact ⟨rfl, by first | decide | assumption | exact Or.inl rfl | exact Or.inr rfl | exact b2i_01 _⟩) ?_
        rw [Bool.and_eq_true, decide_eq_true_eq, decide_eq_true_eq] at hx48
        rcases fd with fd | fd
        · exact absurd hx48 fd.2
        · rw [decide_eq_false fd.1, bl_n (Or.inl rfl)] at h1; exact h1 _ _ (MR.refl h) c (fun _ => fd.2.1)
      ·
        refine W_bt rfl (by decide) ?_
        refine R_gs 56 rfl ?_
        refine R_k rfl rfl (m_wrong kO (k := 2) (by decide) c (fun h2 m2 c2 => ?_))
        refine R_gs 63 rfl ?_
        refine W_bf rfl (fun e => bz 2 (by omega) hc4 (c2.fl.mp e)) ?_
        refine R_gs 71 rfl ?_
        refine W_f rfl (by first | rfl | exact ⟨rfl, by first | decide | assumption | exact Or.inl rfl | exact Or.inr rfl | exact b2i_01 _⟩) ?_
        rw [Bool.and_eq_false_iff, decide_eq_false_iff_not, decide_eq_false_iff_not] at hx48
        rcases fd with fd | fd
        · rw [decide_eq_true fd.1] at h1; exact h1 _ _ m2 c2 (fun e => absurd e (bz 2 (by omega) hc4))
        · exact absurd hx48 (fun q => q.elim (fun q => q fd.2.2.1) (fun q => q fd.2.2.2))
  ·
    rw [c.fz] at hc4
    refine R_gs 23 rfl ?_
    refine W_bf rfl (fun e => hc4 (c.fl.mp e)) ?_
    refine R_gs 42 rfl ?_
    refine W_bf rfl (fun e => hc4 (c.fz.mp e)) ?_
    refine R_gs 63 rfl ?_
    refine W_bf rfl (fun e => hc4 (c.fl.mp e)) ?_
    refine R_gs 71 rfl ?_
    refine W_f rfl (by first | rfl | exact ⟨rfl, by first | decide | assumption | exact Or.inl rfl | exact Or.inr rfl | exact b2i_01 _⟩) ?_
    rw [lF hc4] at h1; exact h1 _ _ (MR.refl h) c (fun e => absurd e hc4)
theorem m_takeTold {r : Bool} {σ : Nat} (kO : TokOK K) (c : MF h K s) (hN : NmX h r N) (nO : NmO N) (nD : NmD N) (hσ : σ ≤ 2) (h1 : ∀ h' v, MR h h' → MF h' K (rk K N σ s).1 → ((rk K N σ s).1.2 = 0 → v = (rk K N σ s).2) → Q (some (.int v)) h') : Rc (d + 5) m_X13_takeTold [.ref 235, .int (b2i r), .int (nI (20 * σ))] h Q := by
  unfold rk at h1
  dsimp only at h1
  refine R_in rfl rfl ?_
  refine R_gs 3 rfl ?_
  refine R_k rfl rfl (m_toldHere kO c hN nO nD hσ (fun h2 v m2 c2 e2 => ?_))
  refine R_gs 16 rfl ?_
  refine W_b rfl (fun hc16 => ?_) (fun hc16 => ?_)
  ·
    rw [c2.fl] at hc16
    have lz := lu_z hc16
    have nz := (c.val kO lz.2.1).2.2
    have p1 : (lu K N σ s).1.1 = s.1 := (by unfold lu; dsimp only; rw [bl_1, bl_1])
    obtain ⟨q1, q2⟩ := sp_1 kO c2.2.1 hc16 (by rw [p1]; exact nz)
    refine R_gs 29 rfl ?_
    refine W_f rfl (by first | rfl | exact ⟨rfl, by first | decide | assumption | exact Or.inl rfl | exact Or.inr rfl | exact b2i_01 _⟩) ?_
    rw [q1] at h1; exact h1 _ _ (m2.trans (MR.w7 _ _)) (c2.st (MR.w7 _ _) q2 (by show hI h2 235 7 + 1 = _; rw [c2.2.2.1, nI_1]) (by show hI h2 235 8 = _; rw [c2.2.2.2.1, hc16]) (Nat.zero_le _)) (fun _ => e2 hc16)
  ·
    rw [c2.fl] at hc16
    refine R_gs 29 rfl ?_
    refine W_f rfl (by first | rfl | exact ⟨rfl, by first | decide | assumption | exact Or.inl rfl | exact Or.inr rfl | exact b2i_01 _⟩) ?_
    rw [sp_n hc16] at h1; exact h1 _ _ (m2.trans (MR.w7 _ _)) (c2.st (MR.w7 _ _) c2.2.1 (by show hI h2 235 7 + 0 = _; rw [c2.2.2.1, Int32.add_zero]) c2.2.2.2.1 c2.2.2.2.2.1) (fun e => absurd e hc16)
end
