section
variable {d n : Nat} {h h' g : AH} {K : TKs} {s : RS} {D : PD} {Q : Option Value → AH → Prop}
theorem lnN_ge {σ i : Nat} (hi : i ≤ s.1) : i ≤ (lnN K σ s D).1.1 := by
  unfold lnN; dsimp only; exact sp_le (bl_le (bl_le (sp_le (bl_le hi))))
theorem lnA_ge (kO : TokOK K) (hs : s.1 < K.1) : s.1 ≤ (lnA K s D).1.1 := by
  have hi := Nat.le_refl s.1
  by_cases e7 : tk K s.1 = 7
  · rw [lnA_7 e7]; exact lnN_ge hi
  by_cases e8 : tk K s.1 = 8
  · rw [lnA_8 e8]; exact lnN_ge hi
  by_cases e9 : tk K s.1 = 9
  · rw [lnA_9 e9]; unfold lnX; dsimp only; exact rn_ge (ex_le (rk_le (ex_le (sp_le (bl_le (lnN_ge hi))))))
  by_cases e12 : tk K s.1 = 12
  · rw [lnA_12 e12]; unfold lnO; dsimp only; exact rn_ge (sp_le (bl_le (lu_le (rk_le (sp_le hi)))))
  by_cases e13 : tk K s.1 = 13
  · rw [lnA_13 e13]; unfold lnG; dsimp only; exact rn_ge (sp_le (bl_le (lu_le (rk_le (sp_le hi)))))
  by_cases e14 : tk K s.1 = 14
  · rw [lnA_14 e14]; unfold lnK; dsimp only; exact sp_le (bl_le (lu_le (rk_le (sp_le hi))))
  by_cases e15 : tk K s.1 = 15
  · rw [lnA_15 e15, lnL_0]
    have := (eE_o kO (sp K (bl K (dC D).2 3 s)) (sp_p kO (bl_p hs))).2
    have h2 := sp_le (K := K) (bl_le (K := K) (b := (dC D).2) (k := 3) hi)
    dsimp only; omega
  by_cases e16 : tk K s.1 = 16
  · rw [lnA_16 e16, lnL_1]
    have := (eE_o kO (sp K (bl K (dD D).2 3 s)) (sp_p kO (bl_p hs))).2
    have h2 := sp_le (K := K) (bl_le (K := K) (b := (dD D).2) (k := 3) hi)
    dsimp only; omega
  rw [lnA_d ⟨e7, e8, e9, e12, e13, e14, e15, e16⟩]; exact bl_le hi
theorem ex_gt {t : Nat} (kO : TokOK K) (ht : t ≠ 0) (hs : s.1 < K.1) (hz : (ex K t s).2 = 0) : s.1 < (ex K t s).1 := by
  obtain ⟨z1, z2⟩ := ex_z hz
  have hy : tz K t s = true := by unfold tz; rw [decide_eq_true z1, decide_eq_true z2]; rfl
  rw [(ex_y kO hs ht hy).1]; exact Nat.lt_succ_self _
theorem m_stands {b : Nat} (hb : b ≤ 100) (h1 : ∀ h', Fr (fun q => Nat.beq q 241) h h' → (∀ j, j < b ∨ b + 100 ≤ j → hI h' 241 j = hI h 241 j) → hI h' 241 (b + 3) = -1 → hI h' 241 (b + 4) = -1 → (∀ j, j < 100 → j ≠ 3 → j ≠ 4 → hI h' 241 (b + j) = 0) → Q none h') : Rc (d + 1) m_X13_standsAsAlways [.ref 235, .int (nI b)] h Q := by
  refine R_in rfl rfl ?_
  refine R_gs 2 rfl ?_
  refine w_inv (W := fun j (u : AH) => Rw d Q (m_X13_standsAsAlways, 2, [some (.ref 235), some (.int (nI b)), some (.int (nI j))], [], 262, u)) 100 (fun j u => Fr (fun q => Nat.beq q 241) h u ∧ (∀ i, i < b ∨ b + 100 ≤ i → hI u 241 i = hI h 241 i) ∧ ∀ i, i < j → hI u 241 (b + i) = 0) (s0 := h) ⟨Fr.refl _ h, fun _ _ => rfl, fun i hi => absurd hi (Nat.not_lt_zero i)⟩ (fun j u hj hu w => ?_) (fun u hu => ?_)
  ·
    obtain ⟨i1, i2, i3⟩ := hu
    refine R_gs 5 rfl ?_
    refine W_bf rfl (fun e => absurd ((nI_leI (a := 100) (by omega) (by omega)).mp e) (by omega)) ?_
    refine R_gs 16 rfl ?_
    rw [nI_add]
    refine R_is rfl rfl (ix_nI _) (by omega) ?_
    refine R_gs 2 rfl ?_
    rw [nI_1]; refine w _ ⟨i1.wI rfl, fun i hi => ?_, fun i hi => ?_⟩
    · rw [wI_at, if_neg (by omega)]; exact i2 i hi
    · rw [wI_at]; by_cases e : i = j; rw [if_pos (by omega)]; rw [if_neg (by omega)]; exact i3 i (by omega)
  ·
    obtain ⟨i1, i2, i3⟩ := hu
    refine R_gs 5 rfl ?_
    refine W_bt rfl (by decide) ?_
    refine R_gs 31 rfl ?_
    refine R_is rfl rfl (j := b + 3) (ix_add (ix_nI _) (ix_lit 3)) (by omega) ?_
    refine R_gs 42 rfl ?_
    refine R_is rfl rfl (j := b + 3 + 1) (ix_add (ix_add (ix_nI _) (ix_lit 3)) (ix_lit 1)) (by omega) ?_
    refine W_f rfl (by first | rfl | exact ⟨rfl, by first | decide | assumption | exact Or.inl rfl | exact Or.inr rfl | exact b2i_01 _⟩) ?_
    refine h1 _ ((i1.wI rfl).wI rfl) (fun i hi => ?_) ?_ ?_ (fun i hi a3 a4 => ?_)
    · rw [wI_at, if_neg (by omega), wI_at, if_neg (by omega)]; exact i2 i hi
    · rw [wI_at, if_neg (by omega), wI_at, if_pos rfl]
    · rw [wI_at, if_pos (by omega)]
    · rw [wI_at, if_neg (by omega), wI_at, if_neg (by omega)]; exact i3 i hi
end
/-! the model's world begins anew -/
section
variable {d n : Nat} {h h' g : AH} {L : SL} {K : TKs} {D : PD} {Q : Option Value → AH → Prop}
def ybg (q : Nat) : Bool := Nat.beq q 235 || (Nat.beq q 248 || (Nat.beq q 251 || Nat.beq q 252))
theorem m_begins (hL : LandM h L) (hO : LandOK L) (h1 : ∀ h', Fr ybg h h' → (∀ k, k ≠ 25 → hI h' 235 k = hI h 235 k) → SceneM h' 0 L (begS L) → hI h' 251 34 = 0 → hI h' 248 0 = 0 → hI h' 235 25 = 0 → (∀ m, m < 4 → hI h' 252 m = 0) → Q none h') : Rc (d + 2) m_X13_begins [.ref 235] h Q := by
  refine R_in rfl rfl ?_
  refine R_gs 2 rfl ?_
  refine R_k rfl rfl (m_starts (b := 0) hL hO (by omega) (fun h2 f2 o2 s2 => ?_))
  refine R_gs 12 rfl ?_
  refine R_is rfl rfl (j := 34) rfl (by omega) ?_
  refine R_gs 19 rfl ?_
  refine R_is rfl rfl (j := 0) rfl (by omega) ?_
  refine R_gs 27 rfl ?_
  refine w_inv (W := fun j (u : AH) => Rw (d + 1) Q (m_X13_begins, 27, [some (.ref 235), some (.int (nI j))], [], 262, u)) 4 (fun j u => Fr (fun q => Nat.beq q 252) (wI (wI (wI h2 251 34 0) 248 0 0) 235 25 0) u ∧ ∀ i, i < j → hI u 252 i = 0) ⟨Fr.refl _ _, fun i hi => absurd hi (Nat.not_lt_zero i)⟩ (fun j u hj hu w => ?_) (fun u hu => ?_)
  ·
    obtain ⟨i1, i2⟩ := hu
    refine R_gs 29 rfl ?_
    refine W_bf rfl (fun e => absurd ((nI_leI (a := 4) (by omega) (by omega)).mp e) (by omega)) ?_
    refine R_gs 38 rfl ?_
    refine R_zs rfl rfl (ix_nI _) (by omega) ?_
    refine R_gs 27 rfl ?_
    rw [nI_1]; refine w _ ⟨i1.wI rfl, fun i hi => ?_⟩
    rw [wI_at]; by_cases e : i = j; rw [if_pos e]; rfl; rw [if_neg e]; exact i2 i (by omega)
  ·
    obtain ⟨i1, i2⟩ := hu
    refine R_gs 29 rfl ?_
    refine W_bt rfl (by decide) ?_
    refine W_f rfl (by first | rfl | exact ⟨rfl, by first | decide | assumption | exact Or.inl rfl | exact Or.inr rfl | exact b2i_01 _⟩) ?_
    have F : Fr ybg h u := (((((f2.mono (fun q hq => by have := Nat.eq_of_beq_eq_true hq; subst this; rfl)).wI rfl).wI rfl).wI rfl).trans (i1.mono (fun q hq => by have := Nat.eq_of_beq_eq_true hq; subst this; rfl)))
    refine h1 _ F (fun k hk => ?_) ?_ ?_ ?_ ?_ i2
    · rw [i1.I (b := 235) rfl]; show hI (wI h2 235 25 0) 235 k = _; rw [wI_at, if_neg hk, f2.I (b := 235) rfl]
    · refine s2.cp hO (fun k hk => ?_); rw [i1.I (b := 251) rfl]; show hI (wI h2 251 34 0) 251 (0 + k) = _; rw [wI_at, if_neg (by omega)]
    · rw [i1.I (b := 251) rfl]; rfl
    · rw [i1.I (b := 248) rfl]; rfl
    · rw [i1.I (b := 235) rfl]; rfl
end
