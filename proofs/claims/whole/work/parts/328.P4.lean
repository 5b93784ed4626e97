/-- where the reader stands -/
def CurC (h : AH) (K : TKs) (i : Nat) : Prop := i < K.1 ∧ hI h 1 6 = nI i ∧ hR h 1 7 = some (1000 + (K.2 i).1) ∧ hI h 1 8 = nI (K.2 i).2.1 ∧ ((K.2 i).1 = 2 → hJ h 1 9 = lN64 (K.2 i).2.2.1) ∧ ((K.2 i).2.2.2 ≠ [] → hJ h 1 9 = lN64 (pkC (K.2 i).2.2.2))
/-- the reader goes on: nothing else -/
def F1A (h h' : AH) : Prop := hI h' 1 1 = hI h 1 1 ∧ hI h' 1 5 = hI h 1 5
section
variable {d : Nat} {h h' : AH} {T : ST'} {K : TKs} {Q : Option Value → AH → Prop}
theorem TkC.fr (c : TkC h K) (f : Fr (fun q => Nat.beq q 1) h h') (e : hI h' 1 5 = hI h 1 5) : TkC h' K := ⟨e.trans c.1, fun i hi => by have := c.2 i hi; unfold TkX at *; rw [f.R rfl, f.I rfl, f.J rfl]; exact this⟩
theorem c_adv0 (hK : TkC h K) {i : Nat} (hn : K.1 ≤ 1001) (hi : i < K.1) (ht : ∀ i, i < K.1 → (K.2 i).1 < 38) (ha : hI h 1 6 = nI i - 1) (h1 : ∀ h', Fr (fun q => Nat.beq q 1) h h' → F1A h h' → CurC h' K i → Q none h') : Rc (d + 1) m_X10_advance [.ref 1] h Q := by
  have hK2 := hK.2 i hi
  unfold TkX at hK2
  obtain ⟨k1, k2, k3, k4⟩ := hK2
  have hlt : ¬ nI K.1 - 1 ≤ nI i - 1 := (by
    rw [dn_p (by omega)]
    rcases Nat.eq_zero_or_pos i with e | e
    · rw [e]; intro h9; have := Int32.le_trans (nI_pos' (n := K.1 - 1) (by omega)) h9; exact absurd this (by decide)
    · rw [dn_p e]; exact ltc (by omega) (by omega))
  refine R_in rfl rfl ?_
  refine R_gs 10 rfl ?_
  refine W_bf rfl (by rw [ha, hK.1]; exact hlt) ?_
  refine R_gs 31 rfl ?_
  rw [ha, Int32.sub_add_cancel]
  refine R_tl rfl rfl rfl (ix_nI _) (by omega) (v := .ref (1000 + (K.2 i).1)) (by show va_rf (hR h 3 i) = _; rw [k1]; rfl) ?_
  refine R_gs 57 rfl ?_
  refine R_il rfl rfl (ix_nI _) (by omega) (v := nI (K.2 i).2.1) k2 ?_
  refine R_gs 70 rfl ?_
  refine R_ll rfl rfl (ix_nI _) (by omega) (v := hJ h 5 i) rfl ?_
  refine R_gs 74 rfl ?_
  refine W_f rfl (by first | rfl | exact ⟨rfl, by first | decide | assumption | exact Or.inl rfl | exact Or.inr rfl | exact b2i_01 _⟩) ?_
  exact h1 _ ((((Fr.refl _ h).wI rfl).wR rfl).wI rfl |>.wJ rfl) ⟨rfl, rfl⟩ ⟨hi, rfl, rfl, rfl, k3, k4⟩
/-- one token on, or none behind the end -/
def nxI (K : TKs) (i : Nat) : Nat := if i + 1 < K.1 then i + 1 else i
theorem c_advance (hK : TkC h K) {i : Nat} (hn : K.1 ≤ 1001) (ht : ∀ i, i < K.1 → (K.2 i).1 < 38) (hC : CurC h K i) (h1 : ∀ h', Fr (fun q => Nat.beq q 1) h h' → F1A h h' → CurC h' K (nxI K i) → Q none h') : Rc (d + 1) m_X10_advance [.ref 1] h Q := by
  unfold nxI at h1
  by_cases e : i + 1 < K.1
  · rw [if_pos e] at h1
    exact c_adv0 hK hn e ht (by rw [hC.2.1, nI_pred]) h1
  · rw [if_neg e] at h1
    have hi := hC.1
    refine R_in rfl rfl ?_
    refine R_gs 10 rfl ?_
    refine W_bt rfl (by rw [hC.2.1, hK.1, dn_p (by omega)]; exact (nI_leI (by omega) (by omega)).mpr (by omega)) ?_
    refine W_f rfl (by first | rfl | exact ⟨rfl, by first | decide | assumption | exact Or.inl rfl | exact Or.inr rfl | exact b2i_01 _⟩) ?_
    exact h1 _ (Fr.refl _ h) ⟨rfl, rfl⟩ hC
theorem tokA_lt {T : ST'} {p : Nat} : (tokA T p).1.1 < 38 := by
  unfold tokA
  split
  · dsimp only; split
    · dsimp only; omega
    · exact fsK_lt (by omega) 38 0 (by omega)
  · split
    · dsimp only; split
      · dsimp only; omega
      · dsimp only; omega
    · exact fsK_lt (by omega) 38 0 (by omega)
/-- all tokens are tokens -/
def TkO (K : TKs) : Prop := ∀ i, i < K.1 → (K.2 i).1 < 38
theorem psh_O {K : TKs} {x : TK} (h : TkO K) (hx : x.1 < 38) : TkO (psh K x) := fun i hi => by
  show (if i = K.1 then x else K.2 i).1 < 38
  split
  · exact hx
  · exact h i (by have : i < K.1 + 1 := hi; omega)
theorem c_open (hT : TapC h T) (hO : TapOK T) (h1 : ∀ h', Fr xtp h h' → TapC h' T → TkC h' (allT T) → TkO (allT T) → (allT T).1 ≤ 1001 → CurC h' (allT T) 0 → Q none h') : Rc (d + 5) m_X10_open [.ref 1] h Q := by
  have o1 := hO.1
  refine R_in rfl rfl ?_
  refine R_gs 9 rfl ?_
  refine w_meas (W := fun (s : AH × Nat × Nat × TKs) => Rw (d + 4) Q (m_X10_open, 9, [some (.ref 1), some (.int (nI s.2.1)), some (.int (nI s.2.2.1))], [], 262, s.1)) (fun s => Fr xtp h s.1 ∧ TapC s.1 T ∧ TkC s.1 s.2.2.2 ∧ TkO s.2.2.2 ∧ s.2.1 ≤ T.1 ∧ s.2.2.1 ≤ s.2.1 ∧ s.2.2.2.1 ≤ s.2.1 ∧ cutA T T.1 0 K0 = cutA T (T.1 - s.2.1) s.2.1 s.2.2.2) (fun s => T.1 - s.2.1) (s0 := (wI h 1 5 0, 0, 0, K0)) ⟨(Fr.refl _ h).wI rfl, hT, ⟨rfl, fun i hi => absurd hi (Nat.not_lt_zero i)⟩, fun i hi => absurd hi (Nat.not_lt_zero i), Nat.zero_le _, Nat.zero_le _, Nat.zero_le _, rfl⟩ (fun s hi w => ?_)
  ·
    obtain ⟨g, p, i, K⟩ := s
    obtain ⟨i1, i2, i3, i4, i5, i6, i7, i8⟩ := hi
    dsimp only at i1 i2 i3 i4 i5 i6 i7 i8 ⊢
    refine R_gs 13 rfl ?_
    refine W_b rfl (fun hc13 => ?_) (fun hc13 => ?_)
    ·
      rw [show ((1000 : Int32) ≤ nI i ↔ 1000 ≤ i) from nI_leI (a := 1000) (by omega) (by omega)] at hc13
      refine R_gs 73 rfl ?_
      try rw [i2.1]
      have eK : cutA T T.1 0 K0 = K := (i8.trans (cut_e (by omega)))
      subst eK
      refine R_k rfl rfl (c_addToken (x := (0, T.1, 0, [])) i3 (by omega) (by dsimp only; omega) (fun e2 => absurd (show 0 = 2 from e2) (by decide)) (fun e2 => absurd rfl e2) (fun h2 f2 x2 t2 => ?_))
      refine R_gs 82 rfl ?_
      refine R_k rfl rfl (c_adv0 (i := 0) (K := allT T) (h := wI h2 1 6 (-1)) ⟨t2.1, t2.2⟩ (by show _ + 1 ≤ 1001; omega) (by show 0 < _ + 1; omega) (psh_O i4 (by dsimp only; omega)) rfl (fun h3 f3 x3 c3 => ?_))
      refine W_f rfl (by first | rfl | exact ⟨rfl, by first | decide | assumption | exact Or.inl rfl | exact Or.inr rfl | exact b2i_01 _⟩) ?_
      have t3 : TkC (wI h2 1 6 (-1)) (allT T) := ⟨t2.1, t2.2⟩
      exact h1 h3 (i1.trans (f2.trans (((Fr.refl xtp h2).wI rfl).trans (f3.mono (fun q hq => by have := Nat.eq_of_beq_eq_true hq; subst this; rfl))))) ⟨x3.1.trans ((x2.1 1 (by decide)).trans i2.1), fun j hj => (congrFun (f3.I rfl) j).trans ((congrFun (f2.I rfl) j).trans (i2.2 j hj))⟩ (t3.fr f3 x3.2) (psh_O i4 (by dsimp only; omega)) (by show _ + 1 ≤ 1001; omega) c3
    ·
      rw [show ((1000 : Int32) ≤ nI i ↔ 1000 ≤ i) from nI_leI (a := 1000) (by omega) (by omega)] at hc13
      refine R_gs 21 rfl ?_
      try rw [i2.1]
      refine W_b rfl (fun hc21 => ?_) (fun hc21 => ?_)
      ·
        rw [nI_leI (by omega) (by omega)] at hc21
        refine R_gs 73 rfl ?_
        try rw [i2.1]
        have eK : cutA T T.1 0 K0 = K := (i8.trans (cut_e (by omega)))
        subst eK
        refine R_k rfl rfl (c_addToken (x := (0, T.1, 0, [])) i3 (by omega) (by dsimp only; omega) (fun e2 => absurd (show 0 = 2 from e2) (by decide)) (fun e2 => absurd rfl e2) (fun h2 f2 x2 t2 => ?_))
        refine R_gs 82 rfl ?_
        refine R_k rfl rfl (c_adv0 (i := 0) (K := allT T) (h := wI h2 1 6 (-1)) ⟨t2.1, t2.2⟩ (by show _ + 1 ≤ 1001; omega) (by show 0 < _ + 1; omega) (psh_O i4 (by dsimp only; omega)) rfl (fun h3 f3 x3 c3 => ?_))
        refine W_f rfl (by first | rfl | exact ⟨rfl, by first | decide | assumption | exact Or.inl rfl | exact Or.inr rfl | exact b2i_01 _⟩) ?_
        have t3 : TkC (wI h2 1 6 (-1)) (allT T) := ⟨t2.1, t2.2⟩
        exact h1 h3 (i1.trans (f2.trans (((Fr.refl xtp h2).wI rfl).trans (f3.mono (fun q hq => by have := Nat.eq_of_beq_eq_true hq; subst this; rfl))))) ⟨x3.1.trans ((x2.1 1 (by decide)).trans i2.1), fun j hj => (congrFun (f3.I rfl) j).trans ((congrFun (f2.I rfl) j).trans (i2.2 j hj))⟩ (t3.fr f3 x3.2) (psh_O i4 (by dsimp only; omega)) (by show _ + 1 ≤ 1001; omega) c3
      ·
        rw [nI_leI (by omega) (by omega)] at hc21
        refine R_gs 29 rfl ?_
        have tb := tap_lt hO (i := p) (by omega)
        refine R_bl rfl rfl (Or.inl rfl) (ix_nI _) (by omega) (i2.2 p (by omega)) ?_
        refine R_gs 32 rfl ?_
        refine W_b rfl (fun hc32 => ?_) (fun hc32 => ?_)
        ·
          rw [show (nI (T.2 p) = 32 ↔ T.2 p = 32) from nI_eq (b := 32) (by omega) (by omega)] at hc32
          have hb : blk (T.2 p) = true := (by unfold blk; rw [decide_eq_true hc32]; rfl)
          refine R_gs 9 rfl ?_
          rw [nI_1, nI_1]; exact w (g, p + 1, i + 1, K) ⟨i1, i2, i3, i4, by dsimp only; omega, by dsimp only; omega, by dsimp only; omega, i8.trans (cut_b (by omega) hb)⟩ (by dsimp only; omega)
        ·
          rw [show (nI (T.2 p) = 32 ↔ T.2 p = 32) from nI_eq (b := 32) (by omega) (by omega)] at hc32
          refine R_gs 40 rfl ?_
          refine R_bl rfl rfl (Or.inl rfl) (ix_nI _) (by omega) (i2.2 p (by omega)) ?_
          refine R_gs 43 rfl ?_
          refine W_b rfl (fun hc43 => ?_) (fun hc43 => ?_)
          ·
            rw [show (nI (T.2 p) = 10 ↔ T.2 p = 10) from nI_eq (b := 10) (by omega) (by omega)] at hc43
            have hb : blk (T.2 p) = true := (by unfold blk; rw [decide_eq_true hc43, Bool.or_true])
            refine R_gs 9 rfl ?_
            rw [nI_1, nI_1]; exact w (g, p + 1, i + 1, K) ⟨i1, i2, i3, i4, by dsimp only; omega, by dsimp only; omega, by dsimp only; omega, i8.trans (cut_b (by omega) hb)⟩ (by dsimp only; omega)
          ·
            rw [show (nI (T.2 p) = 10 ↔ T.2 p = 10) from nI_eq (b := 10) (by omega) (by omega)] at hc43
            have hb : blk (T.2 p) = false := (by unfold blk; rw [decide_eq_false hc32, decide_eq_false hc43]; rfl)
            refine R_gs 54 rfl ?_
            have hp : p < T.1 := (by omega)
            refine R_k rfl rfl (c_cut i2 hO i3 (by omega) hp (fun h2 f2 x2 t2 => ?_))
            refine R_gs 9 rfl ?_
            rw [nI_1]; exact w (h2, (tokA T p).2, i + 1, psh K (tokA T p).1) ⟨i1.trans f2, ⟨(x2.1 1 (by decide)).trans i2.1, fun j hj => (congrFun (f2.I rfl) j).trans (i2.2 j hj)⟩, t2, psh_O i4 tokA_lt, (tokA_gt hp).2, by have := (tokA_gt hp).1; dsimp only; omega, by have := (tokA_gt hp).1; show K.1 + 1 ≤ (tokA T p).2; omega, i8.trans (cut_t hp hb)⟩ (by have := tokA_gt hp; dsimp only; omega)
end
