section
variable {d : Nat} {h h' : AH} {L : SL} {S : SS} {H : SH'} {B : SB'} {M : SM'} {D : SD'} {T : ST'} {N : SN'} {Q : Option Value → AH → Prop}
def pvF (T : ST') : Nat := (prvA (allT T)).1.2
def pvL (T : ST') : SL := pL (prvA (allT T)).2
def pvN (T : ST') : SN' := dN (prvA (allT T)).2
theorem pv_ok (hO : TapOK T) (hf : pvF T = 0) : LandOK (pvL T) ∧ NamOK (pvL T) (pvN T) := by
  obtain ⟨i1, i2, i3, i4⟩ := prvA_I (tok_ok hO)
  have := i4 hf
  exact pL_ok i2 i3 this.1 this.2
/-- the world that a province begins -/
def RC0 (h : AH) (L : SL) (T : ST') (N : SN') (H : SH') (B : SB') (D : SD') : Prop := RC h L (begS L) (0, H.2) (0, B.2) (fun _ => none) (0, D.2) (0, T.2) N
theorem xpv_f {a q : Nat} (h1 : 5 < q) (h6 : q ≠ 6) (h2 : q < a ∨ a + 27 < q) : xpv a q = false := by
  unfold xpv; rw [xtp_f h1, xdr_f (by omega) h6 h2]; rfl
theorem xpv_0 {a : Nat} (ha : a = 143 ∨ a = 171) : xpv a 0 = false := by rcases ha with rfl | rfl <;> rfl
theorem x_province (W : WOK L S H B M D T N) (c : RC h L S H B M D T N) (h1 : ∀ h', Fr xC h h' → ¬ pvF T = 0 → RC h' L S H B M D (0, T.2) N → Q (some (.int (nI (pvF T)))) h') (h0 : ∀ h', Fr xC h h' → pvF T = 0 → RC0 h' (pvL T) T (pvN T) H B D → Q (some (.int 0)) h') : Rc (d + 42) m_X12_province [.ref 0] h Q := by
  have hO := W.1
  have tO := W.2.2.2.2.2.2.1
  have pI := prvA_I (tok_ok tO)
  have pK := pv_ok tO
  unfold pvF at h1 h0 pK
  obtain ⟨a, g, c1, c2, c3, c4, c5, c6, c7, c8, c9, c10, c11⟩ := c
  have ha := c1.1
  have hg := c1.2.1
  have e9 : va_rf (hR h 0 9) = .ref (314 - a) := vr c1.2.2.2.1
  have e8 := vr c1.2.2.1
  have e10 := vr c1.2.2.2.2.1
  have ea := c1.2.2.2.2.2
  obtain ⟨R, eR⟩ : ∃ R, R = prvA (allT T) := ⟨_, rfl⟩
  have aB : 143 ≤ a ∧ a ≤ 171 := (by omega)
  rw [← eR] at h1 h0 pI pK
  rcases ha with rfl | rfl <;> rcases hg with rfl | rfl
  ·
      refine R_in rfl rfl ?_
      refine R_gs 8 rfl ?_
      rw [show va_rf (hR h 0 9) = .ref 171 from e9]
      refine R_k rfl rfl (c_readProvince (T := T) (by decide) c10 c8 tO (fun h2 f2 p2 b2 => ?_))
      rw [← eR] at p2 b2 ⊢
      have F2 : Fr xC h h2 := f2.mono (fun q hq => xC_t (by rcases Nat.lt_or_ge 234 q with e | e; rw [xpv_f (by omega) (by omega) (by omega)] at hq; cases hq; omega))
      have g0 : hR h2 0 = hR h 0 := f2.R rfl
      have g8 : va_rf (hR h2 0 8) = .ref 143 := (by rw [g0]; exact e8)
      have g9 : va_rf (hR h2 0 9) = .ref 171 := (by rw [g0]; exact e9)
      have g10 : va_rf (hR h2 0 10) = .ref 199 := (by rw [g0]; exact e10)
      refine R_gs 21 rfl ?_
      refine W_b rfl (fun hc21 => ?_) (fun hc21 => ?_)
      ·
        rw [show (nI R.1.2 = 0 ↔ R.1.2 = 0) from nI_eq (b := 0) (by omega) (by omega)] at hc21
        refine R_gs 28 rfl ?_
        rw [show va_rf (hR (wI h2 1 1 0) 0 8) = .ref 143 from g8]
        refine R_gs 34 rfl ?_
        rw [show va_rf (hR (wI h2 1 1 0) 0 9) = .ref 171 from g9]
        refine R_gs 46 rfl ?_
        rw [show va_rf (hR (wR (wR (wI h2 1 1 0) 0 8 (some 171)) 0 9 (some 143)) 0 10) = .ref 199 from g10]
        refine R_gs 58 rfl ?_
        rw [show va_rf (hR (wI (wR (wR (wI h2 1 1 0) 0 8 (some 171)) 0 9 (some 143)) 199 3 0) 0 8) = .ref 171 from rfl]
        have pl := PdC.land p2 pI.2.1 (pI.2.2.2 hc21).1
        have pk := pK hc21
        have hL9 : LandC (wI (wR (wR (wI h2 1 1 0) 0 8 (some 171)) 0 9 (some 143)) 199 3 0) 171 (pvL T) := (by unfold pvL; rw [← eR]; exact pl.1.fr (by unfold pvL at pk; rw [← eR] at pk; exact pk.1) (X := fun q => Nat.beq q 0 || (Nat.beq q 1 || Nat.beq q 199)) ((((Fr.refl _ h2).wI rfl).wR rfl).wR rfl |>.wI rfl) (fun i h1 h2 => by rw [bq_f (by omega), bq_f (by omega), bq_f (by omega)]; rfl))
        refine R_k rfl rfl (c_begin (L := pvL T) (by decide) pk.1 hL9 (Or.inl rfl) (fun h3 f3 z3 s3 => ?_))
        refine R_gs 75 rfl ?_
        refine W_f rfl (by first | rfl | exact ⟨rfl, by first | decide | assumption | exact Or.inl rfl | exact Or.inr rfl | exact b2i_01 _⟩) ?_
        rw [hc21]
        have F3 : Fr xC h h3 := (((((F2.wI rfl).wR rfl).wR rfl).wI rfl).trans (f3.mono (fun q hq => xC_t (by simp only [xq, Bool.and_eq_true, Nat.ble_eq] at hq; omega))))
        have X3 : ∀ q, q < 7 ∨ 12 < q → xq 7 q = false := fun q hq => (by cases e : xq 7 q with | false => rfl | true => simp only [xq, Bool.and_eq_true, Nat.ble_eq] at e; omega)
        refine h0 _ ((F3.wI rfl).wI rfl) hc21 ⟨171, 199, ⟨by decide, by decide, (congrFun (f3.R rfl) 8).trans rfl, (congrFun (f3.R rfl) 9).trans rfl, (congrFun (f3.R rfl) 10).trans ?_, (congrFun (f3.R rfl) 11).trans ?_⟩, ?_⟩
        · show hR h2 0 10 = _; rw [g0]; exact c1.2.2.2.2.1
        · show hR h2 0 11 = _; rw [g0]; exact ea
        have G3 : Fr (fun q => xq 7 q || (Nat.beq q 21 || Nat.beq q 0)) (wI (wR (wR (wI h2 1 1 0) 0 8 (some 171)) 0 9 (some 143)) 199 3 0) (wI (wI h3 21 2 0) 0 12 0) := ((f3.mono (fun q hq => by rw [hq]; rfl)).wI rfl).wI rfl
        have xf : ∀ q, 12 < q → q ≠ 21 → (xq 7 q || (Nat.beq q 21 || Nat.beq q 0)) = false := fun q q1 q2 => by rw [X3 q (Or.inr q1), bq_f q2, bq_f (by omega)]; rfl
        have G9 : Fr (fun q => xpv 171 q || (xq 7 q || (Nat.beq q 21 || (Nat.beq q 0 || (Nat.beq q 1 || Nat.beq q 199))))) h (wI (wI h3 21 2 0) 0 12 0) := ((((((f2.mono (fun q hq => by rw [hq]; rfl)).wI (by decide)).wR (by decide)).wR (by decide)).wI (by decide)).trans (f3.mono (fun q hq => by rw [hq]; simp))).wI (by decide) |>.wI (by decide)
        have x9 : ∀ q, 21 < q → (q < 171 ∨ 171 + 27 < q) → q ≠ 199 → (xpv 171 q || (xq 7 q || (Nat.beq q 21 || (Nat.beq q 0 || (Nat.beq q 1 || Nat.beq q 199))))) = false := fun q q1 q2 q3 => by rw [xpv_f (by omega) (by omega) q2, X3 q (by omega), bq_f (by omega), bq_f (by omega), bq_f (by omega), bq_f q3]; rfl
        have h21 : ∀ k, hI h3 21 k = hI h 21 k := fun k => (congrFun (f3.I (b := 21) rfl) k).trans (congrFun (f2.I (b := 21) (xpv_f (by omega) (by omega) (by omega))) k)
        obtain ⟨-, x, hx, q1, -⟩ := c5
        refine ⟨hL9.fr pk.1 G3 (fun i h1 h2 => xf _ (by omega) (by omega)), ⟨s3.1, s3.2.1, s3.2.2.1, s3.2.2.2.1, s3.2.2.2.2.1, s3.2.2.2.2.2⟩, ⟨z3, fun i hi => absurd hi (Nat.not_lt_zero i)⟩, ⟨Nat.zero_le _, x, hx, (h21 1).trans q1, rfl, fun k hk => absurd hk (Nat.not_lt_zero k)⟩, ⟨fun m hm => b_0 m, fun m hm U hU => absurd hU (by simp)⟩, ⟨(congrFun (f3.I (b := 199) rfl) 3).trans rfl, fun k hk => absurd hk (Nat.not_lt_zero k)⟩, ⟨(congrFun (f3.I (b := 1) rfl) 1).trans rfl, fun i hi => absurd hi (Nat.not_lt_zero i)⟩, ?_, c10.fr G9 (x9 _ (by omega) (by omega) (by omega)) (x9 _ (by omega) (by omega) (by omega)), c11.fr G9 (x9 _ (by omega) (by omega) (by omega))⟩
        have pn : NamC (wI (wR (wR (wI h2 1 1 0) 0 8 (some 171)) 0 9 (some 143)) 199 3 0) 171 (pvN T) := (by unfold pvN; rw [← eR]; exact pl.2.fr (X := fun q => Nat.beq q 0 || (Nat.beq q 1 || Nat.beq q 199)) ((((Fr.refl _ h2).wI rfl).wR rfl).wR rfl |>.wI rfl) rfl rfl rfl rfl)
        exact pn.fr G3 (xf _ (by omega) (by omega)) (xf _ (by omega) (by omega)) (xf _ (by omega) (by omega)) (xf _ (by omega) (by omega))
      ·
        rw [show (nI R.1.2 = 0 ↔ R.1.2 = 0) from nI_eq (b := 0) (by omega) (by omega)] at hc21
        refine R_gs 75 rfl ?_
        refine W_f rfl (by first | rfl | exact ⟨rfl, by first | decide | assumption | exact Or.inl rfl | exact Or.inr rfl | exact b2i_01 _⟩) ?_
        refine h1 _ (F2.wI rfl) hc21 ⟨143, 199, ⟨by decide, by decide, by rw [show hR (wI h2 1 1 0) 0 = hR h 0 from g0]; exact c1.2.2.1, by rw [show hR (wI h2 1 1 0) 0 = hR h 0 from g0]; exact c1.2.2.2.1, by rw [show hR (wI h2 1 1 0) 0 = hR h 0 from g0]; exact c1.2.2.2.2.1, by rw [show hR (wI h2 1 1 0) 0 = hR h 0 from g0]; exact ea⟩, ?_⟩
        have G : Fr (fun q => xpv 171 q || Nat.beq q 1) h (wI h2 1 1 0) := (f2.mono (fun q hq => by rw [hq]; rfl)).wI rfl
        have xf : ∀ q, 6 < q → (q < 171 ∨ 171 + 27 < q) → (xpv 171 q || Nat.beq q 1) = false := fun q q1 q2 => by rw [xpv_f (by omega) (by omega) q2, bq_f (by omega)]; rfl
        exact ⟨c2.fr hO G (fun i h1 h2 => xf _ (by omega) (by omega)), c3.fr G (xf _ (by omega) (by omega)) (xf _ (by omega) (by omega)) (xf _ (by omega) (by omega)) (xf _ (by omega) (by omega)) (xf _ (by omega) (by omega)), c4.fr G (xf _ (by omega) (by omega)) (xf _ (by omega) (by omega)), c5.fr G (xf _ (by omega) (by omega)) (fun q _ _ => xf _ (by omega) (by omega)), c6.fr G rfl (fun q _ _ => xf _ (by omega) (by omega)), c7.fr G (xf _ (by omega) (by omega)) (xf _ (by omega) (by omega)) (xf _ (by omega) (by omega)) (xf _ (by omega) (by omega)), ⟨rfl, fun i hi => absurd hi (Nat.not_lt_zero i)⟩, c9.fr G (xf _ (by omega) (by omega)) (xf _ (by omega) (by omega)) (xf _ (by omega) (by omega)) (xf _ (by omega) (by omega)), c10.fr G (xf _ (by omega) (by omega)) (xf _ (by omega) (by omega)), c11.fr G (xf _ (by omega) (by omega))⟩
  ·
      refine R_in rfl rfl ?_
      refine R_gs 8 rfl ?_
      rw [show va_rf (hR h 0 9) = .ref 171 from e9]
      refine R_k rfl rfl (c_readProvince (T := T) (by decide) c10 c8 tO (fun h2 f2 p2 b2 => ?_))
      rw [← eR] at p2 b2 ⊢
      have F2 : Fr xC h h2 := f2.mono (fun q hq => xC_t (by rcases Nat.lt_or_ge 234 q with e | e; rw [xpv_f (by omega) (by omega) (by omega)] at hq; cases hq; omega))
      have g0 : hR h2 0 = hR h 0 := f2.R rfl
      have g8 : va_rf (hR h2 0 8) = .ref 143 := (by rw [g0]; exact e8)
      have g9 : va_rf (hR h2 0 9) = .ref 171 := (by rw [g0]; exact e9)
      have g10 : va_rf (hR h2 0 10) = .ref 203 := (by rw [g0]; exact e10)
      refine R_gs 21 rfl ?_
      refine W_b rfl (fun hc21 => ?_) (fun hc21 => ?_)
      ·
        rw [show (nI R.1.2 = 0 ↔ R.1.2 = 0) from nI_eq (b := 0) (by omega) (by omega)] at hc21
        refine R_gs 28 rfl ?_
        rw [show va_rf (hR (wI h2 1 1 0) 0 8) = .ref 143 from g8]
        refine R_gs 34 rfl ?_
        rw [show va_rf (hR (wI h2 1 1 0) 0 9) = .ref 171 from g9]
        refine R_gs 46 rfl ?_
        rw [show va_rf (hR (wR (wR (wI h2 1 1 0) 0 8 (some 171)) 0 9 (some 143)) 0 10) = .ref 203 from g10]
        refine R_gs 58 rfl ?_
        rw [show va_rf (hR (wI (wR (wR (wI h2 1 1 0) 0 8 (some 171)) 0 9 (some 143)) 203 3 0) 0 8) = .ref 171 from rfl]
        have pl := PdC.land p2 pI.2.1 (pI.2.2.2 hc21).1
        have pk := pK hc21
        have hL9 : LandC (wI (wR (wR (wI h2 1 1 0) 0 8 (some 171)) 0 9 (some 143)) 203 3 0) 171 (pvL T) := (by unfold pvL; rw [← eR]; exact pl.1.fr (by unfold pvL at pk; rw [← eR] at pk; exact pk.1) (X := fun q => Nat.beq q 0 || (Nat.beq q 1 || Nat.beq q 203)) ((((Fr.refl _ h2).wI rfl).wR rfl).wR rfl |>.wI rfl) (fun i h1 h2 => by rw [bq_f (by omega), bq_f (by omega), bq_f (by omega)]; rfl))
        refine R_k rfl rfl (c_begin (L := pvL T) (by decide) pk.1 hL9 (Or.inl rfl) (fun h3 f3 z3 s3 => ?_))
        refine R_gs 75 rfl ?_
        refine W_f rfl (by first | rfl | exact ⟨rfl, by first | decide | assumption | exact Or.inl rfl | exact Or.inr rfl | exact b2i_01 _⟩) ?_
        rw [hc21]
        have F3 : Fr xC h h3 := (((((F2.wI rfl).wR rfl).wR rfl).wI rfl).trans (f3.mono (fun q hq => xC_t (by simp only [xq, Bool.and_eq_true, Nat.ble_eq] at hq; omega))))
        have X3 : ∀ q, q < 7 ∨ 12 < q → xq 7 q = false := fun q hq => (by cases e : xq 7 q with | false => rfl | true => simp only [xq, Bool.and_eq_true, Nat.ble_eq] at e; omega)
        refine h0 _ ((F3.wI rfl).wI rfl) hc21 ⟨171, 203, ⟨by decide, by decide, (congrFun (f3.R rfl) 8).trans rfl, (congrFun (f3.R rfl) 9).trans rfl, (congrFun (f3.R rfl) 10).trans ?_, (congrFun (f3.R rfl) 11).trans ?_⟩, ?_⟩
        · show hR h2 0 10 = _; rw [g0]; exact c1.2.2.2.2.1
        · show hR h2 0 11 = _; rw [g0]; exact ea
        have G3 : Fr (fun q => xq 7 q || (Nat.beq q 21 || Nat.beq q 0)) (wI (wR (wR (wI h2 1 1 0) 0 8 (some 171)) 0 9 (some 143)) 203 3 0) (wI (wI h3 21 2 0) 0 12 0) := ((f3.mono (fun q hq => by rw [hq]; rfl)).wI rfl).wI rfl
        have xf : ∀ q, 12 < q → q ≠ 21 → (xq 7 q || (Nat.beq q 21 || Nat.beq q 0)) = false := fun q q1 q2 => by rw [X3 q (Or.inr q1), bq_f q2, bq_f (by omega)]; rfl
        have G9 : Fr (fun q => xpv 171 q || (xq 7 q || (Nat.beq q 21 || (Nat.beq q 0 || (Nat.beq q 1 || Nat.beq q 203))))) h (wI (wI h3 21 2 0) 0 12 0) := ((((((f2.mono (fun q hq => by rw [hq]; rfl)).wI (by decide)).wR (by decide)).wR (by decide)).wI (by decide)).trans (f3.mono (fun q hq => by rw [hq]; simp))).wI (by decide) |>.wI (by decide)
        have x9 : ∀ q, 21 < q → (q < 171 ∨ 171 + 27 < q) → q ≠ 203 → (xpv 171 q || (xq 7 q || (Nat.beq q 21 || (Nat.beq q 0 || (Nat.beq q 1 || Nat.beq q 203))))) = false := fun q q1 q2 q3 => by rw [xpv_f (by omega) (by omega) q2, X3 q (by omega), bq_f (by omega), bq_f (by omega), bq_f (by omega), bq_f q3]; rfl
        have h21 : ∀ k, hI h3 21 k = hI h 21 k := fun k => (congrFun (f3.I (b := 21) rfl) k).trans (congrFun (f2.I (b := 21) (xpv_f (by omega) (by omega) (by omega))) k)
        obtain ⟨-, x, hx, q1, -⟩ := c5
        refine ⟨hL9.fr pk.1 G3 (fun i h1 h2 => xf _ (by omega) (by omega)), ⟨s3.1, s3.2.1, s3.2.2.1, s3.2.2.2.1, s3.2.2.2.2.1, s3.2.2.2.2.2⟩, ⟨z3, fun i hi => absurd hi (Nat.not_lt_zero i)⟩, ⟨Nat.zero_le _, x, hx, (h21 1).trans q1, rfl, fun k hk => absurd hk (Nat.not_lt_zero k)⟩, ⟨fun m hm => b_0 m, fun m hm U hU => absurd hU (by simp)⟩, ⟨(congrFun (f3.I (b := 203) rfl) 3).trans rfl, fun k hk => absurd hk (Nat.not_lt_zero k)⟩, ⟨(congrFun (f3.I (b := 1) rfl) 1).trans rfl, fun i hi => absurd hi (Nat.not_lt_zero i)⟩, ?_, c10.fr G9 (x9 _ (by omega) (by omega) (by omega)) (x9 _ (by omega) (by omega) (by omega)), c11.fr G9 (x9 _ (by omega) (by omega) (by omega))⟩
        have pn : NamC (wI (wR (wR (wI h2 1 1 0) 0 8 (some 171)) 0 9 (some 143)) 203 3 0) 171 (pvN T) := (by unfold pvN; rw [← eR]; exact pl.2.fr (X := fun q => Nat.beq q 0 || (Nat.beq q 1 || Nat.beq q 203)) ((((Fr.refl _ h2).wI rfl).wR rfl).wR rfl |>.wI rfl) rfl rfl rfl rfl)
        exact pn.fr G3 (xf _ (by omega) (by omega)) (xf _ (by omega) (by omega)) (xf _ (by omega) (by omega)) (xf _ (by omega) (by omega))
      ·
        rw [show (nI R.1.2 = 0 ↔ R.1.2 = 0) from nI_eq (b := 0) (by omega) (by omega)] at hc21
        refine R_gs 75 rfl ?_
        refine W_f rfl (by first | rfl | exact ⟨rfl, by first | decide | assumption | exact Or.inl rfl | exact Or.inr rfl | exact b2i_01 _⟩) ?_
        refine h1 _ (F2.wI rfl) hc21 ⟨143, 203, ⟨by decide, by decide, by rw [show hR (wI h2 1 1 0) 0 = hR h 0 from g0]; exact c1.2.2.1, by rw [show hR (wI h2 1 1 0) 0 = hR h 0 from g0]; exact c1.2.2.2.1, by rw [show hR (wI h2 1 1 0) 0 = hR h 0 from g0]; exact c1.2.2.2.2.1, by rw [show hR (wI h2 1 1 0) 0 = hR h 0 from g0]; exact ea⟩, ?_⟩
        have G : Fr (fun q => xpv 171 q || Nat.beq q 1) h (wI h2 1 1 0) := (f2.mono (fun q hq => by rw [hq]; rfl)).wI rfl
        have xf : ∀ q, 6 < q → (q < 171 ∨ 171 + 27 < q) → (xpv 171 q || Nat.beq q 1) = false := fun q q1 q2 => by rw [xpv_f (by omega) (by omega) q2, bq_f (by omega)]; rfl
        exact ⟨c2.fr hO G (fun i h1 h2 => xf _ (by omega) (by omega)), c3.fr G (xf _ (by omega) (by omega)) (xf _ (by omega) (by omega)) (xf _ (by omega) (by omega)) (xf _ (by omega) (by omega)) (xf _ (by omega) (by omega)), c4.fr G (xf _ (by omega) (by omega)) (xf _ (by omega) (by omega)), c5.fr G (xf _ (by omega) (by omega)) (fun q _ _ => xf _ (by omega) (by omega)), c6.fr G rfl (fun q _ _ => xf _ (by omega) (by omega)), c7.fr G (xf _ (by omega) (by omega)) (xf _ (by omega) (by omega)) (xf _ (by omega) (by omega)) (xf _ (by omega) (by omega)), ⟨rfl, fun i hi => absurd hi (Nat.not_lt_zero i)⟩, c9.fr G (xf _ (by omega) (by omega)) (xf _ (by omega) (by omega)) (xf _ (by omega) (by omega)) (xf _ (by omega) (by omega)), c10.fr G (xf _ (by omega) (by omega)) (xf _ (by omega) (by omega)), c11.fr G (xf _ (by omega) (by omega))⟩
  ·
      refine R_in rfl rfl ?_
      refine R_gs 8 rfl ?_
      rw [show va_rf (hR h 0 9) = .ref 143 from e9]
      refine R_k rfl rfl (c_readProvince (T := T) (by decide) c10 c8 tO (fun h2 f2 p2 b2 => ?_))
      rw [← eR] at p2 b2 ⊢
      have F2 : Fr xC h h2 := f2.mono (fun q hq => xC_t (by rcases Nat.lt_or_ge 234 q with e | e; rw [xpv_f (by omega) (by omega) (by omega)] at hq; cases hq; omega))
      have g0 : hR h2 0 = hR h 0 := f2.R rfl
      have g8 : va_rf (hR h2 0 8) = .ref 171 := (by rw [g0]; exact e8)
      have g9 : va_rf (hR h2 0 9) = .ref 143 := (by rw [g0]; exact e9)
      have g10 : va_rf (hR h2 0 10) = .ref 199 := (by rw [g0]; exact e10)
      refine R_gs 21 rfl ?_
      refine W_b rfl (fun hc21 => ?_) (fun hc21 => ?_)
      ·
        rw [show (nI R.1.2 = 0 ↔ R.1.2 = 0) from nI_eq (b := 0) (by omega) (by omega)] at hc21
        refine R_gs 28 rfl ?_
        rw [show va_rf (hR (wI h2 1 1 0) 0 8) = .ref 171 from g8]
        refine R_gs 34 rfl ?_
        rw [show va_rf (hR (wI h2 1 1 0) 0 9) = .ref 143 from g9]
        refine R_gs 46 rfl ?_
        rw [show va_rf (hR (wR (wR (wI h2 1 1 0) 0 8 (some 143)) 0 9 (some 171)) 0 10) = .ref 199 from g10]
        refine R_gs 58 rfl ?_
        rw [show va_rf (hR (wI (wR (wR (wI h2 1 1 0) 0 8 (some 143)) 0 9 (some 171)) 199 3 0) 0 8) = .ref 143 from rfl]
        have pl := PdC.land p2 pI.2.1 (pI.2.2.2 hc21).1
        have pk := pK hc21
        have hL9 : LandC (wI (wR (wR (wI h2 1 1 0) 0 8 (some 143)) 0 9 (some 171)) 199 3 0) 143 (pvL T) := (by unfold pvL; rw [← eR]; exact pl.1.fr (by unfold pvL at pk; rw [← eR] at pk; exact pk.1) (X := fun q => Nat.beq q 0 || (Nat.beq q 1 || Nat.beq q 199)) ((((Fr.refl _ h2).wI rfl).wR rfl).wR rfl |>.wI rfl) (fun i h1 h2 => by rw [bq_f (by omega), bq_f (by omega), bq_f (by omega)]; rfl))
        refine R_k rfl rfl (c_begin (L := pvL T) (by decide) pk.1 hL9 (Or.inl rfl) (fun h3 f3 z3 s3 => ?_))
        refine R_gs 75 rfl ?_
        refine W_f rfl (by first | rfl | exact ⟨rfl, by first | decide | assumption | exact Or.inl rfl | exact Or.inr rfl | exact b2i_01 _⟩) ?_
        rw [hc21]
        have F3 : Fr xC h h3 := (((((F2.wI rfl).wR rfl).wR rfl).wI rfl).trans (f3.mono (fun q hq => xC_t (by simp only [xq, Bool.and_eq_true, Nat.ble_eq] at hq; omega))))
        have X3 : ∀ q, q < 7 ∨ 12 < q → xq 7 q = false := fun q hq => (by cases e : xq 7 q with | false => rfl | true => simp only [xq, Bool.and_eq_true, Nat.ble_eq] at e; omega)
        refine h0 _ ((F3.wI rfl).wI rfl) hc21 ⟨143, 199, ⟨by decide, by decide, (congrFun (f3.R rfl) 8).trans rfl, (congrFun (f3.R rfl) 9).trans rfl, (congrFun (f3.R rfl) 10).trans ?_, (congrFun (f3.R rfl) 11).trans ?_⟩, ?_⟩
        · show hR h2 0 10 = _; rw [g0]; exact c1.2.2.2.2.1
        · show hR h2 0 11 = _; rw [g0]; exact ea
        have G3 : Fr (fun q => xq 7 q || (Nat.beq q 21 || Nat.beq q 0)) (wI (wR (wR (wI h2 1 1 0) 0 8 (some 143)) 0 9 (some 171)) 199 3 0) (wI (wI h3 21 2 0) 0 12 0) := ((f3.mono (fun q hq => by rw [hq]; rfl)).wI rfl).wI rfl
        have xf : ∀ q, 12 < q → q ≠ 21 → (xq 7 q || (Nat.beq q 21 || Nat.beq q 0)) = false := fun q q1 q2 => by rw [X3 q (Or.inr q1), bq_f q2, bq_f (by omega)]; rfl
        have G9 : Fr (fun q => xpv 143 q || (xq 7 q || (Nat.beq q 21 || (Nat.beq q 0 || (Nat.beq q 1 || Nat.beq q 199))))) h (wI (wI h3 21 2 0) 0 12 0) := ((((((f2.mono (fun q hq => by rw [hq]; rfl)).wI (by decide)).wR (by decide)).wR (by decide)).wI (by decide)).trans (f3.mono (fun q hq => by rw [hq]; simp))).wI (by decide) |>.wI (by decide)
        have x9 : ∀ q, 21 < q → (q < 143 ∨ 143 + 27 < q) → q ≠ 199 → (xpv 143 q || (xq 7 q || (Nat.beq q 21 || (Nat.beq q 0 || (Nat.beq q 1 || Nat.beq q 199))))) = false := fun q q1 q2 q3 => by rw [xpv_f (by omega) (by omega) q2, X3 q (by omega), bq_f (by omega), bq_f (by omega), bq_f (by omega), bq_f q3]; rfl
        have h21 : ∀ k, hI h3 21 k = hI h 21 k := fun k => (congrFun (f3.I (b := 21) rfl) k).trans (congrFun (f2.I (b := 21) (xpv_f (by omega) (by omega) (by omega))) k)
        obtain ⟨-, x, hx, q1, -⟩ := c5
        refine ⟨hL9.fr pk.1 G3 (fun i h1 h2 => xf _ (by omega) (by omega)), ⟨s3.1, s3.2.1, s3.2.2.1, s3.2.2.2.1, s3.2.2.2.2.1, s3.2.2.2.2.2⟩, ⟨z3, fun i hi => absurd hi (Nat.not_lt_zero i)⟩, ⟨Nat.zero_le _, x, hx, (h21 1).trans q1, rfl, fun k hk => absurd hk (Nat.not_lt_zero k)⟩, ⟨fun m hm => b_0 m, fun m hm U hU => absurd hU (by simp)⟩, ⟨(congrFun (f3.I (b := 199) rfl) 3).trans rfl, fun k hk => absurd hk (Nat.not_lt_zero k)⟩, ⟨(congrFun (f3.I (b := 1) rfl) 1).trans rfl, fun i hi => absurd hi (Nat.not_lt_zero i)⟩, ?_, c10.fr G9 (x9 _ (by omega) (by omega) (by omega)) (x9 _ (by omega) (by omega) (by omega)), c11.fr G9 (x9 _ (by omega) (by omega) (by omega))⟩
        have pn : NamC (wI (wR (wR (wI h2 1 1 0) 0 8 (some 143)) 0 9 (some 171)) 199 3 0) 143 (pvN T) := (by unfold pvN; rw [← eR]; exact pl.2.fr (X := fun q => Nat.beq q 0 || (Nat.beq q 1 || Nat.beq q 199)) ((((Fr.refl _ h2).wI rfl).wR rfl).wR rfl |>.wI rfl) rfl rfl rfl rfl)
        exact pn.fr G3 (xf _ (by omega) (by omega)) (xf _ (by omega) (by omega)) (xf _ (by omega) (by omega)) (xf _ (by omega) (by omega))
      ·
        rw [show (nI R.1.2 = 0 ↔ R.1.2 = 0) from nI_eq (b := 0) (by omega) (by omega)] at hc21
        refine R_gs 75 rfl ?_
        refine W_f rfl (by first | rfl | exact ⟨rfl, by first | decide | assumption | exact Or.inl rfl | exact Or.inr rfl | exact b2i_01 _⟩) ?_
        refine h1 _ (F2.wI rfl) hc21 ⟨171, 199, ⟨by decide, by decide, by rw [show hR (wI h2 1 1 0) 0 = hR h 0 from g0]; exact c1.2.2.1, by rw [show hR (wI h2 1 1 0) 0 = hR h 0 from g0]; exact c1.2.2.2.1, by rw [show hR (wI h2 1 1 0) 0 = hR h 0 from g0]; exact c1.2.2.2.2.1, by rw [show hR (wI h2 1 1 0) 0 = hR h 0 from g0]; exact ea⟩, ?_⟩
        have G : Fr (fun q => xpv 143 q || Nat.beq q 1) h (wI h2 1 1 0) := (f2.mono (fun q hq => by rw [hq]; rfl)).wI rfl
        have xf : ∀ q, 6 < q → (q < 143 ∨ 143 + 27 < q) → (xpv 143 q || Nat.beq q 1) = false := fun q q1 q2 => by rw [xpv_f (by omega) (by omega) q2, bq_f (by omega)]; rfl
        exact ⟨c2.fr hO G (fun i h1 h2 => xf _ (by omega) (by omega)), c3.fr G (xf _ (by omega) (by omega)) (xf _ (by omega) (by omega)) (xf _ (by omega) (by omega)) (xf _ (by omega) (by omega)) (xf _ (by omega) (by omega)), c4.fr G (xf _ (by omega) (by omega)) (xf _ (by omega) (by omega)), c5.fr G (xf _ (by omega) (by omega)) (fun q _ _ => xf _ (by omega) (by omega)), c6.fr G rfl (fun q _ _ => xf _ (by omega) (by omega)), c7.fr G (xf _ (by omega) (by omega)) (xf _ (by omega) (by omega)) (xf _ (by omega) (by omega)) (xf _ (by omega) (by omega)), ⟨rfl, fun i hi => absurd hi (Nat.not_lt_zero i)⟩, c9.fr G (xf _ (by omega) (by omega)) (xf _ (by omega) (by omega)) (xf _ (by omega) (by omega)) (xf _ (by omega) (by omega)), c10.fr G (xf _ (by omega) (by omega)) (xf _ (by omega) (by omega)), c11.fr G (xf _ (by omega) (by omega))⟩
  ·
      refine R_in rfl rfl ?_
      refine R_gs 8 rfl ?_
      rw [show va_rf (hR h 0 9) = .ref 143 from e9]
      refine R_k rfl rfl (c_readProvince (T := T) (by decide) c10 c8 tO (fun h2 f2 p2 b2 => ?_))
      rw [← eR] at p2 b2 ⊢
      have F2 : Fr xC h h2 := f2.mono (fun q hq => xC_t (by rcases Nat.lt_or_ge 234 q with e | e; rw [xpv_f (by omega) (by omega) (by omega)] at hq; cases hq; omega))
      have g0 : hR h2 0 = hR h 0 := f2.R rfl
      have g8 : va_rf (hR h2 0 8) = .ref 171 := (by rw [g0]; exact e8)
      have g9 : va_rf (hR h2 0 9) = .ref 143 := (by rw [g0]; exact e9)
      have g10 : va_rf (hR h2 0 10) = .ref 203 := (by rw [g0]; exact e10)
      refine R_gs 21 rfl ?_
      refine W_b rfl (fun hc21 => ?_) (fun hc21 => ?_)
      ·
        rw [show (nI R.1.2 = 0 ↔ R.1.2 = 0) from nI_eq (b := 0) (by omega) (by omega)] at hc21
        refine R_gs 28 rfl ?_
        rw [show va_rf (hR (wI h2 1 1 0) 0 8) = .ref 171 from g8]
        refine R_gs 34 rfl ?_
        rw [show va_rf (hR (wI h2 1 1 0) 0 9) = .ref 143 from g9]
        refine R_gs 46 rfl ?_
        rw [show va_rf (hR (wR (wR (wI h2 1 1 0) 0 8 (some 143)) 0 9 (some 171)) 0 10) = .ref 203 from g10]
        refine R_gs 58 rfl ?_
        rw [show va_rf (hR (wI (wR (wR (wI h2 1 1 0) 0 8 (some 143)) 0 9 (some 171)) 203 3 0) 0 8) = .ref 143 from rfl]
        have pl := PdC.land p2 pI.2.1 (pI.2.2.2 hc21).1
        have pk := pK hc21
        have hL9 : LandC (wI (wR (wR (wI h2 1 1 0) 0 8 (some 143)) 0 9 (some 171)) 203 3 0) 143 (pvL T) := (by unfold pvL; rw [← eR]; exact pl.1.fr (by unfold pvL at pk; rw [← eR] at pk; exact pk.1) (X := fun q => Nat.beq q 0 || (Nat.beq q 1 || Nat.beq q 203)) ((((Fr.refl _ h2).wI rfl).wR rfl).wR rfl |>.wI rfl) (fun i h1 h2 => by rw [bq_f (by omega), bq_f (by omega), bq_f (by omega)]; rfl))
        refine R_k rfl rfl (c_begin (L := pvL T) (by decide) pk.1 hL9 (Or.inl rfl) (fun h3 f3 z3 s3 => ?_))
        refine R_gs 75 rfl ?_
        refine W_f rfl (by first | rfl | exact ⟨rfl, by first | decide | assumption | exact Or.inl rfl | exact Or.inr rfl | exact b2i_01 _⟩) ?_
        rw [hc21]
        have F3 : Fr xC h h3 := (((((F2.wI rfl).wR rfl).wR rfl).wI rfl).trans (f3.mono (fun q hq => xC_t (by simp only [xq, Bool.and_eq_true, Nat.ble_eq] at hq; omega))))
        have X3 : ∀ q, q < 7 ∨ 12 < q → xq 7 q = false := fun q hq => (by cases e : xq 7 q with | false => rfl | true => simp only [xq, Bool.and_eq_true, Nat.ble_eq] at e; omega)
        refine h0 _ ((F3.wI rfl).wI rfl) hc21 ⟨143, 203, ⟨by decide, by decide, (congrFun (f3.R rfl) 8).trans rfl, (congrFun (f3.R rfl) 9).trans rfl, (congrFun (f3.R rfl) 10).trans ?_, (congrFun (f3.R rfl) 11).trans ?_⟩, ?_⟩
        · show hR h2 0 10 = _; rw [g0]; exact c1.2.2.2.2.1
        · show hR h2 0 11 = _; rw [g0]; exact ea
        have G3 : Fr (fun q => xq 7 q || (Nat.beq q 21 || Nat.beq q 0)) (wI (wR (wR (wI h2 1 1 0) 0 8 (some 143)) 0 9 (some 171)) 203 3 0) (wI (wI h3 21 2 0) 0 12 0) := ((f3.mono (fun q hq => by rw [hq]; rfl)).wI rfl).wI rfl
        have xf : ∀ q, 12 < q → q ≠ 21 → (xq 7 q || (Nat.beq q 21 || Nat.beq q 0)) = false := fun q q1 q2 => by rw [X3 q (Or.inr q1), bq_f q2, bq_f (by omega)]; rfl
        have G9 : Fr (fun q => xpv 143 q || (xq 7 q || (Nat.beq q 21 || (Nat.beq q 0 || (Nat.beq q 1 || Nat.beq q 203))))) h (wI (wI h3 21 2 0) 0 12 0) := ((((((f2.mono (fun q hq => by rw [hq]; rfl)).wI (by decide)).wR (by decide)).wR (by decide)).wI (by decide)).trans (f3.mono (fun q hq => by rw [hq]; simp))).wI (by decide) |>.wI (by decide)
        have x9 : ∀ q, 21 < q → (q < 143 ∨ 143 + 27 < q) → q ≠ 203 → (xpv 143 q || (xq 7 q || (Nat.beq q 21 || (Nat.beq q 0 || (Nat.beq q 1 || Nat.beq q 203))))) = false := fun q q1 q2 q3 => by rw [xpv_f (by omega) (by omega) q2, X3 q (by omega), bq_f (by omega), bq_f (by omega), bq_f (by omega), bq_f q3]; rfl
        have h21 : ∀ k, hI h3 21 k = hI h 21 k := fun k => (congrFun (f3.I (b := 21) rfl) k).trans (congrFun (f2.I (b := 21) (xpv_f (by omega) (by omega) (by omega))) k)
        obtain ⟨-, x, hx, q1, -⟩ := c5
        refine ⟨hL9.fr pk.1 G3 (fun i h1 h2 => xf _ (by omega) (by omega)), ⟨s3.1, s3.2.1, s3.2.2.1, s3.2.2.2.1, s3.2.2.2.2.1, s3.2.2.2.2.2⟩, ⟨z3, fun i hi => absurd hi (Nat.not_lt_zero i)⟩, ⟨Nat.zero_le _, x, hx, (h21 1).trans q1, rfl, fun k hk => absurd hk (Nat.not_lt_zero k)⟩, ⟨fun m hm => b_0 m, fun m hm U hU => absurd hU (by simp)⟩, ⟨(congrFun (f3.I (b := 203) rfl) 3).trans rfl, fun k hk => absurd hk (Nat.not_lt_zero k)⟩, ⟨(congrFun (f3.I (b := 1) rfl) 1).trans rfl, fun i hi => absurd hi (Nat.not_lt_zero i)⟩, ?_, c10.fr G9 (x9 _ (by omega) (by omega) (by omega)) (x9 _ (by omega) (by omega) (by omega)), c11.fr G9 (x9 _ (by omega) (by omega) (by omega))⟩
        have pn : NamC (wI (wR (wR (wI h2 1 1 0) 0 8 (some 143)) 0 9 (some 171)) 203 3 0) 143 (pvN T) := (by unfold pvN; rw [← eR]; exact pl.2.fr (X := fun q => Nat.beq q 0 || (Nat.beq q 1 || Nat.beq q 203)) ((((Fr.refl _ h2).wI rfl).wR rfl).wR rfl |>.wI rfl) rfl rfl rfl rfl)
        exact pn.fr G3 (xf _ (by omega) (by omega)) (xf _ (by omega) (by omega)) (xf _ (by omega) (by omega)) (xf _ (by omega) (by omega))
      ·
        rw [show (nI R.1.2 = 0 ↔ R.1.2 = 0) from nI_eq (b := 0) (by omega) (by omega)] at hc21
        refine R_gs 75 rfl ?_
        refine W_f rfl (by first | rfl | exact ⟨rfl, by first | decide | assumption | exact Or.inl rfl | exact Or.inr rfl | exact b2i_01 _⟩) ?_
        refine h1 _ (F2.wI rfl) hc21 ⟨171, 203, ⟨by decide, by decide, by rw [show hR (wI h2 1 1 0) 0 = hR h 0 from g0]; exact c1.2.2.1, by rw [show hR (wI h2 1 1 0) 0 = hR h 0 from g0]; exact c1.2.2.2.1, by rw [show hR (wI h2 1 1 0) 0 = hR h 0 from g0]; exact c1.2.2.2.2.1, by rw [show hR (wI h2 1 1 0) 0 = hR h 0 from g0]; exact ea⟩, ?_⟩
        have G : Fr (fun q => xpv 143 q || Nat.beq q 1) h (wI h2 1 1 0) := (f2.mono (fun q hq => by rw [hq]; rfl)).wI rfl
        have xf : ∀ q, 6 < q → (q < 143 ∨ 143 + 27 < q) → (xpv 143 q || Nat.beq q 1) = false := fun q q1 q2 => by rw [xpv_f (by omega) (by omega) q2, bq_f (by omega)]; rfl
        exact ⟨c2.fr hO G (fun i h1 h2 => xf _ (by omega) (by omega)), c3.fr G (xf _ (by omega) (by omega)) (xf _ (by omega) (by omega)) (xf _ (by omega) (by omega)) (xf _ (by omega) (by omega)) (xf _ (by omega) (by omega)), c4.fr G (xf _ (by omega) (by omega)) (xf _ (by omega) (by omega)), c5.fr G (xf _ (by omega) (by omega)) (fun q _ _ => xf _ (by omega) (by omega)), c6.fr G rfl (fun q _ _ => xf _ (by omega) (by omega)), c7.fr G (xf _ (by omega) (by omega)) (xf _ (by omega) (by omega)) (xf _ (by omega) (by omega)) (xf _ (by omega) (by omega)), ⟨rfl, fun i hi => absurd hi (Nat.not_lt_zero i)⟩, c9.fr G (xf _ (by omega) (by omega)) (xf _ (by omega) (by omega)) (xf _ (by omega) (by omega)) (xf _ (by omega) (by omega)), c10.fr G (xf _ (by omega) (by omega)) (xf _ (by omega) (by omega)), c11.fr G (xf _ (by omega) (by omega))⟩
end
