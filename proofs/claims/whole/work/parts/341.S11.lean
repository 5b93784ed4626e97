def xsl (a q : Nat) : Bool := xlw (a + 22) q || xlw (a + 25) q
section
variable {d a b : Nat} {h h' : AH} {K : TKs} {s : RS} {D : PD} {T : ST'} {Q : Option Value → AH → Prop}
theorem xlw_o {b c q : Nat} (h1 : q ≠ b) (h2 : q ≠ b + 1) : xlw b q = false := xlw_f h1 h2
theorem c_setLaws (ha : a = 143 ∨ a = 171) (h1 : ∀ h', Fr (xsl a) h h' → LawC h' (a + 22) [1] → hI h' (a + 22) 3 = 0 → LawC h' (a + 25) [1, -1, -9, -2, -9] → hI h' (a + 25) 3 = 0 → Q none h') : Rc (d + 2) m_X7_setLaws [.ref a] h Q := by
  rcases ha with rfl | rfl
  all_goals
    refine R_in rfl rfl ?_
    refine R_gs 4 rfl ?_
    refine R_k rfl rfl (c_lawClear (by unfold lwI; omega) (fun h2 f2 e2 l2 => ?_))
    refine R_gs 12 rfl ?_
    refine R_k rfl rfl (c_lawAdd (by unfold lwI; omega) l2 (by decide) (fun h3 f3 e3 l3 => ?_))
    refine R_gs 19 rfl ?_
    refine R_k rfl rfl (c_lawClear (by unfold lwI; omega) (fun g2 f4 e4 k2 => ?_))
    refine R_gs 27 rfl ?_
    refine R_k rfl rfl (c_lawAdd (by unfold lwI; omega) k2 (by decide) (fun g3 f5 e5 k3 => ?_))
    refine R_gs 35 rfl ?_
    refine R_k rfl rfl (c_lawAdd (by unfold lwI; omega) k3 (by decide) (fun g4 f6 e6 k4 => ?_))
    refine R_gs 44 rfl ?_
    refine R_k rfl rfl (c_lawAdd (by unfold lwI; omega) k4 (by decide) (fun g5 f7 e7 k5 => ?_))
    refine R_gs 53 rfl ?_
    refine R_k rfl rfl (c_lawAdd (by unfold lwI; omega) k5 (by decide) (fun g6 f8 e8 k6 => ?_))
    refine R_gs 62 rfl ?_
    refine R_k rfl rfl (c_lawAdd (by unfold lwI; omega) k6 (by decide) (fun g7 f9 e9 k7 => ?_))
    refine W_f rfl (by first | rfl | exact ⟨rfl, by first | decide | assumption | exact Or.inl rfl | exact Or.inr rfl | exact b2i_01 _⟩) ?_
    have FA := f2.trans f3
    have FB := ((((f4.trans f5).trans f6).trans f7).trans f8).trans f9
    refine h1 _ ((FA.mono (fun q hq => by unfold xsl; rw [hq]; rfl)).trans (FB.mono (fun q hq => by unfold xsl; rw [hq, Bool.or_true]))) (l3.fr FB rfl rfl) ?_ k7 (e9.trans (e8.trans (e7.trans (e6.trans (e5.trans e4)))))
    rw [FB.I rfl]; exact e3.trans e2
/-- rows that are empty again -/
def clI (a : Nat) (h g : AH) (j : Nat) : Prop := Fr (xda a) h g ∧ hI g a 3 = 0 ∧ hI g a 4 = 0 ∧ hI g a 5 = 0 ∧ hI g a 6 = 0 ∧ hI g a 13 = 0 ∧ ∀ p, p < j → (∀ w, w < 5 → hI g (a + 8 + p) w = 0) ∧ (∀ q, q < 6 → hI g (a + 15 + p) q = 0) ∧ hI g (a + 21) p = 0
theorem clI_s {j : Nat} {g g2 g3 : AH} (hj : j < 6) (c : clI a h g j) (f2 : Fr (fun q => Nat.beq q (a + 8 + j)) g g2) (e2 : ∀ k, k < 5 → hI g2 (a + 8 + j) k = 0) (f3 : Fr (fun q => Nat.beq q (a + 15 + j)) g2 g3) (e3 : ∀ k, k < 6 → hI g3 (a + 15 + j) k = 0) : clI a h (wI g3 (a + 21) j 0) (j + 1) := by
  obtain ⟨c1, c2, c3, c4, c5, c6, c7⟩ := c
  have F2 : Fr (xda a) g g2 := f2.mono (fun q hq => xda_t (by have := Nat.eq_of_beq_eq_true hq; omega) (by have := Nat.eq_of_beq_eq_true hq; omega))
  have F3 : Fr (xda a) g2 g3 := f3.mono (fun q hq => xda_t (by have := Nat.eq_of_beq_eq_true hq; omega) (by have := Nat.eq_of_beq_eq_true hq; omega))
  have e : ∀ b, b ≠ a + 8 + j → b ≠ a + 15 + j → b ≠ a + 21 → hI (wI g3 (a + 21) j 0) b = hI g b := fun b h1 h2 h3 => by
    rw [wI_o _ h3, f3.I (bq_f h2), f2.I (bq_f h1)]
  refine ⟨((c1.trans F2).trans F3).wI (xda_t (by omega) (by omega)), ?_, ?_, ?_, ?_, ?_, fun p hp => ⟨fun w hw => ?_, fun q hq => ?_, ?_⟩⟩
  · rw [e a (by omega) (by omega) (by omega)]; exact c2
  · rw [e a (by omega) (by omega) (by omega)]; exact c3
  · rw [e a (by omega) (by omega) (by omega)]; exact c4
  · rw [e a (by omega) (by omega) (by omega)]; exact c5
  · rw [e a (by omega) (by omega) (by omega)]; exact c6
  · by_cases ep : p = j
    · subst ep
      rw [wI_o _ (by omega : a + 8 + p ≠ a + 21), f3.I (bq_f (by omega))]; exact e2 w hw
    · rw [e _ (by omega) (by omega) (by omega)]; exact (c7 p (by omega)).1 w hw
  · by_cases ep : p = j
    · subst ep
      rw [wI_o _ (by omega : a + 15 + p ≠ a + 21)]; exact e3 q hq
    · rw [e _ (by omega) (by omega) (by omega)]; exact (c7 p (by omega)).2.1 q hq
  · rw [wI_at]
    by_cases ep : p = j
    · rw [if_pos ep]
    · rw [if_neg ep, f3.I (bq_f (by omega)), f2.I (bq_f (by omega))]; exact (c7 p (by omega)).2.2
theorem c_pclear (ha : a = 143 ∨ a = 171) (h1 : ∀ h', Fr (xda a) h h' → PdC h' a D0 → Q none h') : Rc (d + 3) m_X7_clear [.ref a] h Q := by
  have ha' := ha
  have fin : ∀ g g', clI a h g 6 → Fr (xsl a) g g' → LawC g' (a + 22) [1] → hI g' (a + 22) 3 = 0 → LawC g' (a + 25) [1, -1, -9, -2, -9] → hI g' (a + 25) 3 = 0 → Q none g' := by
    intro g g' c f l1 e1 l2 e2
    obtain ⟨c1, c2, c3, c4, c5, c6, c7⟩ := c
    have xf : ∀ q, a ≤ q → q < a + 22 → xsl a q = false := fun q h1 h2 => by
      unfold xsl; rw [xlw_f (by omega) (by omega), xlw_f (by omega) (by omega)]; rfl
    have F : Fr (xda a) g g' := f.mono (fun q hq => by
      unfold xsl xlw at hq
      simp only [Bool.or_eq_true, Nat.beq_eq] at hq
      exact xda_t (by omega) (by omega))
    refine h1 _ (c1.trans F) ⟨?_, ?_, ?_, ?_, fun p hp => absurd hp (Nat.not_lt_zero p), fun p hp => ?_, ⟨?_, fun k hk => absurd hk (Nat.not_lt_zero k)⟩, ⟨l1, e1⟩, ⟨l2, e2⟩⟩
    · rw [f.I (xf a (by omega) (by omega))]; exact c3
    · rw [f.I (xf a (by omega) (by omega))]; exact c4
    · rw [f.I (xf a (by omega) (by omega))]; exact c5
    · rw [f.I (xf a (by omega) (by omega))]; exact c6
    · rw [f.I (xf (a + 8 + p) (by omega) (by omega)), f.I (xf (a + 15 + p) (by omega) (by omega)), f.I (xf (a + 21) (by omega) (by omega))]; exact c7 p hp
    · rw [f.I (xf a (by omega) (by omega))]; exact c2
  rcases ha with rfl | rfl
  ·
    refine R_in rfl rfl ?_
    refine R_gs 27 rfl ?_
    refine w_inv (W := fun j (u : AH) => Rw (d + 2) Q (m_X7_clear, 27, [some (.ref 143), some (.int (nI j))], [], 262, u)) 6 (fun j u => clI 143 h u j) ⟨((((Fr.refl _ h).wI rfl).wI rfl).wI rfl).wI rfl |>.wI rfl, rfl, rfl, rfl, rfl, rfl, fun p hp => absurd hp (Nat.not_lt_zero p)⟩ (fun j u hj hu w => ?_) (fun u hu => ?_)
    ·
      refine R_gs 30 rfl ?_
      refine W_bf rfl (fun e => absurd ((nI_leI (a := 6) (by omega) (by omega)).mp e) (by omega)) ?_
      refine R_gs 38 rfl ?_
      refine R_ro rfl rfl rfl (ix_nI _) (by omega) ?_
      refine R_gs 40 rfl ?_
      refine R_k rfl rfl (c_fill (shO (by decide) (by omega)) (fun g2 f2 e2 => ?_))
      refine R_gs 48 rfl ?_
      refine R_ro rfl rfl rfl (ix_nI _) (by omega) ?_
      refine R_gs 50 rfl ?_
      refine R_k rfl rfl (c_fill (shG (by decide) (by omega)) (fun g3 f3 e3 => ?_))
      refine R_gs 59 rfl ?_
      refine R_is rfl rfl (ix_nI _) (by omega) ?_
      refine R_gs 27 rfl ?_
      rw [nI_1]; exact w _ (clI_s hj hu f2 e2 f3 e3)
    ·
      refine R_gs 30 rfl ?_
      refine W_bt rfl (by decide) ?_
      refine R_gs 67 rfl ?_
      refine R_k rfl rfl (c_setLaws ha' (fun g4 f4 l4 t4 l5 t5 => ?_))
      refine W_f rfl (by first | rfl | exact ⟨rfl, by first | decide | assumption | exact Or.inl rfl | exact Or.inr rfl | exact b2i_01 _⟩) ?_
      exact fin _ _ hu f4 l4 t4 l5 t5
  ·
    refine R_in rfl rfl ?_
    refine R_gs 27 rfl ?_
    refine w_inv (W := fun j (u : AH) => Rw (d + 2) Q (m_X7_clear, 27, [some (.ref 171), some (.int (nI j))], [], 262, u)) 6 (fun j u => clI 171 h u j) ⟨((((Fr.refl _ h).wI rfl).wI rfl).wI rfl).wI rfl |>.wI rfl, rfl, rfl, rfl, rfl, rfl, fun p hp => absurd hp (Nat.not_lt_zero p)⟩ (fun j u hj hu w => ?_) (fun u hu => ?_)
    ·
      refine R_gs 30 rfl ?_
      refine W_bf rfl (fun e => absurd ((nI_leI (a := 6) (by omega) (by omega)).mp e) (by omega)) ?_
      refine R_gs 38 rfl ?_
      refine R_ro rfl rfl rfl (ix_nI _) (by omega) ?_
      refine R_gs 40 rfl ?_
      refine R_k rfl rfl (c_fill (shO (by decide) (by omega)) (fun g2 f2 e2 => ?_))
      refine R_gs 48 rfl ?_
      refine R_ro rfl rfl rfl (ix_nI _) (by omega) ?_
      refine R_gs 50 rfl ?_
      refine R_k rfl rfl (c_fill (shG (by decide) (by omega)) (fun g3 f3 e3 => ?_))
      refine R_gs 59 rfl ?_
      refine R_is rfl rfl (ix_nI _) (by omega) ?_
      refine R_gs 27 rfl ?_
      rw [nI_1]; exact w _ (clI_s hj hu f2 e2 f3 e3)
    ·
      refine R_gs 30 rfl ?_
      refine W_bt rfl (by decide) ?_
      refine R_gs 67 rfl ?_
      refine R_k rfl rfl (c_setLaws ha' (fun g4 f4 l4 t4 l5 t5 => ?_))
      refine W_f rfl (by first | rfl | exact ⟨rfl, by first | decide | assumption | exact Or.inl rfl | exact Or.inr rfl | exact b2i_01 _⟩) ?_
      exact fin _ _ hu f4 l4 t4 l5 t5
/-- what reading a province writes on -/
def xpv (a q : Nat) : Bool := xtp q || xdr a q
theorem xtp_f {q : Nat} (hq : 5 < q) : xtp q = false := by
  cases e : xtp q with
  | false => rfl
  | true => simp only [xtp, Bool.or_eq_true, Bool.and_eq_true, Nat.beq_eq, Nat.ble_eq] at e; omega
theorem Fr.pv1 (f : Fr xtp h h') : Fr (xpv a) h h' := f.mono (fun q hq => by unfold xpv; rw [hq]; rfl)
theorem Fr.pv2 (f : Fr (xdr a) h h') : Fr (xpv a) h h' := f.mono (fun q hq => by unfold xpv; rw [hq, Bool.or_true])
theorem lns_e {m : Nat} (hx : m = 0 ∨ ¬ (s.2 = 0 ∧ tk K s.1 ≠ 0)) : lns K m s D = (s, D) := by
  cases m with
  | zero => rfl
  | succ m =>
    show (if _ then _ else _) = _
    rw [if_neg]
    rcases hx with e | e
    · omega
    · exact e
theorem lns_s {m : Nat} (hm : 0 < m) (hx : s.2 = 0 ∧ tk K s.1 ≠ 0) : lns K m s D = lns K (m - 1) (ex K 6 (lnA K s D).1) (lnA K s D).2 := by
  cases m with
  | zero => omega
  | succ m =>
    show (if _ then _ else _) = _
    rw [if_pos hx]; rfl
theorem xdr_f {q : Nat} (h1 : q ≠ 1) (h6 : q ≠ 6) (h2 : q < a ∨ a + 27 < q) : xdr a q = false := by unfold xdr; rw [xrd_f h1 h6, xda_f h2]; rfl
theorem c_readProvince (ha : a = 143 ∨ a = 171) (hS : St h) (hT : TapC h T) (tO : TapOK T) (h1 : ∀ h', Fr (xpv a) h h' → PdC h' a (prvA (allT T)).2 → (prvA (allT T)).1.2 ≤ 20000 → Q (some (.int (nI (prvA (allT T)).1.2))) h') : Rc (d + 41) m_X8_readProvince [.ref 6, .ref a] h Q := by
  have kO := tok_ok tO
  have aB : 143 ≤ a ∧ a ≤ 171 := (by omega)
  refine R_in rfl rfl ?_
  refine R_gs 6 rfl ?_
  refine R_k rfl (q_ld ha) (c_pclear ha (fun h2 f2 p2 => ?_))
  refine R_gs 13 rfl ?_
  refine R_k rfl rfl (c_open (T := T) (⟨(congrFun (f2.I (xda_f (by omega))) 1).trans hT.1, fun i hi => (congrFun (f2.I (xda_f (by omega))) i).trans (hT.2 i hi)⟩) tO (fun h3 f3 t3 k3 o3 n3 u3 => ?_))
  have p3 : PdC h3 a D0 := p2.fr f3 (fun i _ _ => xtp_f (by omega))
  have F3 : Fr (xpv a) h h3 := (((Fr.refl _ h).wI (by unfold xpv xdr xrd; rfl)).trans f2.da.pv2).trans f3.pv1
  have c3 : CF h3 (allT T) (0, 0) := ⟨k3, u3, (congrFun (f3.I rfl) 1).trans (congrFun (f2.I (xda_f (by omega))) 1), Nat.zero_le _⟩
  have D9 := D0_o
  refine R_gs 18 rfl ?_
  refine w_meas (W := fun (y : AH × Nat × RS × PD) => Rw (d + 40) Q (m_X8_readProvince, 18, [some (.ref 6), some (.ref a), some (.int (nI y.2.1))], [], 262, y.1)) (fun y => Fr (xpv a) h y.1 ∧ CF y.1 (allT T) y.2.2.1 ∧ PdC y.1 a y.2.2.2 ∧ PdO y.2.2.2 ∧ PdB y.2.2.2 ∧ (y.2.2.1.2 = 0 → dM y.2.2.2 = dP y.2.2.2) ∧ y.2.1 ≤ 1001 ∧ prvA (allT T) = lns (allT T) (1001 - y.2.1) y.2.2.1 y.2.2.2) (fun y => 1001 - y.2.1) (s0 := (h3, 0, (0, 0), D0)) ⟨F3, c3, p3, D9.1, D9.2.1, fun _ => D9.2.2, Nat.zero_le _, rfl⟩ (fun y hi w => ?_)
  ·
    obtain ⟨g, i, s, D⟩ := y
    obtain ⟨i1, i2, i3, i4, i5, i6, i7, i8⟩ := hi
    dsimp only at i1 i2 i3 i4 i5 i6 i7 i8 ⊢
    have t1 := i2.t38 kO
    refine R_gs 22 rfl ?_
    refine W_b rfl (fun hc22 => ?_) (fun hc22 => ?_)
    ·
      rw [show ((1000 : Int32) < nI i ↔ 1000 < i) from nI_ltI (a := 1000) (by omega) (by omega)] at hc22
      refine R_gs 60 rfl ?_
      refine W_f rfl (by first | rfl | exact ⟨rfl, by first | decide | assumption | exact Or.inl rfl | exact Or.inr rfl | exact b2i_01 _⟩) ?_
      have hx : 1001 - i = 0 ∨ ¬ (s.2 = 0 ∧ tk (allT T) s.1 ≠ 0) := (by first | exact Or.inl (by omega) | exact Or.inr (fun e => hc29 e.1) | exact Or.inr (fun e => e.2 (by omega)))
      rw [lns_e hx] at i8
      rw [i8] at h1
      rw [i2.2.2.1]
      exact h1 _ i1 i3 i2.2.2.2
    ·
      rw [show ((1000 : Int32) < nI i ↔ 1000 < i) from nI_ltI (a := 1000) (by omega) (by omega)] at hc22
      refine R_gs 29 rfl ?_
      refine W_b rfl (fun hc29 => ?_) (fun hc29 => ?_)
      ·
        rw [i2.fz] at hc29
        refine R_gs 39 rfl ?_
        rw [i2.tok]
        refine R_gs 42 rfl ?_
        refine W_d rfl (by omega) (by omega) (by omega) (by omega) (fun hc42 => ?_) (fun hc42 => ?_)
        ·
          refine R_gs 60 rfl ?_
          refine W_f rfl (by first | rfl | exact ⟨rfl, by first | decide | assumption | exact Or.inl rfl | exact Or.inr rfl | exact b2i_01 _⟩) ?_
          have hx : 1001 - i = 0 ∨ ¬ (s.2 = 0 ∧ tk (allT T) s.1 ≠ 0) := (by first | exact Or.inl (by omega) | exact Or.inr (fun e => hc29 e.1) | exact Or.inr (fun e => e.2 (by omega)))
          rw [lns_e hx] at i8
          rw [i8] at h1
          rw [i2.2.2.1]
          exact h1 _ i1 i3 i2.2.2.2
        ·
          refine R_gs 47 rfl ?_
          have o4 := lnA_o kO i2.2.1.1 i4 i5 (i6 hc29)
          refine R_k rfl rfl (c_provLine kO ha (hS.fr i1 (by unfold xpv; rw [xdr_f (by omega) (by omega) (by omega)]; rfl) (by unfold xpv; rw [xdr_f (by omega) (by omega) (by omega)]; rfl)) i2 i3 i4 i5 (i6 hc29) (fun h4 f4 c4 p4 => ?_))
          refine R_gs 18 rfl ?_
          rw [nI_1]; exact w (h4, i + 1, ex (allT T) 6 (lnA (allT T) s D).1, (lnA (allT T) s D).2) ⟨i1.trans f4.pv2, c4, p4, o4.1, o4.2.1, fun e => o4.2.2 (ex_z e).1, by dsimp only; omega, by rw [i8, lns_s (by omega) ⟨hc29, by omega⟩, Nat.sub_sub]⟩ (by dsimp only; omega)
      ·
        rw [i2.fz] at hc29
        refine R_gs 60 rfl ?_
        refine W_f rfl (by first | rfl | exact ⟨rfl, by first | decide | assumption | exact Or.inl rfl | exact Or.inr rfl | exact b2i_01 _⟩) ?_
        have hx : 1001 - i = 0 ∨ ¬ (s.2 = 0 ∧ tk (allT T) s.1 ≠ 0) := (by first | exact Or.inl (by omega) | exact Or.inr (fun e => hc29 e.1) | exact Or.inr (fun e => e.2 (by omega)))
        rw [lns_e hx] at i8
        rw [i8] at h1
        rw [i2.2.2.1]
        exact h1 _ i1 i3 i2.2.2.2
end
