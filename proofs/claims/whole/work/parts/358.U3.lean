section
variable {d a g : Nat} {h h' : AH} {K : TKs} {s : RS} {N : SN'} {D : SD'} {T : ST'} {L : SL} {Q : Option Value → AH → Prop}
theorem dds_e {m : Nat} (hx : m = 0 ∨ ¬ (s.2 = 0 ∧ tk K s.1 ≠ 0)) : dds K N m s D = (s, D) := by
  cases m with
  | zero => rfl
  | succ m =>
    show (if _ then _ else _) = _
    rw [if_neg]
    rcases hx with e | e
    · omega
    · exact e
theorem dds_s {m : Nat} (hm : 0 < m) (hx : s.2 = 0 ∧ tk K s.1 ≠ 0) : dds K N m s D = dds K N (m - 1) (ddL K N s D).1 (ddL K N s D).2 := by
  cases m with
  | zero => omega
  | succ m =>
    show (if _ then _ else _) = _
    rw [if_pos hx]; rfl
theorem ddL_D (nN : NamOK L N) (nO : NmO N) (dO : DayOK L D) : DayOK L (ddL K N s D).2 := by
  by_cases hz : (ddL K N s D).1.2 = 0
  · obtain ⟨l1, -, -, l4⟩ := ddL_ok nN nO hz
    have e : (ddL K N s D).2 = psD D (tk K s.1 - 17, (dl1 K N (tk K s.1) (dl0 K s D)).2.toNatClampNeg, (dl2 K N (tk K s.1) (dl1 K N (tk K s.1) (dl0 K s D))).2.toNatClampNeg) := if_pos hz
    rw [e]
    refine ⟨by show D.1 + 1 ≤ 30; omega, fun k hk => ?_⟩
    have hk : k < D.1 + 1 := hk
    show LineOK L (if k = D.1 then _ else D.2 k)
    by_cases e : k = D.1
    · rw [if_pos e]; exact l1
    · rw [if_neg e]; exact dO.2 k (by omega)
  · have e : (ddL K N s D).2 = D := if_neg hz
    rw [e]; exact dO
theorem dds_D (nN : NamOK L N) (nO : NmO N) : ∀ (m : Nat) (s : RS) (D : SD'), DayOK L D → DayOK L (dds K N m s D).2
  | 0, _, _, o => o
  | m + 1, s, D, o => by
    by_cases e : s.2 = 0 ∧ tk K s.1 ≠ 0
    · rw [dds_s (by omega) e]; exact dds_D nN nO m _ _ (ddL_D nN nO o)
    · rw [dds_e (Or.inr e)]; exact o
theorem dayA_D (nN : NamOK L N) (nO : NmO N) : DayOK L (dayA K N).2 := dds_D nN nO _ _ _ ⟨Nat.zero_le _, fun k hk => absurd hk (Nat.not_lt_zero k)⟩
theorem NamOK.nm (hO : LandOK L) (nN : NamOK L N) : NmO N := by
  obtain ⟨o1, o2, o3, -⟩ := hO
  refine ⟨nN.1, fun k hk => ?_⟩
  obtain ⟨n1, n2, n3, n4, n5, n6, n7⟩ := nN.2 k hk
  refine ⟨n1, ⟨n3, n2, n4⟩, ?_⟩
  have : (N.2 k).1 = 0 ∨ (N.2 k).1 = 1 ∨ (N.2 k).1 = 2 := by omega
  rcases this with e | e | e
  · have := n5 e; omega
  · have := n6 e; omega
  · have := n7 e; omega
def xpd (g q : Nat) : Bool := xtp q || xdd g q
theorem xdd_f {q : Nat} (h1 : q ≠ 1) (h6 : q ≠ 6) (h2 : q < g ∨ g + 3 < q) : xdd g q = false := by unfold xdd; rw [xrd_f h1 h6, xdg_f h2]; rfl
theorem xpd_f {q : Nat} (h1 : 5 < q) (h6 : q ≠ 6) (h2 : q < g ∨ g + 3 < q) : xpd g q = false := by unfold xpd; rw [xtp_f h1, xdd_f (by omega) h6 h2]; rfl
theorem c_readDay (ha : a = 143 ∨ a = 171) (hg : g = 199 ∨ g = 203) (hT : TapC h T) (tO : TapOK T) (hN : NamC h a N) (nO : NmO N) (h1 : ∀ h', Fr (xpd g) h h' → DayC h' g (dayA (allT T) N).2 → (dayA (allT T) N).1.2 ≤ 20000 → Q (some (.int (nI (dayA (allT T) N).1.2))) h') : Rc (d + 6) m_X8_readDay [.ref 6, .ref g, .ref a] h Q := by
  have kO := tok_ok tO
  have hg' := hg
  have xg : xpd g g = true := (by unfold xpd xdd xdg; rw [Nat.ble_eq_true_of_le (Nat.le_refl g), Nat.ble_eq_true_of_le (by omega : g ≤ g + 3)]; simp)
  have D30 : ∀ m s D, D.1 ≤ 30 → (dds (allT T) N m s D).2.1 ≤ 30 := fun m => by
    induction m with
    | zero => exact fun s D o => o
    | succ m ih =>
      intro s D o
      by_cases e : s.2 = 0 ∧ tk (allT T) s.1 ≠ 0
      · rw [dds_s (by omega) e]
        refine ih _ _ ?_
        by_cases hz : (ddL (allT T) N s D).1.2 = 0
        · have z := dl0_z (dl1_z (dl2_z (ex_z hz).1))
          rw [show (ddL (allT T) N s D).2 = psD D _ from if_pos hz]
          show D.1 + 1 ≤ 30; omega
        · rw [show (ddL (allT T) N s D).2 = D from if_neg hz]; exact o
      · rw [dds_e (Or.inr e)]; exact o
  have L30 : ∀ s D, D.1 ≤ 30 → s.2 = 0 ∧ tk (allT T) s.1 ≠ 0 → (ddL (allT T) N s D).2.1 ≤ 30 := fun s D o e => by
    by_cases hz : (ddL (allT T) N s D).1.2 = 0
    · have z := dl0_z (dl1_z (dl2_z (ex_z hz).1))
      rw [show (ddL (allT T) N s D).2 = psD D _ from if_pos hz]
      show D.1 + 1 ≤ 30; omega
    · rw [show (ddL (allT T) N s D).2 = D from if_neg hz]; exact o
  rcases hg with rfl | rfl
  ·
    refine R_in rfl rfl ?_
    refine R_gs 14 rfl ?_
    refine R_k rfl rfl (c_open (T := T) (h := wI (wI h 6 1 0) 199 3 0) ⟨hT.1, fun i hi => hT.2 i hi⟩ tO (fun h3 f3 t3 k3 o3 n3 u3 => ?_))
    have F3 : Fr (xpd 199) h h3 := (((Fr.refl _ h).wI rfl).wI xg).trans (f3.mono (fun q hq => by unfold xpd; rw [hq]; rfl))
    have c3 : CF h3 (allT T) (0, 0) := ⟨k3, u3, (congrFun (f3.I (b := 6) rfl) 1), Nat.zero_le _⟩
    have p3 : DayC h3 199 (0, fun _ => (0, 0, 0)) := ⟨(congrFun (f3.I (b := 199) rfl) 3), fun k hk => absurd hk (Nat.not_lt_zero k)⟩
    refine R_gs 19 rfl ?_
    refine w_meas (W := fun (y : AH × Nat × RS × SD') => Rw (d + 5) Q (m_X8_readDay, 19, [some (.ref 6), some (.ref 199), some (.ref a), some (.int (nI y.2.1))], [], 262, y.1)) (fun y => Fr (xpd 199) h y.1 ∧ CF y.1 (allT T) y.2.2.1 ∧ DayC y.1 199 y.2.2.2 ∧ y.2.2.2.1 ≤ 30 ∧ y.2.1 ≤ 1001 ∧ dayA (allT T) N = dds (allT T) N (1001 - y.2.1) y.2.2.1 y.2.2.2) (fun y => 1001 - y.2.1) (s0 := (h3, 0, (0, 0), (0, fun _ => (0, 0, 0)))) ⟨F3, c3, p3, Nat.zero_le _, Nat.zero_le _, rfl⟩ (fun y hi w => ?_)
    ·
      obtain ⟨g2, i, s, D⟩ := y
      obtain ⟨i1, i2, i3, i4, i7, i8⟩ := hi
      dsimp only at i1 i2 i3 i4 i7 i8 ⊢
      have t1 := i2.t38 kO
      refine R_gs 23 rfl ?_
      refine W_b rfl (fun hc23 => ?_) (fun hc23 => ?_)
      ·
        rw [show ((1000 : Int32) < nI i ↔ 1000 < i) from nI_ltI (a := 1000) (by omega) (by omega)] at hc23
        refine R_gs 62 rfl ?_
        refine W_f rfl (by first | rfl | exact ⟨rfl, by first | decide | assumption | exact Or.inl rfl | exact Or.inr rfl | exact b2i_01 _⟩) ?_
        have hx : 1001 - i = 0 ∨ ¬ (s.2 = 0 ∧ tk (allT T) s.1 ≠ 0) := (by first | exact Or.inl (by omega) | exact Or.inr (fun e => hc30 e.1) | exact Or.inr (fun e => e.2 (by omega)))
        rw [dds_e hx] at i8
        rw [i8] at h1
        rw [i2.2.2.1]
        exact h1 _ i1 i3 i2.2.2.2
      ·
        rw [show ((1000 : Int32) < nI i ↔ 1000 < i) from nI_ltI (a := 1000) (by omega) (by omega)] at hc23
        refine R_gs 30 rfl ?_
        refine W_b rfl (fun hc30 => ?_) (fun hc30 => ?_)
        ·
          rw [i2.fz] at hc30
          refine R_gs 40 rfl ?_
          rw [i2.tok]
          refine R_gs 43 rfl ?_
          refine W_d rfl (by omega) (by omega) (by omega) (by omega) (fun hc43 => ?_) (fun hc43 => ?_)
          ·
            refine R_gs 62 rfl ?_
            refine W_f rfl (by first | rfl | exact ⟨rfl, by first | decide | assumption | exact Or.inl rfl | exact Or.inr rfl | exact b2i_01 _⟩) ?_
            have hx : 1001 - i = 0 ∨ ¬ (s.2 = 0 ∧ tk (allT T) s.1 ≠ 0) := (by first | exact Or.inl (by omega) | exact Or.inr (fun e => hc30 e.1) | exact Or.inr (fun e => e.2 (by omega)))
            rw [dds_e hx] at i8
            rw [i8] at h1
            rw [i2.2.2.1]
            exact h1 _ i1 i3 i2.2.2.2
          ·
            refine R_gs 49 rfl ?_
            refine R_k rfl rfl (c_dayLine kO ha hg' i2 (hN.fr i1 (xpd_f (by omega) (by omega) (by omega)) (xpd_f (by omega) (by omega) (by omega)) (xpd_f (by omega) (by omega) (by omega)) (xpd_f (by omega) (by omega) (by omega))) nO i3 i4 (fun h4 f4 c4 p4 => ?_))
            refine R_gs 19 rfl ?_
            rw [nI_1]; exact w (h4, i + 1, (ddL (allT T) N s D).1, (ddL (allT T) N s D).2) ⟨i1.trans (f4.mono (fun q hq => by unfold xpd; rw [hq, Bool.or_true])), c4, p4, L30 s D i4 ⟨hc30, by omega⟩, by dsimp only; omega, by rw [i8, dds_s (by omega) ⟨hc30, by omega⟩, Nat.sub_sub]⟩ (by dsimp only; omega)
        ·
          rw [i2.fz] at hc30
          refine R_gs 62 rfl ?_
          refine W_f rfl (by first | rfl | exact ⟨rfl, by first | decide | assumption | exact Or.inl rfl | exact Or.inr rfl | exact b2i_01 _⟩) ?_
          have hx : 1001 - i = 0 ∨ ¬ (s.2 = 0 ∧ tk (allT T) s.1 ≠ 0) := (by first | exact Or.inl (by omega) | exact Or.inr (fun e => hc30 e.1) | exact Or.inr (fun e => e.2 (by omega)))
          rw [dds_e hx] at i8
          rw [i8] at h1
          rw [i2.2.2.1]
          exact h1 _ i1 i3 i2.2.2.2
  ·
    refine R_in rfl rfl ?_
    refine R_gs 14 rfl ?_
    refine R_k rfl rfl (c_open (T := T) (h := wI (wI h 6 1 0) 203 3 0) ⟨hT.1, fun i hi => hT.2 i hi⟩ tO (fun h3 f3 t3 k3 o3 n3 u3 => ?_))
    have F3 : Fr (xpd 203) h h3 := (((Fr.refl _ h).wI rfl).wI xg).trans (f3.mono (fun q hq => by unfold xpd; rw [hq]; rfl))
    have c3 : CF h3 (allT T) (0, 0) := ⟨k3, u3, (congrFun (f3.I (b := 6) rfl) 1), Nat.zero_le _⟩
    have p3 : DayC h3 203 (0, fun _ => (0, 0, 0)) := ⟨(congrFun (f3.I (b := 203) rfl) 3), fun k hk => absurd hk (Nat.not_lt_zero k)⟩
    refine R_gs 19 rfl ?_
    refine w_meas (W := fun (y : AH × Nat × RS × SD') => Rw (d + 5) Q (m_X8_readDay, 19, [some (.ref 6), some (.ref 203), some (.ref a), some (.int (nI y.2.1))], [], 262, y.1)) (fun y => Fr (xpd 203) h y.1 ∧ CF y.1 (allT T) y.2.2.1 ∧ DayC y.1 203 y.2.2.2 ∧ y.2.2.2.1 ≤ 30 ∧ y.2.1 ≤ 1001 ∧ dayA (allT T) N = dds (allT T) N (1001 - y.2.1) y.2.2.1 y.2.2.2) (fun y => 1001 - y.2.1) (s0 := (h3, 0, (0, 0), (0, fun _ => (0, 0, 0)))) ⟨F3, c3, p3, Nat.zero_le _, Nat.zero_le _, rfl⟩ (fun y hi w => ?_)
    ·
      obtain ⟨g2, i, s, D⟩ := y
      obtain ⟨i1, i2, i3, i4, i7, i8⟩ := hi
      dsimp only at i1 i2 i3 i4 i7 i8 ⊢
      have t1 := i2.t38 kO
      refine R_gs 23 rfl ?_
      refine W_b rfl (fun hc23 => ?_) (fun hc23 => ?_)
      ·
        rw [show ((1000 : Int32) < nI i ↔ 1000 < i) from nI_ltI (a := 1000) (by omega) (by omega)] at hc23
        refine R_gs 62 rfl ?_
        refine W_f rfl (by first | rfl | exact ⟨rfl, by first | decide | assumption | exact Or.inl rfl | exact Or.inr rfl | exact b2i_01 _⟩) ?_
        have hx : 1001 - i = 0 ∨ ¬ (s.2 = 0 ∧ tk (allT T) s.1 ≠ 0) := (by first | exact Or.inl (by omega) | exact Or.inr (fun e => hc30 e.1) | exact Or.inr (fun e => e.2 (by omega)))
        rw [dds_e hx] at i8
        rw [i8] at h1
        rw [i2.2.2.1]
        exact h1 _ i1 i3 i2.2.2.2
      ·
        rw [show ((1000 : Int32) < nI i ↔ 1000 < i) from nI_ltI (a := 1000) (by omega) (by omega)] at hc23
        refine R_gs 30 rfl ?_
        refine W_b rfl (fun hc30 => ?_) (fun hc30 => ?_)
        ·
          rw [i2.fz] at hc30
          refine R_gs 40 rfl ?_
          rw [i2.tok]
          refine R_gs 43 rfl ?_
          refine W_d rfl (by omega) (by omega) (by omega) (by omega) (fun hc43 => ?_) (fun hc43 => ?_)
          ·
            refine R_gs 62 rfl ?_
            refine W_f rfl (by first | rfl | exact ⟨rfl, by first | decide | assumption | exact Or.inl rfl | exact Or.inr rfl | exact b2i_01 _⟩) ?_
            have hx : 1001 - i = 0 ∨ ¬ (s.2 = 0 ∧ tk (allT T) s.1 ≠ 0) := (by first | exact Or.inl (by omega) | exact Or.inr (fun e => hc30 e.1) | exact Or.inr (fun e => e.2 (by omega)))
            rw [dds_e hx] at i8
            rw [i8] at h1
            rw [i2.2.2.1]
            exact h1 _ i1 i3 i2.2.2.2
          ·
            refine R_gs 49 rfl ?_
            refine R_k rfl rfl (c_dayLine kO ha hg' i2 (hN.fr i1 (xpd_f (by omega) (by omega) (by omega)) (xpd_f (by omega) (by omega) (by omega)) (xpd_f (by omega) (by omega) (by omega)) (xpd_f (by omega) (by omega) (by omega))) nO i3 i4 (fun h4 f4 c4 p4 => ?_))
            refine R_gs 19 rfl ?_
            rw [nI_1]; exact w (h4, i + 1, (ddL (allT T) N s D).1, (ddL (allT T) N s D).2) ⟨i1.trans (f4.mono (fun q hq => by unfold xpd; rw [hq, Bool.or_true])), c4, p4, L30 s D i4 ⟨hc30, by omega⟩, by dsimp only; omega, by rw [i8, dds_s (by omega) ⟨hc30, by omega⟩, Nat.sub_sub]⟩ (by dsimp only; omega)
        ·
          rw [i2.fz] at hc30
          refine R_gs 62 rfl ?_
          refine W_f rfl (by first | rfl | exact ⟨rfl, by first | decide | assumption | exact Or.inl rfl | exact Or.inr rfl | exact b2i_01 _⟩) ?_
          have hx : 1001 - i = 0 ∨ ¬ (s.2 = 0 ∧ tk (allT T) s.1 ≠ 0) := (by first | exact Or.inl (by omega) | exact Or.inr (fun e => hc30 e.1) | exact Or.inr (fun e => e.2 (by omega)))
          rw [dds_e hx] at i8
          rw [i8] at h1
          rw [i2.2.2.1]
          exact h1 _ i1 i3 i2.2.2.2
end
section
variable {d : Nat} {h h' : AH} {L : SL} {S : SS} {H : SH'} {B : SB'} {M : SM'} {D : SD'} {T : ST'} {N : SN'} {Q : Option Value → AH → Prop}
def dyF (T : ST') (N : SN') : Nat := (dayA (allT T) N).1.2
def dyD (T : ST') (N : SN') : SD' := (dayA (allT T) N).2
theorem x_day (W : WOK L S H B M D T N) (c : RC h L S H B M D T N) (h1 : ∀ h', Fr xC h h' → RC h' L S H B M (if dyF T N = 0 then dyD T N else D) (0, T.2) N → Q (some (.int (nI (dyF T N)))) h') : Rc (d + 7) m_X12_day [.ref 0] h Q := by
  have hO := W.1
  have tO := W.2.2.2.2.2.2.1
  have nO := W.2.2.2.2.2.2.2.nm hO
  unfold dyF dyD at h1
  obtain ⟨a, g, c1, c2, c3, c4, c5, c6, c7, c8, c9, c10, c11⟩ := c
  have ha := c1.1
  have hg := c1.2.1
  have e8 := vr c1.2.2.1
  have e10 := vr c1.2.2.2.2.1
  have e11 : va_rf (hR h 0 11) = .ref (402 - g) := vr c1.2.2.2.2.2
  obtain ⟨R, eR⟩ : ∃ R, R = dayA (allT T) N := ⟨_, rfl⟩
  rw [← eR] at h1
  rcases ha with rfl | rfl <;> rcases hg with rfl | rfl
  ·
    refine R_in rfl rfl ?_
    refine R_gs 8 rfl ?_
    rw [show va_rf (hR h 0 11) = .ref 203 from e11]
    refine R_gs 12 rfl ?_
    rw [e8]
    refine R_k rfl rfl (c_readDay (T := T) (N := N) (by decide) (by decide) c8 tO c9 nO (fun h2 f2 p2 b2 => ?_))
    rw [← eR] at p2 b2 ⊢
    have F2 : Fr xC h h2 := f2.mono (fun q hq => xC_t (by rcases Nat.lt_or_ge 234 q with e | e; rw [xpd_f (by omega) (by omega) (by omega)] at hq; cases hq; omega))
    have g0 : hR h2 0 = hR h 0 := f2.R rfl
    have G : Fr (fun q => xpd 203 q || (Nat.beq q 1 || Nat.beq q 0)) h h2 := f2.mono (fun q hq => by rw [hq]; rfl)
    have xf : ∀ q, 6 < q → (q < 203 ∨ 203 + 3 < q) → (xpd 203 q || (Nat.beq q 1 || Nat.beq q 0)) = false := fun q q1 q2 => by rw [xpd_f (by omega) (by omega) q2, bq_f (by omega), bq_f (by omega)]; rfl
    refine R_gs 25 rfl ?_
    refine W_b rfl (fun hc25 => ?_) (fun hc25 => ?_)
    ·
      rw [show (nI R.1.2 = 0 ↔ R.1.2 = 0) from nI_eq (b := 0) (by omega) (by omega)] at hc25
      refine R_gs 32 rfl ?_
      rw [show va_rf (hR (wI h2 1 1 0) 0 10) = .ref 199 from by show va_rf (hR h2 0 10) = _; rw [g0]; exact e10]
      refine R_gs 38 rfl ?_
      rw [show va_rf (hR (wI h2 1 1 0) 0 11) = .ref 203 from by show va_rf (hR h2 0 11) = _; rw [g0]; exact e11]
      refine R_gs 47 rfl ?_
      refine W_f rfl (by first | rfl | exact ⟨rfl, by first | decide | assumption | exact Or.inl rfl | exact Or.inr rfl | exact b2i_01 _⟩) ?_
      rw [if_pos hc25] at h1
      have G2 := ((G.wI (a := 1) (k := 1) (v := 0) rfl).wR (a := 0) (k := 10) (v := some 203) rfl).wR (a := 0) (k := 11) (v := some 199) rfl
      exact h1 _ (((F2.wI rfl).wR rfl).wR rfl) ⟨143, 203, ⟨by decide, by decide, by show hR h2 0 8 = _; rw [g0]; exact c1.2.2.1, by show hR h2 0 9 = _; rw [g0]; exact c1.2.2.2.1, rfl, rfl⟩, c2.fr hO G2 (fun i h1 h2 => xf _ (by omega) (by omega)), c3.fr G2 (xf _ (by omega) (by omega)) (xf _ (by omega) (by omega)) (xf _ (by omega) (by omega)) (xf _ (by omega) (by omega)) (xf _ (by omega) (by omega)), c4.fr G2 (xf _ (by omega) (by omega)) (xf _ (by omega) (by omega)), c5.fr G2 (xf _ (by omega) (by omega)) (fun q _ _ => xf _ (by omega) (by omega)), ⟨by show ∀ m, m < 4 → bt (hI h2 0 12) m = _; rw [show hI h2 0 = hI h 0 from f2.I rfl]; exact c6.1, fun m hm U hU => ⟨(c6.2 m hm U hU).1.fr G2 (xf _ (by omega) (by omega)) (xf _ (by omega) (by omega)) (xf _ (by omega) (by omega)) (xf _ (by omega) (by omega)) (xf _ (by omega) (by omega)), (c6.2 m hm U hU).2.fr G2 (xf _ (by omega) (by omega)) (xf _ (by omega) (by omega))⟩⟩, ⟨p2.1, p2.2⟩, ⟨rfl, fun i hi => absurd hi (Nat.not_lt_zero i)⟩, c9.fr G2 (xf _ (by omega) (by omega)) (xf _ (by omega) (by omega)) (xf _ (by omega) (by omega)) (xf _ (by omega) (by omega)), c10.fr G2 (xf _ (by omega) (by omega)) (xf _ (by omega) (by omega)), c11.fr G2 (xf _ (by omega) (by omega))⟩
    ·
      rw [show (nI R.1.2 = 0 ↔ R.1.2 = 0) from nI_eq (b := 0) (by omega) (by omega)] at hc25
      refine R_gs 47 rfl ?_
      refine W_f rfl (by first | rfl | exact ⟨rfl, by first | decide | assumption | exact Or.inl rfl | exact Or.inr rfl | exact b2i_01 _⟩) ?_
      rw [if_neg hc25] at h1
      have G2 := G.wI (a := 1) (k := 1) (v := 0) rfl
      exact h1 _ (F2.wI rfl) ⟨143, 199, ⟨by decide, by decide, by rw [show hR (wI h2 1 1 0) 0 = hR h 0 from g0]; exact c1.2.2.1, by rw [show hR (wI h2 1 1 0) 0 = hR h 0 from g0]; exact c1.2.2.2.1, by rw [show hR (wI h2 1 1 0) 0 = hR h 0 from g0]; exact c1.2.2.2.2.1, by rw [show hR (wI h2 1 1 0) 0 = hR h 0 from g0]; exact c1.2.2.2.2.2⟩, c2.fr hO G2 (fun i h1 h2 => xf _ (by omega) (by omega)), c3.fr G2 (xf _ (by omega) (by omega)) (xf _ (by omega) (by omega)) (xf _ (by omega) (by omega)) (xf _ (by omega) (by omega)) (xf _ (by omega) (by omega)), c4.fr G2 (xf _ (by omega) (by omega)) (xf _ (by omega) (by omega)), c5.fr G2 (xf _ (by omega) (by omega)) (fun q _ _ => xf _ (by omega) (by omega)), ⟨by rw [show hI (wI h2 1 1 0) 0 = hI h 0 from f2.I rfl]; exact c6.1, fun m hm U hU => ⟨(c6.2 m hm U hU).1.fr G2 (xf _ (by omega) (by omega)) (xf _ (by omega) (by omega)) (xf _ (by omega) (by omega)) (xf _ (by omega) (by omega)) (xf _ (by omega) (by omega)), (c6.2 m hm U hU).2.fr G2 (xf _ (by omega) (by omega)) (xf _ (by omega) (by omega))⟩⟩, c7.fr G2 (xf _ (by omega) (by omega)) (xf _ (by omega) (by omega)) (xf _ (by omega) (by omega)) (xf _ (by omega) (by omega)), ⟨rfl, fun i hi => absurd hi (Nat.not_lt_zero i)⟩, c9.fr G2 (xf _ (by omega) (by omega)) (xf _ (by omega) (by omega)) (xf _ (by omega) (by omega)) (xf _ (by omega) (by omega)), c10.fr G2 (xf _ (by omega) (by omega)) (xf _ (by omega) (by omega)), c11.fr G2 (xf _ (by omega) (by omega))⟩
  ·
    refine R_in rfl rfl ?_
    refine R_gs 8 rfl ?_
    rw [show va_rf (hR h 0 11) = .ref 199 from e11]
    refine R_gs 12 rfl ?_
    rw [e8]
    refine R_k rfl rfl (c_readDay (T := T) (N := N) (by decide) (by decide) c8 tO c9 nO (fun h2 f2 p2 b2 => ?_))
    rw [← eR] at p2 b2 ⊢
    have F2 : Fr xC h h2 := f2.mono (fun q hq => xC_t (by rcases Nat.lt_or_ge 234 q with e | e; rw [xpd_f (by omega) (by omega) (by omega)] at hq; cases hq; omega))
    have g0 : hR h2 0 = hR h 0 := f2.R rfl
    have G : Fr (fun q => xpd 199 q || (Nat.beq q 1 || Nat.beq q 0)) h h2 := f2.mono (fun q hq => by rw [hq]; rfl)
    have xf : ∀ q, 6 < q → (q < 199 ∨ 199 + 3 < q) → (xpd 199 q || (Nat.beq q 1 || Nat.beq q 0)) = false := fun q q1 q2 => by rw [xpd_f (by omega) (by omega) q2, bq_f (by omega), bq_f (by omega)]; rfl
    refine R_gs 25 rfl ?_
    refine W_b rfl (fun hc25 => ?_) (fun hc25 => ?_)
    ·
      rw [show (nI R.1.2 = 0 ↔ R.1.2 = 0) from nI_eq (b := 0) (by omega) (by omega)] at hc25
      refine R_gs 32 rfl ?_
      rw [show va_rf (hR (wI h2 1 1 0) 0 10) = .ref 203 from by show va_rf (hR h2 0 10) = _; rw [g0]; exact e10]
      refine R_gs 38 rfl ?_
      rw [show va_rf (hR (wI h2 1 1 0) 0 11) = .ref 199 from by show va_rf (hR h2 0 11) = _; rw [g0]; exact e11]
      refine R_gs 47 rfl ?_
      refine W_f rfl (by first | rfl | exact ⟨rfl, by first | decide | assumption | exact Or.inl rfl | exact Or.inr rfl | exact b2i_01 _⟩) ?_
      rw [if_pos hc25] at h1
      have G2 := ((G.wI (a := 1) (k := 1) (v := 0) rfl).wR (a := 0) (k := 10) (v := some 199) rfl).wR (a := 0) (k := 11) (v := some 203) rfl
      exact h1 _ (((F2.wI rfl).wR rfl).wR rfl) ⟨143, 199, ⟨by decide, by decide, by show hR h2 0 8 = _; rw [g0]; exact c1.2.2.1, by show hR h2 0 9 = _; rw [g0]; exact c1.2.2.2.1, rfl, rfl⟩, c2.fr hO G2 (fun i h1 h2 => xf _ (by omega) (by omega)), c3.fr G2 (xf _ (by omega) (by omega)) (xf _ (by omega) (by omega)) (xf _ (by omega) (by omega)) (xf _ (by omega) (by omega)) (xf _ (by omega) (by omega)), c4.fr G2 (xf _ (by omega) (by omega)) (xf _ (by omega) (by omega)), c5.fr G2 (xf _ (by omega) (by omega)) (fun q _ _ => xf _ (by omega) (by omega)), ⟨by show ∀ m, m < 4 → bt (hI h2 0 12) m = _; rw [show hI h2 0 = hI h 0 from f2.I rfl]; exact c6.1, fun m hm U hU => ⟨(c6.2 m hm U hU).1.fr G2 (xf _ (by omega) (by omega)) (xf _ (by omega) (by omega)) (xf _ (by omega) (by omega)) (xf _ (by omega) (by omega)) (xf _ (by omega) (by omega)), (c6.2 m hm U hU).2.fr G2 (xf _ (by omega) (by omega)) (xf _ (by omega) (by omega))⟩⟩, ⟨p2.1, p2.2⟩, ⟨rfl, fun i hi => absurd hi (Nat.not_lt_zero i)⟩, c9.fr G2 (xf _ (by omega) (by omega)) (xf _ (by omega) (by omega)) (xf _ (by omega) (by omega)) (xf _ (by omega) (by omega)), c10.fr G2 (xf _ (by omega) (by omega)) (xf _ (by omega) (by omega)), c11.fr G2 (xf _ (by omega) (by omega))⟩
    ·
      rw [show (nI R.1.2 = 0 ↔ R.1.2 = 0) from nI_eq (b := 0) (by omega) (by omega)] at hc25
      refine R_gs 47 rfl ?_
      refine W_f rfl (by first | rfl | exact ⟨rfl, by first | decide | assumption | exact Or.inl rfl | exact Or.inr rfl | exact b2i_01 _⟩) ?_
      rw [if_neg hc25] at h1
      have G2 := G.wI (a := 1) (k := 1) (v := 0) rfl
      exact h1 _ (F2.wI rfl) ⟨143, 203, ⟨by decide, by decide, by rw [show hR (wI h2 1 1 0) 0 = hR h 0 from g0]; exact c1.2.2.1, by rw [show hR (wI h2 1 1 0) 0 = hR h 0 from g0]; exact c1.2.2.2.1, by rw [show hR (wI h2 1 1 0) 0 = hR h 0 from g0]; exact c1.2.2.2.2.1, by rw [show hR (wI h2 1 1 0) 0 = hR h 0 from g0]; exact c1.2.2.2.2.2⟩, c2.fr hO G2 (fun i h1 h2 => xf _ (by omega) (by omega)), c3.fr G2 (xf _ (by omega) (by omega)) (xf _ (by omega) (by omega)) (xf _ (by omega) (by omega)) (xf _ (by omega) (by omega)) (xf _ (by omega) (by omega)), c4.fr G2 (xf _ (by omega) (by omega)) (xf _ (by omega) (by omega)), c5.fr G2 (xf _ (by omega) (by omega)) (fun q _ _ => xf _ (by omega) (by omega)), ⟨by rw [show hI (wI h2 1 1 0) 0 = hI h 0 from f2.I rfl]; exact c6.1, fun m hm U hU => ⟨(c6.2 m hm U hU).1.fr G2 (xf _ (by omega) (by omega)) (xf _ (by omega) (by omega)) (xf _ (by omega) (by omega)) (xf _ (by omega) (by omega)) (xf _ (by omega) (by omega)), (c6.2 m hm U hU).2.fr G2 (xf _ (by omega) (by omega)) (xf _ (by omega) (by omega))⟩⟩, c7.fr G2 (xf _ (by omega) (by omega)) (xf _ (by omega) (by omega)) (xf _ (by omega) (by omega)) (xf _ (by omega) (by omega)), ⟨rfl, fun i hi => absurd hi (Nat.not_lt_zero i)⟩, c9.fr G2 (xf _ (by omega) (by omega)) (xf _ (by omega) (by omega)) (xf _ (by omega) (by omega)) (xf _ (by omega) (by omega)), c10.fr G2 (xf _ (by omega) (by omega)) (xf _ (by omega) (by omega)), c11.fr G2 (xf _ (by omega) (by omega))⟩
  ·
    refine R_in rfl rfl ?_
    refine R_gs 8 rfl ?_
    rw [show va_rf (hR h 0 11) = .ref 203 from e11]
    refine R_gs 12 rfl ?_
    rw [e8]
    refine R_k rfl rfl (c_readDay (T := T) (N := N) (by decide) (by decide) c8 tO c9 nO (fun h2 f2 p2 b2 => ?_))
    rw [← eR] at p2 b2 ⊢
    have F2 : Fr xC h h2 := f2.mono (fun q hq => xC_t (by rcases Nat.lt_or_ge 234 q with e | e; rw [xpd_f (by omega) (by omega) (by omega)] at hq; cases hq; omega))
    have g0 : hR h2 0 = hR h 0 := f2.R rfl
    have G : Fr (fun q => xpd 203 q || (Nat.beq q 1 || Nat.beq q 0)) h h2 := f2.mono (fun q hq => by rw [hq]; rfl)
    have xf : ∀ q, 6 < q → (q < 203 ∨ 203 + 3 < q) → (xpd 203 q || (Nat.beq q 1 || Nat.beq q 0)) = false := fun q q1 q2 => by rw [xpd_f (by omega) (by omega) q2, bq_f (by omega), bq_f (by omega)]; rfl
    refine R_gs 25 rfl ?_
    refine W_b rfl (fun hc25 => ?_) (fun hc25 => ?_)
    ·
      rw [show (nI R.1.2 = 0 ↔ R.1.2 = 0) from nI_eq (b := 0) (by omega) (by omega)] at hc25
      refine R_gs 32 rfl ?_
      rw [show va_rf (hR (wI h2 1 1 0) 0 10) = .ref 199 from by show va_rf (hR h2 0 10) = _; rw [g0]; exact e10]
      refine R_gs 38 rfl ?_
      rw [show va_rf (hR (wI h2 1 1 0) 0 11) = .ref 203 from by show va_rf (hR h2 0 11) = _; rw [g0]; exact e11]
      refine R_gs 47 rfl ?_
      refine W_f rfl (by first | rfl | exact ⟨rfl, by first | decide | assumption | exact Or.inl rfl | exact Or.inr rfl | exact b2i_01 _⟩) ?_
      rw [if_pos hc25] at h1
      have G2 := ((G.wI (a := 1) (k := 1) (v := 0) rfl).wR (a := 0) (k := 10) (v := some 203) rfl).wR (a := 0) (k := 11) (v := some 199) rfl
      exact h1 _ (((F2.wI rfl).wR rfl).wR rfl) ⟨171, 203, ⟨by decide, by decide, by show hR h2 0 8 = _; rw [g0]; exact c1.2.2.1, by show hR h2 0 9 = _; rw [g0]; exact c1.2.2.2.1, rfl, rfl⟩, c2.fr hO G2 (fun i h1 h2 => xf _ (by omega) (by omega)), c3.fr G2 (xf _ (by omega) (by omega)) (xf _ (by omega) (by omega)) (xf _ (by omega) (by omega)) (xf _ (by omega) (by omega)) (xf _ (by omega) (by omega)), c4.fr G2 (xf _ (by omega) (by omega)) (xf _ (by omega) (by omega)), c5.fr G2 (xf _ (by omega) (by omega)) (fun q _ _ => xf _ (by omega) (by omega)), ⟨by show ∀ m, m < 4 → bt (hI h2 0 12) m = _; rw [show hI h2 0 = hI h 0 from f2.I rfl]; exact c6.1, fun m hm U hU => ⟨(c6.2 m hm U hU).1.fr G2 (xf _ (by omega) (by omega)) (xf _ (by omega) (by omega)) (xf _ (by omega) (by omega)) (xf _ (by omega) (by omega)) (xf _ (by omega) (by omega)), (c6.2 m hm U hU).2.fr G2 (xf _ (by omega) (by omega)) (xf _ (by omega) (by omega))⟩⟩, ⟨p2.1, p2.2⟩, ⟨rfl, fun i hi => absurd hi (Nat.not_lt_zero i)⟩, c9.fr G2 (xf _ (by omega) (by omega)) (xf _ (by omega) (by omega)) (xf _ (by omega) (by omega)) (xf _ (by omega) (by omega)), c10.fr G2 (xf _ (by omega) (by omega)) (xf _ (by omega) (by omega)), c11.fr G2 (xf _ (by omega) (by omega))⟩
    ·
      rw [show (nI R.1.2 = 0 ↔ R.1.2 = 0) from nI_eq (b := 0) (by omega) (by omega)] at hc25
      refine R_gs 47 rfl ?_
      refine W_f rfl (by first | rfl | exact ⟨rfl, by first | decide | assumption | exact Or.inl rfl | exact Or.inr rfl | exact b2i_01 _⟩) ?_
      rw [if_neg hc25] at h1
      have G2 := G.wI (a := 1) (k := 1) (v := 0) rfl
      exact h1 _ (F2.wI rfl) ⟨171, 199, ⟨by decide, by decide, by rw [show hR (wI h2 1 1 0) 0 = hR h 0 from g0]; exact c1.2.2.1, by rw [show hR (wI h2 1 1 0) 0 = hR h 0 from g0]; exact c1.2.2.2.1, by rw [show hR (wI h2 1 1 0) 0 = hR h 0 from g0]; exact c1.2.2.2.2.1, by rw [show hR (wI h2 1 1 0) 0 = hR h 0 from g0]; exact c1.2.2.2.2.2⟩, c2.fr hO G2 (fun i h1 h2 => xf _ (by omega) (by omega)), c3.fr G2 (xf _ (by omega) (by omega)) (xf _ (by omega) (by omega)) (xf _ (by omega) (by omega)) (xf _ (by omega) (by omega)) (xf _ (by omega) (by omega)), c4.fr G2 (xf _ (by omega) (by omega)) (xf _ (by omega) (by omega)), c5.fr G2 (xf _ (by omega) (by omega)) (fun q _ _ => xf _ (by omega) (by omega)), ⟨by rw [show hI (wI h2 1 1 0) 0 = hI h 0 from f2.I rfl]; exact c6.1, fun m hm U hU => ⟨(c6.2 m hm U hU).1.fr G2 (xf _ (by omega) (by omega)) (xf _ (by omega) (by omega)) (xf _ (by omega) (by omega)) (xf _ (by omega) (by omega)) (xf _ (by omega) (by omega)), (c6.2 m hm U hU).2.fr G2 (xf _ (by omega) (by omega)) (xf _ (by omega) (by omega))⟩⟩, c7.fr G2 (xf _ (by omega) (by omega)) (xf _ (by omega) (by omega)) (xf _ (by omega) (by omega)) (xf _ (by omega) (by omega)), ⟨rfl, fun i hi => absurd hi (Nat.not_lt_zero i)⟩, c9.fr G2 (xf _ (by omega) (by omega)) (xf _ (by omega) (by omega)) (xf _ (by omega) (by omega)) (xf _ (by omega) (by omega)), c10.fr G2 (xf _ (by omega) (by omega)) (xf _ (by omega) (by omega)), c11.fr G2 (xf _ (by omega) (by omega))⟩
  ·
    refine R_in rfl rfl ?_
    refine R_gs 8 rfl ?_
    rw [show va_rf (hR h 0 11) = .ref 199 from e11]
    refine R_gs 12 rfl ?_
    rw [e8]
    refine R_k rfl rfl (c_readDay (T := T) (N := N) (by decide) (by decide) c8 tO c9 nO (fun h2 f2 p2 b2 => ?_))
    rw [← eR] at p2 b2 ⊢
    have F2 : Fr xC h h2 := f2.mono (fun q hq => xC_t (by rcases Nat.lt_or_ge 234 q with e | e; rw [xpd_f (by omega) (by omega) (by omega)] at hq; cases hq; omega))
    have g0 : hR h2 0 = hR h 0 := f2.R rfl
    have G : Fr (fun q => xpd 199 q || (Nat.beq q 1 || Nat.beq q 0)) h h2 := f2.mono (fun q hq => by rw [hq]; rfl)
    have xf : ∀ q, 6 < q → (q < 199 ∨ 199 + 3 < q) → (xpd 199 q || (Nat.beq q 1 || Nat.beq q 0)) = false := fun q q1 q2 => by rw [xpd_f (by omega) (by omega) q2, bq_f (by omega), bq_f (by omega)]; rfl
    refine R_gs 25 rfl ?_
    refine W_b rfl (fun hc25 => ?_) (fun hc25 => ?_)
    ·
      rw [show (nI R.1.2 = 0 ↔ R.1.2 = 0) from nI_eq (b := 0) (by omega) (by omega)] at hc25
      refine R_gs 32 rfl ?_
      rw [show va_rf (hR (wI h2 1 1 0) 0 10) = .ref 203 from by show va_rf (hR h2 0 10) = _; rw [g0]; exact e10]
      refine R_gs 38 rfl ?_
      rw [show va_rf (hR (wI h2 1 1 0) 0 11) = .ref 199 from by show va_rf (hR h2 0 11) = _; rw [g0]; exact e11]
      refine R_gs 47 rfl ?_
      refine W_f rfl (by first | rfl | exact ⟨rfl, by first | decide | assumption | exact Or.inl rfl | exact Or.inr rfl | exact b2i_01 _⟩) ?_
      rw [if_pos hc25] at h1
      have G2 := ((G.wI (a := 1) (k := 1) (v := 0) rfl).wR (a := 0) (k := 10) (v := some 199) rfl).wR (a := 0) (k := 11) (v := some 203) rfl
      exact h1 _ (((F2.wI rfl).wR rfl).wR rfl) ⟨171, 199, ⟨by decide, by decide, by show hR h2 0 8 = _; rw [g0]; exact c1.2.2.1, by show hR h2 0 9 = _; rw [g0]; exact c1.2.2.2.1, rfl, rfl⟩, c2.fr hO G2 (fun i h1 h2 => xf _ (by omega) (by omega)), c3.fr G2 (xf _ (by omega) (by omega)) (xf _ (by omega) (by omega)) (xf _ (by omega) (by omega)) (xf _ (by omega) (by omega)) (xf _ (by omega) (by omega)), c4.fr G2 (xf _ (by omega) (by omega)) (xf _ (by omega) (by omega)), c5.fr G2 (xf _ (by omega) (by omega)) (fun q _ _ => xf _ (by omega) (by omega)), ⟨by show ∀ m, m < 4 → bt (hI h2 0 12) m = _; rw [show hI h2 0 = hI h 0 from f2.I rfl]; exact c6.1, fun m hm U hU => ⟨(c6.2 m hm U hU).1.fr G2 (xf _ (by omega) (by omega)) (xf _ (by omega) (by omega)) (xf _ (by omega) (by omega)) (xf _ (by omega) (by omega)) (xf _ (by omega) (by omega)), (c6.2 m hm U hU).2.fr G2 (xf _ (by omega) (by omega)) (xf _ (by omega) (by omega))⟩⟩, ⟨p2.1, p2.2⟩, ⟨rfl, fun i hi => absurd hi (Nat.not_lt_zero i)⟩, c9.fr G2 (xf _ (by omega) (by omega)) (xf _ (by omega) (by omega)) (xf _ (by omega) (by omega)) (xf _ (by omega) (by omega)), c10.fr G2 (xf _ (by omega) (by omega)) (xf _ (by omega) (by omega)), c11.fr G2 (xf _ (by omega) (by omega))⟩
    ·
      rw [show (nI R.1.2 = 0 ↔ R.1.2 = 0) from nI_eq (b := 0) (by omega) (by omega)] at hc25
      refine R_gs 47 rfl ?_
      refine W_f rfl (by first | rfl | exact ⟨rfl, by first | decide | assumption | exact Or.inl rfl | exact Or.inr rfl | exact b2i_01 _⟩) ?_
      rw [if_neg hc25] at h1
      have G2 := G.wI (a := 1) (k := 1) (v := 0) rfl
      exact h1 _ (F2.wI rfl) ⟨171, 203, ⟨by decide, by decide, by rw [show hR (wI h2 1 1 0) 0 = hR h 0 from g0]; exact c1.2.2.1, by rw [show hR (wI h2 1 1 0) 0 = hR h 0 from g0]; exact c1.2.2.2.1, by rw [show hR (wI h2 1 1 0) 0 = hR h 0 from g0]; exact c1.2.2.2.2.1, by rw [show hR (wI h2 1 1 0) 0 = hR h 0 from g0]; exact c1.2.2.2.2.2⟩, c2.fr hO G2 (fun i h1 h2 => xf _ (by omega) (by omega)), c3.fr G2 (xf _ (by omega) (by omega)) (xf _ (by omega) (by omega)) (xf _ (by omega) (by omega)) (xf _ (by omega) (by omega)) (xf _ (by omega) (by omega)), c4.fr G2 (xf _ (by omega) (by omega)) (xf _ (by omega) (by omega)), c5.fr G2 (xf _ (by omega) (by omega)) (fun q _ _ => xf _ (by omega) (by omega)), ⟨by rw [show hI (wI h2 1 1 0) 0 = hI h 0 from f2.I rfl]; exact c6.1, fun m hm U hU => ⟨(c6.2 m hm U hU).1.fr G2 (xf _ (by omega) (by omega)) (xf _ (by omega) (by omega)) (xf _ (by omega) (by omega)) (xf _ (by omega) (by omega)) (xf _ (by omega) (by omega)), (c6.2 m hm U hU).2.fr G2 (xf _ (by omega) (by omega)) (xf _ (by omega) (by omega))⟩⟩, c7.fr G2 (xf _ (by omega) (by omega)) (xf _ (by omega) (by omega)) (xf _ (by omega) (by omega)) (xf _ (by omega) (by omega)), ⟨rfl, fun i hi => absurd hi (Nat.not_lt_zero i)⟩, c9.fr G2 (xf _ (by omega) (by omega)) (xf _ (by omega) (by omega)) (xf _ (by omega) (by omega)) (xf _ (by omega) (by omega)), c10.fr G2 (xf _ (by omega) (by omega)) (xf _ (by omega) (by omega)), c11.fr G2 (xf _ (by omega) (by omega))⟩
end
