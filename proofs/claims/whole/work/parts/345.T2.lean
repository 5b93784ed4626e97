/-- which of some words stands here -/
def wh (K : TKs) (a m : Nat) (s : RS) : Int32 := lp (fun k w => if tz K (tw (a + k)) s = true then nI k else w) m (-1)
theorem sr2 : ∀ t, t < 38 → (srt t = 2 ↔ t = 2) := by decide +kernel
section
variable {d : Nat} {h h' : AH} {K : TKs} {s : RS} {Q : Option Value → AH → Prop}
theorem wh_y {a : Nat} : ∀ (m k : Nat), a + m ≤ 26 → k < m → tz K (tw (a + k)) s = true → wh K a m s = nI k
  | 0, k, _, hk, _ => by omega
  | m + 1, k, ha, hk, hz => by
    show (if tz K (tw (a + m)) s = true then nI m else wh K a m s) = nI k
    by_cases e : k = m
    · subst e; rw [if_pos hz]
    · rw [if_neg (fun e2 => ?_)]
      · exact wh_y m k (by omega) (by omega) hz
      · have := tw_inj (by omega) (by omega) ((tz_t hz).2.symm.trans (tz_t e2).2)
        omega
theorem wh_n {a : Nat} : ∀ (m : Nat), (∀ k, k < m → tz K (tw (a + k)) s = false) → wh K a m s = -1
  | 0, _ => rfl
  | m + 1, hz => by
    show (if tz K (tw (a + m)) s = true then nI m else wh K a m s) = -1
    rw [if_neg (by rw [hz m (by omega)]; decide)]
    exact wh_n m (fun k hk => hz k (by omega))
theorem m_wordHere (kO : TokOK K) {a m : Nat} (ha : a + m ≤ 26) (c : MF h K s) (h1 : Q (some (.int (wh K a m s))) h) : Rc (d + 2) m_X13_wordHere [.ref 235, .int (nI a), .int (nI m)] h Q := by
  refine R_in rfl rfl ?_
  refine R_gs 5 rfl ?_
  refine w_lp (W := fun k w => Rw (d + 1) Q (m_X13_wordHere, 5, [some (.ref 235), some (.int (nI a)), some (.int (nI m)), some (.int w), some (.int (nI k))], [], 262, h)) (fun k w => if tz K (tw (a + k)) s = true then nI k else w) m (fun _ _ => True) (-1) trivial (fun k w hk _ => ⟨trivial, fun w9 => ?_⟩) (fun _ => ?_)
  ·
    refine R_gs 8 rfl ?_
    refine W_bf rfl (fun e => absurd ((nI_leI (by omega) (by omega)).mp e) (by omega)) ?_
    refine R_gs 16 rfl ?_
    rw [nI_add]
    refine R_k rfl rfl (m_isWord kO (by omega) c ?_)
    refine W_b rfl (fun hc19 => ?_) (fun hc19 => ?_)
    ·
      rw [b2i0] at hc19
      refine R_gs 5 rfl ?_
      rw [if_neg (by rw [hc19]; decide)] at w9; rw [nI_1]; exact w9
    ·
      rw [b2i0] at hc19
      rw [Bool.not_eq_false] at hc19
      refine R_gs 5 rfl ?_
      rw [if_pos hc19] at w9; rw [nI_1]; exact w9
  ·
    refine R_gs 8 rfl ?_
    refine W_bt rfl (Int32.le_refl _) ?_
    refine R_gs 36 rfl ?_
    refine W_f rfl (by first | rfl | exact ⟨rfl, by first | decide | assumption | exact Or.inl rfl | exact Or.inr rfl | exact b2i_01 _⟩) ?_
    exact h1
theorem m_takeNumber (kO : TokOK K) {m : Nat} (hm : m ≤ 1) (c : MF h K s) (h1 : ∀ h' v, MR h h' → MF h' K (rn K m s) → ((rn K m s).2 = 0 → v = nI (tn K s.1)) → Q (some (.int v)) h') : Rc (d + 2) m_X13_takeNumber [.ref 235, .int (nI m), .int 9] h Q := by
  have k1 := kO.1
  have c2 := c.2.1
  have tg := c.tg kO
  obtain ⟨y1, y2, y3, y4, y5⟩ := c.1 s.1 c.2.1
  have sl : srt (tk K s.1) ≤ 4 := (by unfold srt; repeat (first | omega | split))
  have sr : srt (tk K s.1) = 2 ↔ tk K s.1 = 2 := sr2 _ tg.1
  have bz : ∀ k, 0 < k → ∀ s : RS, s.2 = 0 → ¬ (bl K true k s).2 = 0 := fun k hk s hs => by rw [bl_y hs]; dsimp only; omega
  have rN : ¬ s.2 = 0 → rn K m s = s := fun e => by unfold rn; rw [bl_n (Or.inr e), bl_n (Or.inr e), sp_n e]
  have r1 : s.2 = 0 → ¬ tk K s.1 = 2 → rn K m s = bl K true 1 s := fun e e2 => by
    unfold rn
    rw [decide_eq_false e2, show (!false) = true from rfl, bl_n (s := bl K true 1 s) (Or.inr (bz 1 (by omega) s e)), sp_n (bz 1 (by omega) s e)]
  have r4 : s.2 = 0 → tk K s.1 = 2 → (tn K s.1 < m ∨ 9 < tn K s.1) → rn K m s = bl K true 4 s := fun e e2 e3 => by
    unfold rn
    rw [decide_eq_true e2, show (!true) = false from rfl, bl_n (s := s) (k := 1) (Or.inl rfl), show (decide (tn K s.1 < m) || decide (9 < tn K s.1)) = true from by rw [Bool.or_eq_true, decide_eq_true_eq, decide_eq_true_eq]; exact e3, sp_n (bz 4 (by omega) s e)]
  have r0 : s.2 = 0 → tk K s.1 = 2 → ¬ (tn K s.1 < m ∨ 9 < tn K s.1) → rn K m s = (s.1 + 1, 0) ∧ s.1 + 1 < K.1 := fun e e2 e3 => by
    have := sp_1 kO c2 e (by rw [e2]; decide)
    refine ⟨?_, this.2⟩
    unfold rn
    rw [decide_eq_true e2, show (!true) = false from rfl, bl_n (s := s) (k := 1) (Or.inl rfl), show (decide (tn K s.1 < m) || decide (9 < tn K s.1)) = false from by rw [Bool.or_eq_false_iff, decide_eq_false_iff_not, decide_eq_false_iff_not]; omega, bl_n (Or.inl rfl)]; exact this.1
  have tnb : tk K s.1 = 2 → tn K s.1 ≤ 9999 := tg.2.2.1
  have y3 : tk K s.1 = 2 → hJ h 239 s.1 = lN64 (tn K s.1) := y3
  refine R_in rfl rfl ?_
  refine R_gs 4 rfl ?_
  refine W_b rfl (fun hc4 => ?_) (fun hc4 => ?_)
  ·
    rw [c.fz] at hc4
    refine R_gs 15 rfl ?_
    refine R_il rfl rfl (j := s.1) c.2.2.1 (by omega) y1 ?_
    refine R_gs 17 rfl ?_
    refine W_b rfl (fun hc17 => ?_) (fun hc17 => ?_)
    ·
      rw [show (nI (srt (K.2 s.1).1) = 2 ↔ srt (tk K s.1) = 2) from nI_eq (b := 2) (by have : srt (K.2 s.1).1 ≤ 4 := sl; omega) (by omega), sr] at hc17
      refine R_gs 32 rfl ?_
      refine W_bt rfl (c.fz.mpr hc4) ?_
      refine R_gs 43 rfl ?_
      refine R_ll rfl rfl (j := s.1) c.2.2.1 (by omega) (y3 hc17) ?_
      refine R_gs 47 rfl ?_
      have tb9 := tnb hc17
      rw [nI_l (by omega)]
      refine W_b rfl (fun hc47 => ?_) (fun hc47 => ?_)
      ·
        rw [lg_cmp_lt, show (lN64 (tn K s.1) < lN m ↔ tn K s.1 < m) from lN_lt (by omega) (by omega)] at hc47
        refine R_gs 67 rfl ?_
        refine R_k rfl rfl (m_wrong kO (k := 4) (by decide) c (fun h2 m2 c2 => ?_))
        refine R_gs 74 rfl ?_
        refine W_bf rfl (fun e => bz 4 (by omega) s hc4 (c2.fl.mp e)) ?_
        refine R_gs 78 rfl ?_
        refine W_f rfl (by first | rfl | exact ⟨rfl, by first | decide | assumption | exact Or.inl rfl | exact Or.inr rfl | exact b2i_01 _⟩) ?_
        rw [r4 hc4 hc17 (by omega)] at h1; exact h1 _ _ m2 c2 (fun e => absurd e (bz 4 (by omega) s hc4))
      ·
        rw [lg_cmp_lt, show (lN64 (tn K s.1) < lN m ↔ tn K s.1 < m) from lN_lt (by omega) (by omega)] at hc47
        refine R_gs 58 rfl ?_
        refine R_ll rfl rfl (j := s.1) c.2.2.1 (by omega) (y3 hc17) ?_
        refine R_gs 62 rfl ?_
        refine W_b rfl (fun hc62 => ?_) (fun hc62 => ?_)
        ·
          rw [lg_cmp_le, show (lN64 (tn K s.1) ≤ Int32.toInt64 9 ↔ tn K s.1 ≤ 9) from lN_le (b := 9) (by omega) (by omega)] at hc62
          refine R_gs 74 rfl ?_
          refine W_bt rfl (c.fl.mpr hc4) ?_
          refine R_gs 99 rfl ?_
          refine R_ll rfl rfl (j := s.1) (by show hI h 235 7 + 1 - 1 = _; rw [Int32.add_sub_cancel]; exact c.2.2.1) (by omega) (y3 hc17) ?_
          refine R_gs 101 rfl ?_
          refine W_f rfl (by first | rfl | exact ⟨rfl, by first | decide | assumption | exact Or.inl rfl | exact Or.inr rfl | exact b2i_01 _⟩) ?_
          obtain ⟨e1, e2⟩ := r0 hc4 hc17 (by omega)
          rw [e1] at h1; exact h1 _ _ (MR.w7 _ _) (c.st (MR.w7 _ _) e2 (by show hI h 235 7 + 1 = _; rw [c.2.2.1, nI_1]) (by show hI h 235 8 = _; rw [c.2.2.2.1, hc4]) (Nat.zero_le _)) (fun _ => l64_i)
        ·
          rw [lg_cmp_le, show (lN64 (tn K s.1) ≤ Int32.toInt64 9 ↔ tn K s.1 ≤ 9) from lN_le (b := 9) (by omega) (by omega)] at hc62
          refine R_gs 67 rfl ?_
          refine R_k rfl rfl (m_wrong kO (k := 4) (by decide) c (fun h2 m2 c2 => ?_))
          refine R_gs 74 rfl ?_
          refine W_bf rfl (fun e => bz 4 (by omega) s hc4 (c2.fl.mp e)) ?_
          refine R_gs 78 rfl ?_
          refine W_f rfl (by first | rfl | exact ⟨rfl, by first | decide | assumption | exact Or.inl rfl | exact Or.inr rfl | exact b2i_01 _⟩) ?_
          rw [r4 hc4 hc17 (by omega)] at h1; exact h1 _ _ m2 c2 (fun e => absurd e (bz 4 (by omega) s hc4))
    ·
      rw [show (nI (srt (K.2 s.1).1) = 2 ↔ srt (tk K s.1) = 2) from nI_eq (b := 2) (by have : srt (K.2 s.1).1 ≤ 4 := sl; omega) (by omega), sr] at hc17
      refine R_gs 22 rfl ?_
      refine R_k rfl rfl (m_wrong kO (k := 1) (by decide) c (fun h2 m2 c2 => ?_))
      refine R_gs 74 rfl ?_
      refine W_bf rfl (fun e => bz 1 (by omega) s hc4 (c2.fl.mp e)) ?_
      refine R_gs 78 rfl ?_
      refine W_f rfl (by first | rfl | exact ⟨rfl, by first | decide | assumption | exact Or.inl rfl | exact Or.inr rfl | exact b2i_01 _⟩) ?_
      rw [r1 hc4 hc17] at h1; exact h1 _ _ m2 c2 (fun e => absurd e (bz 1 (by omega) s hc4))
  ·
    rw [c.fz] at hc4
    refine R_gs 32 rfl ?_
    refine W_bf rfl (fun e => hc4 (c.fz.mp e)) ?_
    refine R_gs 74 rfl ?_
    refine W_bf rfl (fun e => hc4 (c.fl.mp e)) ?_
    refine R_gs 78 rfl ?_
    refine W_f rfl (by first | rfl | exact ⟨rfl, by first | decide | assumption | exact Or.inl rfl | exact Or.inr rfl | exact b2i_01 _⟩) ?_
    rw [rN hc4] at h1; exact h1 _ _ (MR.refl h) c (fun e => absurd e hc4)
theorem rol5 : ∀ t, t < 38 → (rol t = 5 ↔ 23 ≤ t ∧ t ≤ 26) ∧ (23 ≤ t ∧ t ≤ 26 → mea t = nI (t - 23)) := by decide +kernel
theorem m_takeOne (kO : TokOK K) (c : MF h K s) (h1 : ∀ h' v, MR h h' → MF h' K (sp K (bl K (!decide (rol (tk K s.1) = 5)) 1 s)) → ((sp K (bl K (!decide (rol (tk K s.1) = 5)) 1 s)).2 = 0 → v = mea (tk K s.1)) → Q (some (.int v)) h') : Rc (d + 3) m_X13_takeOne [.ref 235, .int 16, .int 4] h Q := by
  have c2 := c.2.1
  have t1 := (c.tg kO).1
  have t1 : tk K s.1 < 38 := t1
  have r5 := rol5 _ t1
  have bz : ¬ (bl K true 1 s).2 = 0 ∨ ¬ s.2 = 0 := (by
    by_cases e : s.2 = 0
    · left; rw [bl_y e]; dsimp only; omega
    · exact Or.inr e)
  have rN : ¬ s.2 = 0 → sp K (bl K (!decide (rol (tk K s.1) = 5)) 1 s) = s := fun e => by rw [bl_n (Or.inr e), sp_n e]
  have r1 : s.2 = 0 → ¬ rol (tk K s.1) = 5 → sp K (bl K (!decide (rol (tk K s.1) = 5)) 1 s) = bl K true 1 s := fun e e2 => by
    rw [decide_eq_false e2, show (!false) = true from rfl, sp_n]
    rcases bz with e3 | e3
    · exact e3
    · exact absurd e e3
  have r0 : s.2 = 0 → rol (tk K s.1) = 5 → sp K (bl K (!decide (rol (tk K s.1) = 5)) 1 s) = (s.1 + 1, 0) ∧ s.1 + 1 < K.1 := fun e e2 => by
    have := sp_1 kO c2 e (by have := r5.1.mp e2; omega)
    refine ⟨?_, this.2⟩
    rw [decide_eq_true e2, show (!true) = false from rfl, bl_n (Or.inl rfl)]; exact this.1
  have ww : s.2 = 0 → (0 ≤ wh K 16 4 s ↔ rol (tk K s.1) = 5) ∧ (rol (tk K s.1) = 5 → wh K 16 4 s = mea (tk K s.1)) := fun e => by
    by_cases e2 : rol (tk K s.1) = 5
    · have e3 := r5.1.mp e2
      have hz : tz K (tw (16 + (tk K s.1 - 23))) s = true := by
        unfold tz tw; rw [decide_eq_true e, decide_eq_true (by rw [if_pos (by omega)]; omega)]; rfl
      have ew := wh_y 4 (tk K s.1 - 23) (by omega) (by omega) hz
      rw [ew]
      exact ⟨⟨fun _ => e2, fun _ => nI_pos' (by omega)⟩, fun _ => (r5.2 e3).symm⟩
    · have ew := wh_n (K := K) (s := s) (a := 16) 4 (fun k hk => by
        cases hz : tz K (tw (16 + k)) s with
        | false => rfl
        | true =>
          have := (tz_t hz).2
          unfold tw at this
          rw [if_pos (by omega)] at this
          exact absurd (r5.1.mpr (by omega)) e2)
      rw [ew]
      exact ⟨⟨fun e4 => absurd e4 (by decide), fun e4 => absurd e4 e2⟩, fun e4 => absurd e4 e2⟩
  refine R_in rfl rfl ?_
  refine R_gs 4 rfl ?_
  refine W_b rfl (fun hc4 => ?_) (fun hc4 => ?_)
  ·
    rw [c.fl] at hc4
    refine R_gs 14 rfl ?_
    refine R_k rfl rfl (m_wordHere kO (a := 16) (m := 4) (by omega) c ?_)
    refine R_gs 22 rfl ?_
    refine W_bt rfl (c.fz.mpr hc4) ?_
    refine R_gs 26 rfl ?_
    refine W_b rfl (fun hc26 => ?_) (fun hc26 => ?_)
    ·
      rw [(ww hc4).1] at hc26
      refine R_gs 43 rfl ?_
      refine W_bt rfl (c.fl.mpr hc4) ?_
      refine R_gs 59 rfl ?_
      refine W_bt rfl (c.fl.mpr hc4) ?_
      refine R_gs 67 rfl ?_
      refine W_f rfl (by first | rfl | exact ⟨rfl, by first | decide | assumption | exact Or.inl rfl | exact Or.inr rfl | exact b2i_01 _⟩) ?_
      obtain ⟨e1, e2⟩ := r0 hc4 hc26
      rw [e1] at h1; exact h1 _ _ (MR.w7 _ _) (c.st (MR.w7 _ _) e2 (by show hI h 235 7 + 1 = _; rw [c.2.2.1, nI_1]) (by show hI h 235 8 = _; rw [c.2.2.2.1, hc4]) (Nat.zero_le _)) (fun _ => (ww hc4).2 hc26)
    ·
      rw [(ww hc4).1] at hc26
      refine R_gs 31 rfl ?_
      refine R_k rfl rfl (m_wrong kO (k := 1) (by decide) c (fun h2 m2 c2 => ?_))
      refine R_gs 43 rfl ?_
      refine W_bf rfl (fun e => bz.elim (fun q => q (c2.fl.mp e)) (fun q => q hc4)) ?_
      refine R_gs 59 rfl ?_
      refine W_bf rfl (fun e => bz.elim (fun q => q (c2.fl.mp e)) (fun q => q hc4)) ?_
      refine R_gs 67 rfl ?_
      refine W_f rfl (by first | rfl | exact ⟨rfl, by first | decide | assumption | exact Or.inl rfl | exact Or.inr rfl | exact b2i_01 _⟩) ?_
      rw [r1 hc4 hc26] at h1; exact h1 _ _ (m2.trans (MR.w7 _ _)) (c2.st (MR.w7 _ _) c2.2.1 (by show hI h2 235 7 + 0 = _; rw [c2.2.2.1, Int32.add_zero]) c2.2.2.2.1 c2.2.2.2.2.1) (fun e => absurd e (bz.resolve_right (fun q => q hc4)))
  ·
    rw [c.fl] at hc4
    refine R_gs 22 rfl ?_
    refine W_bf rfl (fun e => hc4 (c.fz.mp e)) ?_
    refine R_gs 43 rfl ?_
    refine W_bf rfl (fun e => hc4 (c.fl.mp e)) ?_
    refine R_gs 59 rfl ?_
    refine W_bf rfl (fun e => hc4 (c.fl.mp e)) ?_
    refine R_gs 67 rfl ?_
    refine W_f rfl (by first | rfl | exact ⟨rfl, by first | decide | assumption | exact Or.inl rfl | exact Or.inr rfl | exact b2i_01 _⟩) ?_
    rw [rN hc4] at h1; exact h1 _ _ (MR.w7 _ _) (c.st (MR.w7 _ _) c.2.1 (by show hI h 235 7 + 0 = _; rw [c.2.2.1, Int32.add_zero]) c.2.2.2.1 c.2.2.2.2.1) (fun e => absurd e hc4)
theorem nmR : ∀ t, t < 38 → srt t = 1 → (isNm t = true ↔ ¬ (7 ≤ t ∧ t ≤ 29)) := by decide +kernel
theorem wh_nm (hf : s.2 = 0) : (0 : Int32) ≤ wh K 0 23 s ↔ (7 ≤ tk K s.1 ∧ tk K s.1 ≤ 29) := by
  by_cases e2 : 7 ≤ tk K s.1 ∧ tk K s.1 ≤ 29
  · rw [wh_y 23 (tk K s.1 - 7) (by omega) (by omega) (by unfold tz tw; rw [decide_eq_true hf, decide_eq_true (by rw [if_pos (by omega)]; omega)]; rfl)]
    exact ⟨fun _ => e2, fun _ => nI_pos' (by omega)⟩
  · rw [wh_n (K := K) (s := s) (a := 0) 23 (fun k hk => by
      cases hz : tz K (tw (0 + k)) s with
      | false => rfl
      | true =>
        have := (tz_t hz).2
        unfold tw at this
        rw [if_pos (by omega)] at this
        exact absurd (by omega) e2)]
    exact ⟨fun e3 => absurd e3 (by decide), fun e3 => absurd e3 e2⟩
theorem m_isName (kO : TokOK K) (c : MF h K s) (h1 : Q (some (.int (b2i (decide (s.2 = 0) && isNm (tk K s.1))))) h) : Rc (d + 3) m_X13_isName [.ref 235] h Q := by
  have k1 := kO.1
  have c2 := c.2.1
  have t1 : tk K s.1 < 38 := (c.tg kO).1
  have y1 := (c.1 s.1 c.2.1).1
  have sl : srt (tk K s.1) ≤ 4 := (by unfold srt; repeat (first | omega | split))
  refine R_in rfl rfl ?_
  refine R_gs 4 rfl ?_
  refine W_b rfl (fun hc4 => ?_) (fun hc4 => ?_)
  ·
    rw [c.fz] at hc4
    refine R_gs 15 rfl ?_
    refine R_il rfl rfl (j := s.1) c.2.2.1 (by omega) y1 ?_
    refine R_gs 17 rfl ?_
    refine W_b rfl (fun hc17 => ?_) (fun hc17 => ?_)
    ·
      rw [show (nI (srt (K.2 s.1).1) = 1 ↔ srt (tk K s.1) = 1) from nI_eq (b := 1) (by have : srt (K.2 s.1).1 ≤ 4 := sl; omega) (by omega)] at hc17
      refine R_gs 24 rfl ?_
      refine R_k rfl rfl (m_wordHere kO (a := 0) (m := 23) (by omega) c ?_)
      have nr := nmR _ t1 hc17
      refine W_b rfl (fun hc27 => ?_) (fun hc27 => ?_)
      ·
        rw [wh_nm hc4] at hc27
        refine R_gs 35 rfl ?_
        refine W_f rfl (by first | rfl | exact ⟨rfl, by first | decide | assumption | exact Or.inl rfl | exact Or.inr rfl | exact b2i_01 _⟩) ?_
        rw [show isNm (tk K s.1) = false from by cases e : isNm (tk K s.1) with | false => rfl | true => exact absurd hc27 (nr.mp e), Bool.and_false] at h1; exact h1
      ·
        rw [wh_nm hc4] at hc27
        refine R_gs 35 rfl ?_
        refine W_f rfl (by first | rfl | exact ⟨rfl, by first | decide | assumption | exact Or.inl rfl | exact Or.inr rfl | exact b2i_01 _⟩) ?_
        rw [decide_eq_true hc4, nr.mpr hc27] at h1; exact h1
    ·
      rw [show (nI (srt (K.2 s.1).1) = 1 ↔ srt (tk K s.1) = 1) from nI_eq (b := 1) (by have : srt (K.2 s.1).1 ≤ 4 := sl; omega) (by omega)] at hc17
      refine R_gs 35 rfl ?_
      refine W_f rfl (by first | rfl | exact ⟨rfl, by first | decide | assumption | exact Or.inl rfl | exact Or.inr rfl | exact b2i_01 _⟩) ?_
      rw [show isNm (tk K s.1) = false from by cases e : isNm (tk K s.1) with | false => rfl | true => exact absurd (nmW _ t1 e).1 hc17, Bool.and_false] at h1; exact h1
  ·
    rw [c.fz] at hc4
    refine R_gs 35 rfl ?_
    refine W_f rfl (by first | rfl | exact ⟨rfl, by first | decide | assumption | exact Or.inl rfl | exact Or.inr rfl | exact b2i_01 _⟩) ?_
    rw [decide_eq_false hc4] at h1; exact h1
end
