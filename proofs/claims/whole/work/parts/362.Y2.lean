section
variable {d : Nat} {h : AH} {L : SL} {S : SS} {H : SH'} {B : SB'} {M : SM'} {D : SD'} {T : ST'} {N : SN'} {Q : Option Value → AH → Prop}
theorem c0A {p k : Nat} {h : AH} {v : Int32} (e : hI h 251 (0 + k + p) = v) : hI h 251 (k + p) = v := by rw [Nat.zero_add] at e; exact e
theorem spouse_P (hO : LandOK L) (hV : PairsOK L (sW S)) {p : Nat} (hp : p < 6) : setN 6 (fun q => !decide (q = p) && bt (sW S) (pr p q)) = setN (lP L) (fun q => !decide (q = p) && bt (sW S) (pr p q)) := by
  have o3 := hO.2.2.1
  refine setN_up 6 o3 (fun q h1 h2 => ?_)
  by_cases e : q = p
  · simp [e]
  · cases e2 : bt (sW S) (pr p q) with
    | false => simp
    | true =>
      obtain ⟨u, v, h3, h4, h5⟩ := hV (pr p q) (by have := pr_lt p hp q h2 (Ne.symm e); omega) e2
      exact absurd h5 ((by decide +kernel : ∀ p, p < 6 → ∀ q, q < 6 → p ≠ q → ∀ v, v < q → ∀ u, u < v → ¬ pr p q = pr u v) p hp q h2 (Ne.symm e) v (by omega) u h3)
theorem in5 {w lo hi : Int32} (h : (decide (lo ≤ w) && decide (w ≤ hi)) = true) : lo.toInt ≤ w.toInt ∧ w.toInt ≤ hi.toInt := by
  simp only [Bool.and_eq_true, decide_eq_true_eq, Int32.le_iff_toInt_le] at h
  exact h
theorem in5f {w lo hi : Int32} (h : (decide (lo ≤ w) && decide (w ≤ hi)) = false) : w.toInt < lo.toInt ∨ hi.toInt < w.toInt := by
  simp only [Bool.and_eq_false_iff, decide_eq_false_iff_not, Int32.le_iff_toInt_le] at h
  omega
theorem y_person (W : WOK L S H B M D T N) (c : RM h L S H B M D T N) {p w : Int32} (h1 : Q (some (.int (perA L S p w))) (wI h 235 0 0)) : Rc (d + 4) m_X13_person [.ref 235, .int p, .int w] h Q := by
  have hO := W.1
  have o3 := hO.2.2.1
  have hV := W.2.1
  have c0 := c.thr
  unfold perA at h1
  refine R_in rfl rfl ?_
  refine R_gs 7 rfl ?_
  refine R_k rfl rfl (m_isPerson c0.1 (fun hx7 => ?_) (fun hx7 => ?_))
  ·
    refine W_bf rfl (by decide) ?_
    refine R_gs 16 rfl ?_
    obtain ⟨k, hk, rfl⟩ := inN_of (by omega) hx7
    rw [hx7, nI_clamp (n := k) (by omega), if_pos rfl] at h1
    refine R_k rfl rfl (m_isIn (fun hx16 => ?_) (fun hx16 => ?_))
    ·
      refine W_bf rfl (by decide) ?_
      refine R_gs 26 rfl ?_
      refine W_w rfl (fun jj tt ht hz => ?_) (fun hz => ?_)
      ·
        have hjj : jj < 5 := by rcases Nat.lt_or_ge jj 5 with hq | hq; exact hq; rw [List.getElem?_eq_none (by simpa using hq)] at ht; cases ht
        by_cases e0 : jj = 0
        ·
          subst e0; cases ht
          refine R_gs 62 rfl ?_
          refine R_k rfl rfl (m_kindOf c0.1 hO hk ?_)
          refine W_f rfl (by first | rfl | exact ⟨rfl, by first | decide | assumption | exact Or.inl rfl | exact Or.inr rfl | exact b2i_01 _⟩) ?_
          have e := sw_eq 0 hz (by decide); subst e; exact h1
        by_cases e1 : jj = 1
        ·
          subst e1; cases ht
          refine R_gs 73 rfl ?_
          refine R_il rfl (by first | rfl | exact shO (by decide) (by omega) | exact shG (by decide) (by omega)) (by repeat (first | with_reducible apply ix_add | with_reducible apply ix_mul | with_reducible exact ix_nI _ | with_reducible exact ix_lit _ | exact rfl)) (by omega) (by first | exact c0A (c0.2.1.A hk)) ?_
          refine W_f rfl (by first | rfl | exact ⟨rfl, by first | decide | assumption | exact Or.inl rfl | exact Or.inr rfl | exact b2i_01 _⟩) ?_
          have e := sw_eq 1 hz (by decide); subst e; exact h1
        by_cases e2 : jj = 2
        ·
          subst e2; cases ht
          refine R_gs 77 rfl ?_
          refine R_k rfl rfl (m_shyOf c0.1 hO hk ?_)
          refine W_f rfl (by first | rfl | exact ⟨rfl, by first | decide | assumption | exact Or.inl rfl | exact Or.inr rfl | exact b2i_01 _⟩) ?_
          have e := sw_eq 2 hz (by decide); subst e; exact h1
        by_cases e3 : jj = 3
        ·
          subst e3; cases ht
          refine R_gs 89 rfl ?_
          refine R_il rfl (by first | rfl | exact shO (by decide) (by omega) | exact shG (by decide) (by omega)) (by repeat (first | with_reducible apply ix_add | with_reducible apply ix_mul | with_reducible exact ix_nI _ | with_reducible exact ix_lit _ | exact rfl)) (by omega) (by first | exact c0A (c0.2.1.Y hk)) ?_
          refine W_f rfl (by first | rfl | exact ⟨rfl, by first | decide | assumption | exact Or.inl rfl | exact Or.inr rfl | exact b2i_01 _⟩) ?_
          have e := sw_eq 3 hz (by decide); subst e; exact h1
        by_cases e4 : jj = 4
        ·
          subst e4; cases ht
          refine R_gs 94 rfl ?_
          refine R_k rfl rfl (m_utters (b := 0) c0.1 hO c0.2.1 hV (by omega) hk ?_)
          refine W_f rfl (by first | rfl | exact ⟨rfl, by first | decide | assumption | exact Or.inl rfl | exact Or.inr rfl | exact b2i_01 _⟩) ?_
          have e := sw_eq 4 hz (by decide); subst e; exact h1
        exact absurd hjj (by omega)
      ·
        refine R_gs 103 rfl ?_
        have e5 : w = 5 := sw_eq 5 (k := 5) (by have := in5 hx16; have a1 : (0 : Int32).toInt = 0 := (by decide); have a2 : (5 : Int32).toInt = 5 := (by decide); simp at hz; omega) (by decide)
        subst e5
        rw [if_neg (by decide), if_neg (by decide), if_neg (by decide), if_neg (by decide), if_neg (by decide), if_pos rfl, spouse_P hO hV.1 (by omega)] at h1
        refine w_lp (W := fun j s => Rw (d + 3) Q (m_X13_person, 103, [_, _, _, some (.int s), some (.int (nI j))], [], 262, wI h 235 0 0)) (fun q s => if (!decide (q = k) && bt (sW S) (pr k q)) = true then s ||| nI (2 ^ q) else s) (lP L) (fun _ _ => True) 0 trivial (fun j s hj _ => ⟨trivial, fun ww => ?_⟩) (fun _ => ?_)
        ·
          refine R_gs 106 rfl ?_
          refine R_k rfl rfl (m_people c0.1 ?_)
          refine W_bf rfl (ltc hj (by omega)) ?_
          refine R_gs 116 rfl ?_
          refine W_b rfl (fun hc116 => ?_) (fun hc116 => ?_)
          ·
            rw [nI_eq (by omega) (by omega)] at hc116
            refine R_gs 103 rfl ?_
            first | (rw [Int32.or_zero, nI_1]; rw [if_neg (by simp [*])] at ww; exact ww) | (rw [or_if _ _ (by omega), nI_1]; rw [if_pos (by simp [*])] at ww; exact ww)
          ·
            rw [nI_eq (by omega) (by omega)] at hc116
            refine R_gs 124 rfl ?_
            refine R_k rfl rfl (m_isWed (b := 0) c0.2.1 (by omega) (by omega) (by omega) (Ne.symm hc116) (fun hx124 => ?_) (fun hx124 => ?_))
            ·
              refine W_bf rfl (by decide) ?_
              refine R_gs 103 rfl ?_
              first | (rw [Int32.or_zero, nI_1]; rw [if_neg (by simp [*])] at ww; exact ww) | (rw [or_if _ _ (by omega), nI_1]; rw [if_pos (by simp [*])] at ww; exact ww)
            ·
              refine W_bt rfl (by decide) ?_
              refine R_gs 103 rfl ?_
              first | (rw [Int32.or_zero, nI_1]; rw [if_neg (by simp [*])] at ww; exact ww) | (rw [or_if _ _ (by omega), nI_1]; rw [if_pos (by simp [*])] at ww; exact ww)
        ·
          refine R_gs 106 rfl ?_
          refine R_k rfl rfl (m_people c0.1 ?_)
          refine W_bt rfl (gec (by omega)) ?_
          refine R_gs 147 rfl ?_
          refine W_f rfl (by first | rfl | exact ⟨rfl, by first | decide | assumption | exact Or.inl rfl | exact Or.inr rfl | exact b2i_01 _⟩) ?_
          exact h1
    ·
      refine W_bt rfl (by decide) ?_
      refine R_gs 24 rfl ?_
      refine W_f rfl (by first | rfl | exact ⟨rfl, by first | decide | assumption | exact Or.inl rfl | exact Or.inr rfl | exact b2i_01 _⟩) ?_
      have := in5f hx16; rw [if_neg (by rintro rfl; revert this; decide), if_neg (by rintro rfl; revert this; decide), if_neg (by rintro rfl; revert this; decide), if_neg (by rintro rfl; revert this; decide), if_neg (by rintro rfl; revert this; decide), if_neg (by rintro rfl; revert this; decide)] at h1; exact h1
  ·
    refine W_bt rfl (by decide) ?_
    refine R_gs 24 rfl ?_
    refine W_f rfl (by first | rfl | exact ⟨rfl, by first | decide | assumption | exact Or.inl rfl | exact Or.inr rfl | exact b2i_01 _⟩) ?_
    rw [hx7] at h1; exact h1
theorem y_odds (W : WOK L S H B M D T N) (c : RM h L S H B M D T N) {p w : Int32} (h1 : Q (some (.int (oddA L p w))) (wI h 235 0 0)) : Rc (d + 4) m_X13_odds [.ref 235, .int p, .int w] h Q := by
  have hO := W.1
  have o3 := hO.2.2.1
  have o1 := hO.1
  have c0 := c.thr
  unfold oddA at h1
  refine R_in rfl rfl ?_
  refine R_gs 7 rfl ?_
  refine R_k rfl rfl (m_isPerson c0.1 (fun hx7 => ?_) (fun hx7 => ?_))
  ·
    refine W_bf rfl (by decide) ?_
    refine R_gs 15 rfl ?_
    refine R_k rfl rfl (m_isSaying c0.1 (fun hx15 => ?_) (fun hx15 => ?_))
    ·
      refine W_bf rfl (by decide) ?_
      refine R_gs 24 rfl ?_
      obtain ⟨k, hk, rfl⟩ := inN_of (by omega) hx7
      obtain ⟨v, hv, rfl⟩ := inN_of (by omega) hx15
      refine R_k rfl rfl (m_saysOf c0.1 hO hk hv ?_)
      refine R_gs 31 rfl ?_
      refine W_f rfl (by first | rfl | exact ⟨rfl, by first | decide | assumption | exact Or.inl rfl | exact Or.inr rfl | exact b2i_01 _⟩) ?_
      rw [hx7, hx15, nI_clamp (by omega), nI_clamp (by omega)] at h1; exact h1
    ·
      refine W_bt rfl (by decide) ?_
      refine R_gs 31 rfl ?_
      refine W_f rfl (by first | rfl | exact ⟨rfl, by first | decide | assumption | exact Or.inl rfl | exact Or.inr rfl | exact b2i_01 _⟩) ?_
      rw [hx7, hx15] at h1; exact h1
  ·
    refine W_bt rfl (by decide) ?_
    refine R_gs 31 rfl ?_
    refine W_f rfl (by first | rfl | exact ⟨rfl, by first | decide | assumption | exact Or.inl rfl | exact Or.inr rfl | exact b2i_01 _⟩) ?_
    rw [hx7] at h1; exact h1
theorem y_likes (W : WOK L S H B M D T N) (c : RM h L S H B M D T N) {p q : Int32} (h1 : Q (some (.int (likA L p q))) (wI h 235 0 0)) : Rc (d + 4) m_X13_likes [.ref 235, .int p, .int q] h Q := by
  have hO := W.1
  have o3 := hO.2.2.1
  have c0 := c.thr
  unfold likA at h1
  refine R_in rfl rfl ?_
  refine R_gs 8 rfl ?_
  refine R_k rfl rfl (m_areTwo c0.1 (fun hx8 => ?_) (fun hx8 => ?_))
  ·
    refine W_bf rfl (by decide) ?_
    refine R_gs 17 rfl ?_
    obtain ⟨i, j, hi, hj, hij, rfl, rfl, ei, ej⟩ := two_of o3 hx8
    refine R_k rfl rfl (m_likingOf c0.1 hO hi hj ?_)
    refine R_gs 24 rfl ?_
    refine W_f rfl (by first | rfl | exact ⟨rfl, by first | decide | assumption | exact Or.inl rfl | exact Or.inr rfl | exact b2i_01 _⟩) ?_
    rw [hx8, ei, ej] at h1; exact h1
  ·
    refine W_bt rfl (by decide) ?_
    refine R_gs 24 rfl ?_
    refine W_f rfl (by first | rfl | exact ⟨rfl, by first | decide | assumption | exact Or.inl rfl | exact Or.inr rfl | exact b2i_01 _⟩) ?_
    rw [hx8] at h1; exact h1
theorem y_two (W : WOK L S H B M D T N) (c : RM h L S H B M D T N) {p q w : Int32} (h1 : Q (some (.int (b2i (twoA L S p q w)))) (wI h 235 0 0)) : Rc (d + 6) m_X13_two [.ref 235, .int p, .int q, .int w] h Q := by
  have hO := W.1
  have o3 := hO.2.2.1
  have hV := W.2.1
  have c0 := c.thr
  unfold twoA at h1
  refine R_in rfl rfl ?_
  refine R_gs 8 rfl ?_
  refine R_k rfl rfl (m_areTwo c0.1 (fun hx8 => ?_) (fun hx8 => ?_))
  ·
    refine W_bf rfl (by decide) ?_
    refine R_gs 17 rfl ?_
    obtain ⟨i, j, hi, hj, hij, rfl, rfl, ei, ej⟩ := two_of o3 hx8
    rw [hx8, ei, ej] at h1
    refine R_k rfl rfl (m_isIn (fun hx17 => ?_) (fun hx17 => ?_))
    ·
      refine W_bf rfl (by decide) ?_
      refine R_gs 26 rfl ?_
      refine W_b rfl (fun hc26 => ?_) (fun hc26 => ?_)
      ·
        refine R_gs 33 rfl ?_
        refine R_k rfl rfl (m_isWed (b := 0) c0.2.1 (by omega) (by omega) (by omega) hij (fun hx33 => ?_) (fun hx33 => ?_))
        ·
          refine R_gs 75 rfl ?_
          refine W_f rfl (by first | rfl | exact ⟨rfl, by first | decide | assumption | exact Or.inl rfl | exact Or.inr rfl | exact b2i_01 _⟩) ?_
          rw [if_pos hc26, hx33] at h1; exact h1
        ·
          refine R_gs 75 rfl ?_
          refine W_f rfl (by first | rfl | exact ⟨rfl, by first | decide | assumption | exact Or.inl rfl | exact Or.inr rfl | exact b2i_01 _⟩) ?_
          rw [if_pos hc26, hx33] at h1; exact h1
      ·
        refine R_gs 41 rfl ?_
        refine W_b rfl (fun hc41 => ?_) (fun hc41 => ?_)
        ·
          refine R_gs 48 rfl ?_
          refine R_k rfl rfl (m_isKept (b := 0) c0.2.1 (by omega) (by omega) (by omega) hij (fun hx48 => ?_) (fun hx48 => ?_))
          ·
            refine R_gs 75 rfl ?_
            refine W_f rfl (by first | rfl | exact ⟨rfl, by first | decide | assumption | exact Or.inl rfl | exact Or.inr rfl | exact b2i_01 _⟩) ?_
            rw [if_neg hc26, if_pos hc41, hx48] at h1; exact h1
          ·
            refine R_gs 75 rfl ?_
            refine W_f rfl (by first | rfl | exact ⟨rfl, by first | decide | assumption | exact Or.inl rfl | exact Or.inr rfl | exact b2i_01 _⟩) ?_
            rw [if_neg hc26, if_pos hc41, hx48] at h1; exact h1
        ·
          refine R_gs 56 rfl ?_
          refine W_b rfl (fun hc56 => ?_) (fun hc56 => ?_)
          ·
            refine R_gs 63 rfl ?_
            refine R_k rfl rfl (m_couldSnap (b := 0) c0.1 hO c0.2.1 hV (by omega) hi hj hij (fun hx63 => ?_) (fun hx63 => ?_))
            ·
              refine R_gs 75 rfl ?_
              refine W_f rfl (by first | rfl | exact ⟨rfl, by first | decide | assumption | exact Or.inl rfl | exact Or.inr rfl | exact b2i_01 _⟩) ?_
              rw [if_neg hc26, if_neg hc41, if_pos hc56, hx63] at h1; exact h1
            ·
              refine R_gs 75 rfl ?_
              refine W_f rfl (by first | rfl | exact ⟨rfl, by first | decide | assumption | exact Or.inl rfl | exact Or.inr rfl | exact b2i_01 _⟩) ?_
              rw [if_neg hc26, if_neg hc41, if_pos hc56, hx63] at h1; exact h1
          ·
            refine R_gs 72 rfl ?_
            refine R_k rfl rfl (m_doClash c0.1 hO c0.2.1 hV hi hj hij (fun hx72 => ?_) (fun hx72 => ?_))
            ·
              refine W_f rfl (by first | rfl | exact ⟨rfl, by first | decide | assumption | exact Or.inl rfl | exact Or.inr rfl | exact b2i_01 _⟩) ?_
              rw [if_neg hc26, if_neg hc41, if_neg hc56, if_pos (Int32.toInt_inj.mp (by have := in5 hx17; have a0 : (0 : Int32).toInt = 0 := (by decide); have a1 : (1 : Int32).toInt = 1 := (by decide); have a2 : (2 : Int32).toInt = 2 := (by decide); have a3 : (3 : Int32).toInt = 3 := (by decide); rw [← Int32.toInt_inj, a0] at hc26; rw [← Int32.toInt_inj, a1] at hc41; rw [← Int32.toInt_inj, a2] at hc56; omega)), hx72] at h1; exact h1
            ·
              refine W_f rfl (by first | rfl | exact ⟨rfl, by first | decide | assumption | exact Or.inl rfl | exact Or.inr rfl | exact b2i_01 _⟩) ?_
              rw [if_neg hc26, if_neg hc41, if_neg hc56, if_pos (Int32.toInt_inj.mp (by have := in5 hx17; have a0 : (0 : Int32).toInt = 0 := (by decide); have a1 : (1 : Int32).toInt = 1 := (by decide); have a2 : (2 : Int32).toInt = 2 := (by decide); have a3 : (3 : Int32).toInt = 3 := (by decide); rw [← Int32.toInt_inj, a0] at hc26; rw [← Int32.toInt_inj, a1] at hc41; rw [← Int32.toInt_inj, a2] at hc56; omega)), hx72] at h1; exact h1
    ·
      refine W_bt rfl (by decide) ?_
      refine R_gs 24 rfl ?_
      refine W_f rfl (by first | rfl | exact ⟨rfl, by first | decide | assumption | exact Or.inl rfl | exact Or.inr rfl | exact b2i_01 _⟩) ?_
      have := in5f hx17; rw [if_neg (by rintro rfl; revert this; decide), if_neg (by rintro rfl; revert this; decide), if_neg (by rintro rfl; revert this; decide), if_neg (by rintro rfl; revert this; decide)] at h1; exact h1
  ·
    refine W_bt rfl (by decide) ?_
    refine R_gs 24 rfl ?_
    refine W_f rfl (by first | rfl | exact ⟨rfl, by first | decide | assumption | exact Or.inl rfl | exact Or.inr rfl | exact b2i_01 _⟩) ?_
    rw [hx8] at h1; exact h1
theorem y_bigamists (W : WOK L S H B M D T N) (c : RM h L S H B M D T N) (h1 : Q (some (.int (bigs (sW S)))) (wI h 235 0 0)) : Rc (d + 5) m_X13_bigamists [.ref 235] h Q := by
  have c0 := c.thr
  refine R_in rfl rfl ?_
  refine R_gs 7 rfl ?_
  refine R_k rfl rfl (m_bigamistsOf (b := 0) c0.1 W.1 c0.2.1 W.2.1.1 (by omega) ?_)
  refine W_f rfl (by first | rfl | exact ⟨rfl, by first | decide | assumption | exact Or.inl rfl | exact Or.inr rfl | exact b2i_01 _⟩) ?_
  exact h1
theorem y_may (W : WOK L S H B M D T N) (c : RM h L S H B M D T N) {s w : Int32} (h1 : Q (some (.int (mayA L S s w))) (wI h 235 0 0)) : Rc (d + 4) m_X13_may [.ref 235, .int s, .int w] h Q := by
  have hO := W.1
  have hV := W.2.1
  obtain ⟨o1, o2, o3, o4, -⟩ := id hO
  have c0 := c.thr
  unfold mayA at h1
  refine R_in rfl rfl ?_
  refine R_gs 7 rfl ?_
  refine R_k rfl rfl (m_isPlace c0.1 (fun hx7 => ?_) (fun hx7 => ?_))
  ·
    refine W_bf rfl (by decide) ?_
    refine R_gs 15 rfl ?_
    refine R_k rfl rfl (m_isSaying c0.1 (fun hx15 => ?_) (fun hx15 => ?_))
    ·
      refine W_bf rfl (by decide) ?_
      refine R_gs 28 rfl ?_
      obtain ⟨k, hk, rfl⟩ := inN_of (by omega) hx7
      obtain ⟨v, hv, rfl⟩ := inN_of (by omega) hx15
      rw [hx7, hx15, nI_clamp (by omega), nI_clamp (by omega)] at h1
      refine w_lp (W := fun j s => Rw (d + 3) Q (m_X13_may, 28, [_, _, _, some (.int s), some (.int (nI j))], [], 262, wI h 235 0 0)) (fun p t => if (decide (sA S p = k) && decide (0 < lO L p v)) = true then t ||| nI (2 ^ p) else t) (lP L) (fun _ _ => True) 0 trivial (fun j s hj _ => ⟨trivial, fun ww => ?_⟩) (fun _ => ?_)
      ·
        have v1 := (hV.2.1 j hj).1
        have v2 := (o4 j hj).2.2.2.1 v hv
        refine R_gs 31 rfl ?_
        refine R_k rfl rfl (m_people c0.1 ?_)
        refine W_bf rfl (ltc hj (by omega)) ?_
        refine R_gs 46 rfl ?_
        refine R_il rfl (by first | rfl | exact shO (by decide) (by omega) | exact shG (by decide) (by omega)) (by repeat (first | with_reducible apply ix_add | with_reducible apply ix_mul | with_reducible exact ix_nI _ | with_reducible exact ix_lit _ | exact rfl)) (by omega) (by first | exact c0A (c0.2.1.A hj)) ?_
        refine R_gs 48 rfl ?_
        refine W_b rfl (fun hc48 => ?_) (fun hc48 => ?_)
        ·
          rw [nI_eq (by omega) (by omega)] at hc48
          refine R_gs 55 rfl ?_
          refine R_k rfl rfl (m_saysOf c0.1 hO hj hv ?_)
          refine W_b rfl (fun hc58 => ?_) (fun hc58 => ?_)
          ·
            rw [le0 (by omega)] at hc58
            refine R_gs 28 rfl ?_
            first | (rw [Int32.or_zero, nI_1]; rw [if_neg (by simp; omega)] at ww; exact ww) | (rw [or_if _ _ (by omega), nI_1]; rw [if_pos (by simp; omega)] at ww; exact ww)
          ·
            rw [le0 (by omega)] at hc58
            refine R_gs 28 rfl ?_
            first | (rw [Int32.or_zero, nI_1]; rw [if_neg (by simp; omega)] at ww; exact ww) | (rw [or_if _ _ (by omega), nI_1]; rw [if_pos (by simp; omega)] at ww; exact ww)
        ·
          rw [nI_eq (by omega) (by omega)] at hc48
          refine R_gs 28 rfl ?_
          first | (rw [Int32.or_zero, nI_1]; rw [if_neg (by simp; omega)] at ww; exact ww) | (rw [or_if _ _ (by omega), nI_1]; rw [if_pos (by simp; omega)] at ww; exact ww)
      ·
        refine R_gs 31 rfl ?_
        refine R_k rfl rfl (m_people c0.1 ?_)
        refine W_bt rfl (gec (by omega)) ?_
        refine R_gs 78 rfl ?_
        refine W_f rfl (by first | rfl | exact ⟨rfl, by first | decide | assumption | exact Or.inl rfl | exact Or.inr rfl | exact b2i_01 _⟩) ?_
        exact h1
    ·
      refine W_bt rfl (by decide) ?_
      refine R_gs 22 rfl ?_
      refine W_f rfl (by first | rfl | exact ⟨rfl, by first | decide | assumption | exact Or.inl rfl | exact Or.inr rfl | exact b2i_01 _⟩) ?_
      rw [hx7, hx15] at h1; exact h1
  ·
    refine W_bt rfl (by decide) ?_
    refine R_gs 22 rfl ?_
    refine W_f rfl (by first | rfl | exact ⟨rfl, by first | decide | assumption | exact Or.inl rfl | exact Or.inr rfl | exact b2i_01 _⟩) ?_
    rw [hx7] at h1; exact h1
theorem anyN_s (n : Nat) (c : Nat → Bool) : anyN (n + 1) c = (anyN n c || c n) := rfl
theorem st_f {b X : Bool} {e : Nat} {c : Nat → Bool} (hb : b = (X && !anyN e c)) (hc : c e = false) (hbt : ¬ b = false) : true = (X && !anyN (e + 1) c) := by
  rw [anyN_s, hc, Bool.or_false, ← hb]
  cases b
  · exact absurd rfl hbt
  · rfl
theorem st_t {X : Bool} {e : Nat} {c : Nat → Bool} (hc : c e = true) : false = (X && !anyN (e + 1) c) := by
  rw [anyN_s, hc, Bool.or_true]; simp
theorem st_0 {b X : Bool} {e : Nat} {c : Nat → Bool} (hb : b = (X && !anyN e c)) (hbf : b = false) : false = (X && !anyN (e + 1) c) := by
  rw [anyN_s, Bool.not_or, ← Bool.and_assoc, ← hb, hbf]; rfl
theorem y_code (W : WOK L S H B M D T N) (c : RM h L S H B M D T N) {p q : Int32} (h1 : Q (some (.int (codA L S p q))) (wI h 235 0 0)) : Rc (d + 4) m_X13_code [.ref 235, .int p, .int q] h Q := by
  have hO := W.1
  have hV := W.2.1
  obtain ⟨o1, o2, o3, o4, -⟩ := id hO
  have c0 := c.thr
  unfold codA at h1
  refine R_in rfl rfl ?_
  refine R_gs 8 rfl ?_
  refine R_k rfl rfl (m_areTwo c0.1 (fun hx8 => ?_) (fun hx8 => ?_))
  ·
    refine W_bf rfl (by decide) ?_
    refine R_gs 19 rfl ?_
    refine R_k rfl rfl (m_sayings c0.1 ?_)
    refine R_gs 26 rfl ?_
    obtain ⟨i, j, hi, hj, hij, rfl, rfl, ei, ej⟩ := two_of o3 hx8
    rw [hx8, ei, ej, if_pos rfl] at h1
    refine w_inv (W := fun t (r : Int32) => ∀ x5 x6 : Option Value, Rw (d + 3) Q (m_X13_code, 26, [some (.ref 235), some (.int (nI i)), some (.int (nI j)), some (.int r), some (.int (nI (lS L - t) - 1)), x5, x6], [], 262, wI h 235 0 0)) (lS L) (fun t r => r = fG (codeB L S i j) (lS L - t) t) (s0 := -1) rfl (fun t r ht hr w => ?_) (fun r hr => ?_) none none
    ·
      intro x5 x6
      have ek : lS L - (t + 1) = lS L - t - 1 := by { omega }
      have ek2 : lS L - t = lS L - t - 1 + 1 := by { omega }
      have w' := fun s => ek ▸ w s
      obtain ⟨v, hv⟩ : ∃ v, v = lS L - t - 1 := ⟨_, rfl⟩
      have ev : nI (lS L - t) - 1 = nI v := by { rw [dn_p (by omega), hv] }
      have hvS : v < lS L := by { omega }
      have u1 := (o4 i hi).2.2.2.1 v hvS
      have u2 := (o4 j hj).2.2.2.1 v hvS
      rw [ev]
      refine R_gs 28 rfl ?_
      refine W_bf rfl (nI_pos (by omega)) ?_
      refine R_gs 35 rfl ?_
      refine R_k rfl rfl (m_saysOf c0.1 hO hi hvS ?_)
      refine W_b rfl (fun hc38 => ?_) (fun hc38 => ?_)
      ·
        rw [le0 (by omega)] at hc38
        refine R_gs 61 rfl ?_
        have hini : (decide (0 < lO L i v) && decide (0 < lO L j v)) = false := by first | (rw [hc38]; rfl) | (rw [hc48]; simp)
        refine w_inv (W := fun e (b : Bool) => Rw (d + 3) Q (m_X13_code, 61, [some (.ref 235), some (.int (nI i)), some (.int (nI j)), some (.int r), some (.int (nI v)), some (.int (b2i b)), some (.int (nI e))], [], 262, wI h 235 0 0)) (lP L) (fun e b => b = ((decide (0 < lO L i v) && decide (0 < lO L j v)) && !anyN e (fun e => !decide (e = i) && !decide (e = j) && (decide (sA S e = sA S i) && decide (0 < lO L e v))))) (s0 := false) (by rw [hini]; rfl) (fun e b he hb w2 => ?_) (fun b hb => ?_)
        ·
          have v1 := (hV.2.1 e he).1
          have v2 := (hV.2.1 i hi).1
          have v3 := (o4 e he).2.2.2.1 v hvS
          refine R_gs 64 rfl ?_
          refine R_k rfl rfl (m_people c0.1 ?_)
          refine W_bf rfl (ltc he (by omega)) ?_
          refine R_gs 72 rfl ?_
          refine W_b rfl (fun hc72 => ?_) (fun hc72 => ?_)
          ·
            rw [b2i0] at hc72
            refine R_gs 61 rfl ?_
            rw [nI_1]; exact w2 false (st_0 hb hc72)
          ·
            rw [b2i0] at hc72
            refine R_gs 78 rfl ?_
            refine W_b rfl (fun hc78 => ?_) (fun hc78 => ?_)
            ·
              rw [nI_eq (by omega) (by omega)] at hc78
              refine R_gs 61 rfl ?_
              rw [nI_1]; exact w2 true (st_f hb (by simp [hc78]) hc72)
            ·
              rw [nI_eq (by omega) (by omega)] at hc78
              refine R_gs 84 rfl ?_
              refine W_b rfl (fun hc84 => ?_) (fun hc84 => ?_)
              ·
                rw [nI_eq (by omega) (by omega)] at hc84
                refine R_gs 61 rfl ?_
                rw [nI_1]; exact w2 true (st_f hb (by simp [hc84]) hc72)
              ·
                rw [nI_eq (by omega) (by omega)] at hc84
                refine R_gs 95 rfl ?_
                refine R_il rfl (by first | rfl | exact shO (by decide) (by omega) | exact shG (by decide) (by omega)) (by repeat (first | with_reducible apply ix_add | with_reducible apply ix_mul | with_reducible exact ix_nI _ | with_reducible exact ix_lit _ | exact rfl)) (by omega) (by first | exact c0A (c0.2.1.A he)) ?_
                refine R_gs 103 rfl ?_
                refine R_il rfl (by first | rfl | exact shO (by decide) (by omega) | exact shG (by decide) (by omega)) (by repeat (first | with_reducible apply ix_add | with_reducible apply ix_mul | with_reducible exact ix_nI _ | with_reducible exact ix_lit _ | exact rfl)) (by omega) (by first | exact c0A (c0.2.1.A hi)) ?_
                refine W_b rfl (fun hc104 => ?_) (fun hc104 => ?_)
                ·
                  rw [nI_eq (by omega) (by omega)] at hc104
                  refine R_gs 112 rfl ?_
                  refine R_k rfl rfl (m_saysOf c0.1 hO he hvS ?_)
                  refine W_b rfl (fun hc115 => ?_) (fun hc115 => ?_)
                  ·
                    rw [show nI (lO L e v) = 0 ↔ lO L e v = 0 from nI_eq (b := 0) (by omega) (by omega)] at hc115
                    refine R_gs 61 rfl ?_
                    rw [nI_1]; exact w2 true (st_f hb (by simp [hc115]) hc72)
                  ·
                    rw [show nI (lO L e v) = 0 ↔ lO L e v = 0 from nI_eq (b := 0) (by omega) (by omega)] at hc115
                    refine R_gs 61 rfl ?_
                    rw [nI_1]; exact w2 false (st_t (by simp [hc78, hc84, hc104]; omega))
                ·
                  rw [nI_eq (by omega) (by omega)] at hc104
                  refine R_gs 61 rfl ?_
                  rw [nI_1]; exact w2 true (st_f hb (by simp [hc104]) hc72)
        ·
          refine R_gs 64 rfl ?_
          refine R_k rfl rfl (m_people c0.1 ?_)
          refine W_bt rfl (gec (by omega)) ?_
          refine R_gs 133 rfl ?_
          refine W_b rfl (fun hc133 => ?_) (fun hc133 => ?_)
          ·
            refine R_gs 26 rfl ?_
            rw [sub1]; subst hv; refine w' r ?_ _ _; rw [fG_f (show codeB L S i j (lS L - t - 1) = false from by unfold codeB; rw [← hb]; exact b2i0.mp hc133), ← ek2]; exact hr
          ·
            refine R_gs 26 rfl ?_
            rw [sub1]; subst hv; refine w' _ ?_ _ _; rw [fG_t (show codeB L S i j (lS L - t - 1) = true from by unfold codeB; rw [← hb]; cases b; exact absurd (show b2i false = 0 from rfl) hc133; rfl)]
      ·
        rw [le0 (by omega)] at hc38
        refine R_gs 45 rfl ?_
        refine R_k rfl rfl (m_saysOf c0.1 hO hj hvS ?_)
        refine W_b rfl (fun hc48 => ?_) (fun hc48 => ?_)
        ·
          rw [le0 (by omega)] at hc48
          refine R_gs 61 rfl ?_
          have hini : (decide (0 < lO L i v) && decide (0 < lO L j v)) = false := by first | (rw [hc38]; rfl) | (rw [hc48]; simp)
          refine w_inv (W := fun e (b : Bool) => Rw (d + 3) Q (m_X13_code, 61, [some (.ref 235), some (.int (nI i)), some (.int (nI j)), some (.int r), some (.int (nI v)), some (.int (b2i b)), some (.int (nI e))], [], 262, wI h 235 0 0)) (lP L) (fun e b => b = ((decide (0 < lO L i v) && decide (0 < lO L j v)) && !anyN e (fun e => !decide (e = i) && !decide (e = j) && (decide (sA S e = sA S i) && decide (0 < lO L e v))))) (s0 := false) (by rw [hini]; rfl) (fun e b he hb w2 => ?_) (fun b hb => ?_)
          ·
            have v1 := (hV.2.1 e he).1
            have v2 := (hV.2.1 i hi).1
            have v3 := (o4 e he).2.2.2.1 v hvS
            refine R_gs 64 rfl ?_
            refine R_k rfl rfl (m_people c0.1 ?_)
            refine W_bf rfl (ltc he (by omega)) ?_
            refine R_gs 72 rfl ?_
            refine W_b rfl (fun hc72 => ?_) (fun hc72 => ?_)
            ·
              rw [b2i0] at hc72
              refine R_gs 61 rfl ?_
              rw [nI_1]; exact w2 false (st_0 hb hc72)
            ·
              rw [b2i0] at hc72
              refine R_gs 78 rfl ?_
              refine W_b rfl (fun hc78 => ?_) (fun hc78 => ?_)
              ·
                rw [nI_eq (by omega) (by omega)] at hc78
                refine R_gs 61 rfl ?_
                rw [nI_1]; exact w2 true (st_f hb (by simp [hc78]) hc72)
              ·
                rw [nI_eq (by omega) (by omega)] at hc78
                refine R_gs 84 rfl ?_
                refine W_b rfl (fun hc84 => ?_) (fun hc84 => ?_)
                ·
                  rw [nI_eq (by omega) (by omega)] at hc84
                  refine R_gs 61 rfl ?_
                  rw [nI_1]; exact w2 true (st_f hb (by simp [hc84]) hc72)
                ·
                  rw [nI_eq (by omega) (by omega)] at hc84
                  refine R_gs 95 rfl ?_
                  refine R_il rfl (by first | rfl | exact shO (by decide) (by omega) | exact shG (by decide) (by omega)) (by repeat (first | with_reducible apply ix_add | with_reducible apply ix_mul | with_reducible exact ix_nI _ | with_reducible exact ix_lit _ | exact rfl)) (by omega) (by first | exact c0A (c0.2.1.A he)) ?_
                  refine R_gs 103 rfl ?_
                  refine R_il rfl (by first | rfl | exact shO (by decide) (by omega) | exact shG (by decide) (by omega)) (by repeat (first | with_reducible apply ix_add | with_reducible apply ix_mul | with_reducible exact ix_nI _ | with_reducible exact ix_lit _ | exact rfl)) (by omega) (by first | exact c0A (c0.2.1.A hi)) ?_
                  refine W_b rfl (fun hc104 => ?_) (fun hc104 => ?_)
                  ·
                    rw [nI_eq (by omega) (by omega)] at hc104
                    refine R_gs 112 rfl ?_
                    refine R_k rfl rfl (m_saysOf c0.1 hO he hvS ?_)
                    refine W_b rfl (fun hc115 => ?_) (fun hc115 => ?_)
                    ·
                      rw [show nI (lO L e v) = 0 ↔ lO L e v = 0 from nI_eq (b := 0) (by omega) (by omega)] at hc115
                      refine R_gs 61 rfl ?_
                      rw [nI_1]; exact w2 true (st_f hb (by simp [hc115]) hc72)
                    ·
                      rw [show nI (lO L e v) = 0 ↔ lO L e v = 0 from nI_eq (b := 0) (by omega) (by omega)] at hc115
                      refine R_gs 61 rfl ?_
                      rw [nI_1]; exact w2 false (st_t (by simp [hc78, hc84, hc104]; omega))
                  ·
                    rw [nI_eq (by omega) (by omega)] at hc104
                    refine R_gs 61 rfl ?_
                    rw [nI_1]; exact w2 true (st_f hb (by simp [hc104]) hc72)
          ·
            refine R_gs 64 rfl ?_
            refine R_k rfl rfl (m_people c0.1 ?_)
            refine W_bt rfl (gec (by omega)) ?_
            refine R_gs 133 rfl ?_
            refine W_b rfl (fun hc133 => ?_) (fun hc133 => ?_)
            ·
              refine R_gs 26 rfl ?_
              rw [sub1]; subst hv; refine w' r ?_ _ _; rw [fG_f (show codeB L S i j (lS L - t - 1) = false from by unfold codeB; rw [← hb]; exact b2i0.mp hc133), ← ek2]; exact hr
            ·
              refine R_gs 26 rfl ?_
              rw [sub1]; subst hv; refine w' _ ?_ _ _; rw [fG_t (show codeB L S i j (lS L - t - 1) = true from by unfold codeB; rw [← hb]; cases b; exact absurd (show b2i false = 0 from rfl) hc133; rfl)]
        ·
          rw [le0 (by omega)] at hc48
          refine R_gs 61 rfl ?_
          have hini : (decide (0 < lO L i v) && decide (0 < lO L j v)) = true := by rw [decide_eq_true (by omega), decide_eq_true (by omega)]; rfl
          refine w_inv (W := fun e (b : Bool) => Rw (d + 3) Q (m_X13_code, 61, [some (.ref 235), some (.int (nI i)), some (.int (nI j)), some (.int r), some (.int (nI v)), some (.int (b2i b)), some (.int (nI e))], [], 262, wI h 235 0 0)) (lP L) (fun e b => b = ((decide (0 < lO L i v) && decide (0 < lO L j v)) && !anyN e (fun e => !decide (e = i) && !decide (e = j) && (decide (sA S e = sA S i) && decide (0 < lO L e v))))) (s0 := true) (by rw [hini]; rfl) (fun e b he hb w2 => ?_) (fun b hb => ?_)
          ·
            have v1 := (hV.2.1 e he).1
            have v2 := (hV.2.1 i hi).1
            have v3 := (o4 e he).2.2.2.1 v hvS
            refine R_gs 64 rfl ?_
            refine R_k rfl rfl (m_people c0.1 ?_)
            refine W_bf rfl (ltc he (by omega)) ?_
            refine R_gs 72 rfl ?_
            refine W_b rfl (fun hc72 => ?_) (fun hc72 => ?_)
            ·
              rw [b2i0] at hc72
              refine R_gs 61 rfl ?_
              rw [nI_1]; exact w2 false (st_0 hb hc72)
            ·
              rw [b2i0] at hc72
              refine R_gs 78 rfl ?_
              refine W_b rfl (fun hc78 => ?_) (fun hc78 => ?_)
              ·
                rw [nI_eq (by omega) (by omega)] at hc78
                refine R_gs 61 rfl ?_
                rw [nI_1]; exact w2 true (st_f hb (by simp [hc78]) hc72)
              ·
                rw [nI_eq (by omega) (by omega)] at hc78
                refine R_gs 84 rfl ?_
                refine W_b rfl (fun hc84 => ?_) (fun hc84 => ?_)
                ·
                  rw [nI_eq (by omega) (by omega)] at hc84
                  refine R_gs 61 rfl ?_
                  rw [nI_1]; exact w2 true (st_f hb (by simp [hc84]) hc72)
                ·
                  rw [nI_eq (by omega) (by omega)] at hc84
                  refine R_gs 95 rfl ?_
                  refine R_il rfl (by first | rfl | exact shO (by decide) (by omega) | exact shG (by decide) (by omega)) (by repeat (first | with_reducible apply ix_add | with_reducible apply ix_mul | with_reducible exact ix_nI _ | with_reducible exact ix_lit _ | exact rfl)) (by omega) (by first | exact c0A (c0.2.1.A he)) ?_
                  refine R_gs 103 rfl ?_
                  refine R_il rfl (by first | rfl | exact shO (by decide) (by omega) | exact shG (by decide) (by omega)) (by repeat (first | with_reducible apply ix_add | with_reducible apply ix_mul | with_reducible exact ix_nI _ | with_reducible exact ix_lit _ | exact rfl)) (by omega) (by first | exact c0A (c0.2.1.A hi)) ?_
                  refine W_b rfl (fun hc104 => ?_) (fun hc104 => ?_)
                  ·
                    rw [nI_eq (by omega) (by omega)] at hc104
                    refine R_gs 112 rfl ?_
                    refine R_k rfl rfl (m_saysOf c0.1 hO he hvS ?_)
                    refine W_b rfl (fun hc115 => ?_) (fun hc115 => ?_)
                    ·
                      rw [show nI (lO L e v) = 0 ↔ lO L e v = 0 from nI_eq (b := 0) (by omega) (by omega)] at hc115
                      refine R_gs 61 rfl ?_
                      rw [nI_1]; exact w2 true (st_f hb (by simp [hc115]) hc72)
                    ·
                      rw [show nI (lO L e v) = 0 ↔ lO L e v = 0 from nI_eq (b := 0) (by omega) (by omega)] at hc115
                      refine R_gs 61 rfl ?_
                      rw [nI_1]; exact w2 false (st_t (by simp [hc78, hc84, hc104]; omega))
                  ·
                    rw [nI_eq (by omega) (by omega)] at hc104
                    refine R_gs 61 rfl ?_
                    rw [nI_1]; exact w2 true (st_f hb (by simp [hc104]) hc72)
          ·
            refine R_gs 64 rfl ?_
            refine R_k rfl rfl (m_people c0.1 ?_)
            refine W_bt rfl (gec (by omega)) ?_
            refine R_gs 133 rfl ?_
            refine W_b rfl (fun hc133 => ?_) (fun hc133 => ?_)
            ·
              refine R_gs 26 rfl ?_
              rw [sub1]; subst hv; refine w' r ?_ _ _; rw [fG_f (show codeB L S i j (lS L - t - 1) = false from by unfold codeB; rw [← hb]; exact b2i0.mp hc133), ← ek2]; exact hr
            ·
              refine R_gs 26 rfl ?_
              rw [sub1]; subst hv; refine w' _ ?_ _ _; rw [fG_t (show codeB L S i j (lS L - t - 1) = true from by unfold codeB; rw [← hb]; cases b; exact absurd (show b2i false = 0 from rfl) hc133; rfl)]
    ·
      intro x5 x6
      refine R_gs 28 rfl ?_
      refine W_bt rfl (by rw [Nat.sub_self]; decide) ?_
      refine R_gs 150 rfl ?_
      refine W_f rfl (by first | rfl | exact ⟨rfl, by first | decide | assumption | exact Or.inl rfl | exact Or.inr rfl | exact b2i_01 _⟩) ?_
      rw [hr, Nat.sub_self]; exact h1
  ·
    refine W_bt rfl (by decide) ?_
    refine R_gs 15 rfl ?_
    refine W_f rfl (by first | rfl | exact ⟨rfl, by first | decide | assumption | exact Or.inl rfl | exact Or.inr rfl | exact b2i_01 _⟩) ?_
    rw [hx8] at h1; exact h1
end
