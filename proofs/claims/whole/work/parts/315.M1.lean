section
variable {d b : Nat} {h : AH} {L : SL} {S : SS} {Q : Option Value → AH → Prop}
theorem m_sayings (hL : LandM h L) (h1 : Q (some (.int (nI (lS L)))) h) : Rc (d + 1) m_X13_sayings [.ref 235] h Q := by
  refine R_in rfl rfl ?_
  refine R_gs 5 rfl ?_
  refine R_il rfl (by first | rfl | exact shO (by decide) (by omega) | exact shG (by decide) (by omega)) (by repeat (first | with_reducible apply ix_add | with_reducible apply ix_mul | with_reducible exact ix_nI _ | with_reducible exact ix_lit _ | exact rfl)) (by omega) (by first | exact hL.S | exact rfl) ?_
  refine W_f rfl (by first | rfl | exact ⟨rfl, by first | decide | assumption | exact Or.inl rfl | exact Or.inr rfl | exact b2i_01 _⟩) ?_
  first | exact h1 | assumption
theorem m_places (hL : LandM h L) (h1 : Q (some (.int (nI (lQ L)))) h) : Rc (d + 1) m_X13_places [.ref 235] h Q := by
  refine R_in rfl rfl ?_
  refine R_gs 5 rfl ?_
  refine R_il rfl (by first | rfl | exact shO (by decide) (by omega) | exact shG (by decide) (by omega)) (by repeat (first | with_reducible apply ix_add | with_reducible apply ix_mul | with_reducible exact ix_nI _ | with_reducible exact ix_lit _ | exact rfl)) (by omega) (by first | exact hL.Q | exact rfl) ?_
  refine W_f rfl (by first | rfl | exact ⟨rfl, by first | decide | assumption | exact Or.inl rfl | exact Or.inr rfl | exact b2i_01 _⟩) ?_
  first | exact h1 | assumption
theorem m_people (hL : LandM h L) (h1 : Q (some (.int (nI (lP L)))) h) : Rc (d + 1) m_X13_people [.ref 235] h Q := by
  refine R_in rfl rfl ?_
  refine R_gs 5 rfl ?_
  refine R_il rfl (by first | rfl | exact shO (by decide) (by omega) | exact shG (by decide) (by omega)) (by repeat (first | with_reducible apply ix_add | with_reducible apply ix_mul | with_reducible exact ix_nI _ | with_reducible exact ix_lit _ | exact rfl)) (by omega) (by first | exact hL.P | exact rfl) ?_
  refine W_f rfl (by first | rfl | exact ⟨rfl, by first | decide | assumption | exact Or.inl rfl | exact Or.inr rfl | exact b2i_01 _⟩) ?_
  first | exact h1 | assumption
theorem m_kindOf (hL : LandM h L) (hO : LandOK L) {p : Nat} (hp : p < lP L) (h1 : Q (some (.int (nI (lK L p)))) h) : Rc (d + 1) m_X13_kindOf [.ref 235, .int (nI p)] h Q := by
  obtain ⟨o1, o2, o3, o4, -⟩ := id hO
  refine R_in rfl rfl ?_
  refine R_gs 10 rfl ?_
  refine R_il rfl (by first | rfl | exact shO (by decide) (by omega) | exact shG (by decide) (by omega)) (by repeat (first | with_reducible apply ix_add | with_reducible apply ix_mul | with_reducible exact ix_nI _ | with_reducible exact ix_lit _ | exact rfl)) (by omega) (by first | exact hL.K hp | exact rfl) ?_
  refine W_f rfl (by first | rfl | exact ⟨rfl, by first | decide | assumption | exact Or.inl rfl | exact Or.inr rfl | exact b2i_01 _⟩) ?_
  first | exact h1 | assumption
theorem m_shyOf (hL : LandM h L) (hO : LandOK L) {p : Nat} (hp : p < lP L) (h1 : Q (some (.int (nI (lY L p)))) h) : Rc (d + 1) m_X13_shyOf [.ref 235, .int (nI p)] h Q := by
  obtain ⟨o1, o2, o3, o4, -⟩ := id hO
  refine R_in rfl rfl ?_
  refine R_gs 12 rfl ?_
  refine R_il rfl (by first | rfl | exact shO (by decide) (by omega) | exact shG (by decide) (by omega)) (by repeat (first | with_reducible apply ix_add | with_reducible apply ix_mul | with_reducible exact ix_nI _ | with_reducible exact ix_lit _ | exact rfl)) (by omega) (by first | exact hL.Y hp | exact rfl) ?_
  refine W_f rfl (by first | rfl | exact ⟨rfl, by first | decide | assumption | exact Or.inl rfl | exact Or.inr rfl | exact b2i_01 _⟩) ?_
  first | exact h1 | assumption
theorem m_saysOf (hL : LandM h L) (hO : LandOK L) {p w : Nat} (hp : p < lP L) (hw : w < lS L) (h1 : Q (some (.int (nI (lO L p w)))) h) : Rc (d + 1) m_X13_saysOf [.ref 235, .int (nI p), .int (nI w)] h Q := by
  obtain ⟨o1, o2, o3, o4, -⟩ := id hO
  refine R_in rfl rfl ?_
  refine R_gs 12 rfl ?_
  refine R_il rfl (by first | rfl | exact shO (by decide) (by omega) | exact shG (by decide) (by omega)) (by repeat (first | with_reducible apply ix_add | with_reducible apply ix_mul | with_reducible exact ix_nI _ | with_reducible exact ix_lit _ | exact rfl)) (by omega) (by first | exact hL.O hp hw | exact rfl) ?_
  refine W_f rfl (by first | rfl | exact ⟨rfl, by first | decide | assumption | exact Or.inl rfl | exact Or.inr rfl | exact b2i_01 _⟩) ?_
  first | exact h1 | assumption
theorem m_likingOf (hL : LandM h L) (hO : LandOK L) {p q : Nat} (hp : p < lP L) (hq : q < lP L) (h1 : Q (some (.int (nI (lG L p q)))) h) : Rc (d + 1) m_X13_likingOf [.ref 235, .int (nI p), .int (nI q)] h Q := by
  obtain ⟨o1, o2, o3, o4, -⟩ := id hO
  have e := hL.G hp hq
  refine R_in rfl rfl ?_
  refine R_gs 13 rfl ?_
  refine R_il rfl (by first | rfl | exact shO (by decide) (by omega) | exact shG (by decide) (by omega)) (by repeat (first | with_reducible apply ix_add | with_reducible apply ix_mul | with_reducible exact ix_nI _ | with_reducible exact ix_lit _ | exact rfl)) (by omega) (by first | exact rfl) ?_
  refine R_gs 16 rfl ?_
  refine W_b rfl (fun hc16 => ?_) (fun hc16 => ?_)
  ·
    refine R_gs 26 rfl ?_
    refine W_f rfl (by first | rfl | exact ⟨rfl, by first | decide | assumption | exact Or.inl rfl | exact Or.inr rfl | exact b2i_01 _⟩) ?_
    first | (rw [if_pos (Int32.not_le.mp hc16)] at e; rw [← e] at h1; exact h1) | (rw [if_neg (Int32.not_lt.mpr hc16)] at e; rw [← e] at h1; exact h1)
  ·
    refine R_gs 26 rfl ?_
    refine W_f rfl (by first | rfl | exact ⟨rfl, by first | decide | assumption | exact Or.inl rfl | exact Or.inr rfl | exact b2i_01 _⟩) ?_
    first | (rw [if_pos (Int32.not_le.mp hc16)] at e; rw [← e] at h1; exact h1) | (rw [if_neg (Int32.not_lt.mpr hc16)] at e; rw [← e] at h1; exact h1)
theorem m_isSaying (hL : LandM h L) {p : Int32} (h1 : inN p (lS L) = true → Q (some (.int 1)) h) (h0 : inN p (lS L) = false → Q (some (.int 0)) h) : Rc (d + 2) m_X13_isSaying [.ref 235, .int p] h Q := by
  refine R_in rfl rfl ?_
  refine R_gs 1 rfl ?_
  refine W_b rfl (fun hc1 => ?_) (fun hc1 => ?_)
  ·
    refine R_gs 17 rfl ?_
    refine W_f rfl (by first | rfl | exact ⟨rfl, by first | decide | assumption | exact Or.inl rfl | exact Or.inr rfl | exact b2i_01 _⟩) ?_
    first | exact h0 (inN_f1 hc1) | exact h0 (inN_f2 hc9) | exact h1 (inN_t hc1 hc9)
  ·
    refine R_gs 6 rfl ?_
    refine R_k rfl rfl (m_sayings hL ?_)
    refine W_b rfl (fun hc9 => ?_) (fun hc9 => ?_)
    ·
      refine R_gs 17 rfl ?_
      refine W_f rfl (by first | rfl | exact ⟨rfl, by first | decide | assumption | exact Or.inl rfl | exact Or.inr rfl | exact b2i_01 _⟩) ?_
      first | exact h0 (inN_f1 hc1) | exact h0 (inN_f2 hc9) | exact h1 (inN_t hc1 hc9)
    ·
      refine R_gs 17 rfl ?_
      refine W_f rfl (by first | rfl | exact ⟨rfl, by first | decide | assumption | exact Or.inl rfl | exact Or.inr rfl | exact b2i_01 _⟩) ?_
      first | exact h0 (inN_f1 hc1) | exact h0 (inN_f2 hc9) | exact h1 (inN_t hc1 hc9)
theorem m_isPlace (hL : LandM h L) {p : Int32} (h1 : inN p (lQ L) = true → Q (some (.int 1)) h) (h0 : inN p (lQ L) = false → Q (some (.int 0)) h) : Rc (d + 2) m_X13_isPlace [.ref 235, .int p] h Q := by
  refine R_in rfl rfl ?_
  refine R_gs 1 rfl ?_
  refine W_b rfl (fun hc1 => ?_) (fun hc1 => ?_)
  ·
    refine R_gs 17 rfl ?_
    refine W_f rfl (by first | rfl | exact ⟨rfl, by first | decide | assumption | exact Or.inl rfl | exact Or.inr rfl | exact b2i_01 _⟩) ?_
    first | exact h0 (inN_f1 hc1) | exact h0 (inN_f2 hc9) | exact h1 (inN_t hc1 hc9)
  ·
    refine R_gs 6 rfl ?_
    refine R_k rfl rfl (m_places hL ?_)
    refine W_b rfl (fun hc9 => ?_) (fun hc9 => ?_)
    ·
      refine R_gs 17 rfl ?_
      refine W_f rfl (by first | rfl | exact ⟨rfl, by first | decide | assumption | exact Or.inl rfl | exact Or.inr rfl | exact b2i_01 _⟩) ?_
      first | exact h0 (inN_f1 hc1) | exact h0 (inN_f2 hc9) | exact h1 (inN_t hc1 hc9)
    ·
      refine R_gs 17 rfl ?_
      refine W_f rfl (by first | rfl | exact ⟨rfl, by first | decide | assumption | exact Or.inl rfl | exact Or.inr rfl | exact b2i_01 _⟩) ?_
      first | exact h0 (inN_f1 hc1) | exact h0 (inN_f2 hc9) | exact h1 (inN_t hc1 hc9)
theorem m_isPerson (hL : LandM h L) {p : Int32} (h1 : inN p (lP L) = true → Q (some (.int 1)) h) (h0 : inN p (lP L) = false → Q (some (.int 0)) h) : Rc (d + 2) m_X13_isPerson [.ref 235, .int p] h Q := by
  refine R_in rfl rfl ?_
  refine R_gs 1 rfl ?_
  refine W_b rfl (fun hc1 => ?_) (fun hc1 => ?_)
  ·
    refine R_gs 17 rfl ?_
    refine W_f rfl (by first | rfl | exact ⟨rfl, by first | decide | assumption | exact Or.inl rfl | exact Or.inr rfl | exact b2i_01 _⟩) ?_
    first | exact h0 (inN_f1 hc1) | exact h0 (inN_f2 hc9) | exact h1 (inN_t hc1 hc9)
  ·
    refine R_gs 6 rfl ?_
    refine R_k rfl rfl (m_people hL ?_)
    refine W_b rfl (fun hc9 => ?_) (fun hc9 => ?_)
    ·
      refine R_gs 17 rfl ?_
      refine W_f rfl (by first | rfl | exact ⟨rfl, by first | decide | assumption | exact Or.inl rfl | exact Or.inr rfl | exact b2i_01 _⟩) ?_
      first | exact h0 (inN_f1 hc1) | exact h0 (inN_f2 hc9) | exact h1 (inN_t hc1 hc9)
    ·
      refine R_gs 17 rfl ?_
      refine W_f rfl (by first | rfl | exact ⟨rfl, by first | decide | assumption | exact Or.inl rfl | exact Or.inr rfl | exact b2i_01 _⟩) ?_
      first | exact h0 (inN_f1 hc1) | exact h0 (inN_f2 hc9) | exact h1 (inN_t hc1 hc9)
theorem m_areTwo (hL : LandM h L) {p q : Int32} (h1 : two L p q = true → Q (some (.int 1)) h) (h0 : two L p q = false → Q (some (.int 0)) h) : Rc (d + 3) m_X13_areTwo [.ref 235, .int p, .int q] h Q := by
  refine R_in rfl rfl ?_
  refine R_gs 2 rfl ?_
  refine R_k rfl rfl (m_isPerson hL (fun hx2 => ?_) (fun hx2 => ?_))
  ·
    refine W_bf rfl (by decide) ?_
    refine R_gs 10 rfl ?_
    refine R_k rfl rfl (m_isPerson hL (fun hx10 => ?_) (fun hx10 => ?_))
    ·
      refine W_bf rfl (by decide) ?_
      refine R_gs 18 rfl ?_
      refine W_b rfl (fun hc18 => ?_) (fun hc18 => ?_)
      ·
        refine R_gs 26 rfl ?_
        refine W_f rfl (by first | rfl | exact ⟨rfl, by first | decide | assumption | exact Or.inl rfl | exact Or.inr rfl | exact b2i_01 _⟩) ?_
        first | exact h0 (by simp [two, *]) | exact h1 (by simp [two, *])
      ·
        refine R_gs 26 rfl ?_
        refine W_f rfl (by first | rfl | exact ⟨rfl, by first | decide | assumption | exact Or.inl rfl | exact Or.inr rfl | exact b2i_01 _⟩) ?_
        first | exact h0 (by simp [two, *]) | exact h1 (by simp [two, *])
    ·
      refine W_bt rfl (by decide) ?_
      refine R_gs 26 rfl ?_
      refine W_f rfl (by first | rfl | exact ⟨rfl, by first | decide | assumption | exact Or.inl rfl | exact Or.inr rfl | exact b2i_01 _⟩) ?_
      first | exact h0 (by simp [two, *]) | exact h1 (by simp [two, *])
  ·
    refine W_bt rfl (by decide) ?_
    refine R_gs 26 rfl ?_
    refine W_f rfl (by first | rfl | exact ⟨rfl, by first | decide | assumption | exact Or.inl rfl | exact Or.inr rfl | exact b2i_01 _⟩) ?_
    first | exact h0 (by simp [two, *]) | exact h1 (by simp [two, *])
theorem m_pairOf {p q : Nat} (hp : p < 6) (hq : q < 6) (hpq : p ≠ q) (h1 : Q (some (.int (nI (pr p q)))) h) : Rc (d + 1) m_X13_pairOf [.int (nI p), .int (nI q)] h Q := by
  refine R_in rfl rfl ?_
  refine R_g rfl ?_
  refine W_b rfl (fun hc => ?_) (fun hc => ?_)
  · have hc' := (nI_leI (by omega) (by omega)).mp hc
    refine R_g rfl ?_
    refine W_bt rfl (by first | rfl | decide | assumption | omega) ?_
    refine R_g rfl ?_
    refine W_c rfl (by decide) ?_
    refine R_g rfl ?_; refine W_f rfl (by first | rfl | exact ⟨rfl, by decide⟩) ?_
    rw [(by decide +kernel : ∀ p, p < 6 → ∀ q, q < 6 → p ≠ q → q ≤ p → nI q * (11 - nI q) / 2 + nI p - nI q - 1 = nI (pr p q)) p hp q hq hpq hc']
    exact h1
  · have hc' := mt (nI_leI (by omega) (by omega)).mpr hc
    refine R_g rfl ?_
    refine W_bf rfl (by first | rfl | decide | assumption | omega) ?_
    refine R_g rfl ?_
    refine W_c rfl (by decide) ?_
    refine R_g rfl ?_; refine W_f rfl (by first | rfl | exact ⟨rfl, by decide⟩) ?_
    rw [(by decide +kernel : ∀ p, p < 6 → ∀ q, q < 6 → p ≠ q → ¬ q ≤ p → nI p * (11 - nI p) / 2 + nI q - nI p - 1 = nI (pr p q)) p hp q hq hpq hc']
    exact h1
theorem m_isWed (hS : SceneM h b L S) (hb : b ≤ 880) {p q : Nat} (hp : p < 6) (hq : q < 6) (hpq : p ≠ q) (h1 : bt (sW S) (pr p q) = true → Q (some (.int 1)) h) (h0 : bt (sW S) (pr p q) = false → Q (some (.int 0)) h) : Rc (d + 2) m_X13_isWed [.ref 235, .int (nI b), .int (nI p), .int (nI q)] h Q := by
  have hk := pr_lt p hp q hq hpq
  refine R_in rfl rfl ?_
  refine R_gs 7 rfl ?_
  refine R_il rfl (by first | rfl | exact shO (by decide) (by omega) | exact shG (by decide) (by omega)) (by repeat (first | with_reducible apply ix_add | with_reducible apply ix_mul | with_reducible exact ix_nI _ | with_reducible exact ix_lit _ | exact rfl)) (by omega) (by first | exact hS.W | exact rfl) ?_
  refine R_gs 10 rfl ?_
  refine R_k rfl rfl (m_pairOf hp hq hpq ?_)
  refine R_gs 17 rfl ?_
  rw [sh_and (by omega)]
  refine W_b rfl (fun hc17 => ?_) (fun hc17 => ?_)
  ·
    refine R_gs 25 rfl ?_
    refine W_f rfl (by first | rfl | exact ⟨rfl, by first | decide | assumption | exact Or.inl rfl | exact Or.inr rfl | exact b2i_01 _⟩) ?_
    first | exact h0 (b1z hc17) | exact h1 (b1o hc17)
  ·
    refine R_gs 25 rfl ?_
    refine W_f rfl (by first | rfl | exact ⟨rfl, by first | decide | assumption | exact Or.inl rfl | exact Or.inr rfl | exact b2i_01 _⟩) ?_
    first | exact h0 (b1z hc17) | exact h1 (b1o hc17)
theorem m_isKept (hS : SceneM h b L S) (hb : b ≤ 880) {p q : Nat} (hp : p < 6) (hq : q < 6) (hpq : p ≠ q) (h1 : bt (sE S) (pr p q) = true → Q (some (.int 1)) h) (h0 : bt (sE S) (pr p q) = false → Q (some (.int 0)) h) : Rc (d + 2) m_X13_isKept [.ref 235, .int (nI b), .int (nI p), .int (nI q)] h Q := by
  have hk := pr_lt p hp q hq hpq
  refine R_in rfl rfl ?_
  refine R_gs 7 rfl ?_
  refine R_il rfl (by first | rfl | exact shO (by decide) (by omega) | exact shG (by decide) (by omega)) (by repeat (first | with_reducible apply ix_add | with_reducible apply ix_mul | with_reducible exact ix_nI _ | with_reducible exact ix_lit _ | exact rfl)) (by omega) (by first | exact hS.E | exact rfl) ?_
  refine R_gs 10 rfl ?_
  refine R_k rfl rfl (m_pairOf hp hq hpq ?_)
  refine R_gs 17 rfl ?_
  rw [sh_and (by omega)]
  refine W_b rfl (fun hc17 => ?_) (fun hc17 => ?_)
  ·
    refine R_gs 25 rfl ?_
    refine W_f rfl (by first | rfl | exact ⟨rfl, by first | decide | assumption | exact Or.inl rfl | exact Or.inr rfl | exact b2i_01 _⟩) ?_
    first | exact h0 (b1z hc17) | exact h1 (b1o hc17)
  ·
    refine R_gs 25 rfl ?_
    refine W_f rfl (by first | rfl | exact ⟨rfl, by first | decide | assumption | exact Or.inl rfl | exact Or.inr rfl | exact b2i_01 _⟩) ?_
    first | exact h0 (b1z hc17) | exact h1 (b1o hc17)
theorem m_areFree (hL : LandM h L) (hO : LandOK L) (hS : SceneM h b L S) (hb : b ≤ 880) {p q : Nat} (hp : p < lP L) (hq : q < lP L) (hpq : p ≠ q) (h1 : free L S p q = true → Q (some (.int 1)) h) (h0 : free L S p q = false → Q (some (.int 0)) h) : Rc (d + 3) m_X13_areFree [.ref 235, .int (nI b), .int (nI p), .int (nI q)] h Q := by
  obtain ⟨o1, o2, o3, o4, -⟩ := id hO
  have u1 := (o4 p hp).1
  have u2 := (o4 q hq).1
  refine R_in rfl rfl ?_
  refine R_gs 2 rfl ?_
  refine R_k rfl rfl (m_kindOf hL hO hp ?_)
  refine R_gs 6 rfl ?_
  refine W_b rfl (fun hc6 => ?_) (fun hc6 => ?_)
  ·
    rw [nI_is1 (by omega)] at hc6
    refine R_gs 33 rfl ?_
    refine W_f rfl (by first | rfl | exact ⟨rfl, by first | decide | assumption | exact Or.inl rfl | exact Or.inr rfl | exact b2i_01 _⟩) ?_
    first | exact h0 (by simp [free, *]) | exact h1 (by simp [free, *])
  ·
    rw [nI_is1 (by omega)] at hc6
    refine R_gs 11 rfl ?_
    refine R_k rfl rfl (m_kindOf hL hO hq ?_)
    refine R_gs 15 rfl ?_
    refine W_b rfl (fun hc15 => ?_) (fun hc15 => ?_)
    ·
      rw [nI_is1 (by omega)] at hc15
      refine R_gs 33 rfl ?_
      refine W_f rfl (by first | rfl | exact ⟨rfl, by first | decide | assumption | exact Or.inl rfl | exact Or.inr rfl | exact b2i_01 _⟩) ?_
      first | exact h0 (by simp [free, *]) | exact h1 (by simp [free, *])
    ·
      rw [nI_is1 (by omega)] at hc15
      refine R_gs 22 rfl ?_
      refine R_k rfl rfl (m_isKept hS hb (by omega) (by omega) hpq (fun hx22 => ?_) (fun hx22 => ?_))
      ·
        refine W_bf rfl (by decide) ?_
        refine R_gs 33 rfl ?_
        refine W_f rfl (by first | rfl | exact ⟨rfl, by first | decide | assumption | exact Or.inl rfl | exact Or.inr rfl | exact b2i_01 _⟩) ?_
        first | exact h0 (by simp [free, *]) | exact h1 (by simp [free, *])
      ·
        refine W_bt rfl (by decide) ?_
        refine R_gs 33 rfl ?_
        refine W_f rfl (by first | rfl | exact ⟨rfl, by first | decide | assumption | exact Or.inl rfl | exact Or.inr rfl | exact b2i_01 _⟩) ?_
        first | exact h0 (by simp [free, *]) | exact h1 (by simp [free, *])
theorem m_couldSnap (hL : LandM h L) (hO : LandOK L) (hS : SceneM h b L S) (hV : SceneOK L S) (hb : b ≤ 880) {p q : Nat} (hp : p < lP L) (hq : q < lP L) (hpq : p ≠ q) (h1 : snap L S p q = true → Q (some (.int 1)) h) (h0 : snap L S p q = false → Q (some (.int 0)) h) : Rc (d + 4) m_X13_couldSnap [.ref 235, .int (nI b), .int (nI p), .int (nI q)] h Q := by
  obtain ⟨o1, o2, o3, o4, -⟩ := id hO
  have v1 := (hV.2.1 p hp).1
  have v2 := (hV.2.1 q hq).1
  refine R_in rfl rfl ?_
  refine R_gs 9 rfl ?_
  refine R_il rfl (by first | rfl | exact shO (by decide) (by omega) | exact shG (by decide) (by omega)) (by repeat (first | with_reducible apply ix_add | with_reducible apply ix_mul | with_reducible exact ix_nI _ | with_reducible exact ix_lit _ | exact rfl)) (by omega) (by first | exact hS.A hp) ?_
  refine R_gs 19 rfl ?_
  refine R_il rfl (by first | rfl | exact shO (by decide) (by omega) | exact shG (by decide) (by omega)) (by repeat (first | with_reducible apply ix_add | with_reducible apply ix_mul | with_reducible exact ix_nI _ | with_reducible exact ix_lit _ | exact rfl)) (by omega) (by first | exact hS.A hq) ?_
  refine W_b rfl (fun hc20 => ?_) (fun hc20 => ?_)
  ·
    rw [nI_eq (by omega) (by omega)] at hc20
    refine R_gs 27 rfl ?_
    refine R_k rfl rfl (m_areFree hL hO hS hb hp hq hpq (fun hx27 => ?_) (fun hx27 => ?_))
    ·
      refine W_bf rfl (by decide) ?_
      refine R_gs 37 rfl ?_
      refine R_k rfl rfl (m_isWed hS hb (by omega) (by omega) hpq (fun hx37 => ?_) (fun hx37 => ?_))
      ·
        refine W_bf rfl (by decide) ?_
        refine R_gs 48 rfl ?_
        refine W_f rfl (by first | rfl | exact ⟨rfl, by first | decide | assumption | exact Or.inl rfl | exact Or.inr rfl | exact b2i_01 _⟩) ?_
        first | exact h0 (by simp [snap, *]) | exact h1 (by simp [snap, *])
      ·
        refine W_bt rfl (by decide) ?_
        refine R_gs 48 rfl ?_
        refine W_f rfl (by first | rfl | exact ⟨rfl, by first | decide | assumption | exact Or.inl rfl | exact Or.inr rfl | exact b2i_01 _⟩) ?_
        first | exact h0 (by simp [snap, *]) | exact h1 (by simp [snap, *])
    ·
      refine W_bt rfl (by decide) ?_
      refine R_gs 48 rfl ?_
      refine W_f rfl (by first | rfl | exact ⟨rfl, by first | decide | assumption | exact Or.inl rfl | exact Or.inr rfl | exact b2i_01 _⟩) ?_
      first | exact h0 (by simp [snap, *]) | exact h1 (by simp [snap, *])
  ·
    rw [nI_eq (by omega) (by omega)] at hc20
    refine R_gs 48 rfl ?_
    refine W_f rfl (by first | rfl | exact ⟨rfl, by first | decide | assumption | exact Or.inl rfl | exact Or.inr rfl | exact b2i_01 _⟩) ?_
    first | exact h0 (by simp [snap, *]) | exact h1 (by simp [snap, *])
theorem m_allOf (hL : LandM h L) (hO : LandOK L) {p : Nat} (hp : p < lP L) (h1 : Q (some (.int (nI (oT L p)))) h) : Rc (d + 2) m_X13_allOf [.ref 235, .int (nI p)] h Q := by
  obtain ⟨o1, o2, o3, o4, -⟩ := id hO
  refine R_in rfl rfl ?_
  refine R_gs 2 rfl ?_
  refine R_k rfl rfl (m_shyOf hL hO hp ?_)
  refine R_gs 8 rfl ?_
  refine w_lp (W := fun j s => Rw (d + 1) Q (m_X13_allOf, 8, [_, _, some (.int (nI (lY L p + s))), some (.int (nI j))], [], 262, h)) (fun j s => s + lO L p j) (lS L) (fun _ _ => True) 0 trivial (fun j s hj _ => ⟨trivial, fun w => ?_⟩) (fun _ => ?_)
  ·
    refine R_gs 10 rfl ?_
    refine R_k rfl rfl (m_sayings hL ?_)
    refine W_bf rfl (ltc hj (by omega)) ?_
    refine R_gs 20 rfl ?_
    refine R_k rfl rfl (m_saysOf hL hO hp hj ?_)
    refine R_gs 8 rfl ?_
    rw [nI_add, nI_1, Nat.add_assoc]; exact w
  ·
    refine R_gs 10 rfl ?_
    refine R_k rfl rfl (m_sayings hL ?_)
    refine W_bt rfl (gec (by omega)) ?_
    refine R_gs 32 rfl ?_
    refine W_f rfl (by first | rfl | exact ⟨rfl, by first | decide | assumption | exact Or.inl rfl | exact Or.inr rfl | exact b2i_01 _⟩) ?_
    unfold oT oA sumN at h1; rw [Nat.add_comm] at h1; exact h1
theorem m_doClash (hL : LandM h L) (hO : LandOK L) (hS : SceneM h 0 L S) (hV : SceneOK L S) {p q : Nat} (hp : p < lP L) (hq : q < lP L) (hpq : p ≠ q) (h1 : clas L S p q = true → Q (some (.int 1)) h) (h0 : clas L S p q = false → Q (some (.int 0)) h) : Rc (d + 5) m_X13_doClash [.ref 235, .int (nI p), .int (nI q)] h Q := by
  obtain ⟨o1, o2, o3, o4, -⟩ := id hO
  refine R_in rfl rfl ?_
  refine R_gs 5 rfl ?_
  refine w_lp (W := fun j s => Rw (d + 4) Q (m_X13_doClash, 5, [_, _, _, some (.int (b2i s)), some (.int (nI j))], [], 262, h)) (fun w b => b || (decide (0 < lO L p w) && decide (0 < lO L q w))) (lS L) (fun _ _ => True) false trivial (fun j s hj _ => ⟨trivial, fun w => ?_⟩) (fun _ => ?_)
  ·
    have u1 := (o4 p hp).2.2.2.1 j hj
    have u2 := (o4 q hq).2.2.2.1 j hj
    refine R_gs 8 rfl ?_
    refine R_k rfl rfl (m_sayings hL ?_)
    refine W_bf rfl (ltc hj (by omega)) ?_
    refine R_gs 15 rfl ?_
    refine W_b rfl (fun hc15 => ?_) (fun hc15 => ?_)
    ·
      rw [b2i0] at hc15
      refine R_gs 22 rfl ?_
      refine R_k rfl rfl (m_saysOf hL hO hp hj ?_)
      refine W_b rfl (fun hc25 => ?_) (fun hc25 => ?_)
      ·
        rw [le0 (by omega)] at hc25
        refine R_gs 5 rfl ?_
        rw [nI_1]; first | (rw [show (s || (decide (0 < lO L p j) && decide (0 < lO L q j))) = true from by simp [*]; try omega] at w; exact w) | (rw [show (s || (decide (0 < lO L p j) && decide (0 < lO L q j))) = false from by simp [*]; try omega] at w; exact w)
      ·
        rw [le0 (by omega)] at hc25
        refine R_gs 32 rfl ?_
        refine R_k rfl rfl (m_saysOf hL hO hq hj ?_)
        refine W_b rfl (fun hc35 => ?_) (fun hc35 => ?_)
        ·
          rw [le0 (by omega)] at hc35
          refine R_gs 5 rfl ?_
          rw [nI_1]; first | (rw [show (s || (decide (0 < lO L p j) && decide (0 < lO L q j))) = true from by simp [*]; try omega] at w; exact w) | (rw [show (s || (decide (0 < lO L p j) && decide (0 < lO L q j))) = false from by simp [*]; try omega] at w; exact w)
        ·
          rw [le0 (by omega)] at hc35
          refine R_gs 5 rfl ?_
          rw [nI_1]; first | (rw [show (s || (decide (0 < lO L p j) && decide (0 < lO L q j))) = true from by simp [*]; try omega] at w; exact w) | (rw [show (s || (decide (0 < lO L p j) && decide (0 < lO L q j))) = false from by simp [*]; try omega] at w; exact w)
    ·
      rw [b2i0] at hc15
      refine R_gs 5 rfl ?_
      rw [nI_1]; first | (rw [show (s || (decide (0 < lO L p j) && decide (0 < lO L q j))) = true from by simp [*]; try omega] at w; exact w) | (rw [show (s || (decide (0 < lO L p j) && decide (0 < lO L q j))) = false from by simp [*]; try omega] at w; exact w)
  ·
    refine R_gs 8 rfl ?_
    refine R_k rfl rfl (m_sayings hL ?_)
    refine W_bt rfl (gec (by omega)) ?_
    refine R_gs 51 rfl ?_
    refine W_b rfl (fun hc51 => ?_) (fun hc51 => ?_)
    ·
      rw [b2i0] at hc51
      refine R_gs 69 rfl ?_
      refine W_f rfl (by first | rfl | exact ⟨rfl, by first | decide | assumption | exact Or.inl rfl | exact Or.inr rfl | exact b2i_01 _⟩) ?_
      first | exact h0 (by simp [clas, shares, anyN, *]) | exact h1 (by simp [clas, shares, anyN, *])
    ·
      rw [b2i0] at hc51
      refine R_gs 58 rfl ?_
      refine R_k rfl rfl (m_couldSnap (b := 0) hL hO hS hV (by omega) hp hq hpq (fun hx58 => ?_) (fun hx58 => ?_))
      ·
        refine W_bf rfl (by decide) ?_
        refine R_gs 69 rfl ?_
        refine W_f rfl (by first | rfl | exact ⟨rfl, by first | decide | assumption | exact Or.inl rfl | exact Or.inr rfl | exact b2i_01 _⟩) ?_
        first | exact h0 (by simp [clas, shares, anyN, *]) | exact h1 (by simp [clas, shares, anyN, *])
      ·
        refine W_bt rfl (by decide) ?_
        refine R_gs 69 rfl ?_
        refine W_f rfl (by first | rfl | exact ⟨rfl, by first | decide | assumption | exact Or.inl rfl | exact Or.inr rfl | exact b2i_01 _⟩) ?_
        first | exact h0 (by simp [clas, shares, anyN, *]) | exact h1 (by simp [clas, shares, anyN, *])
end
