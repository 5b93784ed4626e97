theorem inN_f1 {x : Int32} {n : Nat} (h : x < 0) : inN x n = false := by
  unfold inN; rw [decide_eq_false (Int32.not_le.mpr h)]; rfl
theorem inN_f2 {x : Int32} {n : Nat} (h : nI n ≤ x) : inN x n = false := by
  unfold inN; rw [decide_eq_false (Int32.not_lt.mpr h), Bool.and_false]
theorem inN_t {x : Int32} {n : Nat} (h : ¬ x < 0) (h2 : ¬ nI n ≤ x) : inN x n = true := by
  unfold inN; rw [decide_eq_true (Int32.not_lt.mp h), decide_eq_true (Int32.not_le.mp h2)]; rfl
theorem nI_1' {j : Nat} : nI j + 1 = nI (j + 1) := nI_1 j
theorem ltc {N j : Nat} (h : j < N) (hN : N < 2 ^ 31) : ¬ nI N ≤ nI j := mt (nI_leI hN (by omega)).mp (by omega)
theorem gec {N : Nat} (hN : N < 2 ^ 31) : nI N ≤ nI N := Int32.le_refl _
theorem nI_eqc {a b : Nat} (h : nI a = nI b) (ha : a < 2 ^ 31) (hb : b < 2 ^ 31) : a = b := (nI_eq ha hb).mp h
theorem pos_of {k : Nat} (hk : k < 2 ^ 31) (h : ¬ nI k ≤ 0) : 0 < k := by
  rcases Nat.eq_zero_or_pos k with e | e
  · subst e; exact absurd (Int32.le_refl _) h
  · exact e
theorem zero_of {k : Nat} (hk : k < 2 ^ 31) (h : nI k ≤ 0) : k = 0 := by
  have := (nI_leI hk (by omega : 0 < 2 ^ 31)).mp h
  omega
theorem bz {b : Bool} (h : (if b = true then (1 : Int32) else 0) = 0) : b = false := by cases b <;> simp_all
theorem bo {b : Bool} (h : ¬ (if b = true then (1 : Int32) else 0) = 0) : b = true := by cases b <;> simp_all
theorem b1z {b : Bool} (h : ¬ (if b = true then (1 : Int32) else 0) = 1) : b = false := by cases b <;> simp_all
theorem b1o {b : Bool} (h : (if b = true then (1 : Int32) else 0) = 1) : b = true := by cases b <;> simp_all
theorem le0 {k : Nat} (hk : k < 2 ^ 31) : nI k ≤ 0 ↔ k = 0 := ⟨zero_of hk, fun e => by rw [e]; exact Int32.le_refl _⟩
section
variable {d a b : Nat} {h : AH} {L : SL} {S : SS} {Q : Option Value → AH → Prop}
theorem c_hasPerson (ha : a = 143 ∨ a = 171) (hL : LandC h a L) {p : Int32} (h1 : inN p (lP L) = true → Q (some (.int 1)) h) (h0 : inN p (lP L) = false → Q (some (.int 0)) h) : Rc (d + 1) m_X7_hasPerson [.ref a, .int p] h Q := by
  rcases ha with rfl | rfl
  all_goals
    refine R_in rfl rfl ?_
    refine R_gs 1 rfl ?_
    refine W_b rfl (fun hc1 => ?_) (fun hc1 => ?_)
    ·
      refine R_gs 17 rfl ?_
      refine W_f rfl (by first | rfl | exact ⟨rfl, by first | decide | assumption | exact Or.inl rfl | exact Or.inr rfl | exact b2i_01 _⟩) ?_
      first | exact h0 (inN_f1 hc1) | exact h0 (inN_f2 hc9) | exact h1 (inN_t hc1 hc9)
    ·
      refine R_gs 9 rfl ?_
      rw [hL.P]
      refine W_b rfl (fun hc9 => ?_) (fun hc9 => ?_)
      ·
        refine R_gs 17 rfl ?_
        refine W_f rfl (by first | rfl | exact ⟨rfl, by first | decide | assumption | exact Or.inl rfl | exact Or.inr rfl | exact b2i_01 _⟩) ?_
        first | exact h0 (inN_f1 hc1) | exact h0 (inN_f2 hc9) | exact h1 (inN_t hc1 hc9)
      ·
        refine R_gs 17 rfl ?_
        refine W_f rfl (by first | rfl | exact ⟨rfl, by first | decide | assumption | exact Or.inl rfl | exact Or.inr rfl | exact b2i_01 _⟩) ?_
        first | exact h0 (inN_f1 hc1) | exact h0 (inN_f2 hc9) | exact h1 (inN_t hc1 hc9)
theorem c_hasPlace (ha : a = 143 ∨ a = 171) (hL : LandC h a L) {p : Int32} (h1 : inN p (lQ L) = true → Q (some (.int 1)) h) (h0 : inN p (lQ L) = false → Q (some (.int 0)) h) : Rc (d + 1) m_X7_hasPlace [.ref a, .int p] h Q := by
  rcases ha with rfl | rfl
  all_goals
    refine R_in rfl rfl ?_
    refine R_gs 1 rfl ?_
    refine W_b rfl (fun hc1 => ?_) (fun hc1 => ?_)
    ·
      refine R_gs 17 rfl ?_
      refine W_f rfl (by first | rfl | exact ⟨rfl, by first | decide | assumption | exact Or.inl rfl | exact Or.inr rfl | exact b2i_01 _⟩) ?_
      first | exact h0 (inN_f1 hc1) | exact h0 (inN_f2 hc9) | exact h1 (inN_t hc1 hc9)
    ·
      refine R_gs 9 rfl ?_
      rw [hL.Q]
      refine W_b rfl (fun hc9 => ?_) (fun hc9 => ?_)
      ·
        refine R_gs 17 rfl ?_
        refine W_f rfl (by first | rfl | exact ⟨rfl, by first | decide | assumption | exact Or.inl rfl | exact Or.inr rfl | exact b2i_01 _⟩) ?_
        first | exact h0 (inN_f1 hc1) | exact h0 (inN_f2 hc9) | exact h1 (inN_t hc1 hc9)
      ·
        refine R_gs 17 rfl ?_
        refine W_f rfl (by first | rfl | exact ⟨rfl, by first | decide | assumption | exact Or.inl rfl | exact Or.inr rfl | exact b2i_01 _⟩) ?_
        first | exact h0 (inN_f1 hc1) | exact h0 (inN_f2 hc9) | exact h1 (inN_t hc1 hc9)
theorem c_hasSaying (ha : a = 143 ∨ a = 171) (hL : LandC h a L) {p : Int32} (h1 : inN p (lS L) = true → Q (some (.int 1)) h) (h0 : inN p (lS L) = false → Q (some (.int 0)) h) : Rc (d + 1) m_X7_hasSaying [.ref a, .int p] h Q := by
  rcases ha with rfl | rfl
  all_goals
    refine R_in rfl rfl ?_
    refine R_gs 1 rfl ?_
    refine W_b rfl (fun hc1 => ?_) (fun hc1 => ?_)
    ·
      refine R_gs 17 rfl ?_
      refine W_f rfl (by first | rfl | exact ⟨rfl, by first | decide | assumption | exact Or.inl rfl | exact Or.inr rfl | exact b2i_01 _⟩) ?_
      first | exact h0 (inN_f1 hc1) | exact h0 (inN_f2 hc9) | exact h1 (inN_t hc1 hc9)
    ·
      refine R_gs 9 rfl ?_
      rw [hL.S]
      refine W_b rfl (fun hc9 => ?_) (fun hc9 => ?_)
      ·
        refine R_gs 17 rfl ?_
        refine W_f rfl (by first | rfl | exact ⟨rfl, by first | decide | assumption | exact Or.inl rfl | exact Or.inr rfl | exact b2i_01 _⟩) ?_
        first | exact h0 (inN_f1 hc1) | exact h0 (inN_f2 hc9) | exact h1 (inN_t hc1 hc9)
      ·
        refine R_gs 17 rfl ?_
        refine W_f rfl (by first | rfl | exact ⟨rfl, by first | decide | assumption | exact Or.inl rfl | exact Or.inr rfl | exact b2i_01 _⟩) ?_
        first | exact h0 (inN_f1 hc1) | exact h0 (inN_f2 hc9) | exact h1 (inN_t hc1 hc9)
theorem c_areTwo (ha : a = 143 ∨ a = 171) (hL : LandC h a L) {p q : Int32} (h1 : two L p q = true → Q (some (.int 1)) h) (h0 : two L p q = false → Q (some (.int 0)) h) : Rc (d + 2) m_X7_areTwo [.ref a, .int p, .int q] h Q := by
  have ha' := ha
  rcases ha with rfl | rfl
  all_goals
    refine R_in rfl rfl ?_
    refine R_gs 2 rfl ?_
    refine R_k rfl rfl (c_hasPerson ha' hL (fun hx2 => ?_) (fun hx2 => ?_))
    ·
      refine W_bf rfl (by decide) ?_
      refine R_gs 10 rfl ?_
      refine R_k rfl rfl (c_hasPerson ha' hL (fun hx10 => ?_) (fun hx10 => ?_))
      ·
        refine W_bf rfl (by decide) ?_
        refine R_gs 18 rfl ?_
        refine W_b rfl (fun hc18 => ?_) (fun hc18 => ?_)
        ·
          refine R_gs 26 rfl ?_
          refine W_f rfl (by first | rfl | exact ⟨rfl, by first | decide | assumption | exact Or.inl rfl | exact Or.inr rfl | exact b2i_01 _⟩) ?_
          first | exact h0 (by simp [two, *]) | exact h1 (by simp [two, *])
        ·
          refine R_gs 26 rfl ?_
          refine W_f rfl (by first | rfl | exact ⟨rfl, by first | decide | assumption | exact Or.inl rfl | exact Or.inr rfl | exact b2i_01 _⟩) ?_
          first | exact h0 (by simp [two, *]) | exact h1 (by simp [two, *])
      ·
        refine W_bt rfl (by decide) ?_
        refine R_gs 26 rfl ?_
        refine W_f rfl (by first | rfl | exact ⟨rfl, by first | decide | assumption | exact Or.inl rfl | exact Or.inr rfl | exact b2i_01 _⟩) ?_
        first | exact h0 (by simp [two, *]) | exact h1 (by simp [two, *])
    ·
      refine W_bt rfl (by decide) ?_
      refine R_gs 26 rfl ?_
      refine W_f rfl (by first | rfl | exact ⟨rfl, by first | decide | assumption | exact Or.inl rfl | exact Or.inr rfl | exact b2i_01 _⟩) ?_
      first | exact h0 (by simp [two, *]) | exact h1 (by simp [two, *])
theorem c_isDeaf (ha : a = 143 ∨ a = 171) (hO : LandOK L) (hL : LandC h a L) {p : Nat} (hp : p < lP L) (h1 : decide (lK L p = 1) = true → Q (some (.int 1)) h) (h0 : decide (lK L p = 1) = false → Q (some (.int 0)) h) : Rc (d + 1) m_X7_isDeaf [.ref a, .int (nI p)] h Q := by
  obtain ⟨o1, o2, o3, o4, -⟩ := id hO
  have := (o4 p hp).1
  rcases ha with rfl | rfl
  all_goals
    refine R_in rfl rfl ?_
    refine R_gs 5 rfl ?_
    refine R_il rfl (by first | rfl | exact shO (by decide) (by omega) | exact shG (by decide) (by omega)) (by repeat (first | with_reducible apply ix_add | with_reducible apply ix_mul | with_reducible exact ix_nI _ | with_reducible exact ix_lit _ | exact rfl)) (by omega) (by first | exact hL.K hp | exact rfl) ?_
    refine R_gs 7 rfl ?_
    refine W_b rfl (fun hc7 => ?_) (fun hc7 => ?_)
    ·
      refine R_gs 15 rfl ?_
      refine W_f rfl (by first | rfl | exact ⟨rfl, by first | decide | assumption | exact Or.inl rfl | exact Or.inr rfl | exact b2i_01 _⟩) ?_
      first | exact h1 (decide_eq_true (nI_eqc hc7 (by omega) (by omega))) | exact h0 (decide_eq_false (fun e => hc7 (by rw [e]; rfl)))
    ·
      refine R_gs 15 rfl ?_
      refine W_f rfl (by first | rfl | exact ⟨rfl, by first | decide | assumption | exact Or.inl rfl | exact Or.inr rfl | exact b2i_01 _⟩) ?_
      first | exact h1 (decide_eq_true (nI_eqc hc7 (by omega) (by omega))) | exact h0 (decide_eq_false (fun e => hc7 (by rw [e]; rfl)))
theorem c_oddsOfAll (ha : a = 143 ∨ a = 171) (hO : LandOK L) (hL : LandC h a L) {p : Nat} (hp : p < lP L) (h1 : Q (some (.int (nI (oA L p)))) h) : Rc (d + 1) m_X7_oddsOfAll [.ref a, .int (nI p)] h Q := by
  obtain ⟨o1, o2, o3, o4, -⟩ := id hO
  rcases ha with rfl | rfl
  all_goals
    refine R_in rfl rfl ?_
    refine R_gs 4 rfl ?_
    refine w_lp (W := fun j s => Rw d Q (m_X7_oddsOfAll, 4, [_, _, some (.int (nI s)), some (.int (nI j))], [], 262, h)) (fun j s => s + lO L p j) (lS L) (fun _ _ => True) 0 trivial (fun j s hj _ => ⟨trivial, fun w => ?_⟩) (fun _ => ?_)
    ·
      refine R_gs 9 rfl ?_
      rw [hL.S]
      refine W_bf rfl (ltc hj (by omega)) ?_
      refine R_gs 18 rfl ?_
      refine R_ro rfl rfl rfl (by repeat (first | with_reducible apply ix_add | with_reducible apply ix_mul | with_reducible exact ix_nI _ | with_reducible exact ix_lit _ | exact rfl)) (by omega) ?_
      refine R_gs 20 rfl ?_
      refine R_il rfl (by first | rfl | exact shO (by decide) (by omega) | exact shG (by decide) (by omega)) (by repeat (first | with_reducible apply ix_add | with_reducible apply ix_mul | with_reducible exact ix_nI _ | with_reducible exact ix_lit _ | exact rfl)) (by omega) (by first | exact hL.O hp hj | exact rfl) ?_
      refine R_gs 4 rfl ?_
      rw [nI_add, nI_1]; exact w
    ·
      refine R_gs 9 rfl ?_
      rw [hL.S]
      refine W_bt rfl (gec (by omega)) ?_
      refine R_gs 30 rfl ?_
      refine W_f rfl (by first | rfl | exact ⟨rfl, by first | decide | assumption | exact Or.inl rfl | exact Or.inr rfl | exact b2i_01 _⟩) ?_
      exact h1
theorem c_oddsAndShyness (ha : a = 143 ∨ a = 171) (hO : LandOK L) (hL : LandC h a L) {p : Nat} (hp : p < lP L) (h1 : Q (some (.int (nI (oT L p)))) h) : Rc (d + 2) m_X7_oddsAndShyness [.ref a, .int (nI p)] h Q := by
  obtain ⟨o1, o2, o3, o4, -⟩ := id hO
  have ha' := ha
  rcases ha with rfl | rfl
  all_goals
    refine R_in rfl rfl ?_
    refine R_gs 2 rfl ?_
    refine R_k rfl rfl (c_oddsOfAll ha' hO hL hp ?_)
    refine R_gs 10 rfl ?_
    refine R_il rfl (by first | rfl | exact shO (by decide) (by omega) | exact shG (by decide) (by omega)) (by repeat (first | with_reducible apply ix_add | with_reducible apply ix_mul | with_reducible exact ix_nI _ | with_reducible exact ix_lit _ | exact rfl)) (by omega) (by first | exact hL.Y hp | exact rfl) ?_
    refine R_gs 12 rfl ?_
    refine W_f rfl (by first | rfl | exact ⟨rfl, by first | decide | assumption | exact Or.inl rfl | exact Or.inr rfl | exact b2i_01 _⟩) ?_
    rw [nI_add]; exact h1
theorem c_pairBit {p q : Nat} (hp : p < 6) (hq : q < 6) (hpq : p ≠ q) (h1 : Q (some (.int (nI (2 ^ pr p q)))) h) : Rc (d + 1) m_X12_pairBit [.int (nI p), .int (nI q)] h Q := by
  refine R_in rfl rfl ?_
  refine R_g rfl ?_
  refine W_b rfl (fun hc => ?_) (fun hc => ?_)
  · have hc' := (nI_leI (by omega) (by omega)).mp hc
    refine R_g rfl ?_
    refine W_bt rfl (by first | rfl | decide | assumption | omega) ?_
    refine R_g rfl ?_
    refine W_c rfl (by decide) ?_
    refine R_g rfl ?_; refine W_f rfl (by first | rfl | exact ⟨rfl, by decide⟩) ?_
    rw [(by decide +kernel : ∀ p, p < 6 → ∀ q, q < 6 → p ≠ q → q ≤ p → (1 : Int32) <<< (nI q * (11 - nI q) / 2 + nI p - nI q - 1 &&& 31) = nI (2 ^ pr p q)) p hp q hq hpq hc']
    exact h1
  · have hc' := mt (nI_leI (by omega) (by omega)).mpr hc
    refine R_g rfl ?_
    refine W_bf rfl (by first | rfl | decide | assumption | omega) ?_
    refine R_g rfl ?_
    refine W_c rfl (by decide) ?_
    refine R_g rfl ?_; refine W_f rfl (by first | rfl | exact ⟨rfl, by decide⟩) ?_
    rw [(by decide +kernel : ∀ p, p < 6 → ∀ q, q < 6 → p ≠ q → ¬ q ≤ p → (1 : Int32) <<< (nI p * (11 - nI p) / 2 + nI q - nI p - 1 &&& 31) = nI (2 ^ pr p q)) p hp q hq hpq hc']
    exact h1
theorem c_hasBit {x : Int32} {k : Nat} (hk : k < 32) (h1 : bt x k = true → Q (some (.int 1)) h) (h0 : bt x k = false → Q (some (.int 0)) h) : Rc (d + 1) m_X12_hasBit [.int x, .int (nI k)] h Q := by
  refine R_in rfl rfl ?_
  refine R_gs 5 rfl ?_
  rw [sh_and hk]
  refine W_b rfl (fun hc5 => ?_) (fun hc5 => ?_)
  ·
    refine R_gs 13 rfl ?_
    refine W_f rfl (by first | rfl | exact ⟨rfl, by first | decide | assumption | exact Or.inl rfl | exact Or.inr rfl | exact b2i_01 _⟩) ?_
    first | exact h0 (bz hc5) | exact h1 (bo hc5)
  ·
    refine R_gs 13 rfl ?_
    refine W_f rfl (by first | rfl | exact ⟨rfl, by first | decide | assumption | exact Or.inl rfl | exact Or.inr rfl | exact b2i_01 _⟩) ?_
    first | exact h0 (bz hc5) | exact h1 (bo hc5)
theorem c_areWed (hb : b = 7 ∨ b = 14) (hS : SceneC h b L S) {p q : Nat} (hp : p < 6) (hq : q < 6) (hpq : p ≠ q) (h1 : bt (sW S) (pr p q) = true → Q (some (.int 1)) h) (h0 : bt (sW S) (pr p q) = false → Q (some (.int 0)) h) : Rc (d + 2) m_X9_areWed [.ref b, .int (nI p), .int (nI q)] h Q := by
  have hk := pr_lt p hp q hq hpq
  rcases hb with rfl | rfl
  all_goals
    refine R_in rfl rfl ?_
    refine R_gs 6 rfl ?_
    rw [hS.W]
    refine R_k rfl rfl (c_pairBit hp hq hpq ?_)
    refine R_gs 10 rfl ?_
    refine W_b rfl (fun hc10 => ?_) (fun hc10 => ?_)
    ·
      refine R_gs 18 rfl ?_
      refine W_f rfl (by first | rfl | exact ⟨rfl, by first | decide | assumption | exact Or.inl rfl | exact Or.inr rfl | exact b2i_01 _⟩) ?_
      first | exact h0 ((pb_and (by omega)).mp hc10) | exact h1 (Bool.not_eq_false _ ▸ mt (pb_and (by omega)).mpr hc10)
    ·
      refine R_gs 18 rfl ?_
      refine W_f rfl (by first | rfl | exact ⟨rfl, by first | decide | assumption | exact Or.inl rfl | exact Or.inr rfl | exact b2i_01 _⟩) ?_
      first | exact h0 ((pb_and (by omega)).mp hc10) | exact h1 (Bool.not_eq_false _ ▸ mt (pb_and (by omega)).mpr hc10)
theorem c_areKept (hb : b = 7 ∨ b = 14) (hS : SceneC h b L S) {p q : Nat} (hp : p < 6) (hq : q < 6) (hpq : p ≠ q) (h1 : bt (sE S) (pr p q) = true → Q (some (.int 1)) h) (h0 : bt (sE S) (pr p q) = false → Q (some (.int 0)) h) : Rc (d + 2) m_X9_areKept [.ref b, .int (nI p), .int (nI q)] h Q := by
  have hk := pr_lt p hp q hq hpq
  rcases hb with rfl | rfl
  all_goals
    refine R_in rfl rfl ?_
    refine R_gs 6 rfl ?_
    rw [hS.E]
    refine R_k rfl rfl (c_pairBit hp hq hpq ?_)
    refine R_gs 10 rfl ?_
    refine W_b rfl (fun hc10 => ?_) (fun hc10 => ?_)
    ·
      refine R_gs 18 rfl ?_
      refine W_f rfl (by first | rfl | exact ⟨rfl, by first | decide | assumption | exact Or.inl rfl | exact Or.inr rfl | exact b2i_01 _⟩) ?_
      first | exact h0 ((pb_and (by omega)).mp hc10) | exact h1 (by rw [← Bool.not_eq_false]; exact mt (pb_and (by omega)).mpr hc10)
    ·
      refine R_gs 18 rfl ?_
      refine W_f rfl (by first | rfl | exact ⟨rfl, by first | decide | assumption | exact Or.inl rfl | exact Or.inr rfl | exact b2i_01 _⟩) ?_
      first | exact h0 ((pb_and (by omega)).mp hc10) | exact h1 (by rw [← Bool.not_eq_false]; exact mt (pb_and (by omega)).mpr hc10)
theorem c_mayPair (ha : a = 143 ∨ a = 171) (hO : LandOK L) (hL : LandC h a L) (hb : b = 7 ∨ b = 14) (hS : SceneC h b L S) {p q : Nat} (hp : p < lP L) (hq : q < lP L) (hpq : p ≠ q) (h1 : free L S p q = true → Q (some (.int 1)) h) (h0 : free L S p q = false → Q (some (.int 0)) h) : Rc (d + 2) m_X9_mayPair [.ref b, .ref a, .int (nI p), .int (nI q)] h Q := by
  obtain ⟨o1, o2, o3, o4, -⟩ := id hO
  have hk := pr_lt p (by omega) q (by omega) hpq
  have ha' := ha
  rcases ha with rfl | rfl <;> rcases hb with rfl | rfl
  all_goals
    refine R_in rfl rfl ?_
    refine R_gs 2 rfl ?_
    refine R_k rfl rfl (c_isDeaf ha' hO hL hp (fun hx2 => ?_) (fun hx2 => ?_))
    ·
      refine W_bf rfl (by decide) ?_
      refine R_gs 34 rfl ?_
      refine W_f rfl (by first | rfl | exact ⟨rfl, by first | decide | assumption | exact Or.inl rfl | exact Or.inr rfl | exact b2i_01 _⟩) ?_
      first | exact h0 (by simp [free, *]) | exact h1 (by simp [free, *])
    ·
      refine W_bt rfl (by decide) ?_
      refine R_gs 10 rfl ?_
      refine R_k rfl rfl (c_isDeaf ha' hO hL hq (fun hx10 => ?_) (fun hx10 => ?_))
      ·
        refine W_bf rfl (by decide) ?_
        refine R_gs 34 rfl ?_
        refine W_f rfl (by first | rfl | exact ⟨rfl, by first | decide | assumption | exact Or.inl rfl | exact Or.inr rfl | exact b2i_01 _⟩) ?_
        first | exact h0 (by simp [free, *]) | exact h1 (by simp [free, *])
      ·
        refine W_bt rfl (by decide) ?_
        refine R_gs 22 rfl ?_
        rw [hS.E]
        refine R_k rfl rfl (c_pairBit (by omega) (by omega) hpq ?_)
        refine R_gs 26 rfl ?_
        refine W_b rfl (fun hc26 => ?_) (fun hc26 => ?_)
        ·
          rw [pb_and (by omega)] at hc26
          refine R_gs 34 rfl ?_
          refine W_f rfl (by first | rfl | exact ⟨rfl, by first | decide | assumption | exact Or.inl rfl | exact Or.inr rfl | exact b2i_01 _⟩) ?_
          first | exact h0 (by simp [free, *]) | exact h1 (by simp [free, *])
        ·
          rw [pb_and (by omega)] at hc26
          refine R_gs 34 rfl ?_
          refine W_f rfl (by first | rfl | exact ⟨rfl, by first | decide | assumption | exact Or.inl rfl | exact Or.inr rfl | exact b2i_01 _⟩) ?_
          first | exact h0 (by simp [free, *]) | exact h1 (by simp [free, *])
theorem c_couldSnap (ha : a = 143 ∨ a = 171) (hO : LandOK L) (hL : LandC h a L) (hb : b = 7 ∨ b = 14) (hS : SceneC h b L S) (hV : SceneOK L S) {p q : Nat} (hp : p < lP L) (hq : q < lP L) (hpq : p ≠ q) (h1 : snap L S p q = true → Q (some (.int 1)) h) (h0 : snap L S p q = false → Q (some (.int 0)) h) : Rc (d + 3) m_X9_couldSnap [.ref b, .ref a, .int (nI p), .int (nI q)] h Q := by
  obtain ⟨o1, o2, o3, o4, -⟩ := id hO
  have v1 := (hV.2.1 p hp).1
  have v2 := (hV.2.1 q hq).1
  have hb' := hb
  rcases hb with rfl | rfl
  all_goals
    refine R_in rfl rfl ?_
    refine R_gs 5 rfl ?_
    refine R_il rfl (by first | rfl | exact shO (by decide) (by omega) | exact shG (by decide) (by omega)) (by repeat (first | with_reducible apply ix_add | with_reducible apply ix_mul | with_reducible exact ix_nI _ | with_reducible exact ix_lit _ | exact rfl)) (by omega) (by first | exact hS.A hp) ?_
    refine R_gs 11 rfl ?_
    refine R_il rfl (by first | rfl | exact shO (by decide) (by omega) | exact shG (by decide) (by omega)) (by repeat (first | with_reducible apply ix_add | with_reducible apply ix_mul | with_reducible exact ix_nI _ | with_reducible exact ix_lit _ | exact rfl)) (by omega) (by first | exact hS.A hq) ?_
    refine W_b rfl (fun hc12 => ?_) (fun hc12 => ?_)
    ·
      rw [nI_eq (by omega) (by omega)] at hc12
      refine R_gs 19 rfl ?_
      refine R_k rfl rfl (c_mayPair ha hO hL hb' hS hp hq hpq (fun hx19 => ?_) (fun hx19 => ?_))
      ·
        refine W_bf rfl (by decide) ?_
        refine R_gs 28 rfl ?_
        refine R_k rfl rfl (c_areWed hb' hS (by omega) (by omega) hpq (fun hx28 => ?_) (fun hx28 => ?_))
        ·
          refine W_bf rfl (by decide) ?_
          refine R_gs 39 rfl ?_
          refine W_f rfl (by first | rfl | exact ⟨rfl, by first | decide | assumption | exact Or.inl rfl | exact Or.inr rfl | exact b2i_01 _⟩) ?_
          first | exact h0 (by simp [snap, *]) | exact h1 (by simp [snap, *])
        ·
          refine W_bt rfl (by decide) ?_
          refine R_gs 39 rfl ?_
          refine W_f rfl (by first | rfl | exact ⟨rfl, by first | decide | assumption | exact Or.inl rfl | exact Or.inr rfl | exact b2i_01 _⟩) ?_
          first | exact h0 (by simp [snap, *]) | exact h1 (by simp [snap, *])
      ·
        refine W_bt rfl (by decide) ?_
        refine R_gs 39 rfl ?_
        refine W_f rfl (by first | rfl | exact ⟨rfl, by first | decide | assumption | exact Or.inl rfl | exact Or.inr rfl | exact b2i_01 _⟩) ?_
        first | exact h0 (by simp [snap, *]) | exact h1 (by simp [snap, *])
    ·
      rw [nI_eq (by omega) (by omega)] at hc12
      refine R_gs 39 rfl ?_
      refine W_f rfl (by first | rfl | exact ⟨rfl, by first | decide | assumption | exact Or.inl rfl | exact Or.inr rfl | exact b2i_01 _⟩) ?_
      first | exact h0 (by simp [snap, *]) | exact h1 (by simp [snap, *])
theorem c_clash (ha : a = 143 ∨ a = 171) (hO : LandOK L) (hL : LandC h a L) (hb : b = 7 ∨ b = 14) (hS : SceneC h b L S) (hV : SceneOK L S) {p q : Nat} (hp : p < lP L) (hq : q < lP L) (hpq : p ≠ q) (h1 : clas L S p q = true → Q (some (.int 1)) h) (h0 : clas L S p q = false → Q (some (.int 0)) h) : Rc (d + 4) m_X9_clash [.ref b, .ref a, .int (nI p), .int (nI q)] h Q := by
  obtain ⟨o1, o2, o3, o4, -⟩ := id hO
  have ha' := ha
  have hb' := hb
  rcases ha with rfl | rfl <;> rcases hb with rfl | rfl
  all_goals
    refine R_in rfl rfl ?_
    refine R_gs 4 rfl ?_
    refine R_k rfl rfl (c_couldSnap ha' hO hL hb' hS hV hp hq hpq (fun hx4 => ?_) (fun hx4 => ?_))
    ·
      refine W_bf rfl (by decide) ?_
      refine R_gs 15 rfl ?_
      refine w_any (W := fun j => Rw (d + 3) Q (m_X9_clash, 15, [_, _, _, _, some (.int (nI j))], [], 262, h)) (A := Q (some (.int 1)) h) (lS L) (fun w => decide (0 < lO L p w) && decide (0 < lO L q w)) (fun e => h1 (by simp only [clas, shares, hx4, e, Bool.and_self])) (fun e => ?_) (fun j hj wa w => ?_)
      ·
        refine R_gs 21 rfl ?_
        rw [hL.S]
        refine W_bt rfl (gec (by omega)) ?_
        refine R_gs 57 rfl ?_
        refine W_f rfl (by first | rfl | exact ⟨rfl, by first | decide | assumption | exact Or.inl rfl | exact Or.inr rfl | exact b2i_01 _⟩) ?_
        exact h0 (by simp only [clas, shares, e, Bool.and_false])
      ·
        have u1 := (o4 p hp).2.2.2.1 j hj
        have u2 := (o4 q hq).2.2.2.1 j hj
        refine R_gs 21 rfl ?_
        rw [hL.S]
        refine W_bf rfl (ltc hj (by omega)) ?_
        refine R_gs 29 rfl ?_
        refine R_ro rfl rfl rfl (by repeat (first | with_reducible apply ix_add | with_reducible apply ix_mul | with_reducible exact ix_nI _ | with_reducible exact ix_lit _ | exact rfl)) (by omega) ?_
        refine R_gs 32 rfl ?_
        refine R_il rfl (by first | rfl | exact shO (by decide) (by omega) | exact shG (by decide) (by omega)) (by repeat (first | with_reducible apply ix_add | with_reducible apply ix_mul | with_reducible exact ix_nI _ | with_reducible exact ix_lit _ | exact rfl)) (by omega) (by first | exact hL.O hp hj) ?_
        refine W_b rfl (fun hc33 => ?_) (fun hc33 => ?_)
        ·
          rw [le0 (by omega)] at hc33
          refine R_gs 15 rfl ?_
          rw [nI_1]; exact w (by simp; omega)
        ·
          rw [le0 (by omega)] at hc33
          refine R_gs 41 rfl ?_
          refine R_ro rfl rfl rfl (by repeat (first | with_reducible apply ix_add | with_reducible apply ix_mul | with_reducible exact ix_nI _ | with_reducible exact ix_lit _ | exact rfl)) (by omega) ?_
          refine R_gs 44 rfl ?_
          refine R_il rfl (by first | rfl | exact shO (by decide) (by omega) | exact shG (by decide) (by omega)) (by repeat (first | with_reducible apply ix_add | with_reducible apply ix_mul | with_reducible exact ix_nI _ | with_reducible exact ix_lit _ | exact rfl)) (by omega) (by first | exact hL.O hq hj) ?_
          refine W_b rfl (fun hc45 => ?_) (fun hc45 => ?_)
          ·
            rw [le0 (by omega)] at hc45
            refine R_gs 15 rfl ?_
            rw [nI_1]; exact w (by simp; omega)
          ·
            rw [le0 (by omega)] at hc45
            refine R_gs 49 rfl ?_
            refine W_f rfl (by first | rfl | exact ⟨rfl, by first | decide | assumption | exact Or.inl rfl | exact Or.inr rfl | exact b2i_01 _⟩) ?_
            exact wa (by simp; omega)
    ·
      refine W_bt rfl (by decide) ?_
      refine R_gs 11 rfl ?_
      refine W_f rfl (by first | rfl | exact ⟨rfl, by first | decide | assumption | exact Or.inl rfl | exact Or.inr rfl | exact b2i_01 _⟩) ?_
      exact h0 (by simp only [clas, hx4, Bool.false_and])
end
