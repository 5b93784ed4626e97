/-- a test -/
theorem tt_pairBit (E : AC) (hE : CMono E) (d n : Nat) (h : AH) (p q : Int32) (Q : Option Value → AH → Prop) (hQ : ∀ v, Q v h) : Cl ρ1 E (d + 1) m_X12_pairBit [.int p, .int q] n h n Q := by
  refine Cl_of rfl (Nat.le_refl n) ?_
  refine W_g 9999 50 rfl ?_
  refine W_b rfl (fun hc => ?_) (fun hc => ?_)
  · refine W_g 9999 50 rfl ?_
    trace_state
    sorry
  · sorry
theorem tt_areWed (E : AC) (hE : CMono E) (d : Nat) (h : AH) (p q : Int32) (Q : Option Value → AH → Prop) (hQ : ∀ v, Q v h) : Cl ρ1 E (d + 2) m_X9_areWed [.ref 7, .int p, .int q] 262 h 262 Q := by
  refine Cl_of rfl (Nat.le_refl 262) ?_
  refine W_g 9999 50 rfl ?_
  trace_state
  refine W_k (Cl.cm hE _) rfl ?_
  trace_state
  refine tt_pairBit E hE _ _ h p q _ (fun v => ?_)
  trace_state
  sorry
