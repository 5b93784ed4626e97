/-! what is fed -/
def byN (v : Int64) (j : Nat) : Nat := v.toBitVec.toNat / 2 ^ (56 - 8 * j) % 256
def okB (c : Nat) : Bool := decide (c = 10) || (decide (32 ≤ c) && decide (c ≤ 126))
def addT (T : ST') (c : Nat) : ST' := if (okB c && decide (T.1 < 1000)) = true then (T.1 + 1, fun i => if i = T.1 then c else T.2 i) else T
def fedT (T : ST') (v : Int64) : ST' := lp (fun j T => addT T (byN v j)) 8 T
theorem by_lt (v : Int64) (j : Nat) : byN v j < 256 := Nat.mod_lt _ (by decide)
theorem s64u : ∀ n, n < 64 → (((nI n).toInt64.toUInt64 &&& Int64.toUInt64 63).toBitVec % 64).toNat = n := by decide +kernel
theorem s64l : ∀ n, n < 64 → (((nI n).toInt64 &&& 63).toBitVec.smod 64).toNat = n := by decide +kernel
theorem by_t (v : Int64) {j i : Nat} (hi : i < 32) : bt (nI (byN v j)) i = (decide (i < 8) && v.toBitVec.getLsbD (56 - 8 * j + i)) := by
  rw [bt_nI, decide_eq_true hi, Bool.true_and]
  unfold byN
  rw [show (256 : Nat) = 2 ^ 8 from rfl, Nat.testBit_mod_two_pow, Nat.testBit_div_two_pow, ← BitVec.testBit_toNat, Nat.add_comm]
theorem by_C (v : Int64) {j : Nat} (hj : j < 8) : ((v.toUInt64 >>> ((nI (56 - 8 * j)).toInt64.toUInt64 &&& Int64.toUInt64 63)).toInt64).toInt32 &&& 255 = nI (byN v j) := by
  apply b_ext
  intro i hi
  rw [b_and, b_255, by_t v hi, Bool.and_comm]
  by_cases h8 : i < 8
  · rw [decide_eq_true h8, Bool.true_and, Bool.true_and]
    unfold bt
    rw [Int64.toBitVec_toInt32, BitVec.getLsbD_signExtend]
    show (decide (i < 32) && if i < 64 then (v.toUInt64 >>> ((nI (56 - 8 * j)).toInt64.toUInt64 &&& Int64.toUInt64 63)).toBitVec.getLsbD i else _) = _
    rw [if_pos (by omega), decide_eq_true hi, Bool.true_and, UInt64.toBitVec_shiftRight]
    show (v.toUInt64.toBitVec >>> (((nI (56 - 8 * j)).toInt64.toUInt64 &&& Int64.toUInt64 63).toBitVec % 64).toNat).getLsbD i = _
    rw [s64u _ (by omega), BitVec.getLsbD_ushiftRight]
    rfl
  · rw [decide_eq_false h8, Bool.false_and, Bool.false_and]
theorem by_M (v : Int64) {j : Nat} (hj : j < 8) : (v >>> ((nI (56 - 8 * j)).toInt64 &&& 63)).toInt32 &&& 255 = nI (byN v j) := by
  apply b_ext
  intro i hi
  rw [b_and, b_255, by_t v hi, Bool.and_comm]
  by_cases h8 : i < 8
  · rw [decide_eq_true h8, Bool.true_and, Bool.true_and]
    unfold bt
    rw [Int64.toBitVec_toInt32, BitVec.getLsbD_signExtend, if_pos (by omega), decide_eq_true hi, Bool.true_and, Int64.toBitVec_shiftRight]
    show (v.toBitVec.sshiftRight (((nI (56 - 8 * j)).toInt64 &&& 63).toBitVec.smod 64).toNat).getLsbD i = _
    rw [s64l _ (by omega), BitVec.getLsbD_sshiftRight, if_pos (by omega)]
    simp
    omega
  · rw [decide_eq_false h8, Bool.false_and, Bool.false_and]
theorem nar_b : ∀ c, c < 128 → vp_nar .byte (nI c).toInt8.toInt32 = nI c := by decide +kernel
theorem add_ok {T : ST'} (h : TapOK T) (c : Nat) : TapOK (addT T c) := by
  unfold addT
  split
  · rename_i e
    simp only [okB, Bool.and_eq_true, Bool.or_eq_true, decide_eq_true_eq] at e
    refine ⟨by dsimp only; omega, fun i hi => ?_⟩
    dsimp only at hi ⊢
    split
    · exact e.1
    · exact h.2 i (by omega)
  · exact h
theorem fed_I {T : ST'} (h : TapOK T) (v : Int64) : ∀ j, TapOK (lp (fun j T => addT T (byN v j)) j T)
  | 0 => h
  | j + 1 => add_ok (fed_I h v j) _
theorem sh_dn {j : Nat} (hj : j < 8) : nI (64 - 8 * j) - 8 = nI (56 - 8 * j) := by
  have := nI_sub (a := 64 - 8 * j) (b := 8) (by omega)
  rw [show 64 - 8 * j - 8 = 56 - 8 * j by omega] at this
  exact this
theorem sh_nx {j : Nat} (hj : j < 8) : nI (56 - 8 * j) + (-8) = nI (64 - 8 * (j + 1)) - 8 := by
  rw [show 64 - 8 * (j + 1) = 56 - 8 * j by omega, Int32.sub_eq_add_neg]
theorem ok_n {c : Nat} (hc : c < 256) (h : okB c = true) : c < 128 := by
  simp only [okB, Bool.and_eq_true, Bool.or_eq_true, decide_eq_true_eq] at h
  omega
section
variable {d : Nat} {h h' : AH} {L : SL} {S : SS} {H : SH'} {B : SB'} {M : SM'} {D : SD'} {T : ST'} {N : SN'} {Q : Option Value → AH → Prop}
theorem add_y {c : Nat} (h1 : okB c = true) (h2 : T.1 < 1000) : addT T c = (T.1 + 1, fun i => if i = T.1 then c else T.2 i) := if_pos (by rw [h1, decide_eq_true h2]; rfl)
theorem add_n {c : Nat} (h : okB c = false ∨ ¬ T.1 < 1000) : addT T c = T := if_neg (by rcases h with h | h; rw [h]; simp; rw [decide_eq_false h]; simp)
theorem c_addBytes {v : Int64} (hT : TapC h T) (hO : TapOK T) (h1 : ∀ h', Fr (fun q => Nat.beq q 1 || Nat.beq q 2) h h' → TapC h' (fedT T v) → Q none h') : Rc (d + 1) m_X10_addBytes [.ref 1, .long v] h Q := by
  refine R_in rfl rfl ?_
  refine R_gs 3 rfl ?_
  refine w_inv (W := fun j (u : AH) => ∀ x4 x5 : Option Value, Rw d Q (m_X10_addBytes, 3, [some (.ref 1), some (.long v), none, some (.int (nI (64 - 8 * j) - 8)), x4, x5], [], 262, u)) 8 (fun j u => Fr (fun q => Nat.beq q 1 || Nat.beq q 2) h u ∧ TapC u (lp (fun j T => addT T (byN v j)) j T)) (s0 := h) ⟨Fr.refl _ h, hT⟩ (fun j u hj hu w => ?_) (fun u hu => ?_) none none
  ·
    intro x4 x5
    obtain ⟨i1, i2⟩ := hu
    have i3 := fed_I hO v j
    have es : lp (fun j T => addT T (byN v j)) (j + 1) T = addT (lp (fun j T => addT T (byN v j)) j T) (byN v j) := rfl
    obtain ⟨T', eT⟩ : ∃ T', T' = lp (fun j T => addT T (byN v j)) j T := ⟨_, rfl⟩
    rw [← eT] at i2 i3 es
    have b9 := by_lt v j
    have i4 := i3.1
    rw [sh_dn hj]
    refine R_gs 4 rfl ?_
    refine W_bf rfl (nI_pos (by omega)) ?_
    refine R_gs 21 rfl ?_
    rw [by_C v hj]
    refine W_b rfl (fun hc21 => ?_) (fun hc21 => ?_)
    ·
      rw [show (nI (byN v j) = 10 ↔ byN v j = 10) from nI_eq (b := 10) (by omega) (by omega)] at hc21
      refine R_gs 47 rfl ?_
      refine W_bf rfl (by decide) ?_
      refine R_gs 57 rfl ?_
      try rw [i2.1]
      refine W_b rfl (fun hc57 => ?_) (fun hc57 => ?_)
      ·
        rw [show ((1000 : Int32) ≤ nI T'.1 ↔ 1000 ≤ T'.1) from nI_leI (a := 1000) (by omega) (by omega)] at hc57
        refine R_gs 3 rfl ?_
        rw [sh_nx hj]; exact w u ⟨i1, by rw [es, add_n (Or.inr (by omega))]; exact i2⟩ _ _
      ·
        rw [show ((1000 : Int32) ≤ nI T'.1 ↔ 1000 ≤ T'.1) from nI_leI (a := 1000) (by omega) (by omega)] at hc57
        refine R_gs 71 rfl ?_
        try rw [i2.1]
        have ok : okB (byN v j) = true := (by simp only [okB]; rw [decide_eq_true hc21]; rfl)
        refine R_bs rfl rfl (ix_nI _) (by omega) ?_
        refine R_gs 3 rfl ?_
        try rw [i2.1]
        rw [sh_nx hj]; refine w _ ⟨(i1.wI rfl).wI rfl, ?_⟩ _ _
        rw [es, add_y ok (by omega)]; refine ⟨?_, fun i hi => ?_⟩
        · show hI u 1 1 + 1 = nI (T'.1 + 1); rw [i2.1, nI_1]
        · have hi : i < T'.1 + 1 := hi; show hI (wI u 2 T'.1 _) 2 i = nI (if i = T'.1 then _ else _); rw [wI_at]; by_cases e : i = T'.1; rw [if_pos e, if_pos e, nar_b _ (ok_n b9 ok)]; rw [if_neg e, if_neg e]; exact i2.2 i (by omega)
    ·
      rw [show (nI (byN v j) = 10 ↔ byN v j = 10) from nI_eq (b := 10) (by omega) (by omega)] at hc21
      refine R_gs 28 rfl ?_
      refine W_b rfl (fun hc28 => ?_) (fun hc28 => ?_)
      ·
        rw [show (nI (byN v j) < 32 ↔ byN v j < 32) from nI_ltI (b := 32) (by omega) (by omega)] at hc28
        refine R_gs 47 rfl ?_
        refine W_bt rfl (by decide) ?_
        refine R_gs 3 rfl ?_
        rw [sh_nx hj]; exact w u ⟨i1, by rw [es, add_n (Or.inl (by simp only [okB]; rw [decide_eq_false hc21, decide_eq_false (by omega : ¬ 32 ≤ byN v j)]; rfl))]; exact i2⟩ _ _
      ·
        rw [show (nI (byN v j) < 32 ↔ byN v j < 32) from nI_ltI (b := 32) (by omega) (by omega)] at hc28
        refine R_gs 35 rfl ?_
        refine W_b rfl (fun hc35 => ?_) (fun hc35 => ?_)
        ·
          rw [show ((126 : Int32) < nI (byN v j) ↔ 126 < byN v j) from nI_ltI (a := 126) (by omega) (by omega)] at hc35
          refine R_gs 47 rfl ?_
          refine W_bt rfl (by decide) ?_
          refine R_gs 3 rfl ?_
          rw [sh_nx hj]; exact w u ⟨i1, by rw [es, add_n (Or.inl (by simp only [okB]; rw [decide_eq_false hc21, decide_eq_false (by omega : ¬ byN v j ≤ 126), Bool.and_false]; rfl))]; exact i2⟩ _ _
        ·
          rw [show ((126 : Int32) < nI (byN v j) ↔ 126 < byN v j) from nI_ltI (a := 126) (by omega) (by omega)] at hc35
          refine R_gs 47 rfl ?_
          refine W_bf rfl (by decide) ?_
          refine R_gs 57 rfl ?_
          try rw [i2.1]
          refine W_b rfl (fun hc57 => ?_) (fun hc57 => ?_)
          ·
            rw [show ((1000 : Int32) ≤ nI T'.1 ↔ 1000 ≤ T'.1) from nI_leI (a := 1000) (by omega) (by omega)] at hc57
            refine R_gs 3 rfl ?_
            rw [sh_nx hj]; exact w u ⟨i1, by rw [es, add_n (Or.inr (by omega))]; exact i2⟩ _ _
          ·
            rw [show ((1000 : Int32) ≤ nI T'.1 ↔ 1000 ≤ T'.1) from nI_leI (a := 1000) (by omega) (by omega)] at hc57
            refine R_gs 71 rfl ?_
            try rw [i2.1]
            have ok : okB (byN v j) = true := (by simp only [okB]; rw [decide_eq_true (by omega : 32 ≤ byN v j), decide_eq_true (by omega : byN v j ≤ 126)]; simp)
            refine R_bs rfl rfl (ix_nI _) (by omega) ?_
            refine R_gs 3 rfl ?_
            try rw [i2.1]
            rw [sh_nx hj]; refine w _ ⟨(i1.wI rfl).wI rfl, ?_⟩ _ _
            rw [es, add_y ok (by omega)]; refine ⟨?_, fun i hi => ?_⟩
            · show hI u 1 1 + 1 = nI (T'.1 + 1); rw [i2.1, nI_1]
            · have hi : i < T'.1 + 1 := hi; show hI (wI u 2 T'.1 _) 2 i = nI (if i = T'.1 then _ else _); rw [wI_at]; by_cases e : i = T'.1; rw [if_pos e, if_pos e, nar_b _ (ok_n b9 ok)]; rw [if_neg e, if_neg e]; exact i2.2 i (by omega)
  ·
    intro x4 x5
    refine R_gs 4 rfl ?_
    refine W_bt rfl (by decide) ?_
    refine W_f rfl (by first | rfl | exact ⟨rfl, by first | decide | assumption | exact Or.inl rfl | exact Or.inr rfl | exact b2i_01 _⟩) ?_
    exact h1 _ hu.1 hu.2
def fed3 (T : ST') (a b c : Int64) : ST' := fedT (fedT (fedT T a) b) c
theorem RC.tap (hO : LandOK L) {T' : ST'} (c : RC h L S H B M D T N) (f : Fr (fun q => Nat.beq q 1 || Nat.beq q 2) h h') (hT : TapC h' T') : RC h' L S H B M D T' N := by
  obtain ⟨a, g, c1, c2, c3, c4, c5, c6, c7, c8, c9, c10, c11⟩ := c
  have ha := c1.1
  have hg := c1.2.1
  have xf : ∀ q, q ≠ 1 → q ≠ 2 → (Nat.beq q 1 || Nat.beq q 2) = false := fun q h1 h2 => by rw [bq_f h1, bq_f h2]; rfl
  exact ⟨a, g, c1.fr f rfl, c2.fr hO f (fun i h1 h2 => xf _ (by omega) (by omega)), c3.fr f rfl rfl rfl rfl rfl, c4.fr f rfl rfl, c5.fr f rfl (fun q _ _ => xf _ (by omega) (by omega)), c6.fr f rfl (fun q _ _ => xf _ (by omega) (by omega)), c7.fr f (xf _ (by omega) (by omega)) (xf _ (by omega) (by omega)) (xf _ (by omega) (by omega)) (xf _ (by omega) (by omega)), hT, c9.fr f (xf _ (by omega) (by omega)) (xf _ (by omega) (by omega)) (xf _ (by omega) (by omega)) (xf _ (by omega) (by omega)), c10.fr f rfl rfl, c11.fr f rfl⟩
theorem x_feed (W : WOK L S H B M D T N) (c : RC h L S H B M D T N) {x y z : Int64} (h1 : ∀ h', Fr xC h h' → RC h' L S H B M D (fed3 T x y z) N → Q (some (.int (nI (fed3 T x y z).1))) h') : Rc (d + 3) m_X12_feed [.ref 0, .long x, .long y, .long z] h Q := by
  have hO := W.1
  have hT := W.2.2.2.2.2.2.1
  have c0 := c
  obtain ⟨a, g, c1, c2, c3, c4, c5, c6, c7, c8, c9, c10, c11⟩ := c
  have t1 := fed_I hT x 8
  have t2 := fed_I t1 y 8
  refine R_in rfl rfl ?_
  refine R_gs 5 rfl ?_
  refine R_k rfl rfl (c_addBytes c8 hT (fun h2 f2 e2 => ?_))
  refine R_gs 13 rfl ?_
  refine R_k rfl rfl (c_addBytes e2 t1 (fun h3 f3 e3 => ?_))
  refine R_gs 22 rfl ?_
  refine R_k rfl rfl (c_addBytes e3 t2 (fun h4 f4 e4 => ?_))
  refine R_gs 32 rfl ?_
  rw [e4.1]
  refine W_f rfl (by first | rfl | exact ⟨rfl, by first | decide | assumption | exact Or.inl rfl | exact Or.inr rfl | exact b2i_01 _⟩) ?_
  have F := (f2.trans f3).trans f4; exact h1 _ (F.c (fun q hq => by simp only [Bool.or_eq_true, Nat.beq_eq] at hq; omega)) (c0.tap hO F e4)
theorem m_lay {v : Int64} (hT : TapM h T) (hO : TapOK T) (h1 : ∀ h', Fr (fun q => Nat.beq q 235 || Nat.beq q 236) h h' → FldX 2 h h' → TapM h' (fedT T v) → Q none h') : Rc (d + 1) m_X13_lay [.ref 235, .long v] h Q := by
  refine R_in rfl rfl ?_
  refine R_gs 3 rfl ?_
  refine w_inv (W := fun j (u : AH) => ∀ x4 : Option Value, Rw d Q (m_X13_lay, 3, [some (.ref 235), some (.long v), none, some (.int (nI (64 - 8 * j) - 8)), x4], [], 262, u)) 8 (fun j u => Fr (fun q => Nat.beq q 235 || Nat.beq q 236) h u ∧ FldX 2 h u ∧ TapM u (lp (fun j T => addT T (byN v j)) j T)) (s0 := h) ⟨Fr.refl _ h, fun _ _ => rfl, hT⟩ (fun j u hj hu w => ?_) (fun u hu => ?_) none
  ·
    intro x4
    obtain ⟨i1, i9, i2⟩ := hu
    have i3 := fed_I hO v j
    have es : lp (fun j T => addT T (byN v j)) (j + 1) T = addT (lp (fun j T => addT T (byN v j)) j T) (byN v j) := rfl
    obtain ⟨T', eT⟩ : ∃ T', T' = lp (fun j T => addT T (byN v j)) j T := ⟨_, rfl⟩
    rw [← eT] at i2 i3 es
    have b9 := by_lt v j
    have i4 := i3.1
    rw [sh_dn hj]
    refine R_gs 4 rfl ?_
    refine W_bf rfl (nI_pos (by omega)) ?_
    refine R_gs 21 rfl ?_
    rw [by_M v hj]
    refine W_b rfl (fun hc21 => ?_) (fun hc21 => ?_)
    ·
      rw [show (nI (byN v j) = 10 ↔ byN v j = 10) from nI_eq (b := 10) (by omega) (by omega)] at hc21
      refine R_gs 45 rfl ?_
      try rw [i2.1]
      refine W_b rfl (fun hc45 => ?_) (fun hc45 => ?_)
      ·
        rw [show ((1000 : Int32) ≤ nI T'.1 ↔ 1000 ≤ T'.1) from nI_leI (a := 1000) (by omega) (by omega)] at hc45
        refine R_gs 3 rfl ?_
        rw [sh_nx hj]; exact w u ⟨i1, i9, by rw [es, add_n (Or.inr (by omega))]; exact i2⟩ _
      ·
        rw [show ((1000 : Int32) ≤ nI T'.1 ↔ 1000 ≤ T'.1) from nI_leI (a := 1000) (by omega) (by omega)] at hc45
        refine R_gs 58 rfl ?_
        try rw [i2.1]
        have ok : okB (byN v j) = true := (by simp only [okB]; rw [decide_eq_true hc21]; rfl)
        refine R_is rfl rfl (ix_nI _) (by omega) ?_
        refine R_gs 3 rfl ?_
        try rw [i2.1]
        rw [sh_nx hj]; refine w _ ⟨(i1.wI rfl).wI rfl, fun k hk => ?_, ?_⟩ _
        · rw [wI_at, if_neg hk]; exact i9 k hk
        · rw [es, add_y ok (by omega)]; refine ⟨(by show hI u 235 2 + 1 = nI (T'.1 + 1); rw [i2.1, nI_1]), fun i hi => ?_⟩; have hi : i < T'.1 + 1 := hi; show hI (wI u 236 T'.1 _) 236 i = nI (if i = T'.1 then _ else _); rw [wI_at]; by_cases e : i = T'.1; rw [if_pos e, if_pos e]; rw [if_neg e, if_neg e]; exact i2.2 i (by omega)
    ·
      rw [show (nI (byN v j) = 10 ↔ byN v j = 10) from nI_eq (b := 10) (by omega) (by omega)] at hc21
      refine R_gs 28 rfl ?_
      refine W_b rfl (fun hc28 => ?_) (fun hc28 => ?_)
      ·
        rw [show (nI (byN v j) < 32 ↔ byN v j < 32) from nI_ltI (b := 32) (by omega) (by omega)] at hc28
        refine R_gs 3 rfl ?_
        rw [sh_nx hj]; exact w u ⟨i1, i9, by rw [es, add_n (Or.inl (by simp only [okB]; rw [decide_eq_false hc21, decide_eq_false (by omega : ¬ 32 ≤ byN v j)]; rfl))]; exact i2⟩ _
      ·
        rw [show (nI (byN v j) < 32 ↔ byN v j < 32) from nI_ltI (b := 32) (by omega) (by omega)] at hc28
        refine R_gs 35 rfl ?_
        refine W_b rfl (fun hc35 => ?_) (fun hc35 => ?_)
        ·
          rw [show ((126 : Int32) < nI (byN v j) ↔ 126 < byN v j) from nI_ltI (a := 126) (by omega) (by omega)] at hc35
          refine R_gs 3 rfl ?_
          rw [sh_nx hj]; exact w u ⟨i1, i9, by rw [es, add_n (Or.inl (by simp only [okB]; rw [decide_eq_false hc21, decide_eq_false (by omega : ¬ byN v j ≤ 126), Bool.and_false]; rfl))]; exact i2⟩ _
        ·
          rw [show ((126 : Int32) < nI (byN v j) ↔ 126 < byN v j) from nI_ltI (a := 126) (by omega) (by omega)] at hc35
          refine R_gs 45 rfl ?_
          try rw [i2.1]
          refine W_b rfl (fun hc45 => ?_) (fun hc45 => ?_)
          ·
            rw [show ((1000 : Int32) ≤ nI T'.1 ↔ 1000 ≤ T'.1) from nI_leI (a := 1000) (by omega) (by omega)] at hc45
            refine R_gs 3 rfl ?_
            rw [sh_nx hj]; exact w u ⟨i1, i9, by rw [es, add_n (Or.inr (by omega))]; exact i2⟩ _
          ·
            rw [show ((1000 : Int32) ≤ nI T'.1 ↔ 1000 ≤ T'.1) from nI_leI (a := 1000) (by omega) (by omega)] at hc45
            refine R_gs 58 rfl ?_
            try rw [i2.1]
            have ok : okB (byN v j) = true := (by simp only [okB]; rw [decide_eq_true (by omega : 32 ≤ byN v j), decide_eq_true (by omega : byN v j ≤ 126)]; simp)
            refine R_is rfl rfl (ix_nI _) (by omega) ?_
            refine R_gs 3 rfl ?_
            try rw [i2.1]
            rw [sh_nx hj]; refine w _ ⟨(i1.wI rfl).wI rfl, fun k hk => ?_, ?_⟩ _
            · rw [wI_at, if_neg hk]; exact i9 k hk
            · rw [es, add_y ok (by omega)]; refine ⟨(by show hI u 235 2 + 1 = nI (T'.1 + 1); rw [i2.1, nI_1]), fun i hi => ?_⟩; have hi : i < T'.1 + 1 := hi; show hI (wI u 236 T'.1 _) 236 i = nI (if i = T'.1 then _ else _); rw [wI_at]; by_cases e : i = T'.1; rw [if_pos e, if_pos e]; rw [if_neg e, if_neg e]; exact i2.2 i (by omega)
  ·
    intro x4
    refine R_gs 4 rfl ?_
    refine W_bt rfl (by decide) ?_
    refine W_f rfl (by first | rfl | exact ⟨rfl, by first | decide | assumption | exact Or.inl rfl | exact Or.inr rfl | exact b2i_01 _⟩) ?_
    exact h1 _ hu.1 hu.2.1 hu.2.2
theorem RM.tap {T' : ST'} (c : RM h L S H B M D T N) (f : Fr (fun q => Nat.beq q 235 || Nat.beq q 236) h h') (x : FldX 2 h h') (hT : TapM h' T') : RM h' L S H B M D T' N := by
  obtain ⟨c1, c2, c3, c4, c5, c6, c7, c8⟩ := c
  exact ⟨c1.fr f rfl rfl rfl, c2.fr f rfl, c3.fr f rfl, c4.fr f (x 25 (by decide)) rfl, c5.fr f rfl rfl, c6.fr f rfl, hT, c8.fr f (x 18 (by decide)) rfl rfl⟩
theorem y_feed (W : WOK L S H B M D T N) (c : RM h L S H B M D T N) {x y z : Int64} (h1 : ∀ h', Fr xM h h' → RM h' L S H B M D (fed3 T x y z) N → Q (some (.int (nI (fed3 T x y z).1))) h') : Rc (d + 3) m_X13_feed [.ref 235, .long x, .long y, .long z] h Q := by
  have hT := W.2.2.2.2.2.2.1
  have c0 := c.thr
  have F0 : Fr xM h (wI h 235 0 0) := (Fr.refl _ h).wI rfl
  have t1 := fed_I hT x 8
  have t2 := fed_I t1 y 8
  refine R_in rfl rfl ?_
  refine R_gs 7 rfl ?_
  refine R_k rfl rfl (m_lay c0.2.2.2.2.2.2.1 hT (fun h2 f2 x2 e2 => ?_))
  refine R_gs 12 rfl ?_
  refine R_k rfl rfl (m_lay e2 t1 (fun h3 f3 x3 e3 => ?_))
  refine R_gs 18 rfl ?_
  refine R_k rfl rfl (m_lay e3 t2 (fun h4 f4 x4 e4 => ?_))
  refine R_gs 25 rfl ?_
  rw [e4.1]
  refine W_f rfl (by first | rfl | exact ⟨rfl, by first | decide | assumption | exact Or.inl rfl | exact Or.inr rfl | exact b2i_01 _⟩) ?_
  have F := (f2.trans f3).trans f4; exact h1 _ (F0.trans (F.mono (fun q hq => by simp only [Bool.or_eq_true, Nat.beq_eq] at hq; rcases hq with rfl | rfl <;> rfl))) (c0.tap F (fun k hk => (x4 k hk).trans ((x3 k hk).trans (x2 k hk))) e4)
end
