theorem nI_mul (a b : Nat) : nI a * nI b = nI (a * b) := by
  apply Int32.toBitVec_inj.mp
  simp only [nI, Int32.toBitVec_mul, Int32.toBitVec_ofNat', BitVec.ofNat_mul]
theorem nI_sub {a b : Nat} (h : b ≤ a) : nI a - nI b = nI (a - b) := by
  obtain ⟨k, rfl⟩ := Nat.le.dest h
  rw [Nat.add_sub_cancel_left, ← nI_add, Int32.add_comm, Int32.add_sub_cancel]
/-! rows: loads and stores at a place that is known as a number -/
theorem SH_rowall : (List.range 1104).all (fun a => (!(Nat.ble 11 (SH a).1 && Nat.ble (SH a).1 17) || (Nat.ble (a + 1) 262 && Nat.ble (SH a).2 3000))) = true := by decide +kernel
theorem SH_row {a k m : Nat} (hs : SH a = (k, m)) (hk : 11 ≤ k) (hk' : k ≤ 17) : a < 262 ∧ m ≤ 3000 := by
  rcases Nat.lt_or_ge a 1104 with h | h
  · have := List.all_eq_true.mp SH_rowall a (List.mem_range.mpr h)
    rw [hs] at this
    simp only [Nat.ble_eq_true_of_le hk, Nat.ble_eq_true_of_le hk', Bool.and_true, Bool.not_true, Bool.false_or, Bool.and_eq_true, Nat.ble_eq] at this
    exact ⟨by omega, this.2⟩
  · rw [SH_big h] at hs
    cases hs
    omega
theorem c1_at {ρ : AR} {n' μ pc nx x y n : Nat} {i : Instr} {vv : Value} {lv : AL} {st : List Value} {h : AH} (e : KT μ pc = some (i, nx, x, y, vv)) : c1 ρ n' (μ, pc, lv, st, n, h) = c1i ρ n' μ lv st n h i nx x y vv := by unfold c1; dsimp only; rw [e]
theorem rA_in {a m j k : Nat} {iv : Int32} (hs : SH a = (k, m)) (hk : 11 ≤ k) (hk' : k ≤ 17) (hi : iv = nI j) (hj : j < m) : aAt k a 262 iv ∧ iv.toNatClampNeg = j := by
  obtain ⟨h1, h2⟩ := SH_row hs hk hk'
  rw [hi]
  exact ⟨⟨m, hs, h1, nI_in hj (by omega)⟩, nI_clamp (by omega)⟩
section
variable {d : Nat} {Q : Option Value → AH → Prop} {μ pc nx x y : Nat} {vv : Value} {lv : AL} {st : List Value} {h : AH} {a m j : Nat} {iv : Int32}
theorem R_il {v : Int32} (e : KT μ pc = some (.iaload, nx, x, y, vv)) (hs : SH a = (11, m)) (hi : iv = nI j) (hj : j < m) (hv : hI h a j = v) (w : Rw d Q (μ, nx, lv, .int v :: st, 262, h)) : Rw d Q (μ, pc, lv, .int iv :: .ref a :: st, 262, h) := by
  obtain ⟨h1, h2⟩ := rA_in hs (by omega) (by omega) hi hj
  refine W_c (P := rAt h a 262 iv) (σ' := (μ, nx, lv, .int (hI h a iv.toNatClampNeg) :: st, 262, h)) ?_ (Or.inl h1) ?_
  · rw [c1_at e]; rfl
  · rw [h2, hv]; exact w
theorem R_is {z : Int32} (e : KT μ pc = some (.iastore, nx, x, y, vv)) (hs : SH a = (11, m)) (hi : iv = nI j) (hj : j < m) (w : Rw d Q (μ, nx, lv, st, 262, wI h a j z)) : Rw d Q (μ, pc, lv, .int z :: .int iv :: .ref a :: st, 262, h) := by
  obtain ⟨h1, h2⟩ := rA_in hs (by omega) (by omega) hi hj
  refine W_c (P := aAt 11 a 262 iv) (σ' := (μ, nx, lv, st, 262, wI h a iv.toNatClampNeg z)) ?_ h1 ?_
  · rw [c1_at e]; rfl
  · rw [h2]; exact w
theorem R_ll {v : Int64} (e : KT μ pc = some (.laload, nx, x, y, vv)) (hs : SH a = (12, m)) (hi : iv = nI j) (hj : j < m) (hv : hJ h a j = v) (w : Rw d Q (μ, nx, lv, .long v :: st, 262, h)) : Rw d Q (μ, pc, lv, .int iv :: .ref a :: st, 262, h) := by
  obtain ⟨h1, h2⟩ := rA_in hs (by omega) (by omega) hi hj
  refine W_c (P := aAt 12 a 262 iv) (σ' := (μ, nx, lv, .long (hJ h a iv.toNatClampNeg) :: st, 262, h)) ?_ h1 ?_
  · rw [c1_at e]; rfl
  · rw [h2, hv]; exact w
theorem R_ls {z : Int64} (e : KT μ pc = some (.lastore, nx, x, y, vv)) (hs : SH a = (12, m)) (hi : iv = nI j) (hj : j < m) (w : Rw d Q (μ, nx, lv, st, 262, wJ h a j z)) : Rw d Q (μ, pc, lv, .long z :: .int iv :: .ref a :: st, 262, h) := by
  obtain ⟨h1, h2⟩ := rA_in hs (by omega) (by omega) hi hj
  refine W_c (P := aAt 12 a 262 iv) (σ' := (μ, nx, lv, st, 262, wJ h a iv.toNatClampNeg z)) ?_ h1 ?_
  · rw [c1_at e]; rfl
  · rw [h2]; exact w
theorem R_bl {v : Int32} {k : Nat} (e : KT μ pc = some (.baload, nx, x, y, vv)) (hs : SH a = (k, m)) (hk : k = 13 ∨ k = 14) (hi : iv = nI j) (hj : j < m) (hv : hI h a j = v) (w : Rw d Q (μ, nx, lv, .int v :: st, 262, h)) : Rw d Q (μ, pc, lv, .int iv :: .ref a :: st, 262, h) := by
  obtain ⟨h1, h2⟩ := rA_in hs (by omega) (by omega) hi hj
  refine W_c (P := aAt 13 a 262 iv ∨ aAt 14 a 262 iv) (σ' := (μ, nx, lv, .int (hI h a iv.toNatClampNeg) :: st, 262, h)) ?_ ?_ ?_
  · rw [c1_at e]; rfl
  · rcases hk with rfl | rfl
    · exact Or.inl h1
    · exact Or.inr h1
  · rw [h2, hv]; exact w
theorem R_bs {z : Int32} (e : KT μ pc = some (.bastore, nx, x, y, vv)) (hs : SH a = (13, m)) (hi : iv = nI j) (hj : j < m) (w : Rw d Q (μ, nx, lv, st, 262, wI h a j (vp_nar .byte z))) : Rw d Q (μ, pc, lv, .int z :: .int iv :: .ref a :: st, 262, h) := by
  obtain ⟨h1, h2⟩ := rA_in hs (by omega) (by omega) hi hj
  refine W_c (P := aAt 13 a 262 iv) (σ' := (μ, nx, lv, st, 262, wI h a iv.toNatClampNeg (vp_nar .byte z))) ?_ h1 ?_
  · rw [c1_at e]; show (bif Nat.beq (SH a).1 13 then _ else _) = _; rw [hs]; rfl
  · rw [h2]; exact w
theorem R_zs {z : Int32} (e : KT μ pc = some (.bastore, nx, x, y, vv)) (hs : SH a = (14, m)) (hi : iv = nI j) (hj : j < m) (w : Rw d Q (μ, nx, lv, st, 262, wI h a j (vp_nar .boolean z))) : Rw d Q (μ, pc, lv, .int z :: .int iv :: .ref a :: st, 262, h) := by
  obtain ⟨h1, h2⟩ := rA_in hs (by omega) (by omega) hi hj
  refine W_c (P := aAt 14 a 262 iv) (σ' := (μ, nx, lv, st, 262, wI h a iv.toNatClampNeg (vp_nar .boolean z))) ?_ h1 ?_
  · rw [c1_at e]; show (bif Nat.beq (SH a).1 13 then _ else _) = _; rw [hs]; rfl
  · rw [h2]; exact w
/-- rows of rows, of scenes -/
theorem R_al {b s k : Nat} (e : KT μ pc = some (.aaload, nx, x, y, vv)) (hr : RA a = some (b, s)) (hs : SH a = (k, m)) (hk : k = 16 ∨ k = 17) (hi : iv = nI j) (hj : j < m) (w : Rw d Q (μ, nx, lv, .ref (b + s * j) :: st, 262, h)) : Rw d Q (μ, pc, lv, .int iv :: .ref a :: st, 262, h) := by
  obtain ⟨h1, h2⟩ := rA_in hs (by omega) (by omega) hi hj
  have ha := (SH_row hs (by omega) (by omega)).1
  refine W_c (P := aAt 15 a 262 iv ∨ aAt 16 a 262 iv ∨ aAt 17 a 262 iv) (σ' := (μ, nx, lv, .ref (b + s * iv.toNatClampNeg) :: st, 262, h)) ?_ ?_ ?_
  · rw [c1_at e]
    show (bif Nat.beq a 1100 then _ else match RA a with | some (b, s) => _ | none => _) = _
    rw [hr, show Nat.beq a 1100 = false from by rw [← Bool.not_eq_true, Nat.beq_eq]; omega]
    rfl
  · rcases hk with rfl | rfl
    · exact Or.inr (Or.inl h1)
    · exact Or.inr (Or.inr h1)
  · rw [h2]; exact w
/-- rows of tokens -/
theorem R_tl {v : Value} (e : KT μ pc = some (.aaload, nx, x, y, vv)) (hs : SH a = (15, m)) (hr : RA a = none) (hi : iv = nI j) (hj : j < m) (hv : va_rf (hR h a j) = v) (w : Rw d Q (μ, nx, lv, v :: st, 262, h)) : Rw d Q (μ, pc, lv, .int iv :: .ref a :: st, 262, h) := by
  obtain ⟨h1, h2⟩ := rA_in hs (by omega) (by omega) hi hj
  have ha := (SH_row hs (by omega) (by omega)).1
  refine W_c (P := aAt 15 a 262 iv ∨ aAt 16 a 262 iv ∨ aAt 17 a 262 iv) (σ' := (μ, nx, lv, va_rf (hR h a iv.toNatClampNeg) :: st, 262, h)) ?_ (Or.inl h1) ?_
  · rw [c1_at e]
    show (bif Nat.beq a 1100 then _ else match RA a with | some (b, s) => _ | none => _) = _
    rw [hr, show Nat.beq a 1100 = false from by rw [← Bool.not_eq_true, Nat.beq_eq]; omega]
    rfl
  · rw [h2, hv]; exact w
theorem R_ts {b : Nat} (e : KT μ pc = some (.aastore, nx, x, y, vv)) (hs : SH a = (15, m)) (hr : RA a = none) (hi : iv = nI j) (hj : j < m) (hb : 1000 ≤ b ∧ b < 1038) (w : Rw d Q (μ, nx, lv, st, 262, wR h a j (some b))) : Rw d Q (μ, pc, lv, .ref b :: .int iv :: .ref a :: st, 262, h) := by
  obtain ⟨h1, h2⟩ := rA_in hs (by omega) (by omega) hi hj
  refine W_c (P := ρ1.2 a = none ∧ ((aAt 15 a 262 iv ∧ 1000 ≤ b ∧ b < 1038) ∨ (aAt 16 a 262 iv ∧ (SH b).1 = 7 ∧ b < 262))) (σ' := (μ, nx, lv, st, 262, wR h a iv.toNatClampNeg (some b))) ?_ ⟨hr, Or.inl ⟨h1, hb⟩⟩ ?_
  · rw [c1_at e]; rfl
  · rw [h2]; exact w
end
/-- one plain step at least -/
noncomputable def sg1 (σ : AS) : Option AS := match s1 ρ1 σ with
  | some σ' => sgo ρ1 9999 400 σ'
  | none => none
theorem R_1 {d : Nat} {Q : Option Value → AH → Prop} {σ σ' : AS} (e : sg1 σ = some σ') (w : Rw d Q σ') : Rw d Q σ := by
  unfold sg1 at e
  cases hs : s1 ρ1 σ with
  | none => rw [hs] at e; cases e
  | some τ => rw [hs] at e; exact W_s hs (R_g e w)
