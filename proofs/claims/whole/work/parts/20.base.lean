/-! ===== Int32 by its bits: bt x i ===== -/
def bt (x : Int32) (i : Nat) : Bool := x.toBitVec.getLsbD i
theorem b_ext {x y : Int32} (h : ∀ i, i < 32 → bt x i = bt y i) : x = y := Int32.toBitVec_inj.mp (BitVec.eq_of_getLsbD_eq (fun i hi => h i hi))
theorem b_or (x y : Int32) (i : Nat) : bt (x ||| y) i = (bt x i || bt y i) := by unfold bt; rw [Int32.toBitVec_or, BitVec.getLsbD_or]
theorem b_and (x y : Int32) (i : Nat) : bt (x &&& y) i = (bt x i && bt y i) := by unfold bt; rw [Int32.toBitVec_and, BitVec.getLsbD_and]
theorem b_xor (x y : Int32) (i : Nat) : bt (x ^^^ y) i = (bt x i ^^ bt y i) := by unfold bt; rw [Int32.toBitVec_xor, BitVec.getLsbD_xor]
theorem b_big {x : Int32} {i : Nat} (h : 32 ≤ i) : bt x i = false := BitVec.getLsbD_of_ge _ _ h
theorem b_255 (i : Nat) : bt 255 i = decide (i < 8) := by
  rcases Nat.lt_or_ge i 32 with h | h
  · exact (by decide +kernel : ∀ i, i < 32 → bt 255 i = decide (i < 8)) i h
  · rw [b_big h, decide_eq_false (by omega)]
theorem b_65535 (i : Nat) : bt 65535 i = decide (i < 16) := by
  rcases Nat.lt_or_ge i 32 with h | h
  · exact (by decide +kernel : ∀ i, i < 32 → bt 65535 i = decide (i < 16)) i h
  · rw [b_big h, decide_eq_false (by omega)]
theorem b_m1 : ∀ i, i < 32 → bt (-1) i = true := by decide +kernel
theorem b_0 (i : Nat) : bt 0 i = false := BitVec.getLsbD_zero
theorem s_l : ∀ n, n < 32 → ((nI n &&& 31).toBitVec.smod 32).toNat = n := by decide +kernel
theorem s_u : ∀ n, n < 32 → (((nI n).toUInt32 &&& Int32.toUInt32 31).toBitVec % 32).toNat = n := by decide +kernel
theorem b_shl (n : Nat) (hn : n < 32) (x : Int32) {i : Nat} (hi : i < 32) : bt (x <<< (nI n &&& 31)) i = (decide (n ≤ i) && bt x (i - n)) := by
  unfold bt
  rw [Int32.toBitVec_shiftLeft]
  show (x.toBitVec <<< ((nI n &&& 31).toBitVec.smod 32).toNat).getLsbD i = _
  rw [s_l n hn, BitVec.getLsbD_shiftLeft]
  rcases Nat.lt_or_ge i n with h | h
  · simp [h, Nat.not_le.mpr h]
  · simp [hi, h, Nat.not_lt.mpr h]
theorem b_ushr (n : Nat) (hn : n < 32) (x : Int32) (i : Nat) : bt ((x.toUInt32 >>> ((nI n).toUInt32 &&& Int32.toUInt32 31)).toInt32) i = bt x (n + i) := by
  show (x.toUInt32 >>> ((nI n).toUInt32 &&& Int32.toUInt32 31)).toBitVec.getLsbD i = x.toUInt32.toBitVec.getLsbD (n + i)
  rw [UInt32.toBitVec_shiftRight]
  show (x.toUInt32.toBitVec >>> (((nI n).toUInt32 &&& Int32.toUInt32 31).toBitVec % 32).toNat).getLsbD i = _
  rw [s_u n hn, BitVec.getLsbD_ushiftRight]
theorem b_sshr (n : Nat) (hn : n < 32) (x : Int32) {i : Nat} (hi : i < 32) : bt (x >>> (nI n &&& 31)) i = if n + i < 32 then bt x (n + i) else bt x 31 := by
  unfold bt
  rw [Int32.toBitVec_shiftRight]
  show (x.toBitVec.sshiftRight ((nI n &&& 31).toBitVec.smod 32).toNat).getLsbD i = _
  rw [s_l n hn, BitVec.getLsbD_sshiftRight, BitVec.msb_eq_getLsbD_last]
  simp [hi]
theorem b_shl8 (x : Int32) {i : Nat} (hi : i < 32) : bt (x <<< ((8 : Int32) &&& 31)) i = (decide (8 ≤ i) && bt x (i - 8)) := b_shl 8 (by omega) x hi
theorem b_shl16 (x : Int32) {i : Nat} (hi : i < 32) : bt (x <<< ((16 : Int32) &&& 31)) i = (decide (16 ≤ i) && bt x (i - 16)) := b_shl 16 (by omega) x hi
theorem b_shl24 (x : Int32) {i : Nat} (hi : i < 32) : bt (x <<< ((24 : Int32) &&& 31)) i = (decide (24 ≤ i) && bt x (i - 24)) := b_shl 24 (by omega) x hi
theorem b_sshr8 (x : Int32) {i : Nat} (hi : i < 32) : bt (x >>> ((8 : Int32) &&& 31)) i = if 8 + i < 32 then bt x (8 + i) else bt x 31 := b_sshr 8 (by omega) x hi
/-! the running phase: all cells are made -/
abbrev Rc (d μ : Nat) (av : List Value) (h : AH) (Q : Option Value → AH → Prop) : Prop := Cl ρ1 d μ av 262 h 262 Q
abbrev Rw (d : Nat) (Q : Option Value → AH → Prop) (σ : AS) : Prop := Wps ρ1 (Cl ρ1 d) 262 Q (fun _ => False) σ
theorem R_in {d μ : Nat} {av : List Value} {h : AH} {Q : Option Value → AH → Prop} {σ : AS} (e : a1 μ av 262 h = some σ) (hk : q_ok μ = true) (w : Rw d Q σ) : Rc (d + 1) μ av h Q := Cl_of e (Nat.le_refl _) hk w
theorem R_k {d : Nat} {Q : Option Value → AH → Prop} {σ : AS} {P : Prop} {μ : Nat} {av : List Value} {h : AH} {mk : Option Value → AH → AS} (e : k1 262 262 σ = some (P, μ, av, 262, h, mk)) (p : P) (w : Rc d μ av h (fun v h' => Rw d Q (mk v h'))) : Rw d Q σ := W_k (n1 := 262) (Cl.cm _) e p w
theorem R_g {d : Nat} {Q : Option Value → AH → Prop} {σ σ' : AS} (e : sgo ρ1 9999 400 σ = some σ') (w : Rw d Q σ') : Rw d Q σ := W_g 9999 400 e w
theorem R_gs {d : Nat} {Q : Option Value → AH → Prop} {σ σ' : AS} (stop : Nat) (e : sgo ρ1 stop 400 σ = some σ') (w : Rw d Q σ') : Rw d Q σ := W_g stop 400 e w
theorem R_mono {d μ : Nat} {av : List Value} {h : AH} {Q Q' : Option Value → AH → Prop} (c : Rc d μ av h Q) (hQ : ∀ v h', Q v h' → Q' v h') : Rc d μ av h Q' := Cl.cm d _ _ _ _ _ _ _ hQ c
/-! loops as folds -/
def lp {α : Type} (f : Nat → α → α) : Nat → α → α
  | 0, s => s
  | n + 1, s => f n (lp f n s)
theorem w_lp {α : Type} {W : Nat → α → Prop} (f : Nat → α → α) (N : Nat) (I : Nat → α → Prop) (s0 : α) (h0 : I 0 s0) (hs : ∀ j s, j < N → I j s → I (j + 1) (f j s) ∧ (W (j + 1) (f j s) → W j s)) (he : I N (lp f N s0) → W N (lp f N s0)) : W 0 s0 := by
  have key : ∀ k, k ≤ N → I k (lp f k s0) ∧ (W k (lp f k s0) → W 0 s0) := by
    intro k
    induction k with
    | zero => exact fun _ => ⟨h0, fun w => w⟩
    | succ k ih =>
      intro hk
      obtain ⟨i1, i2⟩ := ih (by omega)
      obtain ⟨s1, s2⟩ := hs k _ (by omega) i1
      exact ⟨s1, fun w => i2 (s2 w)⟩
  obtain ⟨i1, i2⟩ := key N (Nat.le_refl _)
  exact i2 (he i1)
