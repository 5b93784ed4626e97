theorem bt_nI (a i : Nat) : bt (nI a) i = (decide (i < 32) && a.testBit i) := by
  unfold bt nI
  rw [Int32.toBitVec_ofNat', BitVec.getLsbD_ofNat]
theorem nI_and (a b : Nat) : nI a &&& nI b = nI (a &&& b) := by
  apply b_ext
  intro i hi
  rw [b_and, bt_nI, bt_nI, bt_nI, Nat.testBit_and]
  simp [hi]
theorem nI_or (a b : Nat) : nI a ||| nI b = nI (a ||| b) := by
  apply b_ext
  intro i hi
  rw [b_or, bt_nI, bt_nI, bt_nI, Nat.testBit_or]
  simp [hi]
theorem nI_ushr {a n : Nat} (ha : a < 2 ^ 32) (hn : n < 32) : ((nI a).toUInt32 >>> ((nI n).toUInt32 &&& Int32.toUInt32 31)).toInt32 = nI (a >>> n) := by
  apply b_ext
  intro i hi
  rw [b_ushr n hn, bt_nI, bt_nI, Nat.testBit_shiftRight]
  rcases Nat.lt_or_ge (n + i) 32 with h | h
  · simp [h, hi]
  · rw [decide_eq_false (by omega), Nat.testBit_lt_two_pow (Nat.lt_of_lt_of_le ha (Nat.pow_le_pow_right (by omega) h))]
    simp
/-- Integer.bitCount's sums -/
def bcF (i : Int32) : Int32 :=
  let i := i - ((i.toUInt32 >>> (Int32.toUInt32 1 &&& Int32.toUInt32 31)).toInt32 &&& 1431655765)
  let i := (i &&& 858993459) + ((i.toUInt32 >>> (Int32.toUInt32 2 &&& Int32.toUInt32 31)).toInt32 &&& 858993459)
  let i := i + (i.toUInt32 >>> (Int32.toUInt32 4 &&& Int32.toUInt32 31)).toInt32 &&& 252645135
  let i := i + (i.toUInt32 >>> (Int32.toUInt32 8 &&& Int32.toUInt32 31)).toInt32
  let i := i + (i.toUInt32 >>> (Int32.toUInt32 16 &&& Int32.toUInt32 31)).toInt32
  i &&& 63
theorem nI_u1 {a : Nat} (ha : a < 2 ^ 32) : ((nI a).toUInt32 >>> (Int32.toUInt32 1 &&& Int32.toUInt32 31)).toInt32 = nI (a >>> 1) := nI_ushr (n := 1) ha (by omega)
theorem nI_u2 {a : Nat} (ha : a < 2 ^ 32) : ((nI a).toUInt32 >>> (Int32.toUInt32 2 &&& Int32.toUInt32 31)).toInt32 = nI (a >>> 2) := nI_ushr (n := 2) ha (by omega)
theorem nI_u4 {a : Nat} (ha : a < 2 ^ 32) : ((nI a).toUInt32 >>> (Int32.toUInt32 4 &&& Int32.toUInt32 31)).toInt32 = nI (a >>> 4) := nI_ushr (n := 4) ha (by omega)
theorem nI_u8 {a : Nat} (ha : a < 2 ^ 32) : ((nI a).toUInt32 >>> (Int32.toUInt32 8 &&& Int32.toUInt32 31)).toInt32 = nI (a >>> 8) := nI_ushr (n := 8) ha (by omega)
theorem nI_u16 {a : Nat} (ha : a < 2 ^ 32) : ((nI a).toUInt32 >>> (Int32.toUInt32 16 &&& Int32.toUInt32 31)).toInt32 = nI (a >>> 16) := nI_ushr (n := 16) ha (by omega)
theorem pcN_cnt (n : Nat) : ∀ k, k ≤ 32 → pcN n k = cntN k (fun i => bt (nI n) i)
  | 0, _ => rfl
  | k + 1, hk => by
    show pcN n k + (n >>> k) % 2 = (if bt (nI n) k = true then cntN k (fun i => bt (nI n) i) + 1 else cntN k (fun i => bt (nI n) i))
    rw [pcN_cnt n k (by omega), bt_nI, decide_eq_true (by omega), Bool.true_and, Nat.shiftRight_eq_div_pow, ← Nat.toNat_testBit]
    cases n.testBit k <;> rfl
theorem shr_le (n k : Nat) : n >>> k ≤ n := by rw [Nat.shiftRight_eq_div_pow]; exact Nat.div_le_self _ _
theorem bcF_nI {n : Nat} (h : n < 32768) : bcF (nI n) = nI (cntN 15 (fun i => bt (nI n) i)) := by
  have a1 : bc1 n < 32768 := Nat.lt_of_le_of_lt (Nat.sub_le _ _) h
  have e1 : nI n - (((nI n).toUInt32 >>> (Int32.toUInt32 1 &&& Int32.toUInt32 31)).toInt32 &&& 1431655765) = nI (bc1 n) := by
    rw [nI_u1 (a := n) (by omega)]
    show nI n - (nI (n >>> 1) &&& nI 1431655765) = _
    rw [nI_and, nI_sub (Nat.le_trans Nat.and_le_left (shr_le _ _))]; rfl
  have a2 : bc2 (bc1 n) < 2 ^ 31 := by
    have := Nat.and_le_right (n := bc1 n) (m := 858993459)
    have := Nat.and_le_right (n := bc1 n >>> 2) (m := 858993459)
    show _ + _ < _
    omega
  have e2 : (nI (bc1 n) &&& 858993459) + (((nI (bc1 n)).toUInt32 >>> (Int32.toUInt32 2 &&& Int32.toUInt32 31)).toInt32 &&& 858993459) = nI (bc2 (bc1 n)) := by
    rw [nI_u2 (a := bc1 n) (by omega)]
    show (nI (bc1 n) &&& nI 858993459) + (nI (bc1 n >>> 2) &&& nI 858993459) = _
    rw [nI_and, nI_and, nI_add]; rfl
  have a3 : bc3 (bc2 (bc1 n)) ≤ 252645135 := Nat.and_le_right
  have e3 : nI (bc2 (bc1 n)) + ((nI (bc2 (bc1 n))).toUInt32 >>> (Int32.toUInt32 4 &&& Int32.toUInt32 31)).toInt32 &&& 252645135 = nI (bc3 (bc2 (bc1 n))) := by
    rw [nI_u4 (a := bc2 (bc1 n)) (by omega), nI_add]
    show _ &&& nI 252645135 = _
    rw [nI_and]; rfl
  have a4 : bc4 (bc3 (bc2 (bc1 n))) < 2 ^ 31 := by
    have := shr_le (bc3 (bc2 (bc1 n))) 8
    show _ + _ < _
    omega
  have e4 : nI (bc3 (bc2 (bc1 n))) + ((nI (bc3 (bc2 (bc1 n)))).toUInt32 >>> (Int32.toUInt32 8 &&& Int32.toUInt32 31)).toInt32 = nI (bc4 (bc3 (bc2 (bc1 n)))) := by
    rw [nI_u8 (a := bc3 (bc2 (bc1 n))) (by omega), nI_add]; rfl
  have e5 : nI (bc4 (bc3 (bc2 (bc1 n)))) + ((nI (bc4 (bc3 (bc2 (bc1 n))))).toUInt32 >>> (Int32.toUInt32 16 &&& Int32.toUInt32 31)).toInt32 &&& 63 = nI (bcN n) := by
    rw [nI_u16 (a := bc4 (bc3 (bc2 (bc1 n)))) (by omega), nI_add]
    show _ &&& nI 63 = _
    rw [nI_and]; rfl
  show (let i := nI n - (((nI n).toUInt32 >>> (Int32.toUInt32 1 &&& Int32.toUInt32 31)).toInt32 &&& 1431655765); _) = _
  unfold bcF
  dsimp only
  rw [e1, e2, e3, e4, e5, ← pcN_cnt n 15 (by omega)]
  have := bcN_all (n / 256) (by omega) (n % 256) (by omega)
  rw [Nat.div_add_mod] at this
  rw [Nat.eq_of_beq_eq_true this]
/-- how many bits -/
def pop (x : Int32) : Nat := cntN 15 (fun i => bt x i)
/-- bits below 15 alone -/
def B15 (x : Int32) : Prop := ∀ i, 15 ≤ i → i < 32 → bt x i = false
theorem b15_nat {x : Int32} (h : B15 x) : ∃ n, n < 32768 ∧ x = nI n := by
  have e : ∀ i, bt x i = x.toBitVec.toNat.testBit i := fun i => by unfold bt; rw [← BitVec.testBit_toNat]
  refine ⟨x.toBitVec.toNat, ?_, ?_⟩
  · apply Nat.lt_pow_two_of_testBit (n := 15)
    intro i hi
    rw [← e]
    rcases Nat.lt_or_ge i 32 with h2 | h2
    · exact h i hi h2
    · exact b_big h2
  · apply b_ext
    intro i hi
    rw [bt_nI, ← e]; simp [hi]
theorem B15.nn {x : Int32} (h : B15 x) : 0 ≤ x := by
  obtain ⟨n, hn, rfl⟩ := b15_nat h
  exact nI_pos' (by omega)
theorem B15.and {x : Int32} (h : B15 x) (y : Int32) : B15 (x &&& y) := fun i h1 h2 => by rw [b_and, h i h1 h2, Bool.false_and]
theorem B15.or {x y : Int32} (h : B15 x) (g : B15 y) : B15 (x ||| y) := fun i h1 h2 => by rw [b_or, h i h1 h2, g i h1 h2]; rfl
theorem bcF_pop {x : Int32} (h : B15 x) : bcF x = nI (pop x) := by
  obtain ⟨n, hn, rfl⟩ := b15_nat h
  exact bcF_nI hn
theorem pop_le (x : Int32) : pop x ≤ 15 := cntN_le _ _
theorem PairsOK.b15 {L : SL} {x : Int32} (hP : lP L ≤ 6) (h : PairsOK L x) : B15 x := by
  intro i h1 h2
  cases e : bt x i with
  | false => rfl
  | true =>
    obtain ⟨p, q, h3, h4, h5⟩ := h i h2 e
    have := pr_lt p (by omega) q (by omega) (by omega)
    omega
theorem setN_b15 {c : Nat → Bool} {n : Nat} (hn : n ≤ 15) : B15 (setN n c) := fun i h1 h2 => by rw [setN_bt n (by omega) i h2, decide_eq_false (by omega), Bool.false_and]
section
variable {d : Nat} {h : AH} {Q : Option Value → AH → Prop}
theorem c_bitCount {x : Int32} (hx : B15 x) (h1 : Q (some (.int (nI (pop x)))) h) : Rc (d + 1) m_J6_bitCount_0f7a4 [.int x] h Q := by
  refine R_in rfl rfl ?_
  refine R_g rfl ?_
  refine W_f rfl rfl ?_
  rw [← bcF_pop hx] at h1
  exact h1
end
