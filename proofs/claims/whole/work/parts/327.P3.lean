theorem l_shl {v c : Nat} (hc : c < 256) : (lN64 v <<< ((8 : Int32).toInt64 &&& 63)) ||| (nI c).toInt64 = lN64 (256 * v + c) := by
  rw [nI_l (by omega)]
  apply Int64.toBitVec_inj.mp
  rw [Int64.toBitVec_or, Int64.toBitVec_shiftLeft]
  show (BitVec.ofNat 64 v <<< (((8 : Int32).toInt64 &&& 63).toBitVec.smod 64).toNat) ||| BitVec.ofNat 64 c = BitVec.ofNat 64 (256 * v + c)
  rw [show (((8 : Int32).toInt64 &&& 63).toBitVec.smod 64).toNat = 8 from by decide]
  apply BitVec.eq_of_getLsbD_eq
  intro i hi
  rw [BitVec.getLsbD_or, BitVec.getLsbD_shiftLeft, BitVec.getLsbD_ofNat, BitVec.getLsbD_ofNat, BitVec.getLsbD_ofNat, show 256 * v + c = v <<< 8 + c from by rw [Nat.shiftLeft_eq]; omega, Nat.shiftLeft_add_eq_or_of_lt (i := 8) hc, Nat.testBit_or, Nat.testBit_shiftLeft]
  rcases Nat.lt_or_ge i 8 with h | h
  · simp [hi, h, Nat.not_le.mpr h]
  · simp [hi, h, Nat.not_lt.mpr h, show i - 8 < 64 by omega]
theorem l_num {v c : Nat} (h1 : 48 ≤ c) (h2 : c < 256) : lN64 v * 10 + (nI c).toInt64 - 48 = lN64 (10 * v + (c - 48)) := by
  rw [nI_l (by omega)]
  show lN v * lN 10 + lN c - lN 48 = lN (10 * v + (c - 48))
  rw [lN_mul, lN_add, lN_sub (by omega)]
  congr 1
  omega
theorem pkF {l : List Nat} : ∀ {v : Nat}, (∀ c, c ∈ l → c < 256) → l.foldl (fun v c => 256 * v + c) v < (v + 1) * 256 ^ l.length := by
  induction l with
  | nil => intro v _; show v < (v + 1) * 1; omega
  | cons c l ih =>
    intro v h
    have h1 := ih (v := 256 * v + c) (fun x hx => h x (List.mem_cons_of_mem _ hx))
    have h2 := h c List.mem_cons_self
    show l.foldl _ (256 * v + c) < _
    refine Nat.lt_of_lt_of_le h1 ?_
    rw [List.length_cons, Nat.pow_succ, Nat.mul_comm (256 ^ l.length) 256, ← Nat.mul_assoc]
    exact Nat.mul_le_mul_right _ (by omega)
theorem pkC_b {l : List Nat} (h8 : l.length ≤ 8) (h : ∀ c, c ∈ l → c ≤ 122) : pkC l < 2 ^ 63 := by
  cases l with
  | nil => decide
  | cons c l =>
    have h1 := pkF (l := l) (v := 256 * 0 + c) (fun x hx => by have := h x (List.mem_cons_of_mem _ hx); omega)
    have h2 := h c List.mem_cons_self
    rw [List.length_cons] at h8
    refine Nat.lt_of_lt_of_le h1 ?_
    calc (256 * 0 + c + 1) * 256 ^ l.length ≤ 128 * 256 ^ 7 := Nat.mul_le_mul (by omega) (Nat.pow_le_pow_right (by decide) (by omega))
      _ = 2 ^ 63 := by decide
section
variable {d : Nat} {h h' : AH} {T : ST'} {K : TKs} {Q : Option Value → AH → Prop}
theorem tap_lt (hO : TapOK T) {i : Nat} (hi : i < T.1) : T.2 i < 128 := by
  rcases hO.2 i hi with e | e <;> omega
theorem fsK_is {v o : Nat} : ∀ k j, fsK v o j k = o ∨ (TKv.getD (fsK v o j k) 0 = v ∧ j ≤ fsK v o j k ∧ fsK v o j k < j + k)
  | 0, _ => Or.inl rfl
  | k + 1, j => by
    rw [fsK_s]
    split
    · exact Or.inr ⟨by assumption, by omega, by omega⟩
    · rcases fsK_is (v := v) (o := o) k (j + 1) with e | ⟨e1, e2, e3⟩
      · exact Or.inl e
      · exact Or.inr ⟨e1, by omega, by omega⟩
theorem pk_pos {l : List Nat} (h : LtO l) : 0 < pkC l := by
  obtain ⟨h1, -, h3⟩ := h
  rcases List.eq_nil_or_concat l with e | ⟨l', c, e⟩
  · exact absurd e h1
  · rw [e, List.concat_eq_append, pkC_s]
    have := h3 c (by rw [e, List.concat_eq_append]; simp)
    omega
theorem tokW_ne2 {l : List Nat} (h : LtO l) : ¬ tokW l = 2 := by
  intro e
  unfold tokW at e
  have hp := pk_pos h
  rcases fsK_is (v := pkC l) (o := 3) 38 0 with e1 | ⟨e1, -, -⟩
  · omega
  · rw [e] at e1
    have : pkC l = 0 := e1.symm
    omega
theorem c_cutWord (hT : TapC h T) (hO : TapOK T) (hK : TkC h K) (hn : K.1 < 1001) {p : Nat} (hp : p < T.1) (hl : isL (T.2 p) = true) (h1 : ∀ h', Fr xtp h h' → F15 h h' → TkC h' (psh K (tokA T p).1) → Q (some (.int (nI (tokA T p).2))) h') : Rc (d + 2) m_X10_cutWord [.ref 1, .int (nI p)] h Q := by
  have o1 := hO.1
  have e0 := rn_t hp hl
  have b0 := rn_le (T := T) (g := isL) (p := p + 1) hp
  unfold tokA at h1
  rw [if_pos hl] at h1
  refine R_in rfl rfl ?_
  refine R_gs 4 rfl ?_
  refine w_meas (W := fun (s : Nat × Int64) => Rw (d + 1) Q (m_X10_cutWord, 4, [some (.ref 1), some (.int (nI p)), some (.int (nI s.1)), some (.long s.2), none], [], 262, h)) (fun s => p ≤ s.1 ∧ s.1 ≤ T.1 ∧ rnE T isL p = rnE T isL s.1 ∧ s.2 = lN64 (pkC (lts T p s.1))) (fun s => T.1 - s.1) (s0 := (p, 0)) ⟨Nat.le_refl _, by dsimp only; omega, rfl, by rw [lts_0]; rfl⟩ (fun s hi w => ?_)
  ·
    obtain ⟨e, v⟩ := s
    obtain ⟨i1, i2, i3, i4⟩ := hi
    dsimp only at i1 i2 i3 i4 ⊢
    subst i4
    refine R_gs 9 rfl ?_
    try rw [hT.1]
    refine W_b rfl (fun hc9 => ?_) (fun hc9 => ?_)
    ·
      rw [nI_leI (by omega) (by omega)] at hc9
      refine R_gs 49 rfl ?_
      have ee : rnE T isL p = e := (i3.trans (rn_f (Or.inl (by omega))))
      rw [nI_sub i1]
      rw [ee] at h1
      refine W_b rfl (fun hc49 => ?_) (fun hc49 => ?_)
      ·
        rw [show (nI (e - p) ≤ 8 ↔ e - p ≤ 8) from nI_leI (b := 8) (by omega) (by omega)] at hc49
        rw [if_neg (by omega)] at h1
        have lo := lts_O hp hl (by rw [ee]; omega)
        rw [ee] at lo
        have lb := pkC_b lo.2.1 (fun c hc => (lo.2.2 c hc).2)
        refine R_gs 62 rfl ?_
        refine R_k rfl rfl (c_spelled (v := pkC (lts T p e)) (o := 3) lb (by omega) ?_)
        refine R_gs 67 rfl ?_
        refine R_k rfl rfl (c_addToken (x := (tokW (lts T p e), p, 0, lts T p e)) hK hn (fsK_lt (by omega) 38 0 (by omega)) (fun e2 => absurd e2 (tokW_ne2 lo)) (fun _ => rfl) (fun h2 f2 x2 t2 => ?_))
        refine R_gs 71 rfl ?_
        refine W_f rfl (by first | rfl | exact ⟨rfl, by first | decide | assumption | exact Or.inl rfl | exact Or.inr rfl | exact b2i_01 _⟩) ?_
        exact h1 _ f2 x2 t2
      ·
        rw [show (nI (e - p) ≤ 8 ↔ e - p ≤ 8) from nI_leI (b := 8) (by omega) (by omega)] at hc49
        rw [if_pos (by omega)] at h1
        refine R_gs 67 rfl ?_
        refine R_k rfl rfl (c_addToken (x := (1, p, 0, [])) hK hn (by dsimp only; omega) (fun e2 => absurd (show 1 = 2 from e2) (by decide)) (fun e2 => absurd rfl e2) (fun h2 f2 x2 t2 => ?_))
        refine R_gs 71 rfl ?_
        refine W_f rfl (by first | rfl | exact ⟨rfl, by first | decide | assumption | exact Or.inl rfl | exact Or.inr rfl | exact b2i_01 _⟩) ?_
        exact h1 _ f2 x2 t2
    ·
      rw [nI_leI (by omega) (by omega)] at hc9
      refine R_gs 17 rfl ?_
      refine R_bl rfl rfl (Or.inl rfl) (ix_nI _) (by omega) (hT.2 e (by omega)) ?_
      refine R_k rfl rfl (c_isLetter (by have := tap_lt hO (i := e) (by omega); omega) (fun hx18 => ?_) (fun hx18 => ?_))
      ·
        refine W_bf rfl (by decide) ?_
        refine R_gs 33 rfl ?_
        refine R_bl rfl rfl (Or.inl rfl) (ix_nI _) (by omega) (hT.2 e (by omega)) ?_
        refine R_gs 4 rfl ?_
        rw [nI_1, l_shl (by have := tap_lt hO (i := e) (by omega); omega), ← pkC_s, ← lts_s i1]; exact w (e + 1, _) ⟨by dsimp only; omega, by dsimp only; omega, by dsimp only; rw [i3, rn_t (by omega) hx18], rfl⟩ (by dsimp only; omega)
      ·
        refine W_bt rfl (by decide) ?_
        refine R_gs 49 rfl ?_
        have ee : rnE T isL p = e := (i3.trans (rn_f (Or.inr hx18)))
        rw [nI_sub i1]
        rw [ee] at h1
        refine W_b rfl (fun hc49 => ?_) (fun hc49 => ?_)
        ·
          rw [show (nI (e - p) ≤ 8 ↔ e - p ≤ 8) from nI_leI (b := 8) (by omega) (by omega)] at hc49
          rw [if_neg (by omega)] at h1
          have lo := lts_O hp hl (by rw [ee]; omega)
          rw [ee] at lo
          have lb := pkC_b lo.2.1 (fun c hc => (lo.2.2 c hc).2)
          refine R_gs 62 rfl ?_
          refine R_k rfl rfl (c_spelled (v := pkC (lts T p e)) (o := 3) lb (by omega) ?_)
          refine R_gs 67 rfl ?_
          refine R_k rfl rfl (c_addToken (x := (tokW (lts T p e), p, 0, lts T p e)) hK hn (fsK_lt (by omega) 38 0 (by omega)) (fun e2 => absurd e2 (tokW_ne2 lo)) (fun _ => rfl) (fun h2 f2 x2 t2 => ?_))
          refine R_gs 71 rfl ?_
          refine W_f rfl (by first | rfl | exact ⟨rfl, by first | decide | assumption | exact Or.inl rfl | exact Or.inr rfl | exact b2i_01 _⟩) ?_
          exact h1 _ f2 x2 t2
        ·
          rw [show (nI (e - p) ≤ 8 ↔ e - p ≤ 8) from nI_leI (b := 8) (by omega) (by omega)] at hc49
          rw [if_pos (by omega)] at h1
          refine R_gs 67 rfl ?_
          refine R_k rfl rfl (c_addToken (x := (1, p, 0, [])) hK hn (by dsimp only; omega) (fun e2 => absurd (show 1 = 2 from e2) (by decide)) (fun e2 => absurd rfl e2) (fun h2 f2 x2 t2 => ?_))
          refine R_gs 71 rfl ?_
          refine W_f rfl (by first | rfl | exact ⟨rfl, by first | decide | assumption | exact Or.inl rfl | exact Or.inr rfl | exact b2i_01 _⟩) ?_
          exact h1 _ f2 x2 t2
theorem c_cutNumber (hT : TapC h T) (hO : TapOK T) (hK : TkC h K) (hn : K.1 < 1001) {p : Nat} (hp : p < T.1) (hl : ¬ isL (T.2 p) = true) (hd : isD (T.2 p) = true) (h1 : ∀ h', Fr xtp h h' → F15 h h' → TkC h' (psh K (tokA T p).1) → Q (some (.int (nI (tokA T p).2))) h') : Rc (d + 2) m_X10_cutNumber [.ref 1, .int (nI p)] h Q := by
  have o1 := hO.1
  have e0 := rn_t hp hd
  have b0 := rn_le (T := T) (g := isD) (p := p + 1) hp
  unfold tokA at h1
  rw [if_neg hl, if_pos hd] at h1
  refine R_in rfl rfl ?_
  refine R_gs 4 rfl ?_
  refine w_meas (W := fun (s : Nat × Int64) => Rw (d + 1) Q (m_X10_cutNumber, 4, [some (.ref 1), some (.int (nI p)), some (.int (nI s.1)), some (.long s.2), none], [], 262, h)) (fun s => p ≤ s.1 ∧ s.1 ≤ T.1 ∧ rnE T isD p = rnE T isD s.1 ∧ s.2 = lN64 (nuN (lts T p s.1))) (fun s => T.1 - s.1) (s0 := (p, 0)) ⟨Nat.le_refl _, by dsimp only; omega, rfl, by rw [lts_0]; rfl⟩ (fun s hi w => ?_)
  ·
    obtain ⟨e, v⟩ := s
    obtain ⟨i1, i2, i3, i4⟩ := hi
    dsimp only at i1 i2 i3 i4 ⊢
    subst i4
    refine R_gs 9 rfl ?_
    try rw [hT.1]
    refine W_b rfl (fun hc9 => ?_) (fun hc9 => ?_)
    ·
      rw [nI_leI (by omega) (by omega)] at hc9
      refine R_gs 53 rfl ?_
      have ee : rnE T isD p = e := (i3.trans (rn_f (Or.inl (by omega))))
      rw [nI_sub i1]
      rw [ee] at h1
      refine W_b rfl (fun hc53 => ?_) (fun hc53 => ?_)
      ·
        rw [show (nI (e - p) ≤ 4 ↔ e - p ≤ 4) from nI_leI (b := 4) (by omega) (by omega)] at hc53
        rw [if_neg (by omega)] at h1
        refine R_gs 67 rfl ?_
        refine R_k rfl rfl (c_addToken (x := (2, p, nuN (lts T p e), [])) hK hn (by dsimp only; omega) (fun _ => rfl) (fun e2 => absurd rfl e2) (fun h2 f2 x2 t2 => ?_))
        refine R_gs 71 rfl ?_
        refine W_f rfl (by first | rfl | exact ⟨rfl, by first | decide | assumption | exact Or.inl rfl | exact Or.inr rfl | exact b2i_01 _⟩) ?_
        exact h1 _ f2 x2 t2
      ·
        rw [show (nI (e - p) ≤ 4 ↔ e - p ≤ 4) from nI_leI (b := 4) (by omega) (by omega)] at hc53
        rw [if_pos (by omega)] at h1
        refine R_gs 67 rfl ?_
        refine R_k rfl rfl (c_addToken (x := (1, p, 0, [])) hK hn (by dsimp only; omega) (fun e2 => absurd (show 1 = 2 from e2) (by decide)) (fun e2 => absurd rfl e2) (fun h2 f2 x2 t2 => ?_))
        refine R_gs 71 rfl ?_
        refine W_f rfl (by first | rfl | exact ⟨rfl, by first | decide | assumption | exact Or.inl rfl | exact Or.inr rfl | exact b2i_01 _⟩) ?_
        exact h1 _ f2 x2 t2
    ·
      rw [nI_leI (by omega) (by omega)] at hc9
      refine R_gs 17 rfl ?_
      refine R_bl rfl rfl (Or.inl rfl) (ix_nI _) (by omega) (hT.2 e (by omega)) ?_
      refine R_k rfl rfl (c_isDigit (by have := tap_lt hO (i := e) (by omega); omega) (fun hx18 => ?_) (fun hx18 => ?_))
      ·
        refine W_bf rfl (by decide) ?_
        refine R_gs 34 rfl ?_
        refine R_bl rfl rfl (Or.inl rfl) (ix_nI _) (by omega) (hT.2 e (by omega)) ?_
        refine R_gs 4 rfl ?_
        have hdd : 48 ≤ T.2 e := (by simp only [isD, Bool.and_eq_true, decide_eq_true_eq] at hx18; exact hx18.1)
        rw [nI_1, l_num hdd (by have := tap_lt hO (i := e) (by omega); omega), ← nuN_s, ← lts_s i1]; exact w (e + 1, _) ⟨by dsimp only; omega, by dsimp only; omega, by dsimp only; rw [i3, rn_t (by omega) hx18], rfl⟩ (by dsimp only; omega)
      ·
        refine W_bt rfl (by decide) ?_
        refine R_gs 53 rfl ?_
        have ee : rnE T isD p = e := (i3.trans (rn_f (Or.inr hx18)))
        rw [nI_sub i1]
        rw [ee] at h1
        refine W_b rfl (fun hc53 => ?_) (fun hc53 => ?_)
        ·
          rw [show (nI (e - p) ≤ 4 ↔ e - p ≤ 4) from nI_leI (b := 4) (by omega) (by omega)] at hc53
          rw [if_neg (by omega)] at h1
          refine R_gs 67 rfl ?_
          refine R_k rfl rfl (c_addToken (x := (2, p, nuN (lts T p e), [])) hK hn (by dsimp only; omega) (fun _ => rfl) (fun e2 => absurd rfl e2) (fun h2 f2 x2 t2 => ?_))
          refine R_gs 71 rfl ?_
          refine W_f rfl (by first | rfl | exact ⟨rfl, by first | decide | assumption | exact Or.inl rfl | exact Or.inr rfl | exact b2i_01 _⟩) ?_
          exact h1 _ f2 x2 t2
        ·
          rw [show (nI (e - p) ≤ 4 ↔ e - p ≤ 4) from nI_leI (b := 4) (by omega) (by omega)] at hc53
          rw [if_pos (by omega)] at h1
          refine R_gs 67 rfl ?_
          refine R_k rfl rfl (c_addToken (x := (1, p, 0, [])) hK hn (by dsimp only; omega) (fun e2 => absurd (show 1 = 2 from e2) (by decide)) (fun e2 => absurd rfl e2) (fun h2 f2 x2 t2 => ?_))
          refine R_gs 71 rfl ?_
          refine W_f rfl (by first | rfl | exact ⟨rfl, by first | decide | assumption | exact Or.inl rfl | exact Or.inr rfl | exact b2i_01 _⟩) ?_
          exact h1 _ f2 x2 t2
theorem tokS_ne2 {c : Nat} (h : 0 < c) : ¬ tokS c = 2 := by
  intro e
  unfold tokS at e
  rcases fsK_is (v := c) (o := 1) 38 0 with e1 | ⟨e1, -, -⟩
  · omega
  · rw [e] at e1
    have : c = 0 := e1.symm
    omega
theorem c_cut (hT : TapC h T) (hO : TapOK T) (hK : TkC h K) (hn : K.1 < 1001) {p : Nat} (hp : p < T.1) (h1 : ∀ h', Fr xtp h h' → F15 h h' → TkC h' (psh K (tokA T p).1) → Q (some (.int (nI (tokA T p).2))) h') : Rc (d + 3) m_X10_cut [.ref 1, .int (nI p)] h Q := by
  have o1 := hO.1
  have t1 := tap_lt hO hp
  have t0 : 0 < T.2 p := (by rcases hO.2 p hp with e | e <;> omega)
  refine R_in rfl rfl ?_
  refine R_gs 5 rfl ?_
  refine R_bl rfl rfl (Or.inl rfl) (ix_nI _) (by omega) (hT.2 p hp) ?_
  refine R_k rfl rfl (c_isLetter (by omega) (fun hx6 => ?_) (fun hx6 => ?_))
  ·
    refine W_bf rfl (by decide) ?_
    refine R_gs 14 rfl ?_
    refine R_k rfl rfl (c_cutWord hT hO hK hn hp hx6 (fun h2 f2 x2 t2 => ?_))
    refine W_f rfl (by first | rfl | exact ⟨rfl, by first | decide | assumption | exact Or.inl rfl | exact Or.inr rfl | exact b2i_01 _⟩) ?_
    exact h1 _ f2 x2 t2
  ·
    refine W_bt rfl (by decide) ?_
    refine R_gs 23 rfl ?_
    refine R_bl rfl rfl (Or.inl rfl) (ix_nI _) (by omega) (hT.2 p hp) ?_
    refine R_k rfl rfl (c_isDigit (by omega) (fun hx24 => ?_) (fun hx24 => ?_))
    ·
      refine W_bf rfl (by decide) ?_
      refine R_gs 32 rfl ?_
      refine R_k rfl rfl (c_cutNumber hT hO hK hn hp (by rw [hx6]; decide) hx24 (fun h2 f2 x2 t2 => ?_))
      refine W_f rfl (by first | rfl | exact ⟨rfl, by first | decide | assumption | exact Or.inl rfl | exact Or.inr rfl | exact b2i_01 _⟩) ?_
      exact h1 _ f2 x2 t2
    ·
      refine W_bt rfl (by decide) ?_
      refine R_gs 42 rfl ?_
      refine R_bl rfl rfl (Or.inl rfl) (ix_nI _) (by omega) (hT.2 p hp) ?_
      refine R_gs 47 rfl ?_
      rw [nI_l (by omega), show lN (T.2 p) = lN64 (T.2 p) from rfl]
      refine R_k rfl rfl (c_spelled (v := T.2 p) (o := 1) (by omega) (by omega) ?_)
      refine R_gs 52 rfl ?_
      refine R_k rfl rfl (c_addToken (x := (tokS (T.2 p), p, 0, [])) hK hn (fsK_lt (by omega) 38 0 (by omega)) (fun e2 => absurd e2 (tokS_ne2 t0)) (fun e2 => absurd rfl e2) (fun h2 f2 x2 t2 => ?_))
      refine R_gs 58 rfl ?_
      refine W_f rfl (by first | rfl | exact ⟨rfl, by first | decide | assumption | exact Or.inl rfl | exact Or.inr rfl | exact b2i_01 _⟩) ?_
      rw [nI_1]; rw [show tokA T p = ((tokS (T.2 p), p, 0, []), p + 1) from by unfold tokA; rw [if_neg (by rw [hx6]; decide), if_neg (by rw [hx24]; decide)]] at h1; exact h1 _ f2 x2 t2
end
