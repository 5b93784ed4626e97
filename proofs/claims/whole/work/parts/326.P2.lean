theorem lg_eq {a b : Int64} : lg_cmp a b = 0 ↔ a = b := by
  unfold lg_cmp
  by_cases h1 : a > b
  · rw [if_pos h1]; exact ⟨fun e => absurd e (by decide), fun e => by rw [e] at h1; exact absurd h1 (fun h => Int64.lt_irrefl h)⟩
  · rw [if_neg h1]
    by_cases h2 : a = b
    · rw [if_pos h2]; exact ⟨fun _ => h2, fun _ => rfl⟩
    · rw [if_neg h2]; exact ⟨fun e => absurd e (by decide), fun e => absurd e h2⟩
theorem l64_eq {a b : Nat} (ha : a < 2 ^ 63) (hb : b < 2 ^ 63) : lN64 a = lN64 b ↔ a = b := pk_lEQ ha hb
theorem SH_tk : ∀ j, j < 38 → SH (1000 + j) = (20, 4) := by decide +kernel
theorem fsK_s {v o j k : Nat} : fsK v o j (k + 1) = if TKv.getD j 0 = v then j else fsK v o (j + 1) k := rfl
theorem fsK_lt {v o : Nat} (ho : o < 38) : ∀ k j, j + k ≤ 38 → fsK v o j k < 38
  | 0, _, _ => ho
  | k + 1, j, h => by
    rw [fsK_s]
    split
    · omega
    · exact fsK_lt ho k (j + 1) (by omega)
/-- the tokens that were cut, in the class -/
def TkX (h : AH) (i : Nat) (x : TK) : Prop := hR h 3 i = some (1000 + x.1) ∧ hI h 4 i = nI x.2.1 ∧ (x.1 = 2 → hJ h 5 i = lN64 x.2.2.1) ∧ (x.2.2.2 ≠ [] → hJ h 5 i = lN64 (pkC x.2.2.2))
def TkC (h : AH) (K : TKs) : Prop := hI h 1 5 = nI K.1 ∧ ∀ i, i < K.1 → TkX h i (K.2 i)
def xtp (q : Nat) : Bool := Nat.beq q 1 || (Nat.ble 3 q && Nat.ble q 5)
/-- of the tape itself only how many tokens there are -/
def F15 (h h' : AH) : Prop := (∀ k, k ≠ 5 → hI h' 1 k = hI h 1 k) ∧ hR h' 1 = hR h 1 ∧ hJ h' 1 = hJ h 1
theorem wR_at (h : AH) (a k : Nat) (v : Option Nat) (j : Nat) : hR (wR h a k v) a j = if j = k then v else hR h a j := by
  unfold Pilot.CSnapWedLaw_law_r6034_35ee8a.hR Pilot.CSnapWedLaw_law_r6034_35ee8a.wR up2; simp
theorem wJ_at (h : AH) (a k : Nat) (v : Int64) (j : Nat) : hJ (wJ h a k v) a j = if j = k then v else hJ h a j := by
  unfold Pilot.CSnapWedLaw_law_r6034_35ee8a.hJ Pilot.CSnapWedLaw_law_r6034_35ee8a.wJ up2; simp
section
variable {d : Nat} {h h' : AH} {T : ST'} {K : TKs} {Q : Option Value → AH → Prop}
theorem c_spelled {v o : Nat} (hv : v < 2 ^ 63) (ho : o < 38) (h1 : Q (some (.ref (1000 + fsK v o 0 38))) h) : Rc (d + 1) m_X11_spelled [.long (lN64 v), .ref (1000 + o)] h Q := by
  refine R_in rfl rfl ?_
  refine R_gs 2 rfl ?_
  refine w_inv (W := fun j (_ : Unit) => Rw d Q (m_X11_spelled, 2, [some (.long (lN64 v)), none, some (.ref (1000 + o)), some (.int (nI j))], [], 262, h)) 38 (fun j _ => Q (some (.ref (1000 + fsK v o j (38 - j)))) h) (s0 := ()) h1 (fun j _ hj hi w => ?_) (fun _ hi => ?_)
  ·
    rw [show 38 - j = 38 - (j + 1) + 1 by omega, fsK_s] at hi
    have tl := TKN_L j hj
    refine R_gs 6 rfl ?_
    refine W_c rfl (Or.inr rfl) ?_
    refine W_bf rfl (fun e => absurd ((nI_leI (a := 38) (by omega) (by omega)).mp e) (by omega)) ?_
    refine R_gs 14 rfl ?_
    refine W_c rfl (nI_in hj (by omega)) ?_
    rw [nI_clamp (by omega)]
    refine W_c rfl (⟨by rw [SH_tk j hj], Or.inr (Nat.le_add_right 1000 j)⟩ : (SH (1000 + j)).1 = 20 ∧ (1000 + j < 262 ∨ 1000 ≤ 1000 + j)) ?_
    rw [show tkF 0 (1000 + j - 1000) = .long (lN64 (TKv.getD j 0)) from by rw [Nat.add_sub_cancel_left, ← tl.1]; rfl]
    refine R_gs 20 rfl ?_
    refine W_b rfl (fun hc20 => ?_) (fun hc20 => ?_)
    ·
      rw [lg_eq, l64_eq tl.2 hv] at hc20
      refine R_gs 27 rfl ?_
      refine W_c rfl (nI_in hj (by omega)) ?_
      rw [nI_clamp (by omega)]
      refine W_f rfl (by first | rfl | exact ⟨rfl, by first | decide | assumption | exact Or.inl rfl | exact Or.inr rfl | exact b2i_01 _⟩) ?_
      rw [if_pos hc20] at hi; exact hi
    ·
      rw [lg_eq, l64_eq tl.2 hv] at hc20
      refine R_gs 2 rfl ?_
      rw [nI_1]; rw [if_neg hc20] at hi; exact w () hi
  ·
    refine R_gs 6 rfl ?_
    refine W_c rfl (Or.inr rfl) ?_
    refine W_bt rfl (by decide) ?_
    refine R_gs 36 rfl ?_
    refine W_f rfl (by first | rfl | exact ⟨rfl, by first | decide | assumption | exact Or.inl rfl | exact Or.inr rfl | exact b2i_01 _⟩) ?_
    exact hi
theorem c_isLetter {c : Nat} (hc : c < 256) (h1 : isL c = true → Q (some (.int 1)) h) (h0 : isL c = false → Q (some (.int 0)) h) : Rc (d + 1) m_X10_isLetter [.int (nI c)] h Q := by
  unfold isL at h1 h0
  refine R_in rfl rfl ?_
  refine R_gs 3 rfl ?_
  refine W_b rfl (fun hc3 => ?_) (fun hc3 => ?_)
  ·
    rw [show (nI c < 97 ↔ c < 97) from nI_ltI (b := 97) (by omega) (by omega)] at hc3
    refine R_gs 17 rfl ?_
    refine W_f rfl (by first | rfl | exact ⟨rfl, by first | decide | assumption | exact Or.inl rfl | exact Or.inr rfl | exact b2i_01 _⟩) ?_
    exact h0 (by rw [decide_eq_false (by omega)]; rfl)
  ·
    rw [show (nI c < 97 ↔ c < 97) from nI_ltI (b := 97) (by omega) (by omega)] at hc3
    refine R_gs 9 rfl ?_
    refine W_b rfl (fun hc9 => ?_) (fun hc9 => ?_)
    ·
      rw [show ((122 : Int32) < nI c ↔ 122 < c) from nI_ltI (a := 122) (by omega) (by omega)] at hc9
      refine R_gs 17 rfl ?_
      refine W_f rfl (by first | rfl | exact ⟨rfl, by first | decide | assumption | exact Or.inl rfl | exact Or.inr rfl | exact b2i_01 _⟩) ?_
      exact h0 (by rw [decide_eq_false (by omega : ¬ c ≤ 122), Bool.and_false])
    ·
      rw [show ((122 : Int32) < nI c ↔ 122 < c) from nI_ltI (a := 122) (by omega) (by omega)] at hc9
      refine R_gs 17 rfl ?_
      refine W_f rfl (by first | rfl | exact ⟨rfl, by first | decide | assumption | exact Or.inl rfl | exact Or.inr rfl | exact b2i_01 _⟩) ?_
      exact h1 (by rw [decide_eq_true (by omega : 97 ≤ c), decide_eq_true (by omega : c ≤ 122)]; rfl)
theorem c_isDigit {c : Nat} (hc : c < 256) (h1 : isD c = true → Q (some (.int 1)) h) (h0 : isD c = false → Q (some (.int 0)) h) : Rc (d + 1) m_X10_isDigit [.int (nI c)] h Q := by
  unfold isD at h1 h0
  refine R_in rfl rfl ?_
  refine R_gs 3 rfl ?_
  refine W_b rfl (fun hc3 => ?_) (fun hc3 => ?_)
  ·
    rw [show (nI c < 48 ↔ c < 48) from nI_ltI (b := 48) (by omega) (by omega)] at hc3
    refine R_gs 17 rfl ?_
    refine W_f rfl (by first | rfl | exact ⟨rfl, by first | decide | assumption | exact Or.inl rfl | exact Or.inr rfl | exact b2i_01 _⟩) ?_
    exact h0 (by rw [decide_eq_false (by omega)]; rfl)
  ·
    rw [show (nI c < 48 ↔ c < 48) from nI_ltI (b := 48) (by omega) (by omega)] at hc3
    refine R_gs 9 rfl ?_
    refine W_b rfl (fun hc9 => ?_) (fun hc9 => ?_)
    ·
      rw [show ((57 : Int32) < nI c ↔ 57 < c) from nI_ltI (a := 57) (by omega) (by omega)] at hc9
      refine R_gs 17 rfl ?_
      refine W_f rfl (by first | rfl | exact ⟨rfl, by first | decide | assumption | exact Or.inl rfl | exact Or.inr rfl | exact b2i_01 _⟩) ?_
      exact h0 (by rw [decide_eq_false (by omega : ¬ c ≤ 57), Bool.and_false])
    ·
      rw [show ((57 : Int32) < nI c ↔ 57 < c) from nI_ltI (a := 57) (by omega) (by omega)] at hc9
      refine R_gs 17 rfl ?_
      refine W_f rfl (by first | rfl | exact ⟨rfl, by first | decide | assumption | exact Or.inl rfl | exact Or.inr rfl | exact b2i_01 _⟩) ?_
      exact h1 (by rw [decide_eq_true (by omega : 48 ≤ c), decide_eq_true (by omega : c ≤ 57)]; rfl)
theorem ad_X {x : TK} {v : Int64} {i : Nat} {w : Int32} (hK : TkC h K) (hi : i < (psh K x).1) (h2 : x.1 = 2 → v = lN64 x.2.2.1) (hl : x.2.2.2 ≠ [] → v = lN64 (pkC x.2.2.2)) : TkX (wI (wJ (wI (wR h 3 K.1 (some (1000 + x.1))) 4 K.1 (nI x.2.1)) 5 K.1 v) 1 5 w) i ((psh K x).2 i) := by
  have hi : i < K.1 + 1 := hi
  show TkX _ i (if i = K.1 then x else K.2 i)
  have e3 : hR (wI (wJ (wI (wR h 3 K.1 (some (1000 + x.1))) 4 K.1 (nI x.2.1)) 5 K.1 v) 1 5 w) 3 i = if i = K.1 then some (1000 + x.1) else hR h 3 i := wR_at h 3 K.1 (some (1000 + x.1)) i
  have e4 : hI (wI (wJ (wI (wR h 3 K.1 (some (1000 + x.1))) 4 K.1 (nI x.2.1)) 5 K.1 v) 1 5 w) 4 i = if i = K.1 then nI x.2.1 else hI h 4 i := wI_at (wR h 3 K.1 (some (1000 + x.1))) 4 K.1 (nI x.2.1) i
  have e5 : hJ (wI (wJ (wI (wR h 3 K.1 (some (1000 + x.1))) 4 K.1 (nI x.2.1)) 5 K.1 v) 1 5 w) 5 i = if i = K.1 then v else hJ h 5 i := wJ_at _ _ _ _ _
  unfold TkX
  rw [e3, e4, e5]
  by_cases e : i = K.1
  · rw [if_pos e, if_pos e, if_pos e, if_pos e]; exact ⟨rfl, rfl, h2, hl⟩
  · rw [if_neg e, if_neg e, if_neg e, if_neg e]; exact hK.2 i (by omega)
theorem c_addToken {x : TK} {v : Int64} (hK : TkC h K) (hn : K.1 < 1001) (ht : x.1 < 38) (h2 : x.1 = 2 → v = lN64 x.2.2.1) (hl : x.2.2.2 ≠ [] → v = lN64 (pkC x.2.2.2)) (h1 : ∀ h', Fr xtp h h' → F15 h h' → TkC h' (psh K x) → Q none h') : Rc (d + 1) m_X10_addToken [.ref 1, .ref (1000 + x.1), .int (nI x.2.1), .long v] h Q := by
  refine R_in rfl rfl ?_
  refine R_gs 7 rfl ?_
  try rw [hK.1]
  refine W_bf rfl (fun e => absurd ((nI_leI (a := 1001) (by omega) (by omega)).mp e) (by omega)) ?_
  refine R_gs 19 rfl ?_
  try rw [hK.1]
  refine R_ts rfl rfl rfl (ix_nI _) (by omega) (by omega) ?_
  refine R_gs 29 rfl ?_
  try rw [hK.1]
  rw [show hI (wR h 3 K.1 (some (1000 + x.1))) 1 5 = nI K.1 from hK.1]
  refine R_is rfl rfl (ix_nI _) (by omega) ?_
  refine R_gs 39 rfl ?_
  try rw [hK.1]
  rw [show hI (wI (wR h 3 K.1 (some (1000 + x.1))) 4 K.1 (nI x.2.1)) 1 5 = nI K.1 from hK.1]
  refine R_ls rfl rfl (ix_nI _) (by omega) ?_
  refine R_gs 50 rfl ?_
  try rw [hK.1]
  refine W_f rfl (by first | rfl | exact ⟨rfl, by first | decide | assumption | exact Or.inl rfl | exact Or.inr rfl | exact b2i_01 _⟩) ?_
  rw [show hI (wJ (wI (wR h 3 K.1 (some (1000 + x.1))) 4 K.1 (nI x.2.1)) 5 K.1 v) 1 5 = nI K.1 from hK.1, nI_1]
  refine h1 _ ((((Fr.refl xtp h).wR rfl).wI rfl).wJ rfl |>.wI rfl) ⟨fun k hk => ?_, rfl, rfl⟩ ⟨?_, fun i hi => ?_⟩
  · exact wI_at _ _ _ _ _ |>.trans (if_neg hk)
  · exact wI_at _ _ _ _ _ |>.trans (if_pos rfl)
  · exact ad_X hK hi h2 hl
end
