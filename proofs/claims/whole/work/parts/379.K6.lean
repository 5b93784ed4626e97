/-! matches -/
def posS (L : SL) (S : SS) : Int32 := lp (fun p s => lp (fun i s => if free L S p (p + 1 + i) = true then s ||| nI (2 ^ pr p (p + 1 + i)) else s) (lP L - (p + 1)) s) (lP L) 0
def parG (P x : Nat) : Nat → Nat → Nat
  | _, 0 => x
  | j, k + 1 => if (!decide (j = x) && P.testBit (pr x j)) = true then j else parG P x (j + 1) k
def parN (P x : Nat) : Nat := parG P x 0 6
def hasN (L : SL) (P x : Nat) : Nat := if parN P x = x then 0 else lG L x (parN P x)
def lvB (L : SL) (S : SS) (P p q : Nat) : Bool := free L S p q && (decide (hasN L P p < lG L p q) && decide (hasN L P q < lG L q p))
def lasB (L : SL) (S : SS) (P : Nat) : Bool := !anyN (lP L) (fun p => anyN (lP L - (p + 1)) (fun i => lvB L S P p (p + 1 + i)))
abbrev subB (L : SL) (S : SS) (P : Nat) : Prop := ∀ k, k < 15 → P.testBit k = true → bt (posS L S) k = true
def mtG (L : SL) (S : SS) (s : Nat × Nat) (P : Nat) : Nat × Nat := if subB L S P ∧ lasB L S P = true then (s.1 + 1, if s.1 = 0 then P else s.2) else s
def mtR (L : SL) (S : SS) : Nat × Nat := PRS.foldl (mtG L S) (0, 0)
def matA (L : SL) (S : SS) (w : Int32) : Int32 := if w = -1 then nI (mtR L S).1 else if inN w (lP L) = true then (if (mtR L S).1 = 0 then -2 else nI (parN (mtR L S).2 w.toNatClampNeg)) else -2
theorem pr_inj : ∀ p, p < 6 → ∀ q, q < 6 → p < q → ∀ u, u < 6 → ∀ v, v < 6 → u < v → pr p q = pr u v → p = u ∧ q = v := by
  intro p hp q hq h1 u hu v hv h2 e
  have e1 := lh_pr p hp q hq h1
  have e2 := lh_pr u hu v hv h2
  rw [e] at e1
  omega
theorem parG_le (P x : Nat) (hx : x < 6) : ∀ k j, j + k ≤ 6 → parG P x j k < 6
  | 0, _, _ => hx
  | k + 1, j, h => by
    show (if _ then _ else _) < 6
    split
    · omega
    · exact parG_le P x hx k (j + 1) (by omega)
theorem parN_lt {P x : Nat} (hx : x < 6) : parN P x < 6 := parG_le P x hx 6 0 (by omega)
theorem parG_is (P x : Nat) : ∀ k j, parG P x j k ≠ x → P.testBit (pr x (parG P x j k)) = true ∧ j ≤ parG P x j k ∧ parG P x j k < j + k
  | 0, _, h => absurd rfl h
  | k + 1, j, h => by
    have hs : parG P x j (k + 1) = if (!decide (j = x) && P.testBit (pr x j)) = true then j else parG P x (j + 1) k := rfl
    rw [hs] at h ⊢
    split at h
    · rename_i e
      rw [if_pos e]
      simp only [Bool.and_eq_true] at e
      exact ⟨e.2, by omega, by omega⟩
    · rename_i e
      rw [if_neg e]
      have := parG_is P x k (j + 1) h
      exact ⟨this.1, by omega, by omega⟩
theorem parN_is {P x : Nat} (h : parN P x ≠ x) : P.testBit (pr x (parN P x)) = true := (parG_is P x 6 0 h).1
section
variable {d a : Nat} {h h' : AH} {L : SL} {S : SS} {H : SH'} {B : SB'} {M : SM'} {D : SD'} {T : ST'} {N : SN'} {Q : Option Value → AH → Prop}
theorem pos_row (hO : LandOK L) {p : Nat} (hp : p < lP L) (s : Int32) : ∀ n, n ≤ lP L - (p + 1) → ∀ i, i < 32 → bt (lp (fun i s => if free L S p (p + 1 + i) = true then s ||| nI (2 ^ pr p (p + 1 + i)) else s) n s) i = (bt s i || anyN n (fun j => free L S p (p + 1 + j) && decide (i = pr p (p + 1 + j))))
  | 0, _, i, hi => by show bt s i = (bt s i || false); rw [Bool.or_false]
  | n + 1, hn, i, hi => by
    have o3 := hO.2.2.1
    have ih := pos_row hO hp s n (by omega) i hi
    rw [anyN_s]
    show bt (if free L S p (p + 1 + n) = true then _ else _) i = _
    have hk := pr_lt p (by omega) (p + 1 + n) (by omega) (by omega)
    split
    · rename_i e
      rw [pb_or (by omega) hi, ih, e, Bool.true_and, Bool.or_assoc]
    · rename_i e
      rw [ih, show free L S p (p + 1 + n) = false from by cases e2 : free L S p (p + 1 + n); rfl; exact absurd e2 e, Bool.false_and, Bool.or_false]
theorem pos_all (hO : LandOK L) : ∀ n, n ≤ lP L → ∀ i, i < 32 → bt (lp (fun p s => lp (fun i s => if free L S p (p + 1 + i) = true then s ||| nI (2 ^ pr p (p + 1 + i)) else s) (lP L - (p + 1)) s) n 0) i = anyN n (fun p => anyN (lP L - (p + 1)) (fun j => free L S p (p + 1 + j) && decide (i = pr p (p + 1 + j))))
  | 0, _, i, hi => (by decide +kernel : ∀ i, i < 32 → bt 0 i = false) i hi
  | n + 1, hn, i, hi => by
    rw [anyN_s]
    show bt (lp _ (lP L - (n + 1)) (lp _ n 0)) i = _
    rw [pos_row hO (by omega) _ _ (Nat.le_refl _) i hi, pos_all hO n (by omega) i hi]
theorem pos_bt (hO : LandOK L) {p q : Nat} (hpq : p < q) (hq : q < lP L) : bt (posS L S) (pr p q) = free L S p q := by
  have o3 := hO.2.2.1
  have hk := pr_lt p (by omega) q (by omega) (by omega)
  unfold posS
  rw [pos_all hO (lP L) (Nat.le_refl _) _ (by omega), Bool.eq_iff_iff, anyN_iff]
  constructor
  · rintro ⟨u, hu, e⟩
    obtain ⟨j, hj, e2⟩ := (anyN_iff _ _).mp e
    simp only [Bool.and_eq_true, decide_eq_true_eq] at e2
    obtain ⟨rfl, e3⟩ := pr_inj p (by omega) q (by omega) hpq u (by omega) (u + 1 + j) (by omega) (by omega) e2.2
    rw [e3]; exact e2.1
  · intro e
    refine ⟨p, by omega, (anyN_iff _ _).mpr ⟨q - (p + 1), by omega, ?_⟩⟩
    rw [show p + 1 + (q - (p + 1)) = q by omega, e, decide_eq_true rfl]; rfl
theorem posF (hO : LandOK L) {k : Nat} (hk : k < 15) (h : bt (posS L S) k = true) : hiP k < lP L ∧ free L S (loP k) (hiP k) = true := by
  have o3 := hO.2.2.1
  obtain ⟨l1, l2, l3, -⟩ := pr_lh k hk
  have h' := h
  unfold posS at h'
  rw [pos_all hO (lP L) (Nat.le_refl _) _ (by omega), anyN_iff] at h'
  obtain ⟨u, hu, e⟩ := h'
  obtain ⟨j, hj, e2⟩ := (anyN_iff _ _).mp e
  simp only [Bool.and_eq_true, decide_eq_true_eq] at e2
  obtain ⟨e3, e4⟩ := lh_pr u (by omega) (u + 1 + j) (by omega) (by omega)
  rw [← e2.2] at e3 e4
  rw [e3, e4]
  exact ⟨by omega, e2.1⟩
theorem pos_b15 (hO : LandOK L) : B15 (posS L S) := fun i h1 h2 => by
  have o3 := hO.2.2.1
  cases e : bt (posS L S) i with
  | false => rfl
  | true =>
    unfold posS at e
    rw [pos_all hO (lP L) (Nat.le_refl _) _ h2, anyN_iff] at e
    obtain ⟨u, hu, e⟩ := e
    obtain ⟨j, hj, e2⟩ := (anyN_iff _ _).mp e
    simp only [Bool.and_eq_true, decide_eq_true_eq] at e2
    have := pr_lt u (by omega) (u + 1 + j) (by omega) (by omega)
    omega
theorem c_possiblePairs (ha : a = 143 ∨ a = 171) (hO : LandOK L) (hL : LandC h a L) (hS : SceneC h 7 L S) (h1 : Q (some (.int (posS L S))) h) : Rc (d + 4) m_X4_possiblePairs [.ref a, .ref 7] h Q := by
  obtain ⟨o1, o2, o3, o4, -⟩ := id hO
  have ha' := ha
  rcases ha with rfl | rfl
  all_goals
    refine R_in rfl rfl ?_
    refine R_gs 4 rfl ?_
    refine w_lp (W := fun p s => ∀ x4 : Option Value, Rw (d + 3) Q (m_X4_possiblePairs, 4, [_, _, some (.int s), some (.int (nI p)), x4], [], 262, h)) (fun p s => lp (fun i s => if free L S p (p + 1 + i) = true then s ||| nI (2 ^ pr p (p + 1 + i)) else s) (lP L - (p + 1)) s) (lP L) (fun _ _ => True) 0 trivial (fun p s hp _ => ⟨trivial, fun w => ?_⟩) (fun _ => ?_) none
    ·
      intro x4
      refine R_gs 9 rfl ?_
      rw [hL.P]
      refine W_bf rfl (ltc hp (by omega)) ?_
      refine R_gs 17 rfl ?_
      rw [nI_1]
      refine w_lp (W := fun i s => Rw (d + 3) Q (m_X4_possiblePairs, 17, [_, _, some (.int s), some (.int (nI p)), some (.int (nI (p + 1 + i)))], [], 262, h)) (fun i s => if free L S p (p + 1 + i) = true then s ||| nI (2 ^ pr p (p + 1 + i)) else s) (lP L - (p + 1)) (fun _ _ => True) s trivial (fun i s hi _ => ⟨trivial, fun w2 => ?_⟩) (fun _ => ?_)
      ·
        refine R_gs 23 rfl ?_
        rw [hL.P]
        refine W_bf rfl (ltc (by omega) (by omega)) ?_
        refine R_gs 31 rfl ?_
        refine R_k rfl rfl (c_mayPair ha' hO hL (Or.inl rfl) hS hp (by omega) (by omega) (fun hx31 => ?_) (fun hx31 => ?_))
        ·
          refine W_bf rfl (by decide) ?_
          refine R_gs 41 rfl ?_
          refine R_k rfl rfl (c_pairBit (by omega) (by omega) (by omega) ?_)
          refine R_gs 17 rfl ?_
          rw [nI_1]; rw [if_pos hx31] at w2; exact w2
        ·
          refine W_bt rfl (by decide) ?_
          refine R_gs 17 rfl ?_
          rw [nI_1]; rw [if_neg (by rw [hx31]; decide)] at w2; exact w2
      ·
        refine R_gs 23 rfl ?_
        rw [hL.P]
        refine W_bt rfl ((nI_leI (by omega) (by omega)).mpr (by omega)) ?_
        refine R_gs 4 rfl ?_
        rw [nI_1]; exact w _
    ·
      intro x4
      refine R_gs 9 rfl ?_
      rw [hL.P]
      refine W_bt rfl (gec (by omega)) ?_
      refine R_gs 59 rfl ?_
      refine W_f rfl (by first | rfl | exact ⟨rfl, by first | decide | assumption | exact Or.inl rfl | exact Or.inr rfl | exact b2i_01 _⟩) ?_
      exact h1
theorem c_partnerIn {P x : Nat} (hP : P < 32768) (hx : x < 6) (h1 : Q (some (.int (nI (parN P x)))) h) : Rc (d + 2) m_X4_partnerIn [.int (nI P), .int (nI x)] h Q := by
  refine R_in rfl rfl ?_
  refine R_gs 2 rfl ?_
  refine w_inv (W := fun j (_ : Unit) => Rw (d + 1) Q (m_X4_partnerIn, 2, [some (.int (nI P)), some (.int (nI x)), some (.int (nI j))], [], 262, h)) 6 (fun j _ => Q (some (.int (nI (parG P x j (6 - j))))) h) (s0 := ()) h1 (fun j _ hj hi w => ?_) (fun _ hi => ?_)
  ·
    rw [show 6 - j = 6 - (j + 1) + 1 by omega] at hi
    rw [show parG P x j (6 - (j + 1) + 1) = if (!decide (j = x) && P.testBit (pr x j)) = true then j else parG P x (j + 1) (6 - (j + 1)) from rfl] at hi
    refine R_gs 5 rfl ?_
    refine W_bf rfl (fun e => absurd ((nI_leI (a := 6) (by omega) (by omega)).mp e) (by omega)) ?_
    refine R_gs 10 rfl ?_
    refine W_b rfl (fun hc10 => ?_) (fun hc10 => ?_)
    ·
      rw [nI_eq (by omega) (by omega)] at hc10
      refine R_gs 2 rfl ?_
      rw [nI_1]; rw [if_neg (by simp [hc10])] at hi; exact w () hi
    ·
      rw [nI_eq (by omega) (by omega)] at hc10
      refine R_gs 16 rfl ?_
      refine R_k rfl rfl (c_pairBit (by omega) (by omega) (Ne.symm hc10) ?_)
      refine R_gs 20 rfl ?_
      have hk := pr_lt x hx j hj (Ne.symm hc10)
      have eb : bt (nI P) (pr x j) = P.testBit (pr x j) := by { rw [bt_nI, decide_eq_true (by omega : pr x j < 32), Bool.true_and] }
      refine W_b rfl (fun hc20 => ?_) (fun hc20 => ?_)
      ·
        rw [pb_and (by omega)] at hc20
        refine R_gs 2 rfl ?_
        rw [nI_1]; rw [if_neg (by rw [← eb, hc20]; simp)] at hi; exact w () hi
      ·
        rw [pb_and (by omega)] at hc20
        refine R_gs 24 rfl ?_
        refine W_f rfl (by first | rfl | exact ⟨rfl, by first | decide | assumption | exact Or.inl rfl | exact Or.inr rfl | exact b2i_01 _⟩) ?_
        rw [if_pos (by rw [← eb]; simp [hc10]; cases e : bt (nI P) (pr x j); exact absurd e hc20; rfl)] at hi; exact hi
  ·
    refine R_gs 5 rfl ?_
    refine W_bt rfl (by decide) ?_
    refine R_gs 32 rfl ?_
    refine W_f rfl (by first | rfl | exact ⟨rfl, by first | decide | assumption | exact Or.inl rfl | exact Or.inr rfl | exact b2i_01 _⟩) ?_
    exact hi
theorem sub_P (hO : LandOK L) {P x : Nat} (hP : subB L S P) (hx : x < lP L) : parN P x < lP L := by
  have o3 := hO.2.2.1
  by_cases e : parN P x = x
  · rw [e]; exact hx
  · have h1 := parN_is e
    have h2 := parN_lt (P := P) (x := x) (by omega)
    have hk := pr_lt x (by omega) (parN P x) h2 (Ne.symm e)
    have h3 := posF hO hk (hP _ hk h1)
    rcases Nat.lt_or_ge x (parN P x) with h | h
    · rw [(lh_pr x (by omega) (parN P x) h2 h).2] at h3; exact h3.1
    · omega
theorem has_le (hO : LandOK L) {P x : Nat} (hP : subB L S P) (hx : x < lP L) : hasN L P x ≤ 9 := by
  unfold hasN
  split
  · omega
  · exact (hO.2.2.2.1 x hx).2.2.2.2 _ (sub_P hO hP hx)
theorem c_isLasting (ha : a = 143 ∨ a = 171) (hO : LandOK L) (hL : LandC h a L) {P : Nat} (hbP : P < 32768) (hP : subB L S P) (h1 : lasB L S P = true → ∀ h', Fr (fun q => Nat.beq q 139) h h' → Q (some (.int 1)) h') (h0 : lasB L S P = false → ∀ h', Fr (fun q => Nat.beq q 139) h h' → Q (some (.int 0)) h') : Rc (d + 3) m_X4_isLasting [.ref 136, .ref a, .int (posS L S), .int (nI P)] h Q := by
  obtain ⟨o1, o2, o3, o4, -⟩ := id hO
  have ha' := ha
  rcases ha with rfl | rfl
  ·
    refine R_in rfl rfl ?_
    refine R_gs 3 rfl ?_
    refine w_inv (W := fun p (g : AH) => ∀ x5 x6 : Option Value, Rw (d + 2) Q (m_X4_isLasting, 3, [some (.ref 136), some (.ref 143), some (.int (posS L S)), some (.int (nI P)), some (.int (nI p)), x5, x6], [], 262, g)) (lP L) (fun p g => Fr (fun q => Nat.beq q 139) h g ∧ ∀ x, x < p → hI g 139 x = nI (hasN L P x)) (s0 := h) ⟨Fr.refl _ h, fun x hx => absurd hx (by omega)⟩ (fun p g hp hi w => ?_) (fun g hi => ?_) none none
    ·
      intro x5 x6
      obtain ⟨i1, i2⟩ := hi
      have gL := hL.fr hO i1 (by decide)
      have hpp := sub_P hO hP hp
      refine R_gs 9 rfl ?_
      rw [gL.P]
      refine W_bf rfl (ltc hp (by omega)) ?_
      refine R_gs 15 rfl ?_
      refine R_k rfl rfl (c_partnerIn hbP (by omega) ?_)
      refine R_gs 30 rfl ?_
      refine W_b rfl (fun hc30 => ?_) (fun hc30 => ?_)
      ·
        rw [nI_eq (by omega) (by omega)] at hc30
        refine R_gs 47 rfl ?_
        refine R_is rfl (by first | rfl | exact shO (by decide) (by omega) | exact shG (by decide) (by omega)) (by repeat (first | with_reducible apply ix_add | with_reducible apply ix_mul | with_reducible exact ix_nI _ | with_reducible exact ix_lit _ | exact rfl)) (by omega) ?_
        refine R_gs 3 rfl ?_
        rw [nI_1]; refine w _ ⟨i1.wI rfl, fun x hx => ?_⟩ _ _
        rw [wI_at]; by_cases e : x = p; rw [if_pos e, e]; exact congrArg nI (show 0 = hasN L P p from (if_pos hc30).symm); rw [if_neg e]; exact i2 x (by omega)
      ·
        rw [nI_eq (by omega) (by omega)] at hc30
        refine R_gs 43 rfl ?_
        refine R_ro rfl rfl rfl (by repeat (first | with_reducible apply ix_add | with_reducible apply ix_mul | with_reducible exact ix_nI _ | with_reducible exact ix_lit _ | exact rfl)) (by omega) ?_
        refine R_gs 46 rfl ?_
        refine R_il rfl (by first | rfl | exact shO (by decide) (by omega) | exact shG (by decide) (by omega)) (by repeat (first | with_reducible apply ix_add | with_reducible apply ix_mul | with_reducible exact ix_nI _ | with_reducible exact ix_lit _ | exact rfl)) (by omega) (by first | exact gL.G hp hpp) ?_
        refine R_is rfl (by first | rfl | exact shO (by decide) (by omega) | exact shG (by decide) (by omega)) (by repeat (first | with_reducible apply ix_add | with_reducible apply ix_mul | with_reducible exact ix_nI _ | with_reducible exact ix_lit _ | exact rfl)) (by omega) ?_
        refine R_gs 3 rfl ?_
        rw [nI_1]; refine w _ ⟨i1.wI rfl, fun x hx => ?_⟩ _ _
        rw [wI_at]; by_cases e : x = p; rw [if_pos e, e]; exact congrArg nI (show lG L p (parN P p) = hasN L P p from (if_neg hc30).symm); rw [if_neg e]; exact i2 x (by omega)
    ·
      intro x5 x6
      obtain ⟨i1, i2⟩ := hi
      have gL := hL.fr hO i1 (by decide)
      refine R_gs 9 rfl ?_
      rw [gL.P]
      refine W_bt rfl (gec (by omega)) ?_
      refine R_gs 57 rfl ?_
      unfold lasB at h1 h0
      refine w_any (W := fun p => ∀ x5 x6 : Option Value, Rw (d + 2) Q (m_X4_isLasting, 57, [some (.ref 136), some (.ref 143), some (.int (posS L S)), some (.int (nI P)), some (.int (nI p)), x5, x6], [], 262, g)) (A := Q (some (.int 0)) g) (lP L) (fun p => anyN (lP L - (p + 1)) (fun i => lvB L S P p (p + 1 + i))) (fun e => h0 (by rw [e]; rfl) g i1) (fun e => ?_) (fun p hp w1 w2 => ?_) x5 x6
      ·
        intro x5 x6
        refine R_gs 63 rfl ?_
        rw [gL.P]
        refine W_bt rfl (gec (by omega)) ?_
        refine R_gs 160 rfl ?_
        refine W_f rfl (by first | rfl | exact ⟨rfl, by first | decide | assumption | exact Or.inl rfl | exact Or.inr rfl | exact b2i_01 _⟩) ?_
        exact h1 (by rw [e]; rfl) g i1
      ·
        intro x5 x6
        refine R_gs 63 rfl ?_
        rw [gL.P]
        refine W_bf rfl (ltc hp (by omega)) ?_
        refine R_gs 72 rfl ?_
        rw [nI_1]
        refine w_any (W := fun i => ∀ x6 : Option Value, Rw (d + 2) Q (m_X4_isLasting, 72, [some (.ref 136), some (.ref 143), some (.int (posS L S)), some (.int (nI P)), some (.int (nI p)), some (.int (nI (p + 1 + i))), x6], [], 262, g)) (A := Q (some (.int 0)) g) (lP L - (p + 1)) (fun i => lvB L S P p (p + 1 + i)) w1 (fun e => ?_) (fun i hi w3 w4 => ?_) x6
        ·
          intro x6
          refine R_gs 78 rfl ?_
          rw [gL.P]
          refine W_bt rfl ((nI_leI (by omega) (by omega)).mpr (by omega)) ?_
          refine R_gs 57 rfl ?_
          rw [nI_1]; exact w2 e _ _
        ·
          intro x6
          have t1 := has_le hO hP hp
          have t2 := has_le hO hP (show p + 1 + i < lP L by omega)
          have t3 := (o4 p hp).2.2.2.2 (p + 1 + i) (by omega)
          have t4 := (o4 (p + 1 + i) (by omega)).2.2.2.2 p (by omega)
          refine R_gs 78 rfl ?_
          rw [gL.P]
          refine W_bf rfl (ltc (by omega) (by omega)) ?_
          refine R_gs 87 rfl ?_
          refine R_ro rfl rfl rfl (by repeat (first | with_reducible apply ix_add | with_reducible apply ix_mul | with_reducible exact ix_nI _ | with_reducible exact ix_lit _ | exact rfl)) (by omega) ?_
          refine R_gs 90 rfl ?_
          refine R_il rfl (by first | rfl | exact shO (by decide) (by omega) | exact shG (by decide) (by omega)) (by repeat (first | with_reducible apply ix_add | with_reducible apply ix_mul | with_reducible exact ix_nI _ | with_reducible exact ix_lit _ | exact rfl)) (by omega) (by first | exact gL.G hp (by omega)) ?_
          refine R_gs 97 rfl ?_
          refine R_il rfl (by first | rfl | exact shO (by decide) (by omega) | exact shG (by decide) (by omega)) (by repeat (first | with_reducible apply ix_add | with_reducible apply ix_mul | with_reducible exact ix_nI _ | with_reducible exact ix_lit _ | exact rfl)) (by omega) (by first | exact i2 p hp) ?_
          refine W_b rfl (fun hc98 => ?_) (fun hc98 => ?_)
          ·
            rw [nI_leI (by omega) (by omega)] at hc98
            refine R_gs 130 rfl ?_
            refine W_bt rfl (by decide) ?_
            refine R_gs 72 rfl ?_
            rw [nI_1]; exact w4 (by unfold lvB; rw [decide_eq_false (by omega : ¬ hasN L P p < lG L p (p + 1 + i))]; simp) _
          ·
            rw [nI_leI (by omega) (by omega)] at hc98
            refine R_gs 107 rfl ?_
            refine R_ro rfl rfl rfl (by repeat (first | with_reducible apply ix_add | with_reducible apply ix_mul | with_reducible exact ix_nI _ | with_reducible exact ix_lit _ | exact rfl)) (by omega) ?_
            refine R_gs 110 rfl ?_
            refine R_il rfl (by first | rfl | exact shO (by decide) (by omega) | exact shG (by decide) (by omega)) (by repeat (first | with_reducible apply ix_add | with_reducible apply ix_mul | with_reducible exact ix_nI _ | with_reducible exact ix_lit _ | exact rfl)) (by omega) (by first | exact gL.G (by omega) hp) ?_
            refine R_gs 117 rfl ?_
            refine R_il rfl (by first | rfl | exact shO (by decide) (by omega) | exact shG (by decide) (by omega)) (by repeat (first | with_reducible apply ix_add | with_reducible apply ix_mul | with_reducible exact ix_nI _ | with_reducible exact ix_lit _ | exact rfl)) (by omega) (by first | exact i2 (p + 1 + i) (by omega)) ?_
            refine W_b rfl (fun hc118 => ?_) (fun hc118 => ?_)
            ·
              rw [nI_leI (by omega) (by omega)] at hc118
              refine R_gs 130 rfl ?_
              refine W_bt rfl (by decide) ?_
              refine R_gs 72 rfl ?_
              rw [nI_1]; exact w4 (by unfold lvB; rw [decide_eq_false (by omega : ¬ hasN L P (p + 1 + i) < lG L (p + 1 + i) p)]; simp) _
            ·
              rw [nI_leI (by omega) (by omega)] at hc118
              refine R_gs 130 rfl ?_
              refine W_bf rfl (by decide) ?_
              refine R_gs 138 rfl ?_
              refine R_k rfl rfl (c_pairBit (by omega) (by omega) (by omega) ?_)
              refine R_gs 142 rfl ?_
              have hk := pr_lt p (by omega) (p + 1 + i) (by omega) (by omega)
              refine W_b rfl (fun hc142 => ?_) (fun hc142 => ?_)
              ·
                rw [pb_and (by omega)] at hc142
                refine R_gs 72 rfl ?_
                rw [nI_1]; exact w4 (by unfold lvB; rw [← pos_bt hO (by omega) (by omega), hc142]; rfl) _
              ·
                rw [pb_and (by omega)] at hc142
                refine R_gs 146 rfl ?_
                refine W_f rfl (by first | rfl | exact ⟨rfl, by first | decide | assumption | exact Or.inl rfl | exact Or.inr rfl | exact b2i_01 _⟩) ?_
                exact w3 (by unfold lvB; rw [← pos_bt hO (by omega) (by omega), show bt (posS L S) (pr p (p + 1 + i)) = true from by cases e : bt (posS L S) (pr p (p + 1 + i)); exact absurd e hc142; rfl, decide_eq_true (by omega : hasN L P p < lG L p (p + 1 + i)), decide_eq_true (by omega : hasN L P (p + 1 + i) < lG L (p + 1 + i) p)]; rfl)
  ·
    refine R_in rfl rfl ?_
    refine R_gs 3 rfl ?_
    refine w_inv (W := fun p (g : AH) => ∀ x5 x6 : Option Value, Rw (d + 2) Q (m_X4_isLasting, 3, [some (.ref 136), some (.ref 171), some (.int (posS L S)), some (.int (nI P)), some (.int (nI p)), x5, x6], [], 262, g)) (lP L) (fun p g => Fr (fun q => Nat.beq q 139) h g ∧ ∀ x, x < p → hI g 139 x = nI (hasN L P x)) (s0 := h) ⟨Fr.refl _ h, fun x hx => absurd hx (by omega)⟩ (fun p g hp hi w => ?_) (fun g hi => ?_) none none
    ·
      intro x5 x6
      obtain ⟨i1, i2⟩ := hi
      have gL := hL.fr hO i1 (by decide)
      have hpp := sub_P hO hP hp
      refine R_gs 9 rfl ?_
      rw [gL.P]
      refine W_bf rfl (ltc hp (by omega)) ?_
      refine R_gs 15 rfl ?_
      refine R_k rfl rfl (c_partnerIn hbP (by omega) ?_)
      refine R_gs 30 rfl ?_
      refine W_b rfl (fun hc30 => ?_) (fun hc30 => ?_)
      ·
        rw [nI_eq (by omega) (by omega)] at hc30
        refine R_gs 47 rfl ?_
        refine R_is rfl (by first | rfl | exact shO (by decide) (by omega) | exact shG (by decide) (by omega)) (by repeat (first | with_reducible apply ix_add | with_reducible apply ix_mul | with_reducible exact ix_nI _ | with_reducible exact ix_lit _ | exact rfl)) (by omega) ?_
        refine R_gs 3 rfl ?_
        rw [nI_1]; refine w _ ⟨i1.wI rfl, fun x hx => ?_⟩ _ _
        rw [wI_at]; by_cases e : x = p; rw [if_pos e, e]; exact congrArg nI (show 0 = hasN L P p from (if_pos hc30).symm); rw [if_neg e]; exact i2 x (by omega)
      ·
        rw [nI_eq (by omega) (by omega)] at hc30
        refine R_gs 43 rfl ?_
        refine R_ro rfl rfl rfl (by repeat (first | with_reducible apply ix_add | with_reducible apply ix_mul | with_reducible exact ix_nI _ | with_reducible exact ix_lit _ | exact rfl)) (by omega) ?_
        refine R_gs 46 rfl ?_
        refine R_il rfl (by first | rfl | exact shO (by decide) (by omega) | exact shG (by decide) (by omega)) (by repeat (first | with_reducible apply ix_add | with_reducible apply ix_mul | with_reducible exact ix_nI _ | with_reducible exact ix_lit _ | exact rfl)) (by omega) (by first | exact gL.G hp hpp) ?_
        refine R_is rfl (by first | rfl | exact shO (by decide) (by omega) | exact shG (by decide) (by omega)) (by repeat (first | with_reducible apply ix_add | with_reducible apply ix_mul | with_reducible exact ix_nI _ | with_reducible exact ix_lit _ | exact rfl)) (by omega) ?_
        refine R_gs 3 rfl ?_
        rw [nI_1]; refine w _ ⟨i1.wI rfl, fun x hx => ?_⟩ _ _
        rw [wI_at]; by_cases e : x = p; rw [if_pos e, e]; exact congrArg nI (show lG L p (parN P p) = hasN L P p from (if_neg hc30).symm); rw [if_neg e]; exact i2 x (by omega)
    ·
      intro x5 x6
      obtain ⟨i1, i2⟩ := hi
      have gL := hL.fr hO i1 (by decide)
      refine R_gs 9 rfl ?_
      rw [gL.P]
      refine W_bt rfl (gec (by omega)) ?_
      refine R_gs 57 rfl ?_
      unfold lasB at h1 h0
      refine w_any (W := fun p => ∀ x5 x6 : Option Value, Rw (d + 2) Q (m_X4_isLasting, 57, [some (.ref 136), some (.ref 171), some (.int (posS L S)), some (.int (nI P)), some (.int (nI p)), x5, x6], [], 262, g)) (A := Q (some (.int 0)) g) (lP L) (fun p => anyN (lP L - (p + 1)) (fun i => lvB L S P p (p + 1 + i))) (fun e => h0 (by rw [e]; rfl) g i1) (fun e => ?_) (fun p hp w1 w2 => ?_) x5 x6
      ·
        intro x5 x6
        refine R_gs 63 rfl ?_
        rw [gL.P]
        refine W_bt rfl (gec (by omega)) ?_
        refine R_gs 160 rfl ?_
        refine W_f rfl (by first | rfl | exact ⟨rfl, by first | decide | assumption | exact Or.inl rfl | exact Or.inr rfl | exact b2i_01 _⟩) ?_
        exact h1 (by rw [e]; rfl) g i1
      ·
        intro x5 x6
        refine R_gs 63 rfl ?_
        rw [gL.P]
        refine W_bf rfl (ltc hp (by omega)) ?_
        refine R_gs 72 rfl ?_
        rw [nI_1]
        refine w_any (W := fun i => ∀ x6 : Option Value, Rw (d + 2) Q (m_X4_isLasting, 72, [some (.ref 136), some (.ref 171), some (.int (posS L S)), some (.int (nI P)), some (.int (nI p)), some (.int (nI (p + 1 + i))), x6], [], 262, g)) (A := Q (some (.int 0)) g) (lP L - (p + 1)) (fun i => lvB L S P p (p + 1 + i)) w1 (fun e => ?_) (fun i hi w3 w4 => ?_) x6
        ·
          intro x6
          refine R_gs 78 rfl ?_
          rw [gL.P]
          refine W_bt rfl ((nI_leI (by omega) (by omega)).mpr (by omega)) ?_
          refine R_gs 57 rfl ?_
          rw [nI_1]; exact w2 e _ _
        ·
          intro x6
          have t1 := has_le hO hP hp
          have t2 := has_le hO hP (show p + 1 + i < lP L by omega)
          have t3 := (o4 p hp).2.2.2.2 (p + 1 + i) (by omega)
          have t4 := (o4 (p + 1 + i) (by omega)).2.2.2.2 p (by omega)
          refine R_gs 78 rfl ?_
          rw [gL.P]
          refine W_bf rfl (ltc (by omega) (by omega)) ?_
          refine R_gs 87 rfl ?_
          refine R_ro rfl rfl rfl (by repeat (first | with_reducible apply ix_add | with_reducible apply ix_mul | with_reducible exact ix_nI _ | with_reducible exact ix_lit _ | exact rfl)) (by omega) ?_
          refine R_gs 90 rfl ?_
          refine R_il rfl (by first | rfl | exact shO (by decide) (by omega) | exact shG (by decide) (by omega)) (by repeat (first | with_reducible apply ix_add | with_reducible apply ix_mul | with_reducible exact ix_nI _ | with_reducible exact ix_lit _ | exact rfl)) (by omega) (by first | exact gL.G hp (by omega)) ?_
          refine R_gs 97 rfl ?_
          refine R_il rfl (by first | rfl | exact shO (by decide) (by omega) | exact shG (by decide) (by omega)) (by repeat (first | with_reducible apply ix_add | with_reducible apply ix_mul | with_reducible exact ix_nI _ | with_reducible exact ix_lit _ | exact rfl)) (by omega) (by first | exact i2 p hp) ?_
          refine W_b rfl (fun hc98 => ?_) (fun hc98 => ?_)
          ·
            rw [nI_leI (by omega) (by omega)] at hc98
            refine R_gs 130 rfl ?_
            refine W_bt rfl (by decide) ?_
            refine R_gs 72 rfl ?_
            rw [nI_1]; exact w4 (by unfold lvB; rw [decide_eq_false (by omega : ¬ hasN L P p < lG L p (p + 1 + i))]; simp) _
          ·
            rw [nI_leI (by omega) (by omega)] at hc98
            refine R_gs 107 rfl ?_
            refine R_ro rfl rfl rfl (by repeat (first | with_reducible apply ix_add | with_reducible apply ix_mul | with_reducible exact ix_nI _ | with_reducible exact ix_lit _ | exact rfl)) (by omega) ?_
            refine R_gs 110 rfl ?_
            refine R_il rfl (by first | rfl | exact shO (by decide) (by omega) | exact shG (by decide) (by omega)) (by repeat (first | with_reducible apply ix_add | with_reducible apply ix_mul | with_reducible exact ix_nI _ | with_reducible exact ix_lit _ | exact rfl)) (by omega) (by first | exact gL.G (by omega) hp) ?_
            refine R_gs 117 rfl ?_
            refine R_il rfl (by first | rfl | exact shO (by decide) (by omega) | exact shG (by decide) (by omega)) (by repeat (first | with_reducible apply ix_add | with_reducible apply ix_mul | with_reducible exact ix_nI _ | with_reducible exact ix_lit _ | exact rfl)) (by omega) (by first | exact i2 (p + 1 + i) (by omega)) ?_
            refine W_b rfl (fun hc118 => ?_) (fun hc118 => ?_)
            ·
              rw [nI_leI (by omega) (by omega)] at hc118
              refine R_gs 130 rfl ?_
              refine W_bt rfl (by decide) ?_
              refine R_gs 72 rfl ?_
              rw [nI_1]; exact w4 (by unfold lvB; rw [decide_eq_false (by omega : ¬ hasN L P (p + 1 + i) < lG L (p + 1 + i) p)]; simp) _
            ·
              rw [nI_leI (by omega) (by omega)] at hc118
              refine R_gs 130 rfl ?_
              refine W_bf rfl (by decide) ?_
              refine R_gs 138 rfl ?_
              refine R_k rfl rfl (c_pairBit (by omega) (by omega) (by omega) ?_)
              refine R_gs 142 rfl ?_
              have hk := pr_lt p (by omega) (p + 1 + i) (by omega) (by omega)
              refine W_b rfl (fun hc142 => ?_) (fun hc142 => ?_)
              ·
                rw [pb_and (by omega)] at hc142
                refine R_gs 72 rfl ?_
                rw [nI_1]; exact w4 (by unfold lvB; rw [← pos_bt hO (by omega) (by omega), hc142]; rfl) _
              ·
                rw [pb_and (by omega)] at hc142
                refine R_gs 146 rfl ?_
                refine W_f rfl (by first | rfl | exact ⟨rfl, by first | decide | assumption | exact Or.inl rfl | exact Or.inr rfl | exact b2i_01 _⟩) ?_
                exact w3 (by unfold lvB; rw [← pos_bt hO (by omega) (by omega), show bt (posS L S) (pr p (p + 1 + i)) = true from by cases e : bt (posS L S) (pr p (p + 1 + i)); exact absurd e hc142; rfl, decide_eq_true (by omega : hasN L P p < lG L p (p + 1 + i)), decide_eq_true (by omega : hasN L P (p + 1 + i) < lG L (p + 1 + i) p)]; rfl)
theorem sub_nb (hO : LandOK L) {P : Nat} (hp : P < 32768) : nI P &&& (posS L S ^^^ (-1)) = 0 ↔ subB L S P := by
  rw [and0]
  unfold subB
  constructor
  · intro e k hk hb
    have := e k (by omega) (by rw [bt_nI, decide_eq_true (by omega : k < 32), Bool.true_and]; exact hb)
    rw [b_not _ _ (by omega)] at this
    cases e2 : bt (posS L S) k
    · rw [e2] at this; cases this
    · rfl
  · intro e i hi hb
    rw [bt_nI, decide_eq_true hi, Bool.true_and] at hb
    have h15 : i < 15 := by
      rcases Nat.lt_or_ge i 15 with h | h
      · exact h
      · rw [Nat.testBit_lt_two_pow (Nat.lt_of_lt_of_le hp (Nat.pow_le_pow_right (n := 2) (by decide) h))] at hb; cases hb
    rw [b_not _ _ hi, e i h15 hb]; rfl
theorem fold_get {α : Type} (G : α → Nat → α) : ∀ (l : List Nat) (n : Nat) (s : α), n ≤ l.length → lp (fun i s => G s (l.getD i 0)) n s = (l.take n).foldl G s
  | _, 0, _, _ => by simp [lp]
  | l, n + 1, s, h => by
    have e := fold_get G l n s (by omega)
    show G (lp (fun i s => G s (l.getD i 0)) n s) (l.getD n 0) = _
    rw [e, List.take_succ_eq_append_getElem (by omega), List.foldl_append, List.getD_eq_getElem?_getD, List.getElem?_eq_getElem (by omega)]
    rfl
theorem mt_lp : lp (fun i s => mtG L S s (PRS.getD i 0)) 76 (0, 0) = mtR L S := by
  rw [fold_get (mtG L S) PRS 76 (0, 0) (by rw [PRS_76]; exact Nat.le_refl _), show PRS.take 76 = PRS from List.take_of_length_le (by rw [PRS_76]; exact Nat.le_refl _)]; rfl
theorem mt_b : ∀ n, (lp (fun i s => mtG L S s (PRS.getD i 0)) n (0, 0)).1 ≤ n
  | 0 => Nat.le_refl _
  | n + 1 => by
    have := mt_b n
    show (mtG L S (lp (fun i s => mtG L S s (PRS.getD i 0)) n (0, 0)) (PRS.getD n 0)).1 ≤ n + 1
    generalize lp (fun i s => mtG L S s (PRS.getD i 0)) n (0, 0) = t at this
    unfold mtG
    split
    · show _ + 1 ≤ _; omega
    · omega
theorem mt_f : ∀ n, n ≤ 76 → (lp (fun i s => mtG L S s (PRS.getD i 0)) n (0, 0)).2 < 32768
  | 0, _ => by show 0 < 32768; decide
  | n + 1, hn => by
    have := mt_f n (by omega)
    show (mtG L S (lp (fun i s => mtG L S s (PRS.getD i 0)) n (0, 0)) (PRS.getD n 0)).2 < 32768
    generalize lp (fun i s => mtG L S s (PRS.getD i 0)) n (0, 0) = t at this
    unfold mtG
    split
    · show (if _ then _ else _) < _
      split
      · exact (PRS_f n (by omega)).2
      · exact this
    · exact this
theorem c_countMatches (ha : a = 143 ∨ a = 171) (hO : LandOK L) (hL : LandC h a L) (hS : SceneC h 7 L S) (hM : MatC h) (h1 : ∀ h', Fr xpr h h' → ((mtR L S).1 ≠ 0 → hI h' 136 4 = nI (mtR L S).2) → Q (some (.int (nI (mtR L S).1))) h') : Rc (d + 5) m_X4_countMatches [.ref 136, .ref a, .ref 7] h Q := by
  have ha' := ha
  rw [← mt_lp] at h1
  rcases ha with rfl | rfl
  ·
    refine R_in rfl rfl ?_
    refine R_gs 2 rfl ?_
    refine R_k rfl rfl (c_possiblePairs ha' hO hL hS ?_)
    refine R_gs 12 rfl ?_
    refine w_inv (W := fun i (s : AH × Nat × Nat) => Rw (d + 4) Q (m_X4_countMatches, 12, [some (.ref 136), some (.ref 143), some (.ref 7), some (.int (posS L S)), some (.int (nI s.2.1)), some (.int (nI i))], [], 262, s.1)) 76 (fun i s => Fr xpr h s.1 ∧ s.2 = lp (fun i s => mtG L S s (PRS.getD i 0)) i (0, 0) ∧ (s.2.1 ≠ 0 → hI s.1 136 4 = nI s.2.2)) (s0 := (h, 0, 0)) ⟨Fr.refl _ h, rfl, fun e => absurd rfl e⟩ (fun i s hi hs w => ?_) (fun s hs => ?_)
    ·
      obtain ⟨g, n, f⟩ := s
      obtain ⟨i1, i2, i3⟩ := hs
      dsimp only at i1 i2 i3 ⊢
      have gL := hL.fr hO i1 (by decide)
      have gM := hM.fr i1 rfl
      have pf := (PRS_f i hi).2
      have es : lp (fun i s => mtG L S s (PRS.getD i 0)) (i + 1) (0, 0) = mtG L S (n, f) (PRS.getD i 0) := by { rw [i2]; rfl }
      have nb : n ≤ i := by { have := mt_b (L := L) (S := S) i; rw [← i2] at this; exact this }
      refine R_gs 16 rfl ?_
      refine W_bf rfl (fun e => absurd ((nI_leI (a := 76) (by omega) (by omega)).mp e) (by omega)) ?_
      refine R_gs 25 rfl ?_
      refine R_il rfl (by first | rfl | exact shO (by decide) (by omega) | exact shG (by decide) (by omega)) (by repeat (first | with_reducible apply ix_add | with_reducible apply ix_mul | with_reducible exact ix_nI _ | with_reducible exact ix_lit _ | exact rfl)) (by omega) (by first | exact gM i hi) ?_
      refine R_gs 30 rfl ?_
      refine W_b rfl (fun hc30 => ?_) (fun hc30 => ?_)
      ·
        refine R_gs 42 rfl ?_
        refine R_il rfl (by first | rfl | exact shO (by decide) (by omega) | exact shG (by decide) (by omega)) (by repeat (first | with_reducible apply ix_add | with_reducible apply ix_mul | with_reducible exact ix_nI _ | with_reducible exact ix_lit _ | exact rfl)) (by omega) (by first | exact gM i hi) ?_
        refine R_k rfl rfl (c_isLasting ha' hO gL pf ((sub_nb hO pf).mp hc30) (fun el h3 f3 => ?_) (fun el h3 f3 => ?_))
        ·
          have j1 : Fr xpr h h3 := i1.trans (f3.mono (fun q hq => by have := Nat.eq_of_beq_eq_true hq; subst this; rfl))
          have gM3 := hM.fr j1 rfl
          have j3 : n ≠ 0 → hI h3 136 4 = nI f := fun e => (congrFun (f3.I rfl) 4).trans (i3 e)
          refine W_bf rfl (by decide) ?_
          refine R_gs 51 rfl ?_
          refine W_b rfl (fun hc51 => ?_) (fun hc51 => ?_)
          ·
            rw [nI_e0 (by omega)] at hc51
            refine R_gs 61 rfl ?_
            refine R_il rfl (by first | rfl | exact shO (by decide) (by omega) | exact shG (by decide) (by omega)) (by repeat (first | with_reducible apply ix_add | with_reducible apply ix_mul | with_reducible exact ix_nI _ | with_reducible exact ix_lit _ | exact rfl)) (by omega) (by first | exact gM3 i hi) ?_
            refine R_gs 12 rfl ?_
            rw [nI_1, nI_1]; exact w (wI h3 136 4 (nI (PRS.getD i 0)), n + 1, PRS.getD i 0) ⟨j1.wI rfl, by rw [es]; exact ((if_pos ⟨(sub_nb hO pf).mp hc30, el⟩ : mtG L S (n, f) (PRS.getD i 0) = _).trans (by show (n + 1, if n = 0 then _ else _) = _; rw [if_pos hc51])).symm, fun _ => rfl⟩
          ·
            rw [nI_e0 (by omega)] at hc51
            refine R_gs 12 rfl ?_
            rw [nI_1, nI_1]; exact w (h3, n + 1, f) ⟨j1, by rw [es]; exact ((if_pos ⟨(sub_nb hO pf).mp hc30, el⟩ : mtG L S (n, f) (PRS.getD i 0) = _).trans (by show (n + 1, if n = 0 then _ else _) = _; rw [if_neg hc51])).symm, fun _ => j3 hc51⟩
        ·
          have j1 : Fr xpr h h3 := i1.trans (f3.mono (fun q hq => by have := Nat.eq_of_beq_eq_true hq; subst this; rfl))
          have gM3 := hM.fr j1 rfl
          have j3 : n ≠ 0 → hI h3 136 4 = nI f := fun e => (congrFun (f3.I rfl) 4).trans (i3 e)
          refine W_bt rfl (by decide) ?_
          refine R_gs 12 rfl ?_
          rw [nI_1]; exact w (h3, n, f) ⟨j1, by rw [es]; exact (if_neg (fun e => by rw [e.2] at el; cases el)).symm, fun e => (j3 e)⟩
      ·
        refine R_gs 12 rfl ?_
        rw [nI_1]; exact w (g, n, f) ⟨i1, by rw [es]; exact (if_neg (fun e => hc30 ((sub_nb hO pf).mpr e.1))).symm, i3⟩
    ·
      obtain ⟨g, n, f⟩ := s
      obtain ⟨i1, i2, i3⟩ := hs
      dsimp only at i1 i2 i3 ⊢
      refine R_gs 16 rfl ?_
      refine W_bt rfl (by decide) ?_
      refine R_gs 76 rfl ?_
      refine W_f rfl (by first | rfl | exact ⟨rfl, by first | decide | assumption | exact Or.inl rfl | exact Or.inr rfl | exact b2i_01 _⟩) ?_
      have i2' : (n, f) = lp (fun i s => mtG L S s (PRS.getD i 0)) 76 (0, 0) := i2; rw [← i2'] at h1; exact h1 _ i1 i3
  ·
    refine R_in rfl rfl ?_
    refine R_gs 2 rfl ?_
    refine R_k rfl rfl (c_possiblePairs ha' hO hL hS ?_)
    refine R_gs 12 rfl ?_
    refine w_inv (W := fun i (s : AH × Nat × Nat) => Rw (d + 4) Q (m_X4_countMatches, 12, [some (.ref 136), some (.ref 171), some (.ref 7), some (.int (posS L S)), some (.int (nI s.2.1)), some (.int (nI i))], [], 262, s.1)) 76 (fun i s => Fr xpr h s.1 ∧ s.2 = lp (fun i s => mtG L S s (PRS.getD i 0)) i (0, 0) ∧ (s.2.1 ≠ 0 → hI s.1 136 4 = nI s.2.2)) (s0 := (h, 0, 0)) ⟨Fr.refl _ h, rfl, fun e => absurd rfl e⟩ (fun i s hi hs w => ?_) (fun s hs => ?_)
    ·
      obtain ⟨g, n, f⟩ := s
      obtain ⟨i1, i2, i3⟩ := hs
      dsimp only at i1 i2 i3 ⊢
      have gL := hL.fr hO i1 (by decide)
      have gM := hM.fr i1 rfl
      have pf := (PRS_f i hi).2
      have es : lp (fun i s => mtG L S s (PRS.getD i 0)) (i + 1) (0, 0) = mtG L S (n, f) (PRS.getD i 0) := by { rw [i2]; rfl }
      have nb : n ≤ i := by { have := mt_b (L := L) (S := S) i; rw [← i2] at this; exact this }
      refine R_gs 16 rfl ?_
      refine W_bf rfl (fun e => absurd ((nI_leI (a := 76) (by omega) (by omega)).mp e) (by omega)) ?_
      refine R_gs 25 rfl ?_
      refine R_il rfl (by first | rfl | exact shO (by decide) (by omega) | exact shG (by decide) (by omega)) (by repeat (first | with_reducible apply ix_add | with_reducible apply ix_mul | with_reducible exact ix_nI _ | with_reducible exact ix_lit _ | exact rfl)) (by omega) (by first | exact gM i hi) ?_
      refine R_gs 30 rfl ?_
      refine W_b rfl (fun hc30 => ?_) (fun hc30 => ?_)
      ·
        refine R_gs 42 rfl ?_
        refine R_il rfl (by first | rfl | exact shO (by decide) (by omega) | exact shG (by decide) (by omega)) (by repeat (first | with_reducible apply ix_add | with_reducible apply ix_mul | with_reducible exact ix_nI _ | with_reducible exact ix_lit _ | exact rfl)) (by omega) (by first | exact gM i hi) ?_
        refine R_k rfl rfl (c_isLasting ha' hO gL pf ((sub_nb hO pf).mp hc30) (fun el h3 f3 => ?_) (fun el h3 f3 => ?_))
        ·
          have j1 : Fr xpr h h3 := i1.trans (f3.mono (fun q hq => by have := Nat.eq_of_beq_eq_true hq; subst this; rfl))
          have gM3 := hM.fr j1 rfl
          have j3 : n ≠ 0 → hI h3 136 4 = nI f := fun e => (congrFun (f3.I rfl) 4).trans (i3 e)
          refine W_bf rfl (by decide) ?_
          refine R_gs 51 rfl ?_
          refine W_b rfl (fun hc51 => ?_) (fun hc51 => ?_)
          ·
            rw [nI_e0 (by omega)] at hc51
            refine R_gs 61 rfl ?_
            refine R_il rfl (by first | rfl | exact shO (by decide) (by omega) | exact shG (by decide) (by omega)) (by repeat (first | with_reducible apply ix_add | with_reducible apply ix_mul | with_reducible exact ix_nI _ | with_reducible exact ix_lit _ | exact rfl)) (by omega) (by first | exact gM3 i hi) ?_
            refine R_gs 12 rfl ?_
            rw [nI_1, nI_1]; exact w (wI h3 136 4 (nI (PRS.getD i 0)), n + 1, PRS.getD i 0) ⟨j1.wI rfl, by rw [es]; exact ((if_pos ⟨(sub_nb hO pf).mp hc30, el⟩ : mtG L S (n, f) (PRS.getD i 0) = _).trans (by show (n + 1, if n = 0 then _ else _) = _; rw [if_pos hc51])).symm, fun _ => rfl⟩
          ·
            rw [nI_e0 (by omega)] at hc51
            refine R_gs 12 rfl ?_
            rw [nI_1, nI_1]; exact w (h3, n + 1, f) ⟨j1, by rw [es]; exact ((if_pos ⟨(sub_nb hO pf).mp hc30, el⟩ : mtG L S (n, f) (PRS.getD i 0) = _).trans (by show (n + 1, if n = 0 then _ else _) = _; rw [if_neg hc51])).symm, fun _ => j3 hc51⟩
        ·
          have j1 : Fr xpr h h3 := i1.trans (f3.mono (fun q hq => by have := Nat.eq_of_beq_eq_true hq; subst this; rfl))
          have gM3 := hM.fr j1 rfl
          have j3 : n ≠ 0 → hI h3 136 4 = nI f := fun e => (congrFun (f3.I rfl) 4).trans (i3 e)
          refine W_bt rfl (by decide) ?_
          refine R_gs 12 rfl ?_
          rw [nI_1]; exact w (h3, n, f) ⟨j1, by rw [es]; exact (if_neg (fun e => by rw [e.2] at el; cases el)).symm, fun e => (j3 e)⟩
      ·
        refine R_gs 12 rfl ?_
        rw [nI_1]; exact w (g, n, f) ⟨i1, by rw [es]; exact (if_neg (fun e => hc30 ((sub_nb hO pf).mpr e.1))).symm, i3⟩
    ·
      obtain ⟨g, n, f⟩ := s
      obtain ⟨i1, i2, i3⟩ := hs
      dsimp only at i1 i2 i3 ⊢
      refine R_gs 16 rfl ?_
      refine W_bt rfl (by decide) ?_
      refine R_gs 76 rfl ?_
      refine W_f rfl (by first | rfl | exact ⟨rfl, by first | decide | assumption | exact Or.inl rfl | exact Or.inr rfl | exact b2i_01 _⟩) ?_
      have i2' : (n, f) = lp (fun i s => mtG L S s (PRS.getD i 0)) 76 (0, 0) := i2; rw [← i2'] at h1; exact h1 _ i1 i3
theorem mtR_b : (mtR L S).1 ≤ 76 ∧ (mtR L S).2 < 32768 := by
  rw [← mt_lp]; exact ⟨mt_b 76, mt_f 76 (Nat.le_refl _)⟩
theorem x_matches (W : WOK L S H B M D T N) (c : RC h L S H B M D T N) {w : Int32} (h1 : ∀ h', Fr xC h h' → RC h' L S H B M D T N → Q (some (.int (matA L S w))) h') : Rc (d + 8) m_X12_matches [.ref 0, .int w] h Q := by
  have hO := W.1
  have hV := W.2.1
  have o3 := hO.2.2.1
  have c0 := c
  obtain ⟨a, g, c1, c2, c3, c4, c5, c6, c7, c8, c9, c10, c11⟩ := c
  have ha := c1.1
  have ha' := ha
  have eL := vr c1.2.2.1
  have mb := mtR_b (L := L) (S := S)
  unfold matA at h1
  rcases ha with rfl | rfl
  all_goals
    refine R_in rfl rfl ?_
    refine R_gs 2 rfl ?_
    refine W_b rfl (fun hc2 => ?_) (fun hc2 => ?_)
    ·
      refine R_gs 27 rfl ?_
      rw [eL]
      refine R_gs 31 rfl ?_
      refine R_k rfl rfl (c_countMatches ha' hO c2 c3 c11 (fun h2 f2 p2 => ?_))
      have F2 := (f2.mono (fun q => xpr_c)).c (fun q => xcs_le)
      have r2 := c0.fr hO (f2.mono (fun q => xpr_c))
      refine R_gs 37 rfl ?_
      refine W_bt rfl (hc2) ?_
      refine R_gs 41 rfl ?_
      refine W_f rfl (by first | rfl | exact ⟨rfl, by first | decide | assumption | exact Or.inl rfl | exact Or.inr rfl | exact b2i_01 _⟩) ?_
      rw [if_pos hc2] at h1; exact h1 _ F2 r2
    ·
      refine R_gs 9 rfl ?_
      rw [eL]
      refine R_gs 10 rfl ?_
      refine R_k rfl rfl (c_hasPerson (by decide) c2 (fun hx10 => ?_) (fun hx10 => ?_))
      ·
        refine W_bf rfl (by decide) ?_
        refine R_gs 27 rfl ?_
        rw [eL]
        refine R_gs 31 rfl ?_
        refine R_k rfl rfl (c_countMatches ha' hO c2 c3 c11 (fun h2 f2 p2 => ?_))
        have F2 := (f2.mono (fun q => xpr_c)).c (fun q => xcs_le)
        have r2 := c0.fr hO (f2.mono (fun q => xpr_c))
        refine R_gs 37 rfl ?_
        refine W_bf rfl (hc2) ?_
        refine R_gs 43 rfl ?_
        refine W_b rfl (fun hc43 => ?_) (fun hc43 => ?_)
        ·
          rw [nI_e0 (by omega)] at hc43
          refine R_gs 62 rfl ?_
          refine W_f rfl (by first | rfl | exact ⟨rfl, by first | decide | assumption | exact Or.inl rfl | exact Or.inr rfl | exact b2i_01 _⟩) ?_
          rw [if_neg hc2, hx10, if_pos rfl, if_pos hc43] at h1; exact h1 _ F2 r2
        ·
          rw [nI_e0 (by omega)] at hc43
          refine R_gs 59 rfl ?_
          rw [p2 hc43]
          obtain ⟨k, hk, rfl⟩ := inN_of (by omega) hx10
          refine R_k rfl rfl (c_partnerIn mb.2 (by omega) ?_)
          refine W_f rfl (by first | rfl | exact ⟨rfl, by first | decide | assumption | exact Or.inl rfl | exact Or.inr rfl | exact b2i_01 _⟩) ?_
          rw [if_neg hc2, hx10, if_pos rfl, if_neg hc43, nI_clamp (by omega)] at h1; exact h1 _ F2 r2
      ·
        refine W_bt rfl (by decide) ?_
        refine R_gs 18 rfl ?_
        refine W_f rfl (by first | rfl | exact ⟨rfl, by first | decide | assumption | exact Or.inl rfl | exact Or.inr rfl | exact b2i_01 _⟩) ?_
        rw [if_neg hc2, hx10] at h1; exact h1 _ (Fr.refl _ h) c0
end
