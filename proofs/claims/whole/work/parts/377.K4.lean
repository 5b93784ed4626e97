def csN (L : SL) (S : SS) (k : Nat) : Nat := if bt (sW S) k = true then (price L (sW S) (loP k) (hiP k)).toNatClampNeg else 0
def wdN (S : SS) : Nat := (sW S).toNatClampNeg
def menA (L : SL) (S : SS) (w : Int32) : Int32 := if (decide (0 ≤ w) && decide (w ≤ 1)) = true then (if w = 0 then nI (cosN (csN L S) (mdB (csN L S) (wdN S))) else nI (mdB (csN L S) (wdN S))) else -1
def bsN (p : Nat) : Nat := p * (11 - p) / 2
theorem bs_n : ∀ p, p < 6 → bsN p + (5 - p) = bsN (p + 1) ∧ bsN p + (5 - p) ≤ 15 := by decide +kernel
theorem bs_p : ∀ p, p < 6 → ∀ i, i < 5 - p → bsN p + i = pr p (p + 1 + i) ∧ bsN p + i < 15 := by decide +kernel
section
variable {d a : Nat} {h h' : AH} {L : SL} {S : SS} {H : SH'} {B : SB'} {M : SM'} {D : SD'} {T : ST'} {N : SN'} {Q : Option Value → AH → Prop}
theorem price_n {x : Int32} {p q : Nat} : price L x p q = nI (price L x p q).toNatClampNeg ∧ (price L x p q).toNatClampNeg ≤ 999 := by
  have h1 : ¬ price L x p q < 0 := by
    unfold price clampP
    split
    · decide
    · split
      · decide
      · assumption
  have h2 : price L x p q ≤ 999 := by
    unfold price clampP
    split
    · decide
    · split
      · decide
      · exact Int32.not_lt.mp (by assumption)
  obtain ⟨k, hk, e⟩ := nI_of h1
  rw [e] at h2 ⊢
  rw [nI_clamp hk]
  exact ⟨rfl, (nI_leI (b := 999) hk (by omega)).mp h2⟩
theorem cs_le (k : Nat) : csN L S k ≤ 999 := by
  unfold csN
  split
  · exact price_n.2
  · omega
theorem cos_le (P : Nat) : cosN (csN L S) P ≤ 14985 := by
  have := sumN_le (f := fun k => if P.testBit k = true then csN L S k else 0) (b := 999) 15 (fun j _ => by split; exact cs_le j; omega)
  unfold cosN; omega
theorem wd_n (hO : LandOK L) (hV : SceneOK L S) : sW S = nI (wdN S) ∧ wdN S < 32768 := by
  obtain ⟨n, hn, e⟩ := b15_nat (hV.1.b15 hO.2.2.1)
  unfold wdN
  rw [e, nI_clamp (by omega)]
  exact ⟨rfl, hn⟩
theorem wed_P (hO : LandOK L) (hV : SceneOK L S) {p q : Nat} (hpq : p < q) (hq : q < 6) (hb : bt (sW S) (pr p q) = true) : q < lP L := by
  have o3 := hO.2.2.1
  have hk := pr_lt p (by omega) q hq (by omega)
  obtain ⟨u, v, h1, h2, e⟩ := hV.1 (pr p q) (by omega) hb
  have e1 := lh_pr p (by omega) q hq hpq
  have e2 := lh_pr u (by omega) v (by omega) h1
  rw [e] at e1
  omega
theorem cs_pr {p q : Nat} (hpq : p < q) (hq : q < 6) : csN L S (pr p q) = if bt (sW S) (pr p q) = true then (price L (sW S) p q).toNatClampNeg else 0 := by
  unfold csN
  obtain ⟨e1, e2⟩ := lh_pr p (by omega) q hq hpq
  rw [e1, e2]
def PriC (h : AH) (L : SL) (S : SS) : Prop := ∀ k, k < 15 → hI h 138 k = nI (csN L S k)
def xpr (q : Nat) : Bool := xsc q || (Nat.ble 136 q && Nat.ble q 139 && !Nat.beq q 137)
theorem xpr_c {q : Nat} (h : xpr q = true) : xcs q = true := by
  simp only [xpr, xsc, Bool.or_eq_true, Bool.and_eq_true, Nat.beq_eq, Nat.ble_eq, Bool.not_eq_true'] at h
  simp only [xcs, xsc, Bool.or_eq_true, Bool.and_eq_true, Nat.beq_eq, Nat.ble_eq]
  rcases h with h | h
  · omega
  · have : q ≠ 137 := by rintro rfl; exact absurd h.2 (by decide)
    omega
theorem xpr_s {q : Nat} (h : xsc q = true) : xpr q = true := by unfold xpr; rw [h]; rfl
theorem c_setPrices (hT : St h) (ha : a = 143 ∨ a = 171) (hO : LandOK L) (hL : LandC h a L) (hS : SceneC h 7 L S) (hV : SceneOK L S) (h1 : ∀ h', Fr xpr h h' → PriC h' L S → Q none h') : Rc (d + 6) m_X4_setPrices [.ref 136, .ref a, .ref 7] h Q := by
  obtain ⟨o1, o2, o3, o4, -⟩ := id hO
  have ha' := ha
  rcases ha with rfl | rfl
  ·
    refine R_in rfl rfl ?_
    refine R_gs 5 rfl ?_
    refine w_inv (W := fun p (g : AH) => ∀ x5 : Option Value, Rw (d + 5) Q (m_X4_setPrices, 5, [some (.ref 136), some (.ref 143), some (.ref 7), some (.int (nI (bsN p))), some (.int (nI p)), x5], [], 262, g)) 6 (fun p g => Fr xpr h g ∧ ∀ k, k < bsN p → hI g 138 k = nI (csN L S k)) (s0 := h) ⟨Fr.refl _ h, fun k hk => absurd hk (by unfold bsN; omega)⟩ (fun p g hp hi w => ?_) (fun g hi => ?_) none
    ·
      intro x5
      obtain ⟨e5, e15⟩ := bs_n p hp
      refine R_gs 9 rfl ?_
      refine W_bf rfl (fun e => absurd ((nI_leI (a := 6) (by omega) (by omega)).mp e) (by omega)) ?_
      refine R_gs 18 rfl ?_
      rw [nI_1]
      refine w_inv (W := fun i (g : AH) => Rw (d + 5) Q (m_X4_setPrices, 18, [some (.ref 136), some (.ref 143), some (.ref 7), some (.int (nI (bsN p + i))), some (.int (nI p)), some (.int (nI (p + 1 + i)))], [], 262, g)) (5 - p) (fun i g => Fr xpr h g ∧ ∀ k, k < bsN p + i → hI g 138 k = nI (csN L S k)) (s0 := g) hi (fun i g2 hi2 hj w2 => ?_) (fun g2 hj => ?_)
      ·
        obtain ⟨j1, j2⟩ := hj
        obtain ⟨ep, e14⟩ := bs_p p hp i hi2
        have gL := hL.fr hO j1 (by decide)
        have gS := hS.fr j1 rfl rfl rfl rfl rfl
        have gT := hT.fr j1 rfl rfl
        have ec := cs_pr (L := L) (S := S) (p := p) (q := p + 1 + i) (by omega) (by omega)
        refine R_gs 22 rfl ?_
        refine W_bf rfl (fun e => absurd ((nI_leI (a := 6) (by omega) (by omega)).mp e) (by omega)) ?_
        refine R_gs 28 rfl ?_
        refine W_bf rfl (fun e => absurd ((nI_leI (a := 15) (by omega) (by omega)).mp e) (by omega)) ?_
        refine R_gs 41 rfl ?_
        refine R_k rfl rfl (c_areWed (Or.inl rfl) gS (by omega) (by omega) (by omega) (fun hx41 => ?_) (fun hx41 => ?_))
        ·
          refine W_bf rfl (by decide) ?_
          refine R_gs 53 rfl ?_
          have hqP := wed_P hO hV (p := p) (q := p + 1 + i) (by omega) (by omega) hx41
          refine R_k rfl rfl (c_partingPrice gT ha' hO gL (Or.inl rfl) gS hV (by omega) hqP (by omega) (fun h3 f3 => ?_))
          refine R_gs 60 rfl ?_
          refine R_is rfl (by first | rfl | exact shO (by decide) (by omega) | exact shG (by decide) (by omega)) (by repeat (first | with_reducible apply ix_add | with_reducible apply ix_mul | with_reducible exact ix_nI _ | with_reducible exact ix_lit _ | exact rfl)) (by omega) ?_
          refine R_gs 18 rfl ?_
          rw [nI_1, nI_1]; refine w2 _ ⟨(j1.trans (f3.mono (fun q => xpr_s))).wI rfl, fun k hk => ?_⟩
          rw [wI_at]; by_cases ek : k = bsN p + i; rw [if_pos ek, ek, ep, ec, if_pos hx41]; exact price_n.1; rw [if_neg ek, f3.I rfl]; exact j2 k (by omega)
        ·
          refine W_bt rfl (by decide) ?_
          refine R_gs 60 rfl ?_
          refine R_is rfl (by first | rfl | exact shO (by decide) (by omega) | exact shG (by decide) (by omega)) (by repeat (first | with_reducible apply ix_add | with_reducible apply ix_mul | with_reducible exact ix_nI _ | with_reducible exact ix_lit _ | exact rfl)) (by omega) ?_
          refine R_gs 18 rfl ?_
          rw [nI_1, nI_1]; refine w2 _ ⟨j1.wI rfl, fun k hk => ?_⟩
          rw [wI_at]; by_cases ek : k = bsN p + i; rw [if_pos ek, ek, ep, ec, if_neg (by rw [hx41]; decide)]; rfl; rw [if_neg ek]; exact j2 k (by omega)
      ·
        obtain ⟨j1, j2⟩ := hj
        refine R_gs 22 rfl ?_
        refine W_bt rfl ((nI_leI (a := 6) (by omega) (by omega)).mpr (by omega)) ?_
        refine R_gs 5 rfl ?_
        rw [nI_1, e5]; exact w g2 ⟨j1, fun k hk => j2 k (by omega)⟩ _
    ·
      intro x5
      refine R_gs 9 rfl ?_
      refine W_bt rfl (by decide) ?_
      refine W_f rfl (by first | rfl | exact ⟨rfl, by first | decide | assumption | exact Or.inl rfl | exact Or.inr rfl | exact b2i_01 _⟩) ?_
      exact h1 _ hi.1 (fun k hk => hi.2 k (by show k < bsN 6; unfold bsN; omega))
  ·
    refine R_in rfl rfl ?_
    refine R_gs 5 rfl ?_
    refine w_inv (W := fun p (g : AH) => ∀ x5 : Option Value, Rw (d + 5) Q (m_X4_setPrices, 5, [some (.ref 136), some (.ref 171), some (.ref 7), some (.int (nI (bsN p))), some (.int (nI p)), x5], [], 262, g)) 6 (fun p g => Fr xpr h g ∧ ∀ k, k < bsN p → hI g 138 k = nI (csN L S k)) (s0 := h) ⟨Fr.refl _ h, fun k hk => absurd hk (by unfold bsN; omega)⟩ (fun p g hp hi w => ?_) (fun g hi => ?_) none
    ·
      intro x5
      obtain ⟨e5, e15⟩ := bs_n p hp
      refine R_gs 9 rfl ?_
      refine W_bf rfl (fun e => absurd ((nI_leI (a := 6) (by omega) (by omega)).mp e) (by omega)) ?_
      refine R_gs 18 rfl ?_
      rw [nI_1]
      refine w_inv (W := fun i (g : AH) => Rw (d + 5) Q (m_X4_setPrices, 18, [some (.ref 136), some (.ref 171), some (.ref 7), some (.int (nI (bsN p + i))), some (.int (nI p)), some (.int (nI (p + 1 + i)))], [], 262, g)) (5 - p) (fun i g => Fr xpr h g ∧ ∀ k, k < bsN p + i → hI g 138 k = nI (csN L S k)) (s0 := g) hi (fun i g2 hi2 hj w2 => ?_) (fun g2 hj => ?_)
      ·
        obtain ⟨j1, j2⟩ := hj
        obtain ⟨ep, e14⟩ := bs_p p hp i hi2
        have gL := hL.fr hO j1 (by decide)
        have gS := hS.fr j1 rfl rfl rfl rfl rfl
        have gT := hT.fr j1 rfl rfl
        have ec := cs_pr (L := L) (S := S) (p := p) (q := p + 1 + i) (by omega) (by omega)
        refine R_gs 22 rfl ?_
        refine W_bf rfl (fun e => absurd ((nI_leI (a := 6) (by omega) (by omega)).mp e) (by omega)) ?_
        refine R_gs 28 rfl ?_
        refine W_bf rfl (fun e => absurd ((nI_leI (a := 15) (by omega) (by omega)).mp e) (by omega)) ?_
        refine R_gs 41 rfl ?_
        refine R_k rfl rfl (c_areWed (Or.inl rfl) gS (by omega) (by omega) (by omega) (fun hx41 => ?_) (fun hx41 => ?_))
        ·
          refine W_bf rfl (by decide) ?_
          refine R_gs 53 rfl ?_
          have hqP := wed_P hO hV (p := p) (q := p + 1 + i) (by omega) (by omega) hx41
          refine R_k rfl rfl (c_partingPrice gT ha' hO gL (Or.inl rfl) gS hV (by omega) hqP (by omega) (fun h3 f3 => ?_))
          refine R_gs 60 rfl ?_
          refine R_is rfl (by first | rfl | exact shO (by decide) (by omega) | exact shG (by decide) (by omega)) (by repeat (first | with_reducible apply ix_add | with_reducible apply ix_mul | with_reducible exact ix_nI _ | with_reducible exact ix_lit _ | exact rfl)) (by omega) ?_
          refine R_gs 18 rfl ?_
          rw [nI_1, nI_1]; refine w2 _ ⟨(j1.trans (f3.mono (fun q => xpr_s))).wI rfl, fun k hk => ?_⟩
          rw [wI_at]; by_cases ek : k = bsN p + i; rw [if_pos ek, ek, ep, ec, if_pos hx41]; exact price_n.1; rw [if_neg ek, f3.I rfl]; exact j2 k (by omega)
        ·
          refine W_bt rfl (by decide) ?_
          refine R_gs 60 rfl ?_
          refine R_is rfl (by first | rfl | exact shO (by decide) (by omega) | exact shG (by decide) (by omega)) (by repeat (first | with_reducible apply ix_add | with_reducible apply ix_mul | with_reducible exact ix_nI _ | with_reducible exact ix_lit _ | exact rfl)) (by omega) ?_
          refine R_gs 18 rfl ?_
          rw [nI_1, nI_1]; refine w2 _ ⟨j1.wI rfl, fun k hk => ?_⟩
          rw [wI_at]; by_cases ek : k = bsN p + i; rw [if_pos ek, ek, ep, ec, if_neg (by rw [hx41]; decide)]; rfl; rw [if_neg ek]; exact j2 k (by omega)
      ·
        obtain ⟨j1, j2⟩ := hj
        refine R_gs 22 rfl ?_
        refine W_bt rfl ((nI_leI (a := 6) (by omega) (by omega)).mpr (by omega)) ?_
        refine R_gs 5 rfl ?_
        rw [nI_1, e5]; exact w g2 ⟨j1, fun k hk => j2 k (by omega)⟩ _
    ·
      intro x5
      refine R_gs 9 rfl ?_
      refine W_bt rfl (by decide) ?_
      refine W_f rfl (by first | rfl | exact ⟨rfl, by first | decide | assumption | exact Or.inl rfl | exact Or.inr rfl | exact b2i_01 _⟩) ?_
      exact h1 _ hi.1 (fun k hk => hi.2 k (by show k < bsN 6; unfold bsN; omega))
theorem c_priceOf (hP : PriC h L S) {P : Nat} (hp : P < 32768) (h1 : Q (some (.int (nI (cosN (csN L S) P)))) h) : Rc (d + 2) m_X4_priceOf [.ref 136, .int (nI P)] h Q := by
  refine R_in rfl rfl ?_
  refine R_gs 4 rfl ?_
  refine w_lp (W := fun k s => Rw (d + 1) Q (m_X4_priceOf, 4, [_, _, some (.int (nI s)), some (.int (nI k))], [], 262, h)) (fun k s => s + if P.testBit k = true then csN L S k else 0) 15 (fun _ _ => True) 0 trivial (fun k s hk _ => ⟨trivial, fun w => ?_⟩) (fun _ => ?_)
  ·
    have eb : bt (nI P) k = P.testBit k := by { rw [bt_nI, decide_eq_true (by omega : k < 32), Bool.true_and] }
    refine R_gs 7 rfl ?_
    refine W_bf rfl (fun e => absurd ((nI_leI (a := 15) (by omega) (by omega)).mp e) (by omega)) ?_
    refine R_gs 13 rfl ?_
    refine R_k rfl rfl (c_hasBit (by omega) (fun hx13 => ?_) (fun hx13 => ?_))
    ·
      refine W_bf rfl (by decide) ?_
      refine R_gs 24 rfl ?_
      refine R_il rfl (by first | rfl | exact shO (by decide) (by omega) | exact shG (by decide) (by omega)) (by repeat (first | with_reducible apply ix_add | with_reducible apply ix_mul | with_reducible exact ix_nI _ | with_reducible exact ix_lit _ | exact rfl)) (by omega) (by first | exact hP k hk) ?_
      refine R_gs 4 rfl ?_
      rw [nI_add, nI_1]; rw [if_pos (eb ▸ hx13)] at w; exact w
    ·
      refine W_bt rfl (by decide) ?_
      refine R_gs 4 rfl ?_
      rw [show nI s + 0 = nI s from nI_add s 0, nI_1]; rw [if_neg (by rw [← eb, hx13]; decide), Nat.add_zero] at w; exact w
  ·
    refine R_gs 7 rfl ?_
    refine W_bt rfl (by decide) ?_
    refine R_gs 38 rfl ?_
    refine W_f rfl (by first | rfl | exact ⟨rfl, by first | decide | assumption | exact Or.inl rfl | exact Or.inr rfl | exact b2i_01 _⟩) ?_
    exact h1
theorem c_compare {a b : Nat} (ha : a < 2 ^ 31) (hb : b < 2 ^ 31) (h1 : Q (some (.int (if a < b then -1 else if a = b then 0 else 1))) h) : Rc (d + 1) m_J6_compare_7cf53 [.int (nI a), .int (nI b)] h Q := by
  refine R_in rfl rfl ?_
  refine R_gs 2 rfl ?_
  refine W_b rfl (fun hc2 => ?_) (fun hc2 => ?_)
  ·
    rw [nI_leI hb ha] at hc2
    refine R_gs 11 rfl ?_
    refine W_b rfl (fun hc11 => ?_) (fun hc11 => ?_)
    ·
      rw [nI_eq ha hb] at hc11
      refine R_gs 19 rfl ?_
      refine W_f rfl (by first | rfl | exact ⟨rfl, by first | decide | assumption | exact Or.inl rfl | exact Or.inr rfl | exact b2i_01 _⟩) ?_
      rw [if_neg (by omega), if_pos hc11] at h1; exact h1
    ·
      rw [nI_eq ha hb] at hc11
      refine R_gs 19 rfl ?_
      refine W_f rfl (by first | rfl | exact ⟨rfl, by first | decide | assumption | exact Or.inl rfl | exact Or.inr rfl | exact b2i_01 _⟩) ?_
      rw [if_neg (by omega), if_neg hc11] at h1; exact h1
  ·
    rw [nI_leI hb ha] at hc2
    refine R_gs 19 rfl ?_
    refine W_f rfl (by first | rfl | exact ⟨rfl, by first | decide | assumption | exact Or.inl rfl | exact Or.inr rfl | exact b2i_01 _⟩) ?_
    rw [if_pos (by omega)] at h1; exact h1
theorem cmp0 {a b : Nat} : (if a < b then (-1 : Int32) else if a = b then 0 else 1) = 0 ↔ a = b := by
  split
  · exact ⟨fun e => absurd e (by decide), fun e => by omega⟩
  · split
    · exact ⟨fun _ => by assumption, fun _ => rfl⟩
    · exact ⟨fun e => absurd e (by decide), fun e => by omega⟩
theorem cmpL {a b : Nat} : (0 : Int32) ≤ (if a < b then (-1 : Int32) else if a = b then 0 else 1) ↔ ¬ a < b := by
  split
  · exact ⟨fun e => absurd e (by decide), fun e => absurd (by assumption) e⟩
  · split
    · exact ⟨fun _ => by assumption, fun _ => by decide⟩
    · exact ⟨fun _ => by assumption, fun _ => by decide⟩
theorem c_isLess (hP : PriC h L S) {u v : Nat} (hu : u < 32768) (hv : v < 32768) (h1 : kLt (csN L S) u v → Q (some (.int 1)) h) (h0 : ¬ kLt (csN L S) u v → Q (some (.int 0)) h) : Rc (d + 3) m_X4_isLess [.ref 136, .int (nI u), .int (nI v)] h Q := by
  have c1 := cos_le (L := L) (S := S) u
  have c2 := cos_le (L := L) (S := S) v
  have p1 := pop_le (nI u)
  have p2 := pop_le (nI v)
  have n15 : ∀ {n : Nat}, n < 32768 → B15 (nI n) := fun {n} hn i h1 h2 => by rw [bt_nI, Nat.testBit_lt_two_pow (Nat.lt_of_lt_of_le hn (Nat.pow_le_pow_right (n := 2) (by decide) h1)), Bool.and_false]
  unfold kLt at h1 h0
  refine R_in rfl rfl ?_
  refine R_gs 2 rfl ?_
  refine R_k rfl rfl (c_priceOf hP hu ?_)
  refine R_gs 7 rfl ?_
  refine R_k rfl rfl (c_priceOf hP hv ?_)
  refine R_k rfl rfl (c_compare (by omega) (by omega) ?_)
  refine R_gs 15 rfl ?_
  refine W_b rfl (fun hc15 => ?_) (fun hc15 => ?_)
  ·
    rw [cmp0] at hc15
    refine R_gs 29 rfl ?_
    refine R_k rfl rfl (c_bitCount (n15 hu) ?_)
    refine R_gs 33 rfl ?_
    refine R_k rfl rfl (c_bitCount (n15 hv) ?_)
    refine R_k rfl rfl (c_compare (by omega) (by omega) ?_)
    refine R_gs 43 rfl ?_
    refine W_b rfl (fun hc43 => ?_) (fun hc43 => ?_)
    ·
      rw [cmp0] at hc43
      refine R_gs 61 rfl ?_
      refine W_b rfl (fun hc61 => ?_) (fun hc61 => ?_)
      ·
        rw [nI_leI (by omega) (by omega)] at hc61
        refine R_gs 69 rfl ?_
        refine W_f rfl (by first | rfl | exact ⟨rfl, by first | decide | assumption | exact Or.inl rfl | exact Or.inr rfl | exact b2i_01 _⟩) ?_
        exact h0 (by omega)
      ·
        rw [nI_leI (by omega) (by omega)] at hc61
        refine R_gs 69 rfl ?_
        refine W_f rfl (by first | rfl | exact ⟨rfl, by first | decide | assumption | exact Or.inl rfl | exact Or.inr rfl | exact b2i_01 _⟩) ?_
        exact h1 (by omega)
    ·
      rw [cmp0] at hc43
      refine R_gs 48 rfl ?_
      refine W_b rfl (fun hc48 => ?_) (fun hc48 => ?_)
      ·
        rw [cmpL] at hc48
        refine R_gs 69 rfl ?_
        refine W_f rfl (by first | rfl | exact ⟨rfl, by first | decide | assumption | exact Or.inl rfl | exact Or.inr rfl | exact b2i_01 _⟩) ?_
        exact h0 (by omega)
      ·
        rw [cmpL] at hc48
        refine R_gs 69 rfl ?_
        refine W_f rfl (by first | rfl | exact ⟨rfl, by first | decide | assumption | exact Or.inl rfl | exact Or.inr rfl | exact b2i_01 _⟩) ?_
        exact h1 (by omega)
  ·
    rw [cmp0] at hc15
    refine R_gs 19 rfl ?_
    refine W_b rfl (fun hc19 => ?_) (fun hc19 => ?_)
    ·
      rw [cmpL] at hc19
      refine R_gs 27 rfl ?_
      refine W_f rfl (by first | rfl | exact ⟨rfl, by first | decide | assumption | exact Or.inl rfl | exact Or.inr rfl | exact b2i_01 _⟩) ?_
      exact h0 (by omega)
    ·
      rw [cmpL] at hc19
      refine R_gs 27 rfl ?_
      refine W_f rfl (by first | rfl | exact ⟨rfl, by first | decide | assumption | exact Or.inl rfl | exact Or.inr rfl | exact b2i_01 _⟩) ?_
      exact h1 (by omega)
end
