section
variable {L : SL} {S : SS}
def FD (L : SL) (S : SS) (f p st pa : Nat) (s : Nat × Nat) : Nat × Nat := (prow f p st pa).foldl (mtG L S) s
theorem range_lp {α : Type} (F : Nat → α → α) (s : α) : ∀ n, (List.range n).foldl (fun s q => F q s) s = lp F n s
  | 0 => rfl
  | n + 1 => by rw [List.range_succ, List.foldl_append, range_lp F s n]; rfl
theorem FD_s {f p st pa : Nat} {s : Nat × Nat} : FD L S (f + 1) p st pa s = if st.testBit p = true then FD L S f (p + 1) st pa s else lp (fun q s => if (decide (p < q) && !st.testBit q) = true then FD L S f (p + 1) (st ||| 2 ^ q) (pa ||| 2 ^ pr p q) s else s) 6 (FD L S f (p + 1) st pa s) := by
  unfold FD
  rw [show prow (f + 1) p st pa = prow f (p + 1) st pa ++ (if st.testBit p then [] else ((List.range 6).filter (fun q => decide (p < q) && !st.testBit q)).flatMap (fun q => prow f (p + 1) (st ||| 2 ^ q) (pa ||| 2 ^ pr p q))) from rfl, List.foldl_append]
  split
  · rfl
  · rw [List.foldl_flatMap, List.foldl_filter]
    exact range_lp (fun q s => if (decide (p < q) && !st.testBit q) = true then (prow f (p + 1) (st ||| 2 ^ q) (pa ||| 2 ^ pr p q)).foldl (mtG L S) s else s) _ 6
theorem lp_id {α : Type} {F : Nat → α → α} {s : α} : ∀ n, (∀ q, q < n → ∀ s, F q s = s) → lp F n s = s
  | 0, _ => rfl
  | n + 1, h => by show F n (lp F n s) = s; rw [h n (by omega), lp_id n (fun q hq => h q (by omega))]
theorem lp_skip {α : Type} {F : Nat → α → α} {s : α} {a : Nat} (h : ∀ q, q < a → ∀ s, F q s = s) : ∀ n, lp F (a + n) s = lp (fun i s => F (a + i) s) n s
  | 0 => lp_id a h
  | n + 1 => by show F (a + n) (lp F (a + n) s) = _; rw [lp_skip h n]; rfl
theorem lp_tail {α : Type} {F : Nat → α → α} {s : α} {a : Nat} (h : ∀ q, a ≤ q → ∀ s, F q s = s) : ∀ n, lp F (a + n) s = lp F a s
  | 0 => rfl
  | n + 1 => by show F (a + n) (lp F (a + n) s) = _; rw [h _ (by omega), lp_tail h n]
theorem FD_no : ∀ f p st pa s, ¬ subB L S pa → FD L S f p st pa s = s
  | 0, p, st, pa, s, h => by
    show mtG L S s pa = s
    unfold mtG; rw [if_neg (fun e => h e.1)]
  | f + 1, p, st, pa, s, h => by
    rw [FD_s, FD_no f (p + 1) st pa s h]
    split
    · rfl
    · refine lp_id 6 (fun q _ s => ?_)
      split
      · refine FD_no f (p + 1) _ _ s (fun e => h (fun k hk hb => e k hk ?_))
        rw [Nat.testBit_or, hb]; rfl
      · rfl
theorem or_bit {pa k j : Nat} : (pa ||| 2 ^ k).testBit j = (pa.testBit j || decide (k = j)) := by
  rw [Nat.testBit_or, Nat.testBit_two_pow]
theorem sub_bad (hO : LandOK L) {p q pa : Nat} (hpq : p < q) (hq : q < 6) (h : q < lP L → free L S p q = false) : ¬ subB L S (pa ||| 2 ^ pr p q) := by
  intro e
  have hk := pr_lt p (by omega) q hq (by omega)
  have h1 := e (pr p q) hk (by rw [or_bit, decide_eq_true rfl, Bool.or_true])
  have h2 := posF hO hk h1
  obtain ⟨e1, e2⟩ := lh_pr p (by omega) q hq hpq
  rw [e1, e2] at h2
  rw [h h2.1] at h2
  exact absurd h2.2 (by decide)
theorem FD_hi (hO : LandOK L) : ∀ f p st pa s, p + f = 6 → lP L ≤ p → FD L S f p st pa s = mtG L S s pa
  | 0, p, st, pa, s, h, hp => rfl
  | f + 1, p, st, pa, s, h, hp => by
    rw [FD_s, FD_hi hO f (p + 1) st pa s (by omega) (by omega)]
    split
    · rfl
    · refine lp_id 6 (fun q hq s => ?_)
      split
      · rename_i e
        simp only [Bool.and_eq_true, decide_eq_true_eq] at e
        exact FD_no f _ _ _ s (sub_bad hO e.1 hq (fun h => by omega))
      · rfl
theorem FD_lo (hO : LandOK L) {f p st pa : Nat} {s : Nat × Nat} (hp : p < lP L) (hst : st.testBit p = false) : FD L S (f + 1) p st pa s = lp (fun i s => if (!st.testBit (p + 1 + i) && free L S p (p + 1 + i)) = true then FD L S f (p + 1) (st ||| 2 ^ (p + 1 + i)) (pa ||| 2 ^ pr p (p + 1 + i)) s else s) (lP L - (p + 1)) (FD L S f (p + 1) st pa s) := by
  have o3 := hO.2.2.1
  rw [FD_s, if_neg (by rw [hst]; decide)]
  generalize FD L S f (p + 1) st pa s = s1
  have e1 : lp (fun q s => if (decide (p < q) && !st.testBit q) = true then FD L S f (p + 1) (st ||| 2 ^ q) (pa ||| 2 ^ pr p q) s else s) 6 s1 = lp (fun q s => if ((decide (p < q) && !st.testBit q) && (decide (q < lP L) && free L S p q)) = true then FD L S f (p + 1) (st ||| 2 ^ q) (pa ||| 2 ^ pr p q) s else s) 6 s1 := by
    refine lp_ext 6 (fun q t hq => ?_)
    by_cases hc : (decide (p < q) && !st.testBit q) = true
    · rw [if_pos hc, hc, Bool.true_and]
      by_cases hf : (decide (q < lP L) && free L S p q) = true
      · rw [if_pos hf]
      · rw [if_neg hf]
        simp only [Bool.and_eq_true, decide_eq_true_eq] at hc
        refine FD_no f _ _ _ t (sub_bad hO hc.1 hq (fun h => ?_))
        cases e : free L S p q
        · rfl
        · rw [e, decide_eq_true h] at hf; exact absurd rfl hf
    · rw [if_neg hc, if_neg (fun e => hc (by rw [Bool.and_eq_true] at e; exact e.1))]
  rw [e1, show (6 : Nat) = lP L + (6 - lP L) by omega, lp_tail (fun q hq s => by rw [if_neg]; simp; omega), show lP L = p + 1 + (lP L - (p + 1)) by omega, lp_skip (fun q hq s => by rw [if_neg]; simp; omega)]
  rw [show p + 1 + (lP L - (p + 1)) - (p + 1) = lP L - (p + 1) by omega]
  refine lp_ext _ (fun i t hi => ?_)
  rw [decide_eq_true (by omega : p < p + 1 + i), decide_eq_true (by omega : p + 1 + i < p + 1 + (lP L - (p + 1))), Bool.true_and, Bool.true_and]
/-! partners -/
theorem parG_ext {P P' x : Nat} : ∀ k j, j + k ≤ 6 → (∀ y, y < 6 → y ≠ x → P.testBit (pr x y) = P'.testBit (pr x y)) → parG P x j k = parG P' x j k
  | 0, _, _, _ => rfl
  | k + 1, j, h, e => by
    show (if _ then _ else _) = (if _ then _ else _)
    rw [parG_ext k (j + 1) (by omega) e]
    by_cases hj : j = x
    · rw [decide_eq_true hj]; rfl
    · rw [e j (by omega) hj]
theorem parN_ext {P P' x : Nat} (e : ∀ y, y < 6 → y ≠ x → P.testBit (pr x y) = P'.testBit (pr x y)) : parN P x = parN P' x := parG_ext 6 0 (by omega) e
theorem parG_none {P x : Nat} : ∀ k j, j + k ≤ 6 → (∀ y, y < 6 → y ≠ x → P.testBit (pr x y) = false) → parG P x j k = x
  | 0, _, _, _ => rfl
  | k + 1, j, h, e => by
    show (if _ then _ else _) = _
    rw [if_neg, parG_none k (j + 1) (by omega) e]
    by_cases hj : j = x
    · rw [decide_eq_true hj]; simp
    · rw [e j (by omega) hj]; simp
theorem parN_none {P x : Nat} (e : ∀ y, y < 6 → y ≠ x → P.testBit (pr x y) = false) : parN P x = x := parG_none 6 0 (by omega) e
theorem parG_one {P x y : Nat} (hy : y ≠ x) (hb : P.testBit (pr x y) = true) : ∀ k j, j ≤ y → y < j + k → j + k ≤ 6 → (∀ z, z < 6 → z ≠ x → z ≠ y → P.testBit (pr x z) = false) → parG P x j k = y
  | 0, _, h1, h2, _, _ => by omega
  | k + 1, j, h1, h2, h, e => by
    show (if _ then _ else _) = _
    by_cases hj : j = y
    · subst hj; rw [if_pos (by rw [hb, decide_eq_false hy]; rfl)]
    · rw [if_neg, parG_one hy hb k (j + 1) (by omega) (by omega) (by omega) e]
      by_cases hx : j = x
      · rw [decide_eq_true hx]; simp
      · rw [e j (by omega) hx hj]; simp
theorem parN_one {P x y : Nat} (hy6 : y < 6) (hy : y ≠ x) (hb : P.testBit (pr x y) = true) (e : ∀ z, z < 6 → z ≠ x → z ≠ y → P.testBit (pr x z) = false) : parN P x = y := parG_one hy hb 6 0 (by omega) (by omega) (by omega) e
theorem pr_ne0 : ∀ p, p < 6 → ∀ q, q < 6 → ∀ x, x < 6 → ∀ y, y < 6 → (decide (p < q) && !decide (x = p) && !decide (x = q) && !decide (y = x) && decide (pr p q = pr x y)) = false := by decide +kernel
theorem pr_ne {p q x y : Nat} (hpq : p < q) (hq : q < 6) (hx : x < 6) (h1 : x ≠ p) (h2 : x ≠ q) (hy : y < 6) (h3 : y ≠ x) : ¬ pr p q = pr x y := by
  intro e
  have := pr_ne0 p (by omega) q hq x hx y hy
  rw [decide_eq_true hpq, decide_eq_false h1, decide_eq_false h2, decide_eq_false h3, decide_eq_true e] at this
  cases this
/-- nobody who is not settled has anybody yet -/
def Cln (pa p st : Nat) : Prop := ∀ x, p ≤ x → x < 6 → st.testBit x = false → ∀ y, y < 6 → y ≠ x → pa.testBit (pr x y) = false
def Mat (h : AH) (L : SL) (pa p st : Nat) : Prop := ∀ x, x < lP L → (x < p ∨ st.testBit x = true) → hI h 257 x = nI (parN pa x)
def MRk (h : AH) (L : SL) (s : Nat × Nat) : Prop := s.1 ≤ 80 ∧ hI h 235 33 = nI s.1 ∧ (s.1 ≠ 0 → ∀ x, x < lP L → hI h 258 x = nI (parN s.2 x))
def ymt (q : Nat) : Bool := Nat.beq q 235 || Nat.beq q 257 || Nat.beq q 258
theorem cln_1 {pa p st : Nat} (c : Cln pa p st) : Cln pa (p + 1) st := fun x hx h6 hs y hy hn => c x (by omega) h6 hs y hy hn
theorem cln_2 {pa p st q : Nat} (c : Cln pa p st) (hpq : p < q) (hq : q < 6) : Cln (pa ||| 2 ^ pr p q) (p + 1) (st ||| 2 ^ q) := fun x hx h6 hs y hy hn => by
  rw [or_bit, Bool.or_eq_false_iff] at hs
  rw [or_bit, c x (by omega) h6 hs.1 y hy hn, decide_eq_false (pr_ne hpq hq h6 (by omega) (fun e => by rw [e] at hs; simp at hs) hy hn)]; rfl
theorem mat_1 {h : AH} {pa p st : Nat} {x : Nat} (c : Cln pa p st) (hp : p < 6) (hs : st.testBit p = false) : parN pa p = p := parN_none (fun y hy hn => c p (Nat.le_refl _) hp hs y hy hn)
theorem par_p {pa p st q : Nat} (c : Cln pa p st) (hpq : p < q) (hq : q < 6) (hs : st.testBit p = false) : parN (pa ||| 2 ^ pr p q) p = q :=
  parN_one hq (by omega) (by rw [or_bit, decide_eq_true rfl, Bool.or_true]) (fun z hz h1 h2 => by
    rw [or_bit, c p (Nat.le_refl _) (by omega) hs z hz h1, decide_eq_false]; rfl
    intro e
    exact pr_ne hpq hq hz h1 h2 (by omega : p < 6) (Ne.symm h1) (e.trans (pr_sym p (by omega) z hz)))
theorem par_q {pa p st q : Nat} (c : Cln pa p st) (hpq : p < q) (hq : q < 6) (hs : st.testBit q = false) : parN (pa ||| 2 ^ pr p q) q = p :=
  parN_one (by omega) (by omega) (by rw [or_bit, pr_sym q hq p (by omega), decide_eq_true rfl, Bool.or_true]) (fun z hz h1 h2 => by
    rw [or_bit, c q (by omega) hq hs z hz h1, decide_eq_false]; rfl
    intro e
    exact pr_ne hpq hq hz h2 h1 hq (Ne.symm h1) (e.trans (pr_sym q hq z hz)))
theorem par_o {pa p q x : Nat} (hpq : p < q) (hq : q < 6) (hx : x < 6) (h1 : x ≠ p) (h2 : x ≠ q) : parN (pa ||| 2 ^ pr p q) x = parN pa x := parN_ext (fun y hy hn => by rw [or_bit, decide_eq_false (pr_ne hpq hq hx h1 h2 hy hn), Bool.or_false])
end
section
variable {d : Nat} {h h' : AH} {L : SL} {S : SS} {H : SH'} {B : SB'} {M : SM'} {D : SD'} {T : ST'} {N : SN'} {Q : Option Value → AH → Prop}
theorem m_likedBy (hL : LandM h L) (hO : LandOK L) {P x : Nat} (hP : subB L S P) (hx : x < lP L) (hm : hI h 257 x = nI (parN P x)) (h1 : Q (some (.int (nI (hasN L P x)))) h) : Rc (d + 3) m_X13_likedBy [.ref 235, .int (nI x)] h Q := by
  have o3 := hO.2.2.1
  have hp := sub_P hO hP hx
  unfold hasN at h1
  refine R_in rfl rfl ?_
  refine R_gs 5 rfl ?_
  refine R_il rfl (by first | rfl | exact shO (by decide) (by omega) | exact shG (by decide) (by omega)) (by repeat (first | with_reducible apply ix_add | with_reducible apply ix_mul | with_reducible exact ix_nI _ | with_reducible exact ix_lit _ | exact rfl)) (by omega) (by first | exact hm) ?_
  refine R_gs 7 rfl ?_
  refine W_b rfl (fun hc7 => ?_) (fun hc7 => ?_)
  ·
    rw [nI_eq (by omega) (by omega)] at hc7
    refine R_gs 25 rfl ?_
    refine W_f rfl (by first | rfl | exact ⟨rfl, by first | decide | assumption | exact Or.inl rfl | exact Or.inr rfl | exact b2i_01 _⟩) ?_
    rw [if_pos hc7] at h1; exact h1
  ·
    rw [nI_eq (by omega) (by omega)] at hc7
    refine R_gs 21 rfl ?_
    refine R_il rfl (by first | rfl | exact shO (by decide) (by omega) | exact shG (by decide) (by omega)) (by repeat (first | with_reducible apply ix_add | with_reducible apply ix_mul | with_reducible exact ix_nI _ | with_reducible exact ix_lit _ | exact rfl)) (by omega) (by first | exact hm) ?_
    refine R_k rfl rfl (m_likingOf hL hO hx hp ?_)
    refine W_f rfl (by first | rfl | exact ⟨rfl, by first | decide | assumption | exact Or.inl rfl | exact Or.inr rfl | exact b2i_01 _⟩) ?_
    rw [if_neg hc7] at h1; exact h1
theorem m_isKeptUp (hL : LandM h L) (hO : LandOK L) (hS : SceneM h 0 L S) {P : Nat} (hP : subB L S P) (hm : ∀ x, x < lP L → hI h 257 x = nI (parN P x)) (h1 : lasB L S P = true → Q (some (.int 1)) h) (h0 : lasB L S P = false → Q (some (.int 0)) h) : Rc (d + 5) m_X13_isKeptUp [.ref 235] h Q := by
  obtain ⟨o1, o2, o3, o4, -⟩ := id hO
  refine R_in rfl rfl ?_
  refine R_gs 4 rfl ?_
  refine w_inv (W := fun p (b : Bool) => ∀ x3 x4 : Option Value, Rw (d + 4) Q (m_X13_isKeptUp, 4, [some (.ref 235), some (.int (b2i b)), some (.int (nI p)), x3, x4], [], 262, h)) (lP L) (fun p b => b = (true && !anyN p (fun p => anyN (lP L - (p + 1)) (fun i => lvB L S P p (p + 1 + i))))) (s0 := true) rfl (fun p b hp hb w => ?_) (fun b hb => ?_) none none
  ·
    intro x3 x4
    refine R_gs 6 rfl ?_
    refine R_k rfl rfl (m_people hL ?_)
    refine W_bf rfl (ltc hp (by omega)) ?_
    refine R_gs 16 rfl ?_
    rw [nI_1]
    refine w_inv (W := fun i (b2 : Bool) => ∀ x4 : Option Value, Rw (d + 4) Q (m_X13_isKeptUp, 16, [some (.ref 235), some (.int (b2i b2)), some (.int (nI p)), some (.int (nI (p + 1 + i))), x4], [], 262, h)) (lP L - (p + 1)) (fun i b2 => b2 = (b && !anyN i (fun i => lvB L S P p (p + 1 + i)))) (s0 := b) (by show b = (b && true); rw [Bool.and_true]) (fun i b2 hi hb2 w2 => ?_) (fun b2 hb2 => ?_) x4
    ·
      intro x4
      have t1 := has_le hO hP hp
      have t2 := has_le hO hP (show p + 1 + i < lP L by omega)
      have t3 := (o4 p hp).2.2.2.2 (p + 1 + i) (by omega)
      have t4 := (o4 (p + 1 + i) (by omega)).2.2.2.2 p (by omega)
      refine R_gs 18 rfl ?_
      refine R_k rfl rfl (m_people hL ?_)
      refine W_bf rfl (ltc (by omega) (by omega)) ?_
      refine R_gs 28 rfl ?_
      refine R_k rfl rfl (m_areFree (b := 0) hL hO hS (by omega) hp (by omega) (by omega) (fun hx28 => ?_) (fun hx28 => ?_))
      ·
        refine W_bf rfl (by decide) ?_
        refine R_gs 37 rfl ?_
        refine R_k rfl rfl (m_likingOf hL hO hp (by omega) ?_)
        refine R_gs 42 rfl ?_
        refine R_k rfl rfl (m_likedBy hL hO hP hp (hm p hp) ?_)
        refine W_b rfl (fun hc45 => ?_) (fun hc45 => ?_)
        ·
          rw [nI_leI (by omega) (by omega)] at hc45
          refine R_gs 70 rfl ?_
          refine W_b rfl (fun hc70 => ?_) (fun hc70 => ?_)
          ·
            refine R_gs 16 rfl ?_
            rw [nI_1]; exact w2 false (st_0 hb2 (b2i0.mp hc70)) _
          ·
            refine R_gs 75 rfl ?_
            refine W_bt rfl (by decide) ?_
            refine R_gs 16 rfl ?_
            rw [nI_1]; exact w2 true (st_f hb2 (by unfold lvB; rw [decide_eq_false (by omega : ¬ hasN L P p < lG L p (p + 1 + i))]; simp) (fun e => hc70 (b2i0.mpr e))) _
        ·
          rw [nI_leI (by omega) (by omega)] at hc45
          refine R_gs 51 rfl ?_
          refine R_k rfl rfl (m_likingOf hL hO (by omega) hp ?_)
          refine R_gs 56 rfl ?_
          refine R_k rfl rfl (m_likedBy hL hO hP (by omega) (hm (p + 1 + i) (by omega)) ?_)
          refine W_b rfl (fun hc59 => ?_) (fun hc59 => ?_)
          ·
            rw [nI_leI (by omega) (by omega)] at hc59
            refine R_gs 70 rfl ?_
            refine W_b rfl (fun hc70 => ?_) (fun hc70 => ?_)
            ·
              refine R_gs 16 rfl ?_
              rw [nI_1]; exact w2 false (st_0 hb2 (b2i0.mp hc70)) _
            ·
              refine R_gs 75 rfl ?_
              refine W_bt rfl (by decide) ?_
              refine R_gs 16 rfl ?_
              rw [nI_1]; exact w2 true (st_f hb2 (by unfold lvB; rw [decide_eq_false (by omega : ¬ hasN L P (p + 1 + i) < lG L (p + 1 + i) p)]; simp) (fun e => hc70 (b2i0.mpr e))) _
          ·
            rw [nI_leI (by omega) (by omega)] at hc59
            refine R_gs 70 rfl ?_
            refine W_b rfl (fun hc70 => ?_) (fun hc70 => ?_)
            ·
              refine R_gs 16 rfl ?_
              rw [nI_1]; exact w2 false (st_0 hb2 (b2i0.mp hc70)) _
            ·
              refine R_gs 75 rfl ?_
              refine W_bf rfl (by decide) ?_
              refine R_gs 16 rfl ?_
              rw [nI_1]; exact w2 false (st_t (by unfold lvB; rw [hx28, decide_eq_true (by omega : hasN L P p < lG L p (p + 1 + i)), decide_eq_true (by omega : hasN L P (p + 1 + i) < lG L (p + 1 + i) p)]; rfl)) _
      ·
        refine W_bt rfl (by decide) ?_
        refine R_gs 70 rfl ?_
        refine W_b rfl (fun hc70 => ?_) (fun hc70 => ?_)
        ·
          refine R_gs 16 rfl ?_
          rw [nI_1]; exact w2 false (st_0 hb2 (b2i0.mp hc70)) _
        ·
          refine R_gs 75 rfl ?_
          refine W_bt rfl (by decide) ?_
          refine R_gs 16 rfl ?_
          rw [nI_1]; exact w2 true (st_f hb2 (by unfold lvB; rw [hx28]; rfl) (fun e => hc70 (b2i0.mpr e))) _
    ·
      intro x4
      refine R_gs 18 rfl ?_
      refine R_k rfl rfl (m_people hL ?_)
      refine W_bt rfl ((nI_leI (by omega) (by omega)).mpr (by omega)) ?_
      refine R_gs 4 rfl ?_
      rw [nI_1]; exact w _ (by rw [hb2, hb, anyN_s, Bool.not_or, Bool.and_assoc]) _ _
  ·
    intro x3 x4
    refine R_gs 6 rfl ?_
    refine R_k rfl rfl (m_people hL ?_)
    refine W_bt rfl (gec (by omega)) ?_
    refine R_gs 97 rfl ?_
    refine W_f rfl (by first | rfl | exact ⟨rfl, by first | decide | assumption | exact Or.inl rfl | exact Or.inr rfl | exact b2i_01 _⟩) ?_
    have hb' : b = lasB L S P := hb
    subst hb'; cases e : lasB L S P; exact h0 e; exact h1 e
end
