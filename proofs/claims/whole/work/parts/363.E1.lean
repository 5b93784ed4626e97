def alk (L : SL) (p q : Nat) : Nat := sumN (lS L) (fun w => lO L p w * lO L q w)
def chN (L : SL) (p q : Nat) : Nat := alk L p q * 1000000 / (oT L p * oT L q)
def ofT (L : SL) (S : SS) (p q : Nat) : Nat := if snap L S p q = true then chN L p q else 0
def lftJ (c : Int32) (k : Nat) : Int64 := lp (fun _ s => s * (1000000 - c).toInt64 / 1000000) k 1000000
def hG (c : Int32) : Int64 → Nat → Nat → Int32
  | _, _, 0 => -1
  | l, n, k + 1 => if lg_cmp (1000000 - l * (1000000 - c).toInt64 / 1000000) 500000 < 0 then hG c (l * (1000000 - c).toInt64 / 1000000) (n + 1) k else nI n
def oB : Option (Nat × Nat) → Int32
  | none => -1
  | some (w, _) => nI w
def oL : Option (Nat × Nat) → Int32
  | none => 0
  | some (_, l) => nI l
/-- the least so far, the first of equal ones -/
def lst (c : Nat → Bool) (f : Nat → Nat) (w : Nat) (s : Option (Nat × Nat)) : Option (Nat × Nat) := if c w = true then (match s with
  | none => some (w, f w)
  | some (v, l) => if f w < l then some (w, f w) else some (v, l)) else s
def dng (L : SL) (S : SS) (p w : Nat) : Nat := sumN (lP L) (fun q => if (!decide (q = p) && snap L S p q) = true then lO L q w * 1000000 / oT L q else 0)
def sfA (L : SL) (S : SS) (p : Int32) : Int32 := if inN p (lP L) = true then oB (lp (lst (fun w => decide (0 < lO L p.toNatClampNeg w)) (dng L S p.toNatClampNeg)) (lS L) none) else -1
def hvn (L : SL) (S : SS) (p s : Nat) : Nat := sumN (lP L) (fun q => if (!decide (q = p) && (decide (sA S q = s) && free L S p q && !bt (sW S) (pr p q))) = true then chN L p q else 0)
def hvA (L : SL) (S : SS) (p : Int32) : Int32 := if inN p (lP L) = true then oB (lp (lst (fun _ => true) (hvn L S p.toNatClampNeg)) (lQ L) none) else -1
def chA (L : SL) (S : SS) (p q : Int32) : Int32 := if two L p q = true then nI (ofT L S p.toNatClampNeg q.toNatClampNeg) else -1
def wiA (L : SL) (S : SS) (p q m : Int32) : Int32 := if (two L p q && (decide (1 ≤ m) && decide (m ≤ 9))) = true then (1000000 - lftJ (nI (ofT L S p.toNatClampNeg q.toNatClampNeg)) m.toNatClampNeg).toInt32 else -1
def hfA (L : SL) (S : SS) (p q : Int32) : Int32 := if two L p q = true then hG (nI (ofT L S p.toNatClampNeg q.toNatClampNeg)) 1000000 1 200 else -1
theorem oT_le {L : SL} (hO : LandOK L) {p : Nat} (hp : p < lP L) : oT L p ≤ 54 := by
  obtain ⟨o1, o2, o3, o4, -⟩ := hO
  have h1 := sumN_le (f := lO L p) (b := 9) (lS L) (fun j hj => (o4 p hp).2.2.2.1 j hj)
  have h2 := (o4 p hp).2.2.1
  unfold oT oA
  omega
theorem O_le_oT {L : SL} {p w : Nat} (hw : w < lS L) : lO L p w ≤ oT L p := by
  have : ∀ n, w < n → lO L p w ≤ sumN n (lO L p) := by
    intro n
    induction n with
    | zero => omega
    | succ n ih =>
      intro h
      show _ ≤ sumN n (lO L p) + lO L p n
      rcases Nat.lt_or_ge w n with h2 | h2
      · have := ih h2; omega
      · have : w = n := by omega
        subst this; omega
  have := this _ hw
  unfold oT oA; omega
theorem mul9 {a b : Nat} (ha : a ≤ 9) (hb : b ≤ 9) : a * b ≤ 81 := Nat.mul_le_mul ha hb
theorem alk_le {L : SL} (hO : LandOK L) {p q : Nat} (hp : p < lP L) (hq : q < lP L) : alk L p q ≤ 405 := by
  obtain ⟨o1, o2, o3, o4, -⟩ := hO
  have h1 := sumN_le (f := fun w => lO L p w * lO L q w) (b := 81) (lS L) (fun j hj => mul9 ((o4 p hp).2.2.2.1 j hj) ((o4 q hq).2.2.2.1 j hj))
  unfold alk; omega
theorem chN_le {L : SL} (hO : LandOK L) {p q : Nat} (hp : p < lP L) (hq : q < lP L) : chN L p q ≤ 405000000 := by
  have := alk_le hO hp hq
  unfold chN
  exact Nat.le_trans (Nat.div_le_self _ _) (by omega)
theorem sq_le {a b : Nat} (ha : a ≤ 54) (hb : b ≤ 54) : a * b ≤ 2916 := Nat.mul_le_mul ha hb
section
variable {d a b : Nat} {h : AH} {L : SL} {S : SS} {Q : Option Value → AH → Prop}
theorem c_ofTwo (ha : a = 143 ∨ a = 171) (hO : LandOK L) (hL : LandC h a L) (hb : b = 7 ∨ b = 14) (hS : SceneC h b L S) (hV : SceneOK L S) {p q : Nat} (hp : p < lP L) (hq : q < lP L) (hpq : p ≠ q) (h1 : Q (some (.int (nI (ofT L S p q)))) h) : Rc (d + 4) m_X5_ofTwo [.ref a, .ref b, .int (nI p), .int (nI q)] h Q := by
  obtain ⟨o1, o2, o3, o4, -⟩ := id hO
  have t1 := oT_le hO hp
  have t2 := oT_le hO hq
  have t3 := sq_le t1 t2
  have t4 := alk_le hO hp hq
  have ha' := ha
  have hb' := hb
  unfold ofT at h1
  rcases ha with rfl | rfl <;> rcases hb with rfl | rfl
  all_goals
    refine R_in rfl rfl ?_
    refine R_gs 2 rfl ?_
    refine R_k rfl rfl (c_oddsAndShyness ha' hO hL hp ?_)
    refine R_gs 7 rfl ?_
    refine R_k rfl rfl (c_oddsAndShyness ha' hO hL hq ?_)
    refine R_gs 15 rfl ?_
    rw [nI_mul]
    refine W_b rfl (fun hc15 => ?_) (fun hc15 => ?_)
    ·
      rw [show nI (oT L p * oT L q) = 0 ↔ oT L p * oT L q = 0 from nI_eq (b := 0) (by omega) (by omega)] at hc15
      refine R_gs 29 rfl ?_
      refine W_f rfl (by first | rfl | exact ⟨rfl, by first | decide | assumption | exact Or.inl rfl | exact Or.inr rfl | exact b2i_01 _⟩) ?_
      have e0 : chN L p q = 0 := (by unfold chN; rw [hc15, Nat.div_zero]); rw [e0, ite_self] at h1; exact h1
    ·
      rw [show nI (oT L p * oT L q) = 0 ↔ oT L p * oT L q = 0 from nI_eq (b := 0) (by omega) (by omega)] at hc15
      refine R_gs 22 rfl ?_
      refine R_k rfl rfl (c_couldSnap ha' hO hL hb' hS hV hp hq hpq (fun hx22 => ?_) (fun hx22 => ?_))
      ·
        refine W_bf rfl (by decide) ?_
        refine R_gs 36 rfl ?_
        refine w_lp (W := fun j s => Rw (d + 3) Q (m_X5_ofTwo, 36, [_, _, _, _, _, some (.long (lN s)), none, some (.int (nI j))], [], 262, h)) (fun w s => s + lO L p w * lO L q w) (lS L) (fun _ _ => True) 0 trivial (fun j s hj _ => ⟨trivial, fun w => ?_⟩) (fun _ => ?_)
        ·
          have u := mul9 ((o4 p hp).2.2.2.1 j hj) ((o4 q hq).2.2.2.1 j hj)
          refine R_gs 42 rfl ?_
          rw [hL.S]
          refine W_bf rfl (ltc hj (by omega)) ?_
          refine R_gs 52 rfl ?_
          refine R_ro rfl rfl rfl (by repeat (first | with_reducible apply ix_add | with_reducible apply ix_mul | with_reducible exact ix_nI _ | with_reducible exact ix_lit _ | exact rfl)) (by omega) ?_
          refine R_gs 55 rfl ?_
          refine R_il rfl (by first | rfl | exact shO (by decide) (by omega) | exact shG (by decide) (by omega)) (by repeat (first | with_reducible apply ix_add | with_reducible apply ix_mul | with_reducible exact ix_nI _ | with_reducible exact ix_lit _ | exact rfl)) (by omega) (by first | exact hL.O hp hj) ?_
          refine R_gs 61 rfl ?_
          refine R_ro rfl rfl rfl (by repeat (first | with_reducible apply ix_add | with_reducible apply ix_mul | with_reducible exact ix_nI _ | with_reducible exact ix_lit _ | exact rfl)) (by omega) ?_
          refine R_gs 64 rfl ?_
          refine R_il rfl (by first | rfl | exact shO (by decide) (by omega) | exact shG (by decide) (by omega)) (by repeat (first | with_reducible apply ix_add | with_reducible apply ix_mul | with_reducible exact ix_nI _ | with_reducible exact ix_lit _ | exact rfl)) (by omega) (by first | exact hL.O hq hj) ?_
          refine R_gs 36 rfl ?_
          rw [nI_mul, nI_l (by omega), lN_add, nI_1]; exact w
        ·
          refine R_gs 42 rfl ?_
          rw [hL.S]
          refine W_bt rfl (gec (by omega)) ?_
          refine R_gs 85 rfl ?_
          have e1 : (lN (lp (fun w s => s + lO L p w * lO L q w) (lS L) 0)) * 1000000 = lN (alk L p q * 1000000) := lN_mul _ _
          rw [e1, nI_l (by omega)]
          refine W_c rfl (fun e => absurd ((pk_lEQ (b := 0) (by omega) (by omega)).mp e) (by omega)) ?_
          rw [pk_lDiv (by omega) (by omega) (by omega)]
          refine R_gs 87 rfl ?_
          refine W_f rfl (by first | rfl | exact ⟨rfl, by first | decide | assumption | exact Or.inl rfl | exact Or.inr rfl | exact b2i_01 _⟩) ?_
          rw [lN_i]; rw [if_pos hx22] at h1; exact h1
      ·
        refine W_bt rfl (by decide) ?_
        refine R_gs 29 rfl ?_
        refine W_f rfl (by first | rfl | exact ⟨rfl, by first | decide | assumption | exact Or.inl rfl | exact Or.inr rfl | exact b2i_01 _⟩) ?_
        rw [if_neg (by rw [hx22]; decide)] at h1; exact h1
theorem c_afterSome {x : Int32} {m : Nat} (hm : m < 2 ^ 31) (h1 : Q (some (.int (1000000 - lftJ x m).toInt32)) h) : Rc (d + 1) m_X5_afterSome [.int x, .int (nI m)] h Q := by
  refine R_in rfl rfl ?_
  refine R_gs 7 rfl ?_
  refine w_lp (W := fun j s => Rw d Q (m_X5_afterSome, 7, [_, _, some (.long s), none, some (.int (nI j))], [], 262, h)) (fun _ s => s * (1000000 - x).toInt64 / 1000000) m (fun _ _ => True) 1000000 trivial (fun j s hj _ => ⟨trivial, fun w => ?_⟩) (fun _ => ?_)
  ·
    refine R_gs 10 rfl ?_
    refine W_bf rfl (ltc hj (by omega)) ?_
    refine R_gs 23 rfl ?_
    refine W_c rfl (by decide) ?_
    refine R_gs 7 rfl ?_
    rw [nI_1]; exact w
  ·
    refine R_gs 10 rfl ?_
    refine W_bt rfl (gec (by omega)) ?_
    refine R_gs 37 rfl ?_
    refine W_f rfl (by first | rfl | exact ⟨rfl, by first | decide | assumption | exact Or.inl rfl | exact Or.inr rfl | exact b2i_01 _⟩) ?_
    exact h1
theorem c_untilHalf {x : Int32} (h1 : Q (some (.int (hG x 1000000 1 200))) h) : Rc (d + 1) m_X5_untilHalf [.int x] h Q := by
  refine R_in rfl rfl ?_
  refine R_gs 6 rfl ?_
  refine w_inv (W := fun j (s : Int64) => Rw d Q (m_X5_untilHalf, 6, [_, some (.long s), none, some (.int (nI (j + 1)))], [], 262, h)) 200 (fun j s => Q (some (.int (hG x s (j + 1) (200 - j)))) h) (s0 := 1000000) h1 (fun j s hj hi w => ?_) (fun s hi => ?_)
  ·
    rw [show 200 - j = 200 - (j + 1) + 1 by omega] at hi
    unfold hG at hi
    refine R_gs 10 rfl ?_
    refine W_bf rfl (fun e => absurd ((nI_ltI (a := 200) (by omega) (by omega)).mp e) (by omega)) ?_
    refine R_gs 23 rfl ?_
    refine W_c rfl (by decide) ?_
    refine R_gs 34 rfl ?_
    refine W_b rfl (fun hc34 => ?_) (fun hc34 => ?_)
    ·
      refine R_gs 6 rfl ?_
      rw [nI_1]; rw [if_pos hc34] at hi; exact w _ hi
    ·
      refine R_gs 38 rfl ?_
      refine W_f rfl (by first | rfl | exact ⟨rfl, by first | decide | assumption | exact Or.inl rfl | exact Or.inr rfl | exact b2i_01 _⟩) ?_
      rw [if_neg hc34] at hi; exact hi
  ·
    refine R_gs 10 rfl ?_
    refine W_bt rfl ((by decide : (200 : Int32) < nI (200 + 1))) ?_
    refine R_gs 46 rfl ?_
    refine W_f rfl (by first | rfl | exact ⟨rfl, by first | decide | assumption | exact Or.inl rfl | exact Or.inr rfl | exact b2i_01 _⟩) ?_
    exact hi
theorem nI_e0 {k : Nat} (hk : k < 2 ^ 31) : nI k = 0 ↔ k = 0 := nI_eq (b := 0) hk (by omega)
theorem dng_t {L : SL} (hO : LandOK L) {q w : Nat} (hq : q < lP L) (hw : w < lS L) : lO L q w * 1000000 / oT L q ≤ 9000000 := by
  have := (hO.2.2.2.1 q hq).2.2.2.1 w hw
  exact Nat.le_trans (Nat.div_le_self _ _) (by omega)
theorem c_dangerOf (ha : a = 143 ∨ a = 171) (hO : LandOK L) (hL : LandC h a L) (hb : b = 7 ∨ b = 14) (hS : SceneC h b L S) (hV : SceneOK L S) {p w : Nat} (hp : p < lP L) (hw : w < lS L) (h1 : Q (some (.int (nI (dng L S p w)))) h) : Rc (d + 4) m_X5_dangerOf [.ref a, .ref b, .int (nI p), .int (nI w)] h Q := by
  obtain ⟨o1, o2, o3, o4, -⟩ := id hO
  have ha' := ha
  have hb' := hb
  rcases ha with rfl | rfl <;> rcases hb with rfl | rfl
  ·
    refine R_in rfl rfl ?_
    refine R_gs 6 rfl ?_
    refine w_lp (W := fun j s => ∀ x6 : Option Value, Rw (d + 3) Q (m_X5_dangerOf, 6, [some (.ref 143), some (.ref 7), some (.int (nI p)), some (.int (nI w)), some (.int (nI s)), some (.int (nI j)), x6], [], 262, h)) (fun q s => s + if (!decide (q = p) && snap L S p q) = true then lO L q w * 1000000 / oT L q else 0) (lP L) (fun _ _ => True) 0 trivial (fun j s hj _ => ⟨trivial, fun ww => ?_⟩) (fun _ => ?_) none
    ·
      intro x6
      have t1 := oT_le hO hj
      have t2 := (o4 j hj).2.2.2.1 w hw
      refine R_gs 12 rfl ?_
      rw [hL.P]
      refine W_bf rfl (ltc hj (by omega)) ?_
      refine R_gs 18 rfl ?_
      refine R_k rfl rfl (c_oddsAndShyness ha' hO hL hj ?_)
      refine R_gs 26 rfl ?_
      refine W_b rfl (fun hc26 => ?_) (fun hc26 => ?_)
      ·
        rw [nI_eq (by omega) (by omega)] at hc26
        refine R_gs 6 rfl ?_
        rw [if_neg (by simp [hc26]), Nat.add_zero] at ww; rw [nI_1]; exact ww _
      ·
        rw [nI_eq (by omega) (by omega)] at hc26
        refine R_gs 31 rfl ?_
        refine W_b rfl (fun hc31 => ?_) (fun hc31 => ?_)
        ·
          rw [le0 (by omega)] at hc31
          refine R_gs 6 rfl ?_
          rw [show (lO L j w * 1000000 / oT L j) = 0 from by rw [hc31, Nat.div_zero], ite_self, Nat.add_zero] at ww; rw [nI_1]; exact ww _
        ·
          rw [le0 (by omega)] at hc31
          refine R_gs 39 rfl ?_
          refine R_k rfl rfl (c_couldSnap ha' hO hL hb' hS hV hp hj (Ne.symm hc26) (fun hx39 => ?_) (fun hx39 => ?_))
          ·
            refine W_bf rfl (by decide) ?_
            refine R_gs 53 rfl ?_
            refine R_ro rfl rfl rfl (by repeat (first | with_reducible apply ix_add | with_reducible apply ix_mul | with_reducible exact ix_nI _ | with_reducible exact ix_lit _ | exact rfl)) (by omega) ?_
            refine R_gs 55 rfl ?_
            refine R_il rfl (by first | rfl | exact shO (by decide) (by omega) | exact shG (by decide) (by omega)) (by repeat (first | with_reducible apply ix_add | with_reducible apply ix_mul | with_reducible exact ix_nI _ | with_reducible exact ix_lit _ | exact rfl)) (by omega) (by first | exact hL.O hj hw) ?_
            refine R_gs 61 rfl ?_
            rw [show nI (lO L j w) * 1000000 = nI (lO L j w * 1000000) from nI_mul _ 1000000]
            refine W_c rfl (fun e => hc31 ((nI_e0 (by omega)).mp e)) ?_
            rw [pk_div (by omega) (by omega) (by omega)]
            refine R_gs 6 rfl ?_
            rw [if_pos (by simp [hx39, hc26])] at ww; rw [nI_add, nI_1]; exact ww _
          ·
            refine W_bt rfl (by decide) ?_
            refine R_gs 6 rfl ?_
            rw [if_neg (by simp [hx39]), Nat.add_zero] at ww; rw [nI_1]; exact ww _
    ·
      intro x6
      refine R_gs 12 rfl ?_
      rw [hL.P]
      refine W_bt rfl (gec (by omega)) ?_
      refine R_gs 73 rfl ?_
      refine W_f rfl (by first | rfl | exact ⟨rfl, by first | decide | assumption | exact Or.inl rfl | exact Or.inr rfl | exact b2i_01 _⟩) ?_
      exact h1
  ·
    refine R_in rfl rfl ?_
    refine R_gs 6 rfl ?_
    refine w_lp (W := fun j s => ∀ x6 : Option Value, Rw (d + 3) Q (m_X5_dangerOf, 6, [some (.ref 143), some (.ref 14), some (.int (nI p)), some (.int (nI w)), some (.int (nI s)), some (.int (nI j)), x6], [], 262, h)) (fun q s => s + if (!decide (q = p) && snap L S p q) = true then lO L q w * 1000000 / oT L q else 0) (lP L) (fun _ _ => True) 0 trivial (fun j s hj _ => ⟨trivial, fun ww => ?_⟩) (fun _ => ?_) none
    ·
      intro x6
      have t1 := oT_le hO hj
      have t2 := (o4 j hj).2.2.2.1 w hw
      refine R_gs 12 rfl ?_
      rw [hL.P]
      refine W_bf rfl (ltc hj (by omega)) ?_
      refine R_gs 18 rfl ?_
      refine R_k rfl rfl (c_oddsAndShyness ha' hO hL hj ?_)
      refine R_gs 26 rfl ?_
      refine W_b rfl (fun hc26 => ?_) (fun hc26 => ?_)
      ·
        rw [nI_eq (by omega) (by omega)] at hc26
        refine R_gs 6 rfl ?_
        rw [if_neg (by simp [hc26]), Nat.add_zero] at ww; rw [nI_1]; exact ww _
      ·
        rw [nI_eq (by omega) (by omega)] at hc26
        refine R_gs 31 rfl ?_
        refine W_b rfl (fun hc31 => ?_) (fun hc31 => ?_)
        ·
          rw [le0 (by omega)] at hc31
          refine R_gs 6 rfl ?_
          rw [show (lO L j w * 1000000 / oT L j) = 0 from by rw [hc31, Nat.div_zero], ite_self, Nat.add_zero] at ww; rw [nI_1]; exact ww _
        ·
          rw [le0 (by omega)] at hc31
          refine R_gs 39 rfl ?_
          refine R_k rfl rfl (c_couldSnap ha' hO hL hb' hS hV hp hj (Ne.symm hc26) (fun hx39 => ?_) (fun hx39 => ?_))
          ·
            refine W_bf rfl (by decide) ?_
            refine R_gs 53 rfl ?_
            refine R_ro rfl rfl rfl (by repeat (first | with_reducible apply ix_add | with_reducible apply ix_mul | with_reducible exact ix_nI _ | with_reducible exact ix_lit _ | exact rfl)) (by omega) ?_
            refine R_gs 55 rfl ?_
            refine R_il rfl (by first | rfl | exact shO (by decide) (by omega) | exact shG (by decide) (by omega)) (by repeat (first | with_reducible apply ix_add | with_reducible apply ix_mul | with_reducible exact ix_nI _ | with_reducible exact ix_lit _ | exact rfl)) (by omega) (by first | exact hL.O hj hw) ?_
            refine R_gs 61 rfl ?_
            rw [show nI (lO L j w) * 1000000 = nI (lO L j w * 1000000) from nI_mul _ 1000000]
            refine W_c rfl (fun e => hc31 ((nI_e0 (by omega)).mp e)) ?_
            rw [pk_div (by omega) (by omega) (by omega)]
            refine R_gs 6 rfl ?_
            rw [if_pos (by simp [hx39, hc26])] at ww; rw [nI_add, nI_1]; exact ww _
          ·
            refine W_bt rfl (by decide) ?_
            refine R_gs 6 rfl ?_
            rw [if_neg (by simp [hx39]), Nat.add_zero] at ww; rw [nI_1]; exact ww _
    ·
      intro x6
      refine R_gs 12 rfl ?_
      rw [hL.P]
      refine W_bt rfl (gec (by omega)) ?_
      refine R_gs 73 rfl ?_
      refine W_f rfl (by first | rfl | exact ⟨rfl, by first | decide | assumption | exact Or.inl rfl | exact Or.inr rfl | exact b2i_01 _⟩) ?_
      exact h1
  ·
    refine R_in rfl rfl ?_
    refine R_gs 6 rfl ?_
    refine w_lp (W := fun j s => ∀ x6 : Option Value, Rw (d + 3) Q (m_X5_dangerOf, 6, [some (.ref 171), some (.ref 7), some (.int (nI p)), some (.int (nI w)), some (.int (nI s)), some (.int (nI j)), x6], [], 262, h)) (fun q s => s + if (!decide (q = p) && snap L S p q) = true then lO L q w * 1000000 / oT L q else 0) (lP L) (fun _ _ => True) 0 trivial (fun j s hj _ => ⟨trivial, fun ww => ?_⟩) (fun _ => ?_) none
    ·
      intro x6
      have t1 := oT_le hO hj
      have t2 := (o4 j hj).2.2.2.1 w hw
      refine R_gs 12 rfl ?_
      rw [hL.P]
      refine W_bf rfl (ltc hj (by omega)) ?_
      refine R_gs 18 rfl ?_
      refine R_k rfl rfl (c_oddsAndShyness ha' hO hL hj ?_)
      refine R_gs 26 rfl ?_
      refine W_b rfl (fun hc26 => ?_) (fun hc26 => ?_)
      ·
        rw [nI_eq (by omega) (by omega)] at hc26
        refine R_gs 6 rfl ?_
        rw [if_neg (by simp [hc26]), Nat.add_zero] at ww; rw [nI_1]; exact ww _
      ·
        rw [nI_eq (by omega) (by omega)] at hc26
        refine R_gs 31 rfl ?_
        refine W_b rfl (fun hc31 => ?_) (fun hc31 => ?_)
        ·
          rw [le0 (by omega)] at hc31
          refine R_gs 6 rfl ?_
          rw [show (lO L j w * 1000000 / oT L j) = 0 from by rw [hc31, Nat.div_zero], ite_self, Nat.add_zero] at ww; rw [nI_1]; exact ww _
        ·
          rw [le0 (by omega)] at hc31
          refine R_gs 39 rfl ?_
          refine R_k rfl rfl (c_couldSnap ha' hO hL hb' hS hV hp hj (Ne.symm hc26) (fun hx39 => ?_) (fun hx39 => ?_))
          ·
            refine W_bf rfl (by decide) ?_
            refine R_gs 53 rfl ?_
            refine R_ro rfl rfl rfl (by repeat (first | with_reducible apply ix_add | with_reducible apply ix_mul | with_reducible exact ix_nI _ | with_reducible exact ix_lit _ | exact rfl)) (by omega) ?_
            refine R_gs 55 rfl ?_
            refine R_il rfl (by first | rfl | exact shO (by decide) (by omega) | exact shG (by decide) (by omega)) (by repeat (first | with_reducible apply ix_add | with_reducible apply ix_mul | with_reducible exact ix_nI _ | with_reducible exact ix_lit _ | exact rfl)) (by omega) (by first | exact hL.O hj hw) ?_
            refine R_gs 61 rfl ?_
            rw [show nI (lO L j w) * 1000000 = nI (lO L j w * 1000000) from nI_mul _ 1000000]
            refine W_c rfl (fun e => hc31 ((nI_e0 (by omega)).mp e)) ?_
            rw [pk_div (by omega) (by omega) (by omega)]
            refine R_gs 6 rfl ?_
            rw [if_pos (by simp [hx39, hc26])] at ww; rw [nI_add, nI_1]; exact ww _
          ·
            refine W_bt rfl (by decide) ?_
            refine R_gs 6 rfl ?_
            rw [if_neg (by simp [hx39]), Nat.add_zero] at ww; rw [nI_1]; exact ww _
    ·
      intro x6
      refine R_gs 12 rfl ?_
      rw [hL.P]
      refine W_bt rfl (gec (by omega)) ?_
      refine R_gs 73 rfl ?_
      refine W_f rfl (by first | rfl | exact ⟨rfl, by first | decide | assumption | exact Or.inl rfl | exact Or.inr rfl | exact b2i_01 _⟩) ?_
      exact h1
  ·
    refine R_in rfl rfl ?_
    refine R_gs 6 rfl ?_
    refine w_lp (W := fun j s => ∀ x6 : Option Value, Rw (d + 3) Q (m_X5_dangerOf, 6, [some (.ref 171), some (.ref 14), some (.int (nI p)), some (.int (nI w)), some (.int (nI s)), some (.int (nI j)), x6], [], 262, h)) (fun q s => s + if (!decide (q = p) && snap L S p q) = true then lO L q w * 1000000 / oT L q else 0) (lP L) (fun _ _ => True) 0 trivial (fun j s hj _ => ⟨trivial, fun ww => ?_⟩) (fun _ => ?_) none
    ·
      intro x6
      have t1 := oT_le hO hj
      have t2 := (o4 j hj).2.2.2.1 w hw
      refine R_gs 12 rfl ?_
      rw [hL.P]
      refine W_bf rfl (ltc hj (by omega)) ?_
      refine R_gs 18 rfl ?_
      refine R_k rfl rfl (c_oddsAndShyness ha' hO hL hj ?_)
      refine R_gs 26 rfl ?_
      refine W_b rfl (fun hc26 => ?_) (fun hc26 => ?_)
      ·
        rw [nI_eq (by omega) (by omega)] at hc26
        refine R_gs 6 rfl ?_
        rw [if_neg (by simp [hc26]), Nat.add_zero] at ww; rw [nI_1]; exact ww _
      ·
        rw [nI_eq (by omega) (by omega)] at hc26
        refine R_gs 31 rfl ?_
        refine W_b rfl (fun hc31 => ?_) (fun hc31 => ?_)
        ·
          rw [le0 (by omega)] at hc31
          refine R_gs 6 rfl ?_
          rw [show (lO L j w * 1000000 / oT L j) = 0 from by rw [hc31, Nat.div_zero], ite_self, Nat.add_zero] at ww; rw [nI_1]; exact ww _
        ·
          rw [le0 (by omega)] at hc31
          refine R_gs 39 rfl ?_
          refine R_k rfl rfl (c_couldSnap ha' hO hL hb' hS hV hp hj (Ne.symm hc26) (fun hx39 => ?_) (fun hx39 => ?_))
          ·
            refine W_bf rfl (by decide) ?_
            refine R_gs 53 rfl ?_
            refine R_ro rfl rfl rfl (by repeat (first | with_reducible apply ix_add | with_reducible apply ix_mul | with_reducible exact ix_nI _ | with_reducible exact ix_lit _ | exact rfl)) (by omega) ?_
            refine R_gs 55 rfl ?_
            refine R_il rfl (by first | rfl | exact shO (by decide) (by omega) | exact shG (by decide) (by omega)) (by repeat (first | with_reducible apply ix_add | with_reducible apply ix_mul | with_reducible exact ix_nI _ | with_reducible exact ix_lit _ | exact rfl)) (by omega) (by first | exact hL.O hj hw) ?_
            refine R_gs 61 rfl ?_
            rw [show nI (lO L j w) * 1000000 = nI (lO L j w * 1000000) from nI_mul _ 1000000]
            refine W_c rfl (fun e => hc31 ((nI_e0 (by omega)).mp e)) ?_
            rw [pk_div (by omega) (by omega) (by omega)]
            refine R_gs 6 rfl ?_
            rw [if_pos (by simp [hx39, hc26])] at ww; rw [nI_add, nI_1]; exact ww _
          ·
            refine W_bt rfl (by decide) ?_
            refine R_gs 6 rfl ?_
            rw [if_neg (by simp [hx39]), Nat.add_zero] at ww; rw [nI_1]; exact ww _
    ·
      intro x6
      refine R_gs 12 rfl ?_
      rw [hL.P]
      refine W_bt rfl (gec (by omega)) ?_
      refine R_gs 73 rfl ?_
      refine W_f rfl (by first | rfl | exact ⟨rfl, by first | decide | assumption | exact Or.inl rfl | exact Or.inr rfl | exact b2i_01 _⟩) ?_
      exact h1
theorem oB_n {s : Option (Nat × Nat)} (hs : ∀ v l, s = some (v, l) → v < 2 ^ 31) : oB s = -1 ↔ s = none := by
  rcases s with _ | ⟨v, l⟩
  · exact ⟨fun _ => rfl, fun _ => rfl⟩
  · refine ⟨fun e => ?_, fun e => by cases e⟩
    have e' : nI v = -1 := e
    have := nI_pos' (n := v) (hs v l rfl)
    rw [e'] at this; exact absurd this (by decide)
theorem oB_lt {s : Option (Nat × Nat)} (hs : ∀ v l, s = some (v, l) → v < 2 ^ 31) : oB s < 0 ↔ s = none := by
  rcases s with _ | ⟨v, l⟩
  · exact ⟨fun _ => rfl, fun _ => by decide⟩
  · refine ⟨fun e => ?_, fun e => by cases e⟩
    exact absurd e (nI_pos (n := v) (hs v l rfl))
/-- the bounds of the least -/
def lstI (n m : Nat) (s : Option (Nat × Nat)) : Prop := ∀ v l, s = some (v, l) → v < n ∧ l ≤ m
theorem lst_I {n m : Nat} {c : Nat → Bool} {f : Nat → Nat} {w : Nat} {s : Option (Nat × Nat)} (hw : w < n) (hf : f w ≤ m) (hs : lstI n m s) : lstI n m (lst c f w s) := by
  intro v l e
  unfold lst at e
  split at e
  · split at e
    · cases e; exact ⟨hw, hf⟩
    · split at e
      · cases e; exact ⟨hw, hf⟩
      · cases e; exact hs _ _ rfl
  · exact hs _ _ e
theorem lst_no {c : Nat → Bool} {f : Nat → Nat} {w : Nat} {s : Option (Nat × Nat)} (h : ¬ c w = true) : lst c f w s = s := by unfold lst; rw [if_neg h]
theorem lst_first {c : Nat → Bool} {f : Nat → Nat} {w : Nat} (h : c w = true) : lst c f w none = some (w, f w) := by unfold lst; rw [if_pos h]
theorem lst_lt {c : Nat → Bool} {f : Nat → Nat} {w : Nat} {v l : Nat} (h : c w = true) (h2 : f w < l) : lst c f w (some (v, l)) = some (w, f w) := by unfold lst; rw [if_pos h]; dsimp only; rw [if_pos h2]
theorem lst_ge {c : Nat → Bool} {f : Nat → Nat} {w : Nat} {v l : Nat} (h : c w = true) (h2 : ¬ f w < l) : lst c f w (some (v, l)) = some (v, l) := by unfold lst; rw [if_pos h]; dsimp only; rw [if_neg h2]
theorem dng_le {L : SL} {S : SS} (hO : LandOK L) {p w : Nat} (hw : w < lS L) : dng L S p w ≤ 54000000 := by
  have o3 := hO.2.2.1
  have := sumN_le (f := fun q => if (!decide (q = p) && snap L S p q) = true then lO L q w * 1000000 / oT L q else 0) (b := 9000000) (lP L) (fun q hq => by split; exact dng_t hO hq hw; omega)
  unfold dng; omega
theorem c_safestSaying (ha : a = 143 ∨ a = 171) (hO : LandOK L) (hL : LandC h a L) (hb : b = 7 ∨ b = 14) (hS : SceneC h b L S) (hV : SceneOK L S) {p : Nat} (hp : p < lP L) (h1 : Q (some (.int (oB (lp (lst (fun w => decide (0 < lO L p w)) (dng L S p)) (lS L) none)))) h) : Rc (d + 5) m_X5_safestSaying [.ref a, .ref b, .int (nI p)] h Q := by
  obtain ⟨o1, o2, o3, o4, -⟩ := id hO
  have ha' := ha
  have hb' := hb
  rcases ha with rfl | rfl <;> rcases hb with rfl | rfl
  ·
    refine R_in rfl rfl ?_
    refine R_gs 8 rfl ?_
    refine w_lp (W := fun j s => ∀ x6 : Option Value, Rw (d + 4) Q (m_X5_safestSaying, 8, [some (.ref 143), some (.ref 7), some (.int (nI p)), some (.int (oB s)), some (.int (oL s)), some (.int (nI j)), x6], [], 262, h)) (lst (fun w => decide (0 < lO L p w)) (dng L S p)) (lS L) (fun _ s => lstI 5 54000000 s) none (fun v l e => by cases e) (fun j s hj hi => ⟨lst_I (by omega) (dng_le hO hj) hi, fun ww => ?_⟩) (fun _ => ?_) none
    ·
      intro x6
      have t2 := (o4 p hp).2.2.2.1 j hj
      have t3 := dng_le (S := S) hO (p := p) hj
      refine R_gs 14 rfl ?_
      rw [hL.S]
      refine W_bf rfl (ltc hj (by omega)) ?_
      refine R_gs 22 rfl ?_
      refine R_ro rfl rfl rfl (by repeat (first | with_reducible apply ix_add | with_reducible apply ix_mul | with_reducible exact ix_nI _ | with_reducible exact ix_lit _ | exact rfl)) (by omega) ?_
      refine R_gs 25 rfl ?_
      refine R_il rfl (by first | rfl | exact shO (by decide) (by omega) | exact shG (by decide) (by omega)) (by repeat (first | with_reducible apply ix_add | with_reducible apply ix_mul | with_reducible exact ix_nI _ | with_reducible exact ix_lit _ | exact rfl)) (by omega) (by first | exact hL.O hp hj) ?_
      refine W_b rfl (fun hc26 => ?_) (fun hc26 => ?_)
      ·
        rw [le0 (by omega)] at hc26
        refine R_gs 8 rfl ?_
        rw [lst_no (by simp [hc26])] at ww; rw [nI_1]; exact ww _
      ·
        rw [le0 (by omega)] at hc26
        refine R_gs 34 rfl ?_
        refine R_k rfl rfl (c_dangerOf ha' hO hL hb' hS hV hp hj ?_)
        refine R_gs 41 rfl ?_
        refine W_b rfl (fun hc41 => ?_) (fun hc41 => ?_)
        ·
          rw [oB_n (fun v l e => by have := (hi v l e).1; omega)] at hc41
          refine R_gs 8 rfl ?_
          subst hc41; rw [lst_first (by simp; omega)] at ww; rw [nI_1]; exact ww _
        ·
          rw [oB_n (fun v l e => by have := (hi v l e).1; omega)] at hc41
          refine R_gs 48 rfl ?_
          refine W_b rfl (fun hc48 => ?_) (fun hc48 => ?_)
          ·
            refine R_gs 8 rfl ?_
            obtain ⟨v, l, rfl⟩ : ∃ v l, s = some (v, l) := (by rcases s with _ | ⟨v, l⟩; exact absurd rfl hc41; exact ⟨v, l, rfl⟩); have hl := (hi v l rfl).2; rw [lst_ge (by simp; omega) (fun e => absurd ((nI_leI (a := l) (b := dng L S p j) (by omega) (by omega)).mp hc48) (by omega))] at ww; rw [nI_1]; exact ww _
          ·
            refine R_gs 8 rfl ?_
            obtain ⟨v, l, rfl⟩ : ∃ v l, s = some (v, l) := (by rcases s with _ | ⟨v, l⟩; exact absurd rfl hc41; exact ⟨v, l, rfl⟩); have hl := (hi v l rfl).2; rw [lst_lt (by simp; omega) (by have := mt (nI_leI (a := l) (b := dng L S p j) (by omega) (by omega)).mpr hc48; omega)] at ww; rw [nI_1]; exact ww _
    ·
      intro x6
      refine R_gs 14 rfl ?_
      rw [hL.S]
      refine W_bt rfl (gec (by omega)) ?_
      refine R_gs 65 rfl ?_
      refine W_f rfl (by first | rfl | exact ⟨rfl, by first | decide | assumption | exact Or.inl rfl | exact Or.inr rfl | exact b2i_01 _⟩) ?_
      exact h1
  ·
    refine R_in rfl rfl ?_
    refine R_gs 8 rfl ?_
    refine w_lp (W := fun j s => ∀ x6 : Option Value, Rw (d + 4) Q (m_X5_safestSaying, 8, [some (.ref 143), some (.ref 14), some (.int (nI p)), some (.int (oB s)), some (.int (oL s)), some (.int (nI j)), x6], [], 262, h)) (lst (fun w => decide (0 < lO L p w)) (dng L S p)) (lS L) (fun _ s => lstI 5 54000000 s) none (fun v l e => by cases e) (fun j s hj hi => ⟨lst_I (by omega) (dng_le hO hj) hi, fun ww => ?_⟩) (fun _ => ?_) none
    ·
      intro x6
      have t2 := (o4 p hp).2.2.2.1 j hj
      have t3 := dng_le (S := S) hO (p := p) hj
      refine R_gs 14 rfl ?_
      rw [hL.S]
      refine W_bf rfl (ltc hj (by omega)) ?_
      refine R_gs 22 rfl ?_
      refine R_ro rfl rfl rfl (by repeat (first | with_reducible apply ix_add | with_reducible apply ix_mul | with_reducible exact ix_nI _ | with_reducible exact ix_lit _ | exact rfl)) (by omega) ?_
      refine R_gs 25 rfl ?_
      refine R_il rfl (by first | rfl | exact shO (by decide) (by omega) | exact shG (by decide) (by omega)) (by repeat (first | with_reducible apply ix_add | with_reducible apply ix_mul | with_reducible exact ix_nI _ | with_reducible exact ix_lit _ | exact rfl)) (by omega) (by first | exact hL.O hp hj) ?_
      refine W_b rfl (fun hc26 => ?_) (fun hc26 => ?_)
      ·
        rw [le0 (by omega)] at hc26
        refine R_gs 8 rfl ?_
        rw [lst_no (by simp [hc26])] at ww; rw [nI_1]; exact ww _
      ·
        rw [le0 (by omega)] at hc26
        refine R_gs 34 rfl ?_
        refine R_k rfl rfl (c_dangerOf ha' hO hL hb' hS hV hp hj ?_)
        refine R_gs 41 rfl ?_
        refine W_b rfl (fun hc41 => ?_) (fun hc41 => ?_)
        ·
          rw [oB_n (fun v l e => by have := (hi v l e).1; omega)] at hc41
          refine R_gs 8 rfl ?_
          subst hc41; rw [lst_first (by simp; omega)] at ww; rw [nI_1]; exact ww _
        ·
          rw [oB_n (fun v l e => by have := (hi v l e).1; omega)] at hc41
          refine R_gs 48 rfl ?_
          refine W_b rfl (fun hc48 => ?_) (fun hc48 => ?_)
          ·
            refine R_gs 8 rfl ?_
            obtain ⟨v, l, rfl⟩ : ∃ v l, s = some (v, l) := (by rcases s with _ | ⟨v, l⟩; exact absurd rfl hc41; exact ⟨v, l, rfl⟩); have hl := (hi v l rfl).2; rw [lst_ge (by simp; omega) (fun e => absurd ((nI_leI (a := l) (b := dng L S p j) (by omega) (by omega)).mp hc48) (by omega))] at ww; rw [nI_1]; exact ww _
          ·
            refine R_gs 8 rfl ?_
            obtain ⟨v, l, rfl⟩ : ∃ v l, s = some (v, l) := (by rcases s with _ | ⟨v, l⟩; exact absurd rfl hc41; exact ⟨v, l, rfl⟩); have hl := (hi v l rfl).2; rw [lst_lt (by simp; omega) (by have := mt (nI_leI (a := l) (b := dng L S p j) (by omega) (by omega)).mpr hc48; omega)] at ww; rw [nI_1]; exact ww _
    ·
      intro x6
      refine R_gs 14 rfl ?_
      rw [hL.S]
      refine W_bt rfl (gec (by omega)) ?_
      refine R_gs 65 rfl ?_
      refine W_f rfl (by first | rfl | exact ⟨rfl, by first | decide | assumption | exact Or.inl rfl | exact Or.inr rfl | exact b2i_01 _⟩) ?_
      exact h1
  ·
    refine R_in rfl rfl ?_
    refine R_gs 8 rfl ?_
    refine w_lp (W := fun j s => ∀ x6 : Option Value, Rw (d + 4) Q (m_X5_safestSaying, 8, [some (.ref 171), some (.ref 7), some (.int (nI p)), some (.int (oB s)), some (.int (oL s)), some (.int (nI j)), x6], [], 262, h)) (lst (fun w => decide (0 < lO L p w)) (dng L S p)) (lS L) (fun _ s => lstI 5 54000000 s) none (fun v l e => by cases e) (fun j s hj hi => ⟨lst_I (by omega) (dng_le hO hj) hi, fun ww => ?_⟩) (fun _ => ?_) none
    ·
      intro x6
      have t2 := (o4 p hp).2.2.2.1 j hj
      have t3 := dng_le (S := S) hO (p := p) hj
      refine R_gs 14 rfl ?_
      rw [hL.S]
      refine W_bf rfl (ltc hj (by omega)) ?_
      refine R_gs 22 rfl ?_
      refine R_ro rfl rfl rfl (by repeat (first | with_reducible apply ix_add | with_reducible apply ix_mul | with_reducible exact ix_nI _ | with_reducible exact ix_lit _ | exact rfl)) (by omega) ?_
      refine R_gs 25 rfl ?_
      refine R_il rfl (by first | rfl | exact shO (by decide) (by omega) | exact shG (by decide) (by omega)) (by repeat (first | with_reducible apply ix_add | with_reducible apply ix_mul | with_reducible exact ix_nI _ | with_reducible exact ix_lit _ | exact rfl)) (by omega) (by first | exact hL.O hp hj) ?_
      refine W_b rfl (fun hc26 => ?_) (fun hc26 => ?_)
      ·
        rw [le0 (by omega)] at hc26
        refine R_gs 8 rfl ?_
        rw [lst_no (by simp [hc26])] at ww; rw [nI_1]; exact ww _
      ·
        rw [le0 (by omega)] at hc26
        refine R_gs 34 rfl ?_
        refine R_k rfl rfl (c_dangerOf ha' hO hL hb' hS hV hp hj ?_)
        refine R_gs 41 rfl ?_
        refine W_b rfl (fun hc41 => ?_) (fun hc41 => ?_)
        ·
          rw [oB_n (fun v l e => by have := (hi v l e).1; omega)] at hc41
          refine R_gs 8 rfl ?_
          subst hc41; rw [lst_first (by simp; omega)] at ww; rw [nI_1]; exact ww _
        ·
          rw [oB_n (fun v l e => by have := (hi v l e).1; omega)] at hc41
          refine R_gs 48 rfl ?_
          refine W_b rfl (fun hc48 => ?_) (fun hc48 => ?_)
          ·
            refine R_gs 8 rfl ?_
            obtain ⟨v, l, rfl⟩ : ∃ v l, s = some (v, l) := (by rcases s with _ | ⟨v, l⟩; exact absurd rfl hc41; exact ⟨v, l, rfl⟩); have hl := (hi v l rfl).2; rw [lst_ge (by simp; omega) (fun e => absurd ((nI_leI (a := l) (b := dng L S p j) (by omega) (by omega)).mp hc48) (by omega))] at ww; rw [nI_1]; exact ww _
          ·
            refine R_gs 8 rfl ?_
            obtain ⟨v, l, rfl⟩ : ∃ v l, s = some (v, l) := (by rcases s with _ | ⟨v, l⟩; exact absurd rfl hc41; exact ⟨v, l, rfl⟩); have hl := (hi v l rfl).2; rw [lst_lt (by simp; omega) (by have := mt (nI_leI (a := l) (b := dng L S p j) (by omega) (by omega)).mpr hc48; omega)] at ww; rw [nI_1]; exact ww _
    ·
      intro x6
      refine R_gs 14 rfl ?_
      rw [hL.S]
      refine W_bt rfl (gec (by omega)) ?_
      refine R_gs 65 rfl ?_
      refine W_f rfl (by first | rfl | exact ⟨rfl, by first | decide | assumption | exact Or.inl rfl | exact Or.inr rfl | exact b2i_01 _⟩) ?_
      exact h1
  ·
    refine R_in rfl rfl ?_
    refine R_gs 8 rfl ?_
    refine w_lp (W := fun j s => ∀ x6 : Option Value, Rw (d + 4) Q (m_X5_safestSaying, 8, [some (.ref 171), some (.ref 14), some (.int (nI p)), some (.int (oB s)), some (.int (oL s)), some (.int (nI j)), x6], [], 262, h)) (lst (fun w => decide (0 < lO L p w)) (dng L S p)) (lS L) (fun _ s => lstI 5 54000000 s) none (fun v l e => by cases e) (fun j s hj hi => ⟨lst_I (by omega) (dng_le hO hj) hi, fun ww => ?_⟩) (fun _ => ?_) none
    ·
      intro x6
      have t2 := (o4 p hp).2.2.2.1 j hj
      have t3 := dng_le (S := S) hO (p := p) hj
      refine R_gs 14 rfl ?_
      rw [hL.S]
      refine W_bf rfl (ltc hj (by omega)) ?_
      refine R_gs 22 rfl ?_
      refine R_ro rfl rfl rfl (by repeat (first | with_reducible apply ix_add | with_reducible apply ix_mul | with_reducible exact ix_nI _ | with_reducible exact ix_lit _ | exact rfl)) (by omega) ?_
      refine R_gs 25 rfl ?_
      refine R_il rfl (by first | rfl | exact shO (by decide) (by omega) | exact shG (by decide) (by omega)) (by repeat (first | with_reducible apply ix_add | with_reducible apply ix_mul | with_reducible exact ix_nI _ | with_reducible exact ix_lit _ | exact rfl)) (by omega) (by first | exact hL.O hp hj) ?_
      refine W_b rfl (fun hc26 => ?_) (fun hc26 => ?_)
      ·
        rw [le0 (by omega)] at hc26
        refine R_gs 8 rfl ?_
        rw [lst_no (by simp [hc26])] at ww; rw [nI_1]; exact ww _
      ·
        rw [le0 (by omega)] at hc26
        refine R_gs 34 rfl ?_
        refine R_k rfl rfl (c_dangerOf ha' hO hL hb' hS hV hp hj ?_)
        refine R_gs 41 rfl ?_
        refine W_b rfl (fun hc41 => ?_) (fun hc41 => ?_)
        ·
          rw [oB_n (fun v l e => by have := (hi v l e).1; omega)] at hc41
          refine R_gs 8 rfl ?_
          subst hc41; rw [lst_first (by simp; omega)] at ww; rw [nI_1]; exact ww _
        ·
          rw [oB_n (fun v l e => by have := (hi v l e).1; omega)] at hc41
          refine R_gs 48 rfl ?_
          refine W_b rfl (fun hc48 => ?_) (fun hc48 => ?_)
          ·
            refine R_gs 8 rfl ?_
            obtain ⟨v, l, rfl⟩ : ∃ v l, s = some (v, l) := (by rcases s with _ | ⟨v, l⟩; exact absurd rfl hc41; exact ⟨v, l, rfl⟩); have hl := (hi v l rfl).2; rw [lst_ge (by simp; omega) (fun e => absurd ((nI_leI (a := l) (b := dng L S p j) (by omega) (by omega)).mp hc48) (by omega))] at ww; rw [nI_1]; exact ww _
          ·
            refine R_gs 8 rfl ?_
            obtain ⟨v, l, rfl⟩ : ∃ v l, s = some (v, l) := (by rcases s with _ | ⟨v, l⟩; exact absurd rfl hc41; exact ⟨v, l, rfl⟩); have hl := (hi v l rfl).2; rw [lst_lt (by simp; omega) (by have := mt (nI_leI (a := l) (b := dng L S p j) (by omega) (by omega)).mpr hc48; omega)] at ww; rw [nI_1]; exact ww _
    ·
      intro x6
      refine R_gs 14 rfl ?_
      rw [hL.S]
      refine W_bt rfl (gec (by omega)) ?_
      refine R_gs 65 rfl ?_
      refine W_f rfl (by first | rfl | exact ⟨rfl, by first | decide | assumption | exact Or.inl rfl | exact Or.inr rfl | exact b2i_01 _⟩) ?_
      exact h1
end
