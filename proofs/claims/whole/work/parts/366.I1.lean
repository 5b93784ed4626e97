def mayS (L : SL) (p : Nat) (x : Int32) : Bool := if x = -1 then (decide (0 < lY L p) || decide (oA L p = 0)) else decide (0 < lO L p x.toNatClampNeg)
def susB (L : SL) (H : SH') (p : Nat) : Bool := true && !anyN H.1 (fun i => !mayS L p (H.2 i))
def susp (L : SL) (H : SH') : Int32 := setN (lP L) (susB L H)
def shr (L : SL) (p : Nat) (x : Int32) : Nat := if x = -1 then (if oT L p = 0 then 1 else lY L p) else lO L p x.toNatClampNeg
def ovr (L : SL) (H : SH') (p : Nat) : Int64 := lp (fun i s => s * (nI (shr L p (H.2 i))).toInt64) H.1 1
def und (L : SL) (H : SH') (p : Nat) : Int64 := lp (fun _ s => s * (nI (if oT L p = 0 then 1 else oT L p)).toInt64) H.1 1
def lkF (L : SL) (H : SH') (p : Nat) (s : Int32 × Int64 × Int64) : Int32 × Int64 × Int64 := if susB L H p = true ∧ (s.1 = -1 ∨ ¬ lg_cmp (ovr L H p * s.2.2) (s.2.1 * und L H p) ≤ 0) then (nI p, ovr L H p, und L H p) else s
def lkA (L : SL) (H : SH') : Int32 := (lp (lkF L H) (lP L) (-1, 0, 1)).1
def askN (L : SL) (H : SH') (x : Int32) : Nat := cntN (lP L) (fun p => susB L H p && mayS L p x)
def askM (L : SL) (H : SH') (x : Int32) : Nat := cntN (lP L) (fun p => susB L H p && !mayS L p x)
def askF (L : SL) (H : SH') (j : Nat) (s : Nat × Int32) : Nat × Int32 := if max (askN L H (nI j - 1)) (askM L H (nI j - 1)) < s.1 then (max (askN L H (nI j - 1)) (askM L H (nI j - 1)), nI j - 1) else s
def askA (L : SL) (H : SH') : Int32 := (lp (askF L H) (lS L + 1) (cntN (lP L) (susB L H), -2)).2
theorem cntN_s (n : Nat) (c : Nat → Bool) : cntN (n + 1) c = if c n = true then cntN n c + 1 else cntN n c := rfl
theorem cnt_split (n : Nat) (a b : Nat → Bool) : cntN n (fun i => a i && b i) + cntN n (fun i => a i && !b i) = cntN n a := by
  induction n with
  | zero => rfl
  | succ n ih =>
    rw [cntN_s, cntN_s, cntN_s, ← ih]
    cases a n <;> cases b n <;> simp <;> omega
theorem pop_set {n : Nat} {c : Nat → Bool} (hn : n ≤ 6) : pop (setN n c) = cntN n c := by
  unfold pop
  rw [cntN_ext (c' := fun i => decide (i < n) && c i) (fun i hi => setN_bt n (by omega) i (by omega))]
  rw [cntN_up (n := n) 15 (by omega) (fun j h1 h2 => by rw [decide_eq_false (by omega), Bool.false_and])]
  exact cntN_ext (fun j hj => by rw [decide_eq_true hj, Bool.true_and])
theorem SayOK.cases {L : SL} (hO : LandOK L) {x : Int32} (h : SayOK L x) : (x = -1 ∧ x < 0) ∨ (¬ x = -1 ∧ ¬ x < 0 ∧ ∃ k, k < lS L ∧ x = nI k ∧ x.toNatClampNeg = k) := by
  have o1 := hO.1
  rcases h with rfl | ⟨k, hk, rfl⟩
  · exact Or.inl ⟨rfl, by decide⟩
  · exact Or.inr ⟨fun e => by have := nI_pos' (n := k) (by omega); rw [e] at this; exact absurd this (by decide), nI_pos (by omega), k, hk, rfl, nI_clamp (by omega)⟩
section
variable {d a : Nat} {h : AH} {L : SL} {S : SS} {H : SH'} {B : SB'} {M : SM'} {D : SD'} {T : ST'} {N : SN'} {Q : Option Value → AH → Prop}
theorem c_maySay (ha : a = 143 ∨ a = 171) (hO : LandOK L) (hL : LandC h a L) {p : Nat} {x : Int32} (hp : p < lP L) (hx : SayOK L x) (h1 : mayS L p x = true → Q (some (.int 1)) h) (h0 : mayS L p x = false → Q (some (.int 0)) h) : Rc (d + 2) m_X5_maySay [.ref a, .int (nI p), .int x] h Q := by
  obtain ⟨o1, o2, o3, o4, -⟩ := id hO
  have ha' := ha
  have t1 := (o4 p hp).2.2.1
  have t2 := oT_le hO hp
  have t3 : oA L p ≤ oT L p := (by unfold oT; omega)
  have z := hx.cases hO
  unfold mayS at h1 h0
  rcases ha with rfl | rfl
  all_goals
    refine R_in rfl rfl ?_
    refine R_gs 2 rfl ?_
    refine W_b rfl (fun hc2 => ?_) (fun hc2 => ?_)
    ·
      rw [if_pos hc2] at h1 h0
      refine R_gs 10 rfl ?_
      refine R_il rfl (by first | rfl | exact shO (by decide) (by omega) | exact shG (by decide) (by omega)) (by repeat (first | with_reducible apply ix_add | with_reducible apply ix_mul | with_reducible exact ix_nI _ | with_reducible exact ix_lit _ | exact rfl)) (by omega) (by first | exact hL.Y hp) ?_
      refine W_b rfl (fun hc11 => ?_) (fun hc11 => ?_)
      ·
        rw [show (0 : Int32) < nI (lY L p) ↔ 0 < lY L p from nI_ltI (a := 0) (by omega) (by omega)] at hc11
        refine R_gs 27 rfl ?_
        refine W_f rfl (by first | rfl | exact ⟨rfl, by first | decide | assumption | exact Or.inl rfl | exact Or.inr rfl | exact b2i_01 _⟩) ?_
        exact h1 (by simp [hc11])
      ·
        rw [show (0 : Int32) < nI (lY L p) ↔ 0 < lY L p from nI_ltI (a := 0) (by omega) (by omega)] at hc11
        refine R_gs 16 rfl ?_
        refine R_k rfl rfl (c_oddsOfAll ha' hO hL hp ?_)
        refine W_b rfl (fun hc19 => ?_) (fun hc19 => ?_)
        ·
          rw [nI_e0 (by omega)] at hc19
          refine R_gs 27 rfl ?_
          refine W_f rfl (by first | rfl | exact ⟨rfl, by first | decide | assumption | exact Or.inl rfl | exact Or.inr rfl | exact b2i_01 _⟩) ?_
          exact h1 (by simp [hc19])
        ·
          rw [nI_e0 (by omega)] at hc19
          refine R_gs 27 rfl ?_
          refine W_f rfl (by first | rfl | exact ⟨rfl, by first | decide | assumption | exact Or.inl rfl | exact Or.inr rfl | exact b2i_01 _⟩) ?_
          exact h0 (by simp [hc19]; omega)
    ·
      rw [if_neg hc2] at h1 h0
      obtain ⟨k, hk, rfl, ek⟩ : ∃ k, k < lS L ∧ x = nI k ∧ x.toNatClampNeg = k := (by rcases z with z | z; exact absurd z.1 hc2; exact z.2.2)
      rw [ek] at h1 h0
      have t4 := (o4 p hp).2.2.2.1 k hk
      refine R_gs 33 rfl ?_
      refine R_ro rfl rfl rfl (by repeat (first | with_reducible apply ix_add | with_reducible apply ix_mul | with_reducible exact ix_nI _ | with_reducible exact ix_lit _ | exact rfl)) (by omega) ?_
      refine R_gs 35 rfl ?_
      refine R_il rfl (by first | rfl | exact shO (by decide) (by omega) | exact shG (by decide) (by omega)) (by repeat (first | with_reducible apply ix_add | with_reducible apply ix_mul | with_reducible exact ix_nI _ | with_reducible exact ix_lit _ | exact rfl)) (by omega) (by first | exact hL.O hp hk) ?_
      refine W_b rfl (fun hc36 => ?_) (fun hc36 => ?_)
      ·
        rw [le0 (by omega)] at hc36
        refine R_gs 44 rfl ?_
        refine W_f rfl (by first | rfl | exact ⟨rfl, by first | decide | assumption | exact Or.inl rfl | exact Or.inr rfl | exact b2i_01 _⟩) ?_
        exact h0 (by simp [hc36])
      ·
        rw [le0 (by omega)] at hc36
        refine R_gs 44 rfl ?_
        refine W_f rfl (by first | rfl | exact ⟨rfl, by first | decide | assumption | exact Or.inl rfl | exact Or.inr rfl | exact b2i_01 _⟩) ?_
        exact h1 (by simp; omega)
theorem c_suspects (ha : a = 143 ∨ a = 171) (hO : LandOK L) (hL : LandC h a L) (hH : HrdC h 7 H) (hK : HOK L H) (h1 : Q (some (.int (susp L H))) h) : Rc (d + 3) m_X5_suspects [.ref a, .ref 7] h Q := by
  obtain ⟨o1, o2, o3, o4, -⟩ := id hO
  have hn := hK.1
  have ha' := ha
  rcases ha with rfl | rfl
  ·
    refine R_in rfl rfl ?_
    refine R_gs 4 rfl ?_
    refine w_lp (W := fun j s => ∀ x4 x5 : Option Value, Rw (d + 2) Q (m_X5_suspects, 4, [some (.ref 143), some (.ref 7), some (.int s), some (.int (nI j)), x4, x5], [], 262, h)) (fun j s => if susB L H j = true then s ||| nI (2 ^ j) else s) (lP L) (fun _ _ => True) 0 trivial (fun j s hj _ => ⟨trivial, fun w => ?_⟩) (fun _ => ?_) none none
    ·
      intro x4 x5
      refine R_gs 9 rfl ?_
      rw [hL.P]
      refine W_bf rfl (ltc hj (by omega)) ?_
      refine R_gs 18 rfl ?_
      refine w_inv (W := fun i (b : Bool) => Rw (d + 2) Q (m_X5_suspects, 18, [some (.ref 143), some (.ref 7), some (.int s), some (.int (nI j)), some (.int (b2i b)), some (.int (nI i))], [], 262, h)) H.1 (fun i b => b = (true && !anyN i (fun i => !mayS L j (H.2 i)))) (s0 := true) rfl (fun i b hi hb w2 => ?_) (fun b hb => ?_)
      ·
        refine R_gs 24 rfl ?_
        rw [hH.1]
        refine W_bf rfl (ltc hi (by omega)) ?_
        refine R_gs 29 rfl ?_
        refine W_b rfl (fun hc29 => ?_) (fun hc29 => ?_)
        ·
          refine R_gs 18 rfl ?_
          rw [nI_1]; exact w2 false (st_0 hb (b2i0.mp hc29))
        ·
          refine R_gs 40 rfl ?_
          refine R_il rfl (by first | rfl | exact shO (by decide) (by omega) | exact shG (by decide) (by omega)) (by repeat (first | with_reducible apply ix_add | with_reducible apply ix_mul | with_reducible exact ix_nI _ | with_reducible exact ix_lit _ | exact rfl)) (by omega) (by first | exact hH.2 i hi) ?_
          refine R_k rfl rfl (c_maySay ha' hO hL hj (hK.2 i hi) (fun hx41 => ?_) (fun hx41 => ?_))
          ·
            refine W_bf rfl (by decide) ?_
            refine R_gs 18 rfl ?_
            rw [nI_1]; exact w2 true (st_f hb (by rw [hx41]; rfl) (fun e => hc29 (b2i0.mpr e)))
          ·
            refine W_bt rfl (by decide) ?_
            refine R_gs 18 rfl ?_
            rw [nI_1]; exact w2 false (st_t (by rw [hx41]; rfl))
      ·
        refine R_gs 24 rfl ?_
        rw [hH.1]
        refine W_bt rfl (gec (by omega)) ?_
        refine R_gs 62 rfl ?_
        refine W_b rfl (fun hc62 => ?_) (fun hc62 => ?_)
        ·
          refine R_gs 4 rfl ?_
          rw [nI_1]; rw [if_neg (by rw [show susB L H j = b from hb.symm, b2i0.mp hc62]; decide)] at w; exact w _ _
        ·
          refine R_gs 4 rfl ?_
          rw [or_if _ _ (by omega), nI_1]; rw [if_pos (by rw [show susB L H j = b from hb.symm]; cases b; exact absurd (show b2i false = 0 from rfl) hc62; rfl)] at w; exact w _ _
    ·
      intro x4 x5
      refine R_gs 9 rfl ?_
      rw [hL.P]
      refine W_bt rfl (gec (by omega)) ?_
      refine R_gs 78 rfl ?_
      refine W_f rfl (by first | rfl | exact ⟨rfl, by first | decide | assumption | exact Or.inl rfl | exact Or.inr rfl | exact b2i_01 _⟩) ?_
      exact h1
  ·
    refine R_in rfl rfl ?_
    refine R_gs 4 rfl ?_
    refine w_lp (W := fun j s => ∀ x4 x5 : Option Value, Rw (d + 2) Q (m_X5_suspects, 4, [some (.ref 171), some (.ref 7), some (.int s), some (.int (nI j)), x4, x5], [], 262, h)) (fun j s => if susB L H j = true then s ||| nI (2 ^ j) else s) (lP L) (fun _ _ => True) 0 trivial (fun j s hj _ => ⟨trivial, fun w => ?_⟩) (fun _ => ?_) none none
    ·
      intro x4 x5
      refine R_gs 9 rfl ?_
      rw [hL.P]
      refine W_bf rfl (ltc hj (by omega)) ?_
      refine R_gs 18 rfl ?_
      refine w_inv (W := fun i (b : Bool) => Rw (d + 2) Q (m_X5_suspects, 18, [some (.ref 171), some (.ref 7), some (.int s), some (.int (nI j)), some (.int (b2i b)), some (.int (nI i))], [], 262, h)) H.1 (fun i b => b = (true && !anyN i (fun i => !mayS L j (H.2 i)))) (s0 := true) rfl (fun i b hi hb w2 => ?_) (fun b hb => ?_)
      ·
        refine R_gs 24 rfl ?_
        rw [hH.1]
        refine W_bf rfl (ltc hi (by omega)) ?_
        refine R_gs 29 rfl ?_
        refine W_b rfl (fun hc29 => ?_) (fun hc29 => ?_)
        ·
          refine R_gs 18 rfl ?_
          rw [nI_1]; exact w2 false (st_0 hb (b2i0.mp hc29))
        ·
          refine R_gs 40 rfl ?_
          refine R_il rfl (by first | rfl | exact shO (by decide) (by omega) | exact shG (by decide) (by omega)) (by repeat (first | with_reducible apply ix_add | with_reducible apply ix_mul | with_reducible exact ix_nI _ | with_reducible exact ix_lit _ | exact rfl)) (by omega) (by first | exact hH.2 i hi) ?_
          refine R_k rfl rfl (c_maySay ha' hO hL hj (hK.2 i hi) (fun hx41 => ?_) (fun hx41 => ?_))
          ·
            refine W_bf rfl (by decide) ?_
            refine R_gs 18 rfl ?_
            rw [nI_1]; exact w2 true (st_f hb (by rw [hx41]; rfl) (fun e => hc29 (b2i0.mpr e)))
          ·
            refine W_bt rfl (by decide) ?_
            refine R_gs 18 rfl ?_
            rw [nI_1]; exact w2 false (st_t (by rw [hx41]; rfl))
      ·
        refine R_gs 24 rfl ?_
        rw [hH.1]
        refine W_bt rfl (gec (by omega)) ?_
        refine R_gs 62 rfl ?_
        refine W_b rfl (fun hc62 => ?_) (fun hc62 => ?_)
        ·
          refine R_gs 4 rfl ?_
          rw [nI_1]; rw [if_neg (by rw [show susB L H j = b from hb.symm, b2i0.mp hc62]; decide)] at w; exact w _ _
        ·
          refine R_gs 4 rfl ?_
          rw [or_if _ _ (by omega), nI_1]; rw [if_pos (by rw [show susB L H j = b from hb.symm]; cases b; exact absurd (show b2i false = 0 from rfl) hc62; rfl)] at w; exact w _ _
    ·
      intro x4 x5
      refine R_gs 9 rfl ?_
      rw [hL.P]
      refine W_bt rfl (gec (by omega)) ?_
      refine R_gs 78 rfl ?_
      refine W_f rfl (by first | rfl | exact ⟨rfl, by first | decide | assumption | exact Or.inl rfl | exact Or.inr rfl | exact b2i_01 _⟩) ?_
      exact h1
theorem c_shareOf (ha : a = 143 ∨ a = 171) (hO : LandOK L) (hL : LandC h a L) {p : Nat} {x : Int32} (hp : p < lP L) (hx : SayOK L x) (h1 : Q (some (.int (nI (shr L p x)))) h) : Rc (d + 3) m_X5_shareOf [.ref a, .int (nI p), .int x] h Q := by
  obtain ⟨o1, o2, o3, o4, -⟩ := id hO
  have ha' := ha
  have t2 := oT_le hO hp
  have z := hx.cases hO
  unfold shr at h1
  rcases ha with rfl | rfl
  all_goals
    refine R_in rfl rfl ?_
    refine R_gs 2 rfl ?_
    refine W_b rfl (fun hc2 => ?_) (fun hc2 => ?_)
    ·
      rw [if_pos hc2] at h1
      refine R_gs 7 rfl ?_
      refine R_k rfl rfl (c_oddsAndShyness ha' hO hL hp ?_)
      refine W_b rfl (fun hc10 => ?_) (fun hc10 => ?_)
      ·
        rw [nI_e0 (by omega)] at hc10
        rw [if_pos hc10] at h1
        refine R_gs 23 rfl ?_
        refine W_f rfl (by first | rfl | exact ⟨rfl, by first | decide | assumption | exact Or.inl rfl | exact Or.inr rfl | exact b2i_01 _⟩) ?_
        exact h1
      ·
        rw [nI_e0 (by omega)] at hc10
        rw [if_neg hc10] at h1
        refine R_gs 22 rfl ?_
        refine R_il rfl (by first | rfl | exact shO (by decide) (by omega) | exact shG (by decide) (by omega)) (by repeat (first | with_reducible apply ix_add | with_reducible apply ix_mul | with_reducible exact ix_nI _ | with_reducible exact ix_lit _ | exact rfl)) (by omega) (by first | exact hL.Y hp) ?_
        refine W_f rfl (by first | rfl | exact ⟨rfl, by first | decide | assumption | exact Or.inl rfl | exact Or.inr rfl | exact b2i_01 _⟩) ?_
        exact h1
    ·
      rw [if_neg hc2] at h1
      obtain ⟨k, hk, rfl, ek⟩ : ∃ k, k < lS L ∧ x = nI k ∧ x.toNatClampNeg = k := (by rcases z with z | z; exact absurd z.1 hc2; exact z.2.2)
      rw [ek] at h1
      refine R_gs 29 rfl ?_
      refine R_ro rfl rfl rfl (by repeat (first | with_reducible apply ix_add | with_reducible apply ix_mul | with_reducible exact ix_nI _ | with_reducible exact ix_lit _ | exact rfl)) (by omega) ?_
      refine R_gs 31 rfl ?_
      refine R_il rfl (by first | rfl | exact shO (by decide) (by omega) | exact shG (by decide) (by omega)) (by repeat (first | with_reducible apply ix_add | with_reducible apply ix_mul | with_reducible exact ix_nI _ | with_reducible exact ix_lit _ | exact rfl)) (by omega) (by first | exact hL.O hp hk) ?_
      refine W_f rfl (by first | rfl | exact ⟨rfl, by first | decide | assumption | exact Or.inl rfl | exact Or.inr rfl | exact b2i_01 _⟩) ?_
      exact h1
theorem mx1 {k : Nat} (hk : k < 2 ^ 31) : (if (1 : Int32) < nI k then nI k else 1) = nI (if k = 0 then 1 else k) := by
  by_cases e : k = 0
  · subst e; decide
  · rw [if_neg e]
    by_cases e2 : k = 1
    · subst e2; decide
    · rw [if_pos (show (1 : Int32) < nI k from (nI_ltI (a := 1) (by omega) hk).mpr (by omega))]
theorem lk_I {p : Nat} {s : Int32 × Int64 × Int64} (hp : p < 2 ^ 31) (hs : s.1 = -1 ∨ 0 ≤ s.1) : (lkF L H p s).1 = -1 ∨ 0 ≤ (lkF L H p s).1 := by
  unfold lkF
  split
  · exact Or.inr (nI_pos' hp)
  · exact hs
theorem sus_bt (o3 : lP L ≤ 6) {j : Nat} (hj : j < lP L) : bt (susp L H) j = susB L H j := by
  unfold susp
  rw [setN_bt (lP L) (by omega) j (by omega), decide_eq_true hj, Bool.true_and]
theorem lk_pair {j : Nat} : ∀ {n : Nat}, lp (fun i (s' : Int64 × Int64) => (s'.1 * (nI (shr L j (H.2 i))).toInt64, s'.2 * (nI (if oT L j = 0 then 1 else oT L j)).toInt64)) n (1, 1) = (lp (fun i s => s * (nI (shr L j (H.2 i))).toInt64) n 1, lp (fun _ s => s * (nI (if oT L j = 0 then 1 else oT L j)).toInt64) n 1)
  | 0 => rfl
  | n + 1 => by
    show (_, _) = (_, _)
    rw [lk_pair (n := n)]; rfl
theorem c_likeliest (ha : a = 143 ∨ a = 171) (hO : LandOK L) (hL : LandC h a L) (hH : HrdC h 7 H) (hK : HOK L H) (h1 : Q (some (.int (lkA L H))) h) : Rc (d + 4) m_X5_likeliest [.ref a, .ref 7] h Q := by
  obtain ⟨o1, o2, o3, o4, -⟩ := id hO
  have hn := hK.1
  have ha' := ha
  rcases ha with rfl | rfl
  ·
    refine R_in rfl rfl ?_
    refine R_gs 2 rfl ?_
    refine R_k rfl rfl (c_suspects ha' hO hL hH hK ?_)
    refine R_gs 17 rfl ?_
    refine w_lp (W := fun j s => ∀ x9 x10 x11 x12 x13 : Option Value, Rw (d + 3) Q (m_X5_likeliest, 17, [some (.ref 143), some (.ref 7), some (.int (susp L H)), some (.int s.1), some (.long s.2.1), none, some (.long s.2.2), none, some (.int (nI j)), x9, x10, x11, x12, x13], [], 262, h)) (lkF L H) (lP L) (fun _ s => s.1 = -1 ∨ 0 ≤ s.1) (-1, 0, 1) (Or.inl rfl) (fun j s hj hs => ⟨lk_I (by omega) hs, fun w => ?_⟩) (fun _ => ?_) none none none none none
    ·
      intro x9 x10 x11 x12 x13
      have t2 := oT_le hO hj
      have e88 : bt (susp L H) j = susB L H j := sus_bt o3 hj
      refine R_gs 23 rfl ?_
      rw [hL.P]
      refine W_bf rfl (ltc hj (by omega)) ?_
      refine R_gs 35 rfl ?_
      refine w_lp (W := fun i (s' : Int64 × Int64) => Rw (d + 3) Q (m_X5_likeliest, 35, [some (.ref 143), some (.ref 7), some (.int (susp L H)), some (.int s.1), some (.long s.2.1), none, some (.long s.2.2), none, some (.int (nI j)), some (.long s'.1), none, some (.long s'.2), none, some (.int (nI i))], [], 262, h)) (fun i s' => (s'.1 * (nI (shr L j (H.2 i))).toInt64, s'.2 * (nI (if oT L j = 0 then 1 else oT L j)).toInt64)) H.1 (fun _ _ => True) (1, 1) trivial (fun i s' hi _ => ⟨trivial, fun w2 => ?_⟩) (fun _ => ?_)
      ·
        refine R_gs 41 rfl ?_
        rw [hH.1]
        refine W_bf rfl (ltc hi (by omega)) ?_
        refine R_gs 55 rfl ?_
        refine R_il rfl (by first | rfl | exact shO (by decide) (by omega) | exact shG (by decide) (by omega)) (by repeat (first | with_reducible apply ix_add | with_reducible apply ix_mul | with_reducible exact ix_nI _ | with_reducible exact ix_lit _ | exact rfl)) (by omega) (by first | exact hH.2 i hi) ?_
        refine R_k rfl rfl (c_shareOf ha' hO hL hj (hK.2 i hi) ?_)
        refine R_gs 69 rfl ?_
        refine R_k rfl rfl (c_oddsAndShyness ha' hO hL hj ?_)
        refine R_gs 35 rfl ?_
        rw [mx1 (by omega), nI_1]; exact w2
      ·
        rw [lk_pair]
        refine R_gs 41 rfl ?_
        rw [hH.1]
        refine W_bt rfl (gec (by omega)) ?_
        refine R_gs 88 rfl ?_
        refine R_k rfl rfl (c_hasBit (by omega) (fun hx88 => ?_) (fun hx88 => ?_))
        ·
          refine W_bf rfl (by decide) ?_
          refine R_gs 96 rfl ?_
          refine W_b rfl (fun hc96 => ?_) (fun hc96 => ?_)
          ·
            refine R_gs 17 rfl ?_
            rw [show lkF L H j s = (nI j, ovr L H j, und L H j) from if_pos ⟨e88 ▸ hx88, Or.inl hc96⟩] at w; rw [nI_1]; exact w _ _ _ _ _
          ·
            refine R_gs 110 rfl ?_
            refine W_b rfl (fun hc110 => ?_) (fun hc110 => ?_)
            ·
              refine R_gs 17 rfl ?_
              rw [show lkF L H j s = s from if_neg (fun e => by rcases e.2 with e | e; exact hc96 e; exact e hc110)] at w; rw [nI_1]; exact w _ _ _ _ _
            ·
              refine R_gs 17 rfl ?_
              rw [show lkF L H j s = (nI j, ovr L H j, und L H j) from if_pos ⟨e88 ▸ hx88, Or.inr hc110⟩] at w; rw [nI_1]; exact w _ _ _ _ _
        ·
          refine W_bt rfl (by decide) ?_
          refine R_gs 17 rfl ?_
          rw [show lkF L H j s = s from if_neg (fun e => by rw [← e88, hx88] at e; exact absurd e.1 (by decide))] at w; rw [nI_1]; exact w _ _ _ _ _
    ·
      intro x9 x10 x11 x12 x13
      refine R_gs 23 rfl ?_
      rw [hL.P]
      refine W_bt rfl (gec (by omega)) ?_
      refine R_gs 131 rfl ?_
      refine W_f rfl (by first | rfl | exact ⟨rfl, by first | decide | assumption | exact Or.inl rfl | exact Or.inr rfl | exact b2i_01 _⟩) ?_
      exact h1
  ·
    refine R_in rfl rfl ?_
    refine R_gs 2 rfl ?_
    refine R_k rfl rfl (c_suspects ha' hO hL hH hK ?_)
    refine R_gs 17 rfl ?_
    refine w_lp (W := fun j s => ∀ x9 x10 x11 x12 x13 : Option Value, Rw (d + 3) Q (m_X5_likeliest, 17, [some (.ref 171), some (.ref 7), some (.int (susp L H)), some (.int s.1), some (.long s.2.1), none, some (.long s.2.2), none, some (.int (nI j)), x9, x10, x11, x12, x13], [], 262, h)) (lkF L H) (lP L) (fun _ s => s.1 = -1 ∨ 0 ≤ s.1) (-1, 0, 1) (Or.inl rfl) (fun j s hj hs => ⟨lk_I (by omega) hs, fun w => ?_⟩) (fun _ => ?_) none none none none none
    ·
      intro x9 x10 x11 x12 x13
      have t2 := oT_le hO hj
      have e88 : bt (susp L H) j = susB L H j := sus_bt o3 hj
      refine R_gs 23 rfl ?_
      rw [hL.P]
      refine W_bf rfl (ltc hj (by omega)) ?_
      refine R_gs 35 rfl ?_
      refine w_lp (W := fun i (s' : Int64 × Int64) => Rw (d + 3) Q (m_X5_likeliest, 35, [some (.ref 171), some (.ref 7), some (.int (susp L H)), some (.int s.1), some (.long s.2.1), none, some (.long s.2.2), none, some (.int (nI j)), some (.long s'.1), none, some (.long s'.2), none, some (.int (nI i))], [], 262, h)) (fun i s' => (s'.1 * (nI (shr L j (H.2 i))).toInt64, s'.2 * (nI (if oT L j = 0 then 1 else oT L j)).toInt64)) H.1 (fun _ _ => True) (1, 1) trivial (fun i s' hi _ => ⟨trivial, fun w2 => ?_⟩) (fun _ => ?_)
      ·
        refine R_gs 41 rfl ?_
        rw [hH.1]
        refine W_bf rfl (ltc hi (by omega)) ?_
        refine R_gs 55 rfl ?_
        refine R_il rfl (by first | rfl | exact shO (by decide) (by omega) | exact shG (by decide) (by omega)) (by repeat (first | with_reducible apply ix_add | with_reducible apply ix_mul | with_reducible exact ix_nI _ | with_reducible exact ix_lit _ | exact rfl)) (by omega) (by first | exact hH.2 i hi) ?_
        refine R_k rfl rfl (c_shareOf ha' hO hL hj (hK.2 i hi) ?_)
        refine R_gs 69 rfl ?_
        refine R_k rfl rfl (c_oddsAndShyness ha' hO hL hj ?_)
        refine R_gs 35 rfl ?_
        rw [mx1 (by omega), nI_1]; exact w2
      ·
        rw [lk_pair]
        refine R_gs 41 rfl ?_
        rw [hH.1]
        refine W_bt rfl (gec (by omega)) ?_
        refine R_gs 88 rfl ?_
        refine R_k rfl rfl (c_hasBit (by omega) (fun hx88 => ?_) (fun hx88 => ?_))
        ·
          refine W_bf rfl (by decide) ?_
          refine R_gs 96 rfl ?_
          refine W_b rfl (fun hc96 => ?_) (fun hc96 => ?_)
          ·
            refine R_gs 17 rfl ?_
            rw [show lkF L H j s = (nI j, ovr L H j, und L H j) from if_pos ⟨e88 ▸ hx88, Or.inl hc96⟩] at w; rw [nI_1]; exact w _ _ _ _ _
          ·
            refine R_gs 110 rfl ?_
            refine W_b rfl (fun hc110 => ?_) (fun hc110 => ?_)
            ·
              refine R_gs 17 rfl ?_
              rw [show lkF L H j s = s from if_neg (fun e => by rcases e.2 with e | e; exact hc96 e; exact e hc110)] at w; rw [nI_1]; exact w _ _ _ _ _
            ·
              refine R_gs 17 rfl ?_
              rw [show lkF L H j s = (nI j, ovr L H j, und L H j) from if_pos ⟨e88 ▸ hx88, Or.inr hc110⟩] at w; rw [nI_1]; exact w _ _ _ _ _
        ·
          refine W_bt rfl (by decide) ?_
          refine R_gs 17 rfl ?_
          rw [show lkF L H j s = s from if_neg (fun e => by rw [← e88, hx88] at e; exact absurd e.1 (by decide))] at w; rw [nI_1]; exact w _ _ _ _ _
    ·
      intro x9 x10 x11 x12 x13
      refine R_gs 23 rfl ?_
      rw [hL.P]
      refine W_bt rfl (gec (by omega)) ?_
      refine R_gs 131 rfl ?_
      refine W_f rfl (by first | rfl | exact ⟨rfl, by first | decide | assumption | exact Or.inl rfl | exact Or.inr rfl | exact b2i_01 _⟩) ?_
      exact h1
theorem tot_le (o3 : lP L ≤ 6) : cntN (lP L) (susB L H) ≤ 6 := Nat.le_trans (cntN_le _ _) o3
theorem mxN {a b : Nat} (ha : a < 2 ^ 31) (hb : b < 2 ^ 31) : (if nI a < nI b then nI b else nI a) = nI (max a b) := by
  by_cases e : a < b
  · rw [if_pos ((nI_ltI ha hb).mpr e), Nat.max_eq_right (by omega)]
  · rw [if_neg (fun h => e ((nI_ltI ha hb).mp h)), Nat.max_eq_left (by omega)]
theorem askX_ok {j : Nat} (hj : j < lS L + 1) : SayOK L (nI j - 1) := by
  rcases Nat.eq_zero_or_pos j with rfl | h
  · exact Or.inl (by decide)
  · exact Or.inr ⟨j - 1, by omega, dn_p h⟩
theorem ask_lt {j n : Nat} (hn : n ≤ 5) (hj : j < n + 1) : ¬ nI n ≤ nI j - 1 := by
  rcases Nat.eq_zero_or_pos j with rfl | h
  · intro e
    have e' := Int32.le_trans (nI_pos' (n := n) (by omega)) e
    exact absurd e' (by decide)
  · rw [dn_p h]; exact ltc (by omega) (by omega)
theorem ask_nx (j : Nat) : nI j - 1 + 1 = nI (j + 1) - 1 := by
  rw [nI_pred, Int32.sub_add_cancel]
theorem ask_pair {j : Nat} : ∀ {n : Nat}, lp (fun p (s' : Nat × Nat) => (if (susB L H p && mayS L p (nI j - 1)) = true then s'.1 + 1 else s'.1, if (susB L H p && !mayS L p (nI j - 1)) = true then s'.2 + 1 else s'.2)) n (0, 0) = (cntN n (fun p => susB L H p && mayS L p (nI j - 1)), cntN n (fun p => susB L H p && !mayS L p (nI j - 1)))
  | 0 => rfl
  | n + 1 => by
    show (_, _) = (_, _)
    rw [ask_pair (n := n)]; rfl
theorem c_bestQuestion (ha : a = 143 ∨ a = 171) (hO : LandOK L) (hL : LandC h a L) (hH : HrdC h 7 H) (hK : HOK L H) (h1 : Q (some (.int (askA L H))) h) : Rc (d + 4) m_X5_bestQuestion [.ref a, .ref 7] h Q := by
  obtain ⟨o1, o2, o3, o4, -⟩ := id hO
  have ha' := ha
  have tl := tot_le (H := H) o3
  rcases ha with rfl | rfl
  ·
    refine R_in rfl rfl ?_
    refine R_gs 2 rfl ?_
    refine R_k rfl rfl (c_suspects ha' hO hL hH hK ?_)
    refine R_gs 7 rfl ?_
    refine R_k rfl rfl (c_bitCount (setN_b15 (by omega)) ?_)
    refine R_gs 18 rfl ?_
    rw [show pop (susp L H) = cntN (lP L) (susB L H) from pop_set o3]
    refine w_lp (W := fun j (s : Nat × Int32) => ∀ x6 x7 x8 x9 : Option Value, Rw (d + 3) Q (m_X5_bestQuestion, 18, [some (.ref 143), some (.ref 7), some (.int (susp L H)), some (.int (nI s.1)), some (.int s.2), some (.int (nI j - 1)), x6, x7, x8, x9], [], 262, h)) (askF L H) (lS L + 1) (fun _ s => s.1 ≤ 6) (cntN (lP L) (susB L H), -2) tl (fun j s hj hs => ⟨by unfold askF; split; exact Nat.le_trans (Nat.le_of_lt (by assumption)) hs; exact hs, fun w => ?_⟩) (fun _ => ?_) none none none none
    ·
      intro x6 x7 x8 x9
      have hx := askX_ok (L := L) hj
      refine R_gs 24 rfl ?_
      rw [hL.S]
      refine W_bf rfl (ask_lt o1 hj) ?_
      refine R_gs 36 rfl ?_
      refine w_lp (W := fun p (s' : Nat × Nat) => ∀ x9 : Option Value, Rw (d + 3) Q (m_X5_bestQuestion, 36, [some (.ref 143), some (.ref 7), some (.int (susp L H)), some (.int (nI s.1)), some (.int s.2), some (.int (nI j - 1)), some (.int (nI s'.1)), some (.int (nI s'.2)), some (.int (nI p)), x9], [], 262, h)) (fun p s' => (if (susB L H p && mayS L p (nI j - 1)) = true then s'.1 + 1 else s'.1, if (susB L H p && !mayS L p (nI j - 1)) = true then s'.2 + 1 else s'.2)) (lP L) (fun _ _ => True) (0, 0) trivial (fun p s' hp _ => ⟨trivial, fun w2 => ?_⟩) (fun _ => ?_) x9
      ·
        intro x9
        have e48 : bt (susp L H) p = susB L H p := sus_bt o3 hp
        refine R_gs 42 rfl ?_
        rw [hL.P]
        refine W_bf rfl (ltc hp (by omega)) ?_
        refine R_gs 48 rfl ?_
        refine R_k rfl rfl (c_hasBit (by omega) (fun hx48 => ?_) (fun hx48 => ?_))
        ·
          refine W_bf rfl (by decide) ?_
          refine R_gs 59 rfl ?_
          refine R_k rfl rfl (c_maySay ha' hO hL hp hx (fun hx59 => ?_) (fun hx59 => ?_))
          ·
            refine R_gs 68 rfl ?_
            refine W_bf rfl (by decide) ?_
            refine R_gs 83 rfl ?_
            refine W_bf rfl (by decide) ?_
            refine R_gs 36 rfl ?_
            rw [e48] at hx48; rw [hx48, hx59] at w2; rw [nI_1, nI_1, show nI s'.2 + 0 = nI s'.2 from nI_add s'.2 0]; exact w2 _
          ·
            refine R_gs 68 rfl ?_
            refine W_bt rfl (by decide) ?_
            refine R_gs 83 rfl ?_
            refine W_bt rfl (by decide) ?_
            refine R_gs 36 rfl ?_
            rw [e48] at hx48; rw [hx48, hx59] at w2; rw [nI_1, nI_1, show nI s'.1 + 0 = nI s'.1 from nI_add s'.1 0]; exact w2 _
        ·
          refine W_bt rfl (by decide) ?_
          refine R_gs 36 rfl ?_
          rw [e48] at hx48; rw [hx48] at w2; rw [nI_1]; exact w2 _
      ·
        intro x9
        rw [ask_pair]
        dsimp only
        rw [show (cntN (lP L) fun p => susB L H p && mayS L p (nI j - 1)) = askN L H (nI j - 1) from rfl, show (cntN (lP L) fun p => susB L H p && !mayS L p (nI j - 1)) = askM L H (nI j - 1) from rfl]
        have m1 : askN L H (nI j - 1) ≤ 6 := Nat.le_trans (cntN_le _ _) o3
        have m2 : askM L H (nI j - 1) ≤ 6 := Nat.le_trans (cntN_le _ _) o3
        have m3 : max (askN L H (nI j - 1)) (askM L H (nI j - 1)) ≤ 6 := Nat.max_le.mpr ⟨m1, m2⟩
        refine R_gs 42 rfl ?_
        rw [hL.P]
        refine W_bt rfl (gec (by omega)) ?_
        refine R_gs 108 rfl ?_
        rw [show (if nI (askN L H (nI j - 1)) < nI (askM L H (nI j - 1)) then nI (askM L H (nI j - 1)) else nI (askN L H (nI j - 1))) = nI (max (askN L H (nI j - 1)) (askM L H (nI j - 1))) from mxN (by omega) (by omega)]
        refine W_b rfl (fun hc108 => ?_) (fun hc108 => ?_)
        ·
          refine R_gs 18 rfl ?_
          rw [ask_nx]; rw [show askF L H j s = s from if_neg (fun e => absurd ((nI_leI (a := s.1) (by omega) (by omega)).mp hc108) (by omega))] at w; exact w _ _ _ _
        ·
          refine R_gs 18 rfl ?_
          rw [ask_nx, mxN (by omega) (by omega)]; rw [show askF L H j s = (max (askN L H (nI j - 1)) (askM L H (nI j - 1)), nI j - 1) from if_pos (by have := mt (nI_leI (a := s.1) (b := max (askN L H (nI j - 1)) (askM L H (nI j - 1))) (by omega) (by omega)).mpr hc108; omega)] at w; exact w _ _ _ _
    ·
      intro x6 x7 x8 x9
      refine R_gs 24 rfl ?_
      rw [hL.S]
      refine W_bt rfl (by rw [nI_pred]; exact Int32.le_refl _) ?_
      refine R_gs 131 rfl ?_
      refine W_f rfl (by first | rfl | exact ⟨rfl, by first | decide | assumption | exact Or.inl rfl | exact Or.inr rfl | exact b2i_01 _⟩) ?_
      exact h1
  ·
    refine R_in rfl rfl ?_
    refine R_gs 2 rfl ?_
    refine R_k rfl rfl (c_suspects ha' hO hL hH hK ?_)
    refine R_gs 7 rfl ?_
    refine R_k rfl rfl (c_bitCount (setN_b15 (by omega)) ?_)
    refine R_gs 18 rfl ?_
    rw [show pop (susp L H) = cntN (lP L) (susB L H) from pop_set o3]
    refine w_lp (W := fun j (s : Nat × Int32) => ∀ x6 x7 x8 x9 : Option Value, Rw (d + 3) Q (m_X5_bestQuestion, 18, [some (.ref 171), some (.ref 7), some (.int (susp L H)), some (.int (nI s.1)), some (.int s.2), some (.int (nI j - 1)), x6, x7, x8, x9], [], 262, h)) (askF L H) (lS L + 1) (fun _ s => s.1 ≤ 6) (cntN (lP L) (susB L H), -2) tl (fun j s hj hs => ⟨by unfold askF; split; exact Nat.le_trans (Nat.le_of_lt (by assumption)) hs; exact hs, fun w => ?_⟩) (fun _ => ?_) none none none none
    ·
      intro x6 x7 x8 x9
      have hx := askX_ok (L := L) hj
      refine R_gs 24 rfl ?_
      rw [hL.S]
      refine W_bf rfl (ask_lt o1 hj) ?_
      refine R_gs 36 rfl ?_
      refine w_lp (W := fun p (s' : Nat × Nat) => ∀ x9 : Option Value, Rw (d + 3) Q (m_X5_bestQuestion, 36, [some (.ref 171), some (.ref 7), some (.int (susp L H)), some (.int (nI s.1)), some (.int s.2), some (.int (nI j - 1)), some (.int (nI s'.1)), some (.int (nI s'.2)), some (.int (nI p)), x9], [], 262, h)) (fun p s' => (if (susB L H p && mayS L p (nI j - 1)) = true then s'.1 + 1 else s'.1, if (susB L H p && !mayS L p (nI j - 1)) = true then s'.2 + 1 else s'.2)) (lP L) (fun _ _ => True) (0, 0) trivial (fun p s' hp _ => ⟨trivial, fun w2 => ?_⟩) (fun _ => ?_) x9
      ·
        intro x9
        have e48 : bt (susp L H) p = susB L H p := sus_bt o3 hp
        refine R_gs 42 rfl ?_
        rw [hL.P]
        refine W_bf rfl (ltc hp (by omega)) ?_
        refine R_gs 48 rfl ?_
        refine R_k rfl rfl (c_hasBit (by omega) (fun hx48 => ?_) (fun hx48 => ?_))
        ·
          refine W_bf rfl (by decide) ?_
          refine R_gs 59 rfl ?_
          refine R_k rfl rfl (c_maySay ha' hO hL hp hx (fun hx59 => ?_) (fun hx59 => ?_))
          ·
            refine R_gs 68 rfl ?_
            refine W_bf rfl (by decide) ?_
            refine R_gs 83 rfl ?_
            refine W_bf rfl (by decide) ?_
            refine R_gs 36 rfl ?_
            rw [e48] at hx48; rw [hx48, hx59] at w2; rw [nI_1, nI_1, show nI s'.2 + 0 = nI s'.2 from nI_add s'.2 0]; exact w2 _
          ·
            refine R_gs 68 rfl ?_
            refine W_bt rfl (by decide) ?_
            refine R_gs 83 rfl ?_
            refine W_bt rfl (by decide) ?_
            refine R_gs 36 rfl ?_
            rw [e48] at hx48; rw [hx48, hx59] at w2; rw [nI_1, nI_1, show nI s'.1 + 0 = nI s'.1 from nI_add s'.1 0]; exact w2 _
        ·
          refine W_bt rfl (by decide) ?_
          refine R_gs 36 rfl ?_
          rw [e48] at hx48; rw [hx48] at w2; rw [nI_1]; exact w2 _
      ·
        intro x9
        rw [ask_pair]
        dsimp only
        rw [show (cntN (lP L) fun p => susB L H p && mayS L p (nI j - 1)) = askN L H (nI j - 1) from rfl, show (cntN (lP L) fun p => susB L H p && !mayS L p (nI j - 1)) = askM L H (nI j - 1) from rfl]
        have m1 : askN L H (nI j - 1) ≤ 6 := Nat.le_trans (cntN_le _ _) o3
        have m2 : askM L H (nI j - 1) ≤ 6 := Nat.le_trans (cntN_le _ _) o3
        have m3 : max (askN L H (nI j - 1)) (askM L H (nI j - 1)) ≤ 6 := Nat.max_le.mpr ⟨m1, m2⟩
        refine R_gs 42 rfl ?_
        rw [hL.P]
        refine W_bt rfl (gec (by omega)) ?_
        refine R_gs 108 rfl ?_
        rw [show (if nI (askN L H (nI j - 1)) < nI (askM L H (nI j - 1)) then nI (askM L H (nI j - 1)) else nI (askN L H (nI j - 1))) = nI (max (askN L H (nI j - 1)) (askM L H (nI j - 1))) from mxN (by omega) (by omega)]
        refine W_b rfl (fun hc108 => ?_) (fun hc108 => ?_)
        ·
          refine R_gs 18 rfl ?_
          rw [ask_nx]; rw [show askF L H j s = s from if_neg (fun e => absurd ((nI_leI (a := s.1) (by omega) (by omega)).mp hc108) (by omega))] at w; exact w _ _ _ _
        ·
          refine R_gs 18 rfl ?_
          rw [ask_nx, mxN (by omega) (by omega)]; rw [show askF L H j s = (max (askN L H (nI j - 1)) (askM L H (nI j - 1)), nI j - 1) from if_pos (by have := mt (nI_leI (a := s.1) (b := max (askN L H (nI j - 1)) (askM L H (nI j - 1))) (by omega) (by omega)).mpr hc108; omega)] at w; exact w _ _ _ _
    ·
      intro x6 x7 x8 x9
      refine R_gs 24 rfl ?_
      rw [hL.S]
      refine W_bt rfl (by rw [nI_pred]; exact Int32.le_refl _) ?_
      refine R_gs 131 rfl ?_
      refine W_f rfl (by first | rfl | exact ⟨rfl, by first | decide | assumption | exact Or.inl rfl | exact Or.inr rfl | exact b2i_01 _⟩) ?_
      exact h1
end
