theorem rsN_mono (g l : Int32) {i : Nat} : ∀ n, i ≤ n → rsN g l i ≤ rsN g l n
  | 0, h => by
    have : i = 0 := by omega
    subst this
    exact Nat.le_refl _
  | n + 1, h => by
    rcases Nat.lt_or_ge n i with h1 | h1
    · have : i = n + 1 := by omega
      subst this
      exact Nat.le_refl _
    · have := rsN_mono g l n h1
      rw [rsN]
      by_cases e : rsB g l n = true
      · rw [if_pos e]; omega
      · rw [if_neg e]; exact this
theorem rsN_le (g l : Int32) : ∀ n, rsN g l n ≤ n
  | 0 => Nat.le_refl _
  | n + 1 => by
    have := rsN_le g l n
    rw [rsN]
    by_cases e : rsB g l n = true
    · rw [if_pos e]; omega
    · rw [if_neg e]; omega
theorem rs_stay {g l w : Int32} {i : Nat} (e : rsB g l i = true) (c : nI (rsN g l i) = w) : ∀ n, i < n → n ≤ 16 → rsP g l w n = nI i
  | 0, h, _ => by omega
  | n + 1, h, h2 => by
    rw [rsP]
    rcases Nat.lt_or_ge i n with h3 | h3
    · have ih := rs_stay e c n h3 (by omega)
      have m1 := rsN_mono g l n (show i + 1 ≤ n by omega)
      rw [rsN, if_pos e] at m1
      have m2 := rsN_le g l n
      have ne : ¬ nI (rsN g l n) = w := fun q => by
        have := nI_eqc (q.trans c.symm) (by omega) (by omega)
        omega
      by_cases e2 : rsB g l n = true
      · rw [if_pos e2, if_neg ne]; exact ih
      · rw [if_neg e2]; exact ih
    · have : n = i := by omega
      subst this
      rw [if_pos e, if_pos c]
section
variable {d : Nat} {h : AH} {Q : Option Value → AH → Prop}
theorem nI_n0 {n : Nat} (hn : n < 2 ^ 31) : ¬ nI n < 0 := fun e => absurd ((nI_ltI (b := 0) hn (by omega)).mp e) (by omega)
set_option maxHeartbeats 4000000 in
/-- the class: it answers, or stands before a throw -/
theorem x_rests {S : AS → Prop} {a : Nat} {g l w : Int32} (h1 : rsT g l w = false → Q (some (.int (rsA g l w))) h) (h2 : rsT g l w = true → ∀ (pc : Nat) (x4 x5 : Option Value), pc = 25 ∨ pc = 88 → S (m_X12_rests, pc, [some (.ref a), some (.int g), some (.int l), some (.int w), x4, x5], [], 262, h)) : Wps ρ1 (Cl ρ1 (d + 3)) 262 Q S (m_X12_rests, 0, [some (.ref a), some (.int g), some (.int l), some (.int w), none, none], [], 262, h) := by
  have bad : rsOK g l w = false → ∀ x4 x5, Wps ρ1 (Cl ρ1 (d + 3)) 262 Q S (m_X12_rests, 25, [some (.ref a), some (.int g), some (.int l), some (.int w), x4, x5], [], 262, h) := fun e x4 x5 => W_stop (h2 (by unfold rsT; rw [e]; rfl) 25 x4 x5 (Or.inl rfl))
  refine W_g 1 400 rfl ?_
  refine W_b rfl (fun c1 => bad (by unfold rsOK; rw [decide_eq_false (Int32.not_le.mpr c1)]; simp) _ _) (fun c1 => ?_)
  refine W_g 7 400 rfl ?_
  refine W_b rfl (fun c2 => bad (by unfold rsOK; rw [decide_eq_false (show ¬ g ≤ 9 from Int32.not_le.mpr c2)]; simp) _ _) (fun c2 => ?_)
  refine W_g 11 400 rfl ?_
  refine W_b rfl (fun c3 => bad (by unfold rsOK; rw [decide_eq_false (show ¬ 0 ≤ l from Int32.not_le.mpr c3)]; simp) _ _) (fun c3 => ?_)
  refine W_g 17 400 rfl ?_
  refine W_b rfl (fun c4 => bad (by unfold rsOK; rw [decide_eq_false (show ¬ l ≤ 9 from Int32.not_le.mpr c4)]; simp) _ _) (fun c4 => ?_)
  refine W_g 22 400 rfl ?_
  refine W_b rfl (fun c5 => ?_) (fun c5 => bad (by unfold rsOK; rw [decide_eq_true (show w < -1 from Int32.not_le.mp c5)]; simp) _ _)
  have ok : rsOK g l w = true := by
    unfold rsOK
    rw [decide_eq_true (show 0 ≤ g from Int32.not_lt.mp c1), decide_eq_true (show g ≤ 9 from Int32.not_lt.mp c2), decide_eq_true (show 0 ≤ l from Int32.not_lt.mp c3), decide_eq_true (show l ≤ 9 from Int32.not_lt.mp c4), decide_eq_false (show ¬ w < -1 from Int32.not_lt.mpr c5)]
    rfl
  refine W_g 42 400 rfl ?_
  refine w_inv (W := fun i (_ : Unit) => Wps ρ1 (Cl ρ1 (d + 3)) 262 Q S (m_X12_rests, 42, [some (.ref a), some (.int g), some (.int l), some (.int w), some (.int (nI (rsN g l i))), some (.int (nI i))], [], 262, h)) 16 (fun i _ => rsP g l w i = -1) (s0 := ()) rfl (fun i s hi hP ww => ?_) (fun s hP => ?_)
  · have nl := rsN_le g l i
    refine W_g 46 400 rfl ?_
    refine W_bf rfl (ltc (N := 16) hi (by omega)) ?_
    refine W_g 54 400 rfl ?_
    refine W_c rfl (by decide) ?_
    refine W_g 58 400 rfl ?_
    refine W_c rfl (by decide) ?_
    rw [(q4 i hi).2, (q4 i hi).1]
    refine W_k (n1 := 262) (Cl.cm _) rfl rfl (c_isAtRest hi (fun e => ?_) (fun e => ?_))
    · refine W_bf rfl (by decide) ?_
      refine W_g 68 400 rfl ?_
      refine W_b rfl (fun c6 => ?_) (fun c6 => ?_)
      · have k := rs_stay e c6 16 hi (Nat.le_refl _)
        have w0 : ¬ w < 0 := by rw [← c6]; exact nI_n0 (by omega)
        have eT : rsT g l w = false := by
          unfold rsT
          rw [ok, k, decide_eq_false (nI_n0 (n := i) (by omega))]
          simp
        have h3 := h1 eT
        rw [rsA, eT, if_neg (by decide), if_neg w0, k] at h3
        refine W_g 73 400 rfl ?_
        refine W_f rfl (by first | rfl | exact ⟨rfl, by first | decide | assumption⟩) ?_
        exact h3
      · refine W_g 42 400 rfl ?_
        rw [nI_1, nI_1]
        have w2 := ww () (by rw [rsP, if_pos e, if_neg c6]; exact hP)
        rw [rsN, if_pos e] at w2
        exact w2
    · have e2 : ¬ rsB g l i = true := by rw [e]; decide
      refine W_bt rfl (by decide) ?_
      refine W_g 42 400 rfl ?_
      rw [nI_1]
      have w2 := ww () (by rw [rsP, if_neg e2]; exact hP)
      rw [rsN, if_neg e2] at w2
      exact w2
  · refine W_g 46 400 rfl ?_
    refine W_bt rfl (gec (N := 16) (by omega)) ?_
    refine W_g 85 400 rfl ?_
    refine W_b rfl (fun c7 => ?_) (fun c7 => ?_)
    · have w0 : w < 0 := by rw [c7]; decide
      have eT : rsT g l w = false := by
        unfold rsT
        rw [ok, decide_eq_true w0]
        simp
      have h3 := h1 eT
      rw [rsA, eT, if_neg (by decide), if_pos w0] at h3
      refine W_g 101 400 rfl ?_
      refine W_f rfl (by first | rfl | exact ⟨rfl, by first | decide | assumption⟩) ?_
      exact h3
    · have w0 : ¬ w < 0 := by
        intro q
        apply c7
        rw [Int32.lt_iff_toInt_lt] at q
        rw [Int32.le_iff_toInt_le] at c5
        apply Int32.toInt_inj.mp
        have a1 : (-1 : Int32).toInt = -1 := (by decide)
        have a0 : (0 : Int32).toInt = 0 := (by decide)
        omega
      exact W_stop (h2 (by unfold rsT; rw [hP, decide_eq_false w0]; simp) 88 _ _ (Or.inr rfl))
end
