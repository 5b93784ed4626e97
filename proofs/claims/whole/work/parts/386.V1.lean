/-! rests: what is pure in it -/
def gnB (g l : Int32) (c o : Nat) : Int32 := if c = 3 then 0 else if c = o then g else -l
def cnB (g l : Int32) (c o : Nat) : Bool := !anyN 4 (fun j => decide (gnB g l c o < gnB g l j o))
def rsB (g l : Int32) (b : Nat) : Bool := cnB g l (b / 4) (b % 4) && cnB g l (b % 4) (b / 4)
def rsN (g l : Int32) : Nat → Nat
  | 0 => 0
  | n + 1 => if rsB g l n = true then rsN g l n + 1 else rsN g l n
/-- the place of the rest of that number -/
def rsP (g l w : Int32) : Nat → Int32
  | 0 => -1
  | n + 1 => if rsB g l n = true then (if nI (rsN g l n) = w then nI n else rsP g l w n) else rsP g l w n
def rsOK (g l w : Int32) : Bool := (decide (0 ≤ g) && decide (g ≤ 9)) && (decide (0 ≤ l) && decide (l ≤ 9)) && !decide (w < -1)
/-- it throws -/
def rsT (g l w : Int32) : Bool := !rsOK g l w || (!decide (w < 0) && decide (rsP g l w 16 < 0))
def rsA (g l w : Int32) : Int32 := if rsT g l w = true then 0 else if w < 0 then nI (rsN g l 16) else rsP g l w 16
theorem q4 : ∀ b : Nat, b < 16 → nI b / 4 = nI (b / 4) ∧ nI b - nI b / 4 * 4 = nI (b % 4) := by decide +kernel
theorem rs_bool : ∀ a b c d e f g h : Bool, ((((true && (!a && !b)) && (!c && !d)) && (!e && !f)) && (!g && !h)) = (!((((false || a) || c) || e) || g) && !((((false || b) || d) || f) || h)) := by decide
theorem rs_lp (a c : Nat → Bool) : lp (fun j s => s && (!a j && !c j)) 4 true = (!anyN 4 a && !anyN 4 c) := rs_bool (a 0) (c 0) (a 1) (c 1) (a 2) (c 2) (a 3) (c 3)
section
variable {d : Nat} {h : AH} {L : SL} {S : SS} {Q : Option Value → AH → Prop}
theorem c_gain {g l : Int32} {c o : Nat} (hc : c < 4) (ho : o < 4) (h1 : Q (some (.int (gnB g l c o))) h) : Rc (d + 1) m_X12_gain [.int g, .int l, .int (nI c), .int (nI o)] h Q := by
  unfold gnB at h1
  refine R_in rfl rfl ?_
  refine R_gs 2 rfl ?_
  refine W_b rfl (fun hc2 => ?_) (fun hc2 => ?_)
  ·
    rw [nI_is3 (by omega)] at hc2
    refine R_gs 6 rfl ?_
    refine W_f rfl (by first | rfl | exact ⟨rfl, by first | decide | assumption | exact Or.inl rfl | exact Or.inr rfl | exact b2i_01 _⟩) ?_
    rw [if_pos hc2] at h1; exact h1
  ·
    rw [nI_is3 (by omega)] at hc2
    refine R_gs 9 rfl ?_
    refine W_b rfl (fun hc9 => ?_) (fun hc9 => ?_)
    ·
      rw [nI_eq (by omega) (by omega)] at hc9
      refine R_gs 18 rfl ?_
      refine W_f rfl (by first | rfl | exact ⟨rfl, by first | decide | assumption | exact Or.inl rfl | exact Or.inr rfl | exact b2i_01 _⟩) ?_
      rw [if_neg hc2, if_pos hc9] at h1; exact h1
    ·
      rw [nI_eq (by omega) (by omega)] at hc9
      refine R_gs 18 rfl ?_
      refine W_f rfl (by first | rfl | exact ⟨rfl, by first | decide | assumption | exact Or.inl rfl | exact Or.inr rfl | exact b2i_01 _⟩) ?_
      rw [if_neg hc2, if_neg hc9] at h1; exact h1
theorem m_getsBy {g l : Int32} {c o : Nat} (hc : c < 4) (ho : o < 4) (h1 : Q (some (.int (gnB g l c o))) h) : Rc (d + 1) m_X13_getsBy [.int (nI c), .int (nI o), .int g, .int l] h Q := by
  unfold gnB at h1
  refine R_in rfl rfl ?_
  refine R_gs 2 rfl ?_
  refine W_b rfl (fun hc2 => ?_) (fun hc2 => ?_)
  ·
    rw [nI_is3 (by omega)] at hc2
    refine R_gs 20 rfl ?_
    refine W_f rfl (by first | rfl | exact ⟨rfl, by first | decide | assumption | exact Or.inl rfl | exact Or.inr rfl | exact b2i_01 _⟩) ?_
    rw [if_pos hc2] at h1; exact h1
  ·
    rw [nI_is3 (by omega)] at hc2
    refine R_gs 11 rfl ?_
    refine W_b rfl (fun hc11 => ?_) (fun hc11 => ?_)
    ·
      rw [nI_eq (by omega) (by omega)] at hc11
      refine R_gs 20 rfl ?_
      refine W_f rfl (by first | rfl | exact ⟨rfl, by first | decide | assumption | exact Or.inl rfl | exact Or.inr rfl | exact b2i_01 _⟩) ?_
      rw [if_neg hc2, if_pos hc11] at h1; exact h1
    ·
      rw [nI_eq (by omega) (by omega)] at hc11
      refine R_gs 20 rfl ?_
      refine W_f rfl (by first | rfl | exact ⟨rfl, by first | decide | assumption | exact Or.inl rfl | exact Or.inr rfl | exact b2i_01 _⟩) ?_
      rw [if_neg hc2, if_neg hc11] at h1; exact h1
theorem c_isContent {g l : Int32} {c o : Nat} (hc : c < 4) (ho : o < 4) (h1 : cnB g l c o = true → Q (some (.int 1)) h) (h0 : cnB g l c o = false → Q (some (.int 0)) h) : Rc (d + 2) m_X12_isContent [.int g, .int l, .int (nI c), .int (nI o)] h Q := by
  refine R_in rfl rfl ?_
  refine R_gs 4 rfl ?_
  refine R_k rfl rfl (c_gain (by omega) (by omega) ?_)
  refine R_gs 12 rfl ?_
  refine w_any (W := fun j => Rw (d + 1) Q (m_X12_isContent, 12, [_, _, _, _, _, some (.int (nI j))], [], 262, h)) (A := Q (some (.int 0)) h) 4 (fun j => decide (gnB g l c o < gnB g l j o)) (fun e => h0 (by unfold cnB; rw [e]; rfl)) (fun e => ?_) (fun j hj wa w => ?_)
  ·
    refine R_gs 15 rfl ?_
    refine W_bt rfl (gec (N := 4) (by omega)) ?_
    refine R_gs 40 rfl ?_
    refine W_f rfl (by first | rfl | exact ⟨rfl, by first | decide | assumption | exact Or.inl rfl | exact Or.inr rfl | exact b2i_01 _⟩) ?_
    exact h1 (by unfold cnB; rw [e]; rfl)
  ·
    refine R_gs 15 rfl ?_
    refine W_bf rfl (ltc (N := 4) hj (by omega)) ?_
    refine R_gs 23 rfl ?_
    refine R_k rfl rfl (c_gain (by omega) (by omega) ?_)
    refine R_gs 28 rfl ?_
    refine W_b rfl (fun hc28 => ?_) (fun hc28 => ?_)
    ·
      refine R_gs 12 rfl ?_
      rw [nI_1]; exact w (decide_eq_false (Int32.not_lt.mpr hc28))
    ·
      refine R_gs 32 rfl ?_
      refine W_f rfl (by first | rfl | exact ⟨rfl, by first | decide | assumption | exact Or.inl rfl | exact Or.inr rfl | exact b2i_01 _⟩) ?_
      exact wa (decide_eq_true (Int32.not_le.mp hc28))
theorem c_isAtRest {g l : Int32} {b : Nat} (hb : b < 16) (h1 : rsB g l b = true → Q (some (.int 1)) h) (h0 : rsB g l b = false → Q (some (.int 0)) h) : Rc (d + 3) m_X12_isAtRest [.int g, .int l, .int (nI (b / 4)), .int (nI (b % 4))] h Q := by
  refine R_in rfl rfl ?_
  refine R_gs 4 rfl ?_
  refine R_k rfl rfl (c_isContent (by omega) (by omega) (fun hx4 => ?_) (fun hx4 => ?_))
  ·
    refine W_bf rfl (by decide) ?_
    refine R_gs 14 rfl ?_
    refine R_k rfl rfl (c_isContent (by omega) (by omega) (fun hx14 => ?_) (fun hx14 => ?_))
    ·
      refine W_bf rfl (by decide) ?_
      refine R_gs 25 rfl ?_
      refine W_f rfl (by first | rfl | exact ⟨rfl, by first | decide | assumption | exact Or.inl rfl | exact Or.inr rfl | exact b2i_01 _⟩) ?_
      exact h1 (by unfold rsB; rw [hx4, hx14]; rfl)
    ·
      refine W_bt rfl (by decide) ?_
      refine R_gs 25 rfl ?_
      refine W_f rfl (by first | rfl | exact ⟨rfl, by first | decide | assumption | exact Or.inl rfl | exact Or.inr rfl | exact b2i_01 _⟩) ?_
      exact h0 (by unfold rsB; rw [hx14, Bool.and_false])
  ·
    refine W_bt rfl (by decide) ?_
    refine R_gs 25 rfl ?_
    refine W_f rfl (by first | rfl | exact ⟨rfl, by first | decide | assumption | exact Or.inl rfl | exact Or.inr rfl | exact b2i_01 _⟩) ?_
    exact h0 (by unfold rsB; rw [hx4, Bool.false_and])
theorem rs_in {g l w : Int32} {v4 v5 v6 : Int32} {b : Nat} (hb : b < 16) (k : Rw (d + 1) Q (m_X13_rests, 137, [some (.ref 235), some (.int g), some (.int l), some (.int w), some (.int v4), some (.int v5), some (.int v6), some (.int (nI b)), some (.int (nI (b / 4))), some (.int (nI (b % 4))), some (.int (b2i (rsB g l b))), some (.int (nI 4))], [], 262, h)) : Rw (d + 1) Q (m_X13_rests, 71, [some (.ref 235), some (.int g), some (.int l), some (.int w), some (.int v4), some (.int v5), some (.int v6), some (.int (nI b)), some (.int (nI (b / 4))), some (.int (nI (b % 4))), some (.int 1), some (.int 0)], [], 262, h) := by
  refine w_lp (W := fun j s => Rw (d + 1) Q (m_X13_rests, 71, [some (.ref 235), some (.int g), some (.int l), some (.int w), some (.int v4), some (.int v5), some (.int v6), some (.int (nI b)), some (.int (nI (b / 4))), some (.int (nI (b % 4))), some (.int (b2i s)), some (.int (nI j))], [], 262, h)) (fun j s => s && (!decide (gnB g l (b / 4) (b % 4) < gnB g l j (b % 4)) && !decide (gnB g l (b % 4) (b / 4) < gnB g l j (b / 4)))) 4 (fun _ _ => True) true trivial (fun j s hj _ => ⟨trivial, fun ww => ?_⟩) (fun _ => ?_)
  ·
    refine R_gs 74 rfl ?_
    refine W_bf rfl (ltc (N := 4) hj (by omega)) ?_
    refine R_gs 79 rfl ?_
    refine W_b rfl (fun hc79 => ?_) (fun hc79 => ?_)
    ·
      refine R_gs 71 rfl ?_
      rw [nI_1]; rw [b2i0.mp hc79, Bool.false_and] at ww; exact ww
    ·
      refine R_gs 88 rfl ?_
      refine R_k rfl rfl (m_getsBy (by omega) (by omega) ?_)
      refine R_gs 97 rfl ?_
      refine R_k rfl rfl (m_getsBy (by omega) (by omega) ?_)
      refine W_b rfl (fun hc100 => ?_) (fun hc100 => ?_)
      ·
        refine R_gs 71 rfl ?_
        rw [nI_1]; rw [decide_eq_true hc100, Bool.not_true, Bool.false_and, Bool.and_false] at ww; exact ww
      ·
        refine R_gs 109 rfl ?_
        refine R_k rfl rfl (m_getsBy (by omega) (by omega) ?_)
        refine R_gs 118 rfl ?_
        refine R_k rfl rfl (m_getsBy (by omega) (by omega) ?_)
        refine W_b rfl (fun hc121 => ?_) (fun hc121 => ?_)
        ·
          refine R_gs 71 rfl ?_
          rw [nI_1]; rw [decide_eq_true hc121, Bool.not_true, Bool.and_false, Bool.and_false] at ww; exact ww
        ·
          refine R_gs 71 rfl ?_
          rw [nI_1]; rw [decide_eq_false hc100, decide_eq_false hc121, show s = true from by cases s; exact absurd rfl hc79; rfl] at ww; exact ww
  ·
    refine R_gs 74 rfl ?_
    refine W_bt rfl (gec (N := 4) (by omega)) ?_
    rw [rs_lp]; exact k
theorem rs_o0 {g l w : Int32} {v8 v9 : Int32} {x11 : Option Value} {s1 b : Nat} {s2 : Int32} (k : Rw (d + 1) Q (m_X13_rests, 41, [some (.ref 235), some (.int g), some (.int l), some (.int w), some (.int 1), some (.int (nI s1)), some (.int s2), some (.int (nI (b + 1))), some (.int v8), some (.int v9), some (.int 0), x11], [], 262, h)) : Rw (d + 1) Q (m_X13_rests, 137, [some (.ref 235), some (.int g), some (.int l), some (.int w), some (.int 1), some (.int (nI s1)), some (.int s2), some (.int (nI b)), some (.int v8), some (.int v9), some (.int 0), x11], [], 262, h) := by
  refine R_gs 139 rfl ?_
  refine W_bt rfl (rfl) ?_
  refine R_gs 161 rfl ?_
  refine W_bt rfl (rfl) ?_
  refine R_gs 41 rfl ?_
  rw [nI_1, show nI s1 + 0 = nI s1 from nI_add _ 0]; exact k
theorem rs_o1 {g l w : Int32} {v8 v9 : Int32} {x11 : Option Value} {s1 b : Nat} {s2 : Int32} (k : Rw (d + 1) Q (m_X13_rests, 41, [some (.ref 235), some (.int g), some (.int l), some (.int w), some (.int 1), some (.int (nI (s1 + 1))), some (.int (if nI s1 = w then nI b else s2)), some (.int (nI (b + 1))), some (.int v8), some (.int v9), some (.int 1), x11], [], 262, h)) : Rw (d + 1) Q (m_X13_rests, 137, [some (.ref 235), some (.int g), some (.int l), some (.int w), some (.int 1), some (.int (nI s1)), some (.int s2), some (.int (nI b)), some (.int v8), some (.int v9), some (.int 1), x11], [], 262, h) := by
  refine R_gs 139 rfl ?_
  refine W_bf rfl (by decide) ?_
  refine R_gs 145 rfl ?_
  refine W_b rfl (fun hc145 => ?_) (fun hc145 => ?_)
  ·
    refine R_gs 161 rfl ?_
    refine W_bf rfl (by decide) ?_
    refine R_gs 41 rfl ?_
    rw [nI_1, nI_1]; rw [if_pos hc145] at k; exact k
  ·
    refine R_gs 161 rfl ?_
    refine W_bf rfl (by decide) ?_
    refine R_gs 41 rfl ?_
    rw [nI_1, nI_1]; rw [if_neg hc145] at k; exact k
theorem rs_all {g l w : Int32} {x8 x9 x10 x11 : Option Value} (k : ∀ y8 y9 y10 y11 : Option Value, Rw (d + 1) Q (m_X13_rests, 178, [some (.ref 235), some (.int g), some (.int l), some (.int w), some (.int 1), some (.int (nI (rsN g l 16))), some (.int (rsP g l w 16)), some (.int (nI 16)), y8, y9, y10, y11], [], 262, h)) : Rw (d + 1) Q (m_X13_rests, 41, [some (.ref 235), some (.int g), some (.int l), some (.int w), some (.int 1), some (.int 0), some (.int (-1)), some (.int 0), x8, x9, x10, x11], [], 262, h) := by
  refine w_inv (W := fun i (_ : Unit) => ∀ y8 y9 y10 y11 : Option Value, Rw (d + 1) Q (m_X13_rests, 41, [some (.ref 235), some (.int g), some (.int l), some (.int w), some (.int 1), some (.int (nI (rsN g l i))), some (.int (rsP g l w i)), some (.int (nI i)), y8, y9, y10, y11], [], 262, h)) 16 (fun _ _ => True) (s0 := ()) trivial (fun i s hi _ ww => ?_) (fun s _ => ?_) x8 x9 x10 x11
  · intro y8 y9 y10 y11
    refine R_gs 45 rfl ?_
    refine W_bf rfl (ltc (N := 16) hi (by omega)) ?_
    refine R_gs 50 rfl ?_
    refine W_bf rfl (by decide) ?_
    refine R_gs 56 rfl ?_
    refine W_c rfl (by decide) ?_
    refine R_gs 62 rfl ?_
    refine W_c rfl (by decide) ?_
    refine R_gs 71 rfl ?_
    rw [(q4 i hi).2, (q4 i hi).1]
    refine rs_in hi ?_
    have w1 := ww () trivial
    cases e : rsB g l i with
    | false =>
      refine rs_o0 ?_
      have w2 := w1 (some (.int (nI (i / 4)))) (some (.int (nI (i % 4)))) (some (.int 0)) (some (.int (nI 4)))
      rw [rsN, rsP, e, if_neg (by decide), if_neg (by decide)] at w2
      exact w2
    | true =>
      refine rs_o1 ?_
      have w2 := w1 (some (.int (nI (i / 4)))) (some (.int (nI (i % 4)))) (some (.int 1)) (some (.int (nI 4)))
      rw [rsN, rsP, e, if_pos rfl, if_pos rfl] at w2
      exact w2
  · intro y8 y9 y10 y11
    refine R_gs 45 rfl ?_
    refine W_bt rfl (gec (N := 16) (by omega)) ?_
    exact k y8 y9 y10 y11
theorem hI_w (h : AH) (a k : Nat) (v : Int32) : hI (wI h a k v) a k = v := (wI_at _ _ _ _ _).trans (if_pos rfl)
theorem rs_end {g l w : Int32} {N : Nat} {P : Int32} {x7 x8 x9 x10 x11 : Option Value} (h1 : Q (some (.int (if w < 0 then nI N else if P < 0 then 0 else P))) (wI h 235 0 (if w < 0 then 0 else if P < 0 then 1 else 0))) : Rw (d + 1) Q (m_X13_rests, 178, [some (.ref 235), some (.int g), some (.int l), some (.int w), some (.int 1), some (.int (nI N)), some (.int P), x7, x8, x9, x10, x11], [], 262, h) := by
  refine R_gs 181 rfl ?_
  refine W_bf rfl (by decide) ?_
  refine R_gs 185 rfl ?_
  refine W_b rfl (fun hc185 => ?_) (fun hc185 => ?_)
  · rw [if_pos hc185, if_pos hc185] at h1
    refine R_gs 205 rfl ?_
    rw [hI_w]
    refine W_bt rfl (by decide) ?_
    refine R_gs 213 rfl ?_
    refine W_bf rfl (Int32.not_le.mpr hc185) ?_
    refine R_gs 223 rfl ?_
    refine W_f rfl (by first | rfl | exact ⟨rfl, by first | decide | assumption⟩) ?_
    exact h1
  · rw [if_neg hc185, if_neg hc185] at h1
    refine R_gs 190 rfl ?_
    refine W_b rfl (fun hc190 => ?_) (fun hc190 => ?_)
    · rw [if_pos hc190, if_pos hc190] at h1
      refine R_gs 205 rfl ?_
      rw [hI_w]
      refine W_bf rfl (by decide) ?_
      refine R_gs 223 rfl ?_
      refine W_f rfl (by first | rfl | exact ⟨rfl, by first | decide | assumption⟩) ?_
      exact h1
    · rw [if_neg hc190, if_neg hc190] at h1
      refine R_gs 205 rfl ?_
      rw [hI_w]
      refine W_bt rfl (by decide) ?_
      refine R_gs 213 rfl ?_
      refine W_bt rfl (Int32.not_lt.mp hc185) ?_
      refine R_gs 223 rfl ?_
      refine W_f rfl (by first | rfl | exact ⟨rfl, by first | decide | assumption⟩) ?_
      exact h1
theorem rs_no {g l w : Int32} {x8 x9 x10 x11 : Option Value} (h1 : Q (some (.int 0)) (wI h 235 0 1)) : Rw (d + 1) Q (m_X13_rests, 41, [some (.ref 235), some (.int g), some (.int l), some (.int w), some (.int 0), some (.int 0), some (.int (-1)), some (.int 0), x8, x9, x10, x11], [], 262, h) := by
  refine R_gs 45 rfl ?_
  refine W_bf rfl (by decide) ?_
  refine R_gs 50 rfl ?_
  refine W_bt rfl rfl ?_
  refine R_gs 181 rfl ?_
  refine W_bt rfl rfl ?_
  refine R_gs 205 rfl ?_
  rw [hI_w]
  refine W_bf rfl (by decide) ?_
  refine R_gs 223 rfl ?_
  refine W_f rfl (by first | rfl | exact ⟨rfl, by first | decide | assumption⟩) ?_
  exact h1
theorem rs_key {g l w : Int32} (e : rsOK g l w = true) : rsA g l w = (if w < 0 then nI (rsN g l 16) else if rsP g l w 16 < 0 then 0 else rsP g l w 16) ∧ b2i (rsT g l w) = if w < 0 then 0 else if rsP g l w 16 < 0 then 1 else 0 := by
  unfold rsA rsT
  rw [e]
  by_cases a : w < 0 <;> by_cases c : rsP g l w 16 < 0 <;> simp [a, c, b2i]
theorem y_rests {g l w : Int32} (h1 : Q (some (.int (rsA g l w))) (wI h 235 0 (b2i (rsT g l w)))) : Rc (d + 2) m_X13_rests [.ref 235, .int g, .int l, .int w] h Q := by
  have no : rsOK g l w = false → Q (some (.int 0)) (wI h 235 0 1) := fun e => by
    have e2 : rsT g l w = true := by unfold rsT; rw [e]; rfl
    rw [rsA, if_pos e2, e2] at h1
    exact h1
  refine R_in rfl rfl ?_
  refine R_gs 4 rfl ?_
  refine R_k rfl rfl (m_isIn (fun hx4 => ?_) (fun hx4 => ?_))
  ·
    refine W_bf rfl (by decide) ?_
    refine R_gs 14 rfl ?_
    refine R_k rfl rfl (m_isIn (fun hx14 => ?_) (fun hx14 => ?_))
    ·
      refine W_bf rfl (by decide) ?_
      refine R_gs 22 rfl ?_
      refine W_b rfl (fun hc22 => ?_) (fun hc22 => ?_)
      ·
        refine R_gs 41 rfl ?_
        exact rs_no (no (by unfold rsOK; rw [decide_eq_true hc22, Bool.not_true, Bool.and_false]))
      ·
        refine R_gs 41 rfl ?_
        have e : rsOK g l w = true := (by unfold rsOK; rw [hx4, hx14, decide_eq_false hc22]; rfl)
        rw [(rs_key e).1, (rs_key e).2] at h1
        exact rs_all (fun y8 y9 y10 y11 => rs_end h1)
    ·
      refine W_bt rfl (by decide) ?_
      refine R_gs 41 rfl ?_
      exact rs_no (no (by unfold rsOK; rw [hx14, Bool.and_false, Bool.false_and]))
  ·
    refine W_bt rfl (by decide) ?_
    refine R_gs 41 rfl ?_
    exact rs_no (no (by unfold rsOK; rw [hx4, Bool.false_and, Bool.false_and]))
end
