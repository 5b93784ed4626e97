/-- what one utters -/
def utt (L : SL) (S : SS) (p : Nat) : Int32 := if lK L p = 2 then sB S p else if lK L p = 3 ∧ sY S p = -1 then sU S (sA S p) else sY S p
def bigs (x : Int32) : Int32 := setN 6 (fun p => decide (2 ≤ wvs x p))
theorem wvs_le (x : Int32) (p : Nat) : wvs x p ≤ 6 := cntN_le _ _
/-- the cells that nobody lays -/
def St (h : AH) : Prop := (∀ j, j < 6 → hI h 1101 j = PAIRS.getD j 0) ∧ ∀ j, j < 38 → hI h 1102 j = SWM.getD j 0
def pOf (p i : Nat) : Bool := anyN 6 (fun q => !decide (q = p) && decide (i = pr p q))
theorem pOf_eq : ∀ p, p < 6 → ∀ i, i < 32 → bt (PAIRS.getD p 0) i = (decide (i < 15) && pOf p i) := by decide +kernel
theorem pop_pairs (x : Int32) {p : Nat} (hp : p < 6) : pop (x &&& PAIRS.getD p 0) = wvs x p := by
  unfold pop wvs
  rw [cntN_ext (c' := fun i => bt x i && pOf p i) (fun i hi => by rw [b_and, pOf_eq p hp i (by omega), decide_eq_true hi, Bool.true_and])]
  generalize hf : bt x = f
  clear hf
  have : p = 0 ∨ p = 1 ∨ p = 2 ∨ p = 3 ∨ p = 4 ∨ p = 5 := by omega
  rcases this with rfl | rfl | rfl | rfl | rfl | rfl <;> simp (decide := true) [cntN, lp, pr]
theorem R_sl {d : Nat} {Q : Option Value → AH → Prop} {μ pc nx x y : Nat} {vv : Value} {lv : AL} {st : List Value} {h : AH} {a m j : Nat} {iv : Int32} {v : Int32} (e : KT μ pc = some (.iaload, nx, x, y, vv)) (hs : SH a = (21, m)) (hm : m < 3000) (hi : iv = nI j) (hj : j < m) (hv : hI h a j = v) (w : Rw d Q (μ, nx, lv, .int v :: st, 262, h)) : Rw d Q (μ, pc, lv, .int iv :: .ref a :: st, 262, h) := by
  refine W_c (P := rAt h a 262 iv) (σ' := (μ, nx, lv, .int (hI h a iv.toNatClampNeg) :: st, 262, h)) ?_ (Or.inr (Or.inl ⟨m, hs, by rw [hi]; exact nI_in hj (by omega)⟩)) ?_
  · rw [c1_at e]; rfl
  · rw [hi, nI_clamp (by omega), hv]; exact w
theorem nI_is1 {k : Nat} (hk : k < 2 ^ 31) : nI k = 1 ↔ k = 1 := nI_eq (b := 1) hk (by omega)
theorem nI_is2 {k : Nat} (hk : k < 2 ^ 31) : nI k = 2 ↔ k = 2 := nI_eq (b := 2) hk (by omega)
theorem nI_is3 {k : Nat} (hk : k < 2 ^ 31) : nI k = 3 ↔ k = 3 := nI_eq (b := 3) hk (by omega)
theorem b2i0 {b : Bool} : b2i b = 0 ↔ b = false := by cases b <;> simp [b2i]
theorem or_if (s : Int32) (j : Nat) (hj : j < 31) : s ||| (1 : Int32) <<< (nI j &&& 31) = s ||| nI (2 ^ j) := by rw [one_shl j hj]
section
variable {d a b : Nat} {h : AH} {L : SL} {S : SS} {Q : Option Value → AH → Prop}
theorem c_spouseCount (hT : St h) (hb : b = 7 ∨ b = 14) (hO : LandOK L) (hS : SceneC h b L S) (hV : SceneOK L S) {p : Nat} (hp : p < 6) (h1 : Q (some (.int (nI (wvs (sW S) p)))) h) : Rc (d + 2) m_X9_spouseCount [.ref b, .int (nI p)] h Q := by
  rcases hb with rfl | rfl
  all_goals
    refine R_in rfl rfl ?_
    refine R_gs 8 rfl ?_
    rw [hS.W]
    refine R_sl rfl rfl (by decide) rfl hp (hT.1 p hp) ?_
    refine R_gs 10 rfl ?_
    refine R_k rfl rfl (c_bitCount ((hV.1.b15 hO.2.2.1).and _) ?_)
    refine W_f rfl (by first | rfl | exact ⟨rfl, by first | decide | assumption | exact Or.inl rfl | exact Or.inr rfl | exact b2i_01 _⟩) ?_
    rw [pop_pairs _ hp]; exact h1
theorem c_bigamistBits (hT : St h) (hb : b = 7 ∨ b = 14) (hO : LandOK L) (hS : SceneC h b L S) (hV : SceneOK L S) (h1 : Q (some (.int (bigs (sW S)))) h) : Rc (d + 3) m_X9_bigamistBits [.ref b] h Q := by
  have hb' := hb
  rcases hb with rfl | rfl
  all_goals
    refine R_in rfl rfl ?_
    refine R_gs 4 rfl ?_
    refine w_lp (W := fun j s => Rw (d + 2) Q (m_X9_bigamistBits, 4, [_, some (.int s), some (.int (nI j))], [], 262, h)) (fun j s => if decide (2 ≤ wvs (sW S) j) = true then s ||| nI (2 ^ j) else s) 6 (fun _ _ => True) 0 trivial (fun j s hj _ => ⟨trivial, fun w => ?_⟩) (fun _ => ?_)
    ·
      have hw := wvs_le (sW S) j
      have nl := nI_ltI (a := wvs (sW S) j) (b := 2) (by omega) (by omega)
      refine R_gs 7 rfl ?_
      refine W_bf rfl (ltc (N := 6) hj (by omega)) ?_
      refine R_gs 12 rfl ?_
      refine R_k rfl rfl (c_spouseCount hT hb' hO hS hV (by omega) ?_)
      refine R_gs 16 rfl ?_
      refine W_b rfl (fun hc16 => ?_) (fun hc16 => ?_)
      ·
        refine R_gs 4 rfl ?_
        first | (rw [nI_1]; rw [if_neg (by simp; exact nl.mp hc16)] at w; exact w) | (rw [or_if _ _ (by omega), nI_1]; rw [if_pos (by simp; exact Nat.not_lt.mp (mt nl.mpr hc16))] at w; exact w)
      ·
        refine R_gs 4 rfl ?_
        first | (rw [nI_1]; rw [if_neg (by simp; exact nl.mp hc16)] at w; exact w) | (rw [or_if _ _ (by omega), nI_1]; rw [if_pos (by simp; exact Nat.not_lt.mp (mt nl.mpr hc16))] at w; exact w)
    ·
      refine R_gs 7 rfl ?_
      refine W_bt rfl (gec (N := 6) (by omega)) ?_
      refine R_gs 32 rfl ?_
      refine W_f rfl (by first | rfl | exact ⟨rfl, by first | decide | assumption | exact Or.inl rfl | exact Or.inr rfl | exact b2i_01 _⟩) ?_
      exact h1
theorem c_spousesOf (hb : b = 7 ∨ b = 14) (hS : SceneC h b L S) {p : Nat} (hp : p < 6) (h1 : Q (some (.int (setN 6 (fun q => !decide (q = p) && bt (sW S) (pr p q))))) h) : Rc (d + 3) m_X9_spousesOf [.ref b, .int (nI p)] h Q := by
  have hb' := hb
  rcases hb with rfl | rfl
  all_goals
    refine R_in rfl rfl ?_
    refine R_gs 4 rfl ?_
    refine w_lp (W := fun j s => Rw (d + 2) Q (m_X9_spousesOf, 4, [_, _, some (.int s), some (.int (nI j))], [], 262, h)) (fun q s => if (!decide (q = p) && bt (sW S) (pr p q)) = true then s ||| nI (2 ^ q) else s) 6 (fun _ _ => True) 0 trivial (fun j s hj _ => ⟨trivial, fun w => ?_⟩) (fun _ => ?_)
    ·
      refine R_gs 7 rfl ?_
      refine W_bf rfl (ltc (N := 6) hj (by omega)) ?_
      refine R_gs 12 rfl ?_
      refine W_b rfl (fun hc12 => ?_) (fun hc12 => ?_)
      ·
        rw [nI_eq (by omega) (by omega)] at hc12
        refine R_gs 4 rfl ?_
        first | (rw [nI_1]; rw [if_neg (by simp [*])] at w; exact w) | (rw [or_if _ _ (by omega), nI_1]; rw [if_pos (by simp [*])] at w; exact w)
      ·
        rw [nI_eq (by omega) (by omega)] at hc12
        refine R_gs 18 rfl ?_
        refine R_k rfl rfl (c_areWed hb' hS hp hj (Ne.symm hc12) (fun hx18 => ?_) (fun hx18 => ?_))
        ·
          refine W_bf rfl (by decide) ?_
          refine R_gs 4 rfl ?_
          first | (rw [nI_1]; rw [if_neg (by simp [*])] at w; exact w) | (rw [or_if _ _ (by omega), nI_1]; rw [if_pos (by simp [*])] at w; exact w)
        ·
          refine W_bt rfl (by decide) ?_
          refine R_gs 4 rfl ?_
          first | (rw [nI_1]; rw [if_neg (by simp [*])] at w; exact w) | (rw [or_if _ _ (by omega), nI_1]; rw [if_pos (by simp [*])] at w; exact w)
    ·
      refine R_gs 7 rfl ?_
      refine W_bt rfl (gec (N := 6) (by omega)) ?_
      refine R_gs 37 rfl ?_
      refine W_f rfl (by first | rfl | exact ⟨rfl, by first | decide | assumption | exact Or.inl rfl | exact Or.inr rfl | exact b2i_01 _⟩) ?_
      exact h1
theorem c_talkersAt (ha : a = 143 ∨ a = 171) (hO : LandOK L) (hL : LandC h a L) (hb : b = 7 ∨ b = 14) (hS : SceneC h b L S) (hV : SceneOK L S) {s w : Nat} (hs : s < 2 ^ 31) (hw : w < lS L) (h1 : Q (some (.int (setN (lP L) (fun p => decide (sA S p = s) && decide (0 < lO L p w))))) h) : Rc (d + 1) m_X9_talkersAt [.ref b, .ref a, .int (nI s), .int (nI w)] h Q := by
  obtain ⟨o1, o2, o3, o4, -⟩ := id hO
  rcases ha with rfl | rfl <;> rcases hb with rfl | rfl
  all_goals
    refine R_in rfl rfl ?_
    refine R_gs 6 rfl ?_
    refine w_lp (W := fun j t => Rw d Q (m_X9_talkersAt, 6, [_, _, _, _, some (.int t), some (.int (nI j))], [], 262, h)) (fun p t => if (decide (sA S p = s) && decide (0 < lO L p w)) = true then t ||| nI (2 ^ p) else t) (lP L) (fun _ _ => True) 0 trivial (fun j t hj _ => ⟨trivial, fun ww => ?_⟩) (fun _ => ?_)
    ·
      have v1 := (hV.2.1 j hj).1
      have v2 := (o4 j hj).2.2.2.1 w hw
      refine R_gs 12 rfl ?_
      rw [hL.P]
      refine W_bf rfl (ltc hj (by omega)) ?_
      refine R_gs 21 rfl ?_
      refine R_il rfl (by first | rfl | exact shO (by decide) (by omega) | exact shG (by decide) (by omega)) (by repeat (first | with_reducible apply ix_add | with_reducible apply ix_mul | with_reducible exact ix_nI _ | with_reducible exact ix_lit _ | exact rfl)) (by omega) (by first | exact hS.A hj) ?_
      refine R_gs 23 rfl ?_
      refine W_b rfl (fun hc23 => ?_) (fun hc23 => ?_)
      ·
        rw [nI_eq (by omega) (by omega)] at hc23
        refine R_gs 32 rfl ?_
        refine R_ro rfl rfl rfl (by repeat (first | with_reducible apply ix_add | with_reducible apply ix_mul | with_reducible exact ix_nI _ | with_reducible exact ix_lit _ | exact rfl)) (by omega) ?_
        refine R_gs 34 rfl ?_
        refine R_il rfl (by first | rfl | exact shO (by decide) (by omega) | exact shG (by decide) (by omega)) (by repeat (first | with_reducible apply ix_add | with_reducible apply ix_mul | with_reducible exact ix_nI _ | with_reducible exact ix_lit _ | exact rfl)) (by omega) (by first | exact hL.O hj hw) ?_
        refine W_b rfl (fun hc35 => ?_) (fun hc35 => ?_)
        ·
          rw [le0 (by omega)] at hc35
          refine R_gs 6 rfl ?_
          first | (rw [nI_1]; rw [if_neg (by simp; omega)] at ww; exact ww) | (rw [or_if _ _ (by omega), nI_1]; rw [if_pos (by simp; omega)] at ww; exact ww)
        ·
          rw [le0 (by omega)] at hc35
          refine R_gs 6 rfl ?_
          first | (rw [nI_1]; rw [if_neg (by simp; omega)] at ww; exact ww) | (rw [or_if _ _ (by omega), nI_1]; rw [if_pos (by simp; omega)] at ww; exact ww)
      ·
        rw [nI_eq (by omega) (by omega)] at hc23
        refine R_gs 6 rfl ?_
        first | (rw [nI_1]; rw [if_neg (by simp; omega)] at ww; exact ww) | (rw [or_if _ _ (by omega), nI_1]; rw [if_pos (by simp; omega)] at ww; exact ww)
    ·
      refine R_gs 12 rfl ?_
      rw [hL.P]
      refine W_bt rfl (gec (by omega)) ?_
      refine R_gs 55 rfl ?_
      refine W_f rfl (by first | rfl | exact ⟨rfl, by first | decide | assumption | exact Or.inl rfl | exact Or.inr rfl | exact b2i_01 _⟩) ?_
      exact h1
theorem c_utteranceOf (ha : a = 143 ∨ a = 171) (hO : LandOK L) (hL : LandC h a L) (hb : b = 7 ∨ b = 14) (hS : SceneC h b L S) (hV : SceneOK L S) {p : Nat} (hp : p < lP L) (h1 : Q (some (.int (utt L S p))) h) : Rc (d + 1) m_X9_utteranceOf [.ref b, .ref a, .int (nI p)] h Q := by
  obtain ⟨o1, o2, o3, o4, -⟩ := id hO
  have u1 := (o4 p hp).1
  have u2 := (hV.2.1 p hp).1
  rcases ha with rfl | rfl <;> rcases hb with rfl | rfl
  all_goals
    refine R_in rfl rfl ?_
    refine R_gs 5 rfl ?_
    refine R_il rfl (by first | rfl | exact shO (by decide) (by omega) | exact shG (by decide) (by omega)) (by repeat (first | with_reducible apply ix_add | with_reducible apply ix_mul | with_reducible exact ix_nI _ | with_reducible exact ix_lit _ | exact rfl)) (by omega) (by first | exact hL.K hp) ?_
    refine R_gs 7 rfl ?_
    refine W_b rfl (fun hc7 => ?_) (fun hc7 => ?_)
    ·
      refine R_gs 15 rfl ?_
      refine R_il rfl (by first | rfl | exact shO (by decide) (by omega) | exact shG (by decide) (by omega)) (by repeat (first | with_reducible apply ix_add | with_reducible apply ix_mul | with_reducible exact ix_nI _ | with_reducible exact ix_lit _ | exact rfl)) (by omega) (by first | exact hS.B hp) ?_
      refine W_f rfl (by first | rfl | exact ⟨rfl, by first | decide | assumption | exact Or.inl rfl | exact Or.inr rfl | exact b2i_01 _⟩) ?_
      unfold utt at h1; rw [if_pos (nI_eqc (b := 2) hc7 (by omega) (by omega))] at h1; exact h1
    ·
      refine R_gs 22 rfl ?_
      refine R_il rfl (by first | rfl | exact shO (by decide) (by omega) | exact shG (by decide) (by omega)) (by repeat (first | with_reducible apply ix_add | with_reducible apply ix_mul | with_reducible exact ix_nI _ | with_reducible exact ix_lit _ | exact rfl)) (by omega) (by first | exact hL.K hp) ?_
      refine R_gs 24 rfl ?_
      refine W_b rfl (fun hc24 => ?_) (fun hc24 => ?_)
      ·
        refine R_gs 32 rfl ?_
        refine R_il rfl (by first | rfl | exact shO (by decide) (by omega) | exact shG (by decide) (by omega)) (by repeat (first | with_reducible apply ix_add | with_reducible apply ix_mul | with_reducible exact ix_nI _ | with_reducible exact ix_lit _ | exact rfl)) (by omega) (by first | exact hS.Y hp) ?_
        refine R_gs 34 rfl ?_
        refine W_b rfl (fun hc34 => ?_) (fun hc34 => ?_)
        ·
          refine R_gs 46 rfl ?_
          refine R_il rfl (by first | rfl | exact shO (by decide) (by omega) | exact shG (by decide) (by omega)) (by repeat (first | with_reducible apply ix_add | with_reducible apply ix_mul | with_reducible exact ix_nI _ | with_reducible exact ix_lit _ | exact rfl)) (by omega) (by first | exact hS.A hp) ?_
          refine R_il rfl (by first | rfl | exact shO (by decide) (by omega) | exact shG (by decide) (by omega)) (by repeat (first | with_reducible apply ix_add | with_reducible apply ix_mul | with_reducible exact ix_nI _ | with_reducible exact ix_lit _ | exact rfl)) (by omega) (by first | exact hS.U (by omega)) ?_
          refine W_f rfl (by first | rfl | exact ⟨rfl, by first | decide | assumption | exact Or.inl rfl | exact Or.inr rfl | exact b2i_01 _⟩) ?_
          unfold utt at h1; rw [if_neg (fun e => hc7 (congrArg nI e : nI (lK L p) = nI 2)), if_pos ⟨nI_eqc (b := 3) hc24 (by omega) (by omega), hc34⟩] at h1; exact h1
        ·
          refine R_gs 54 rfl ?_
          refine R_il rfl (by first | rfl | exact shO (by decide) (by omega) | exact shG (by decide) (by omega)) (by repeat (first | with_reducible apply ix_add | with_reducible apply ix_mul | with_reducible exact ix_nI _ | with_reducible exact ix_lit _ | exact rfl)) (by omega) (by first | exact hS.Y hp) ?_
          refine W_f rfl (by first | rfl | exact ⟨rfl, by first | decide | assumption | exact Or.inl rfl | exact Or.inr rfl | exact b2i_01 _⟩) ?_
          unfold utt at h1; first | (rw [if_neg (fun e => hc7 (congrArg nI e : nI (lK L p) = nI 2)), if_neg (fun e => hc34 e.2)] at h1; exact h1) | (rw [if_neg (fun e => hc7 (congrArg nI e : nI (lK L p) = nI 2)), if_neg (fun e => hc24 (congrArg nI e.1 : nI (lK L p) = nI 3))] at h1; exact h1)
      ·
        refine R_gs 54 rfl ?_
        refine R_il rfl (by first | rfl | exact shO (by decide) (by omega) | exact shG (by decide) (by omega)) (by repeat (first | with_reducible apply ix_add | with_reducible apply ix_mul | with_reducible exact ix_nI _ | with_reducible exact ix_lit _ | exact rfl)) (by omega) (by first | exact hS.Y hp) ?_
        refine W_f rfl (by first | rfl | exact ⟨rfl, by first | decide | assumption | exact Or.inl rfl | exact Or.inr rfl | exact b2i_01 _⟩) ?_
        unfold utt at h1; first | (rw [if_neg (fun e => hc7 (congrArg nI e : nI (lK L p) = nI 2)), if_neg (fun e => hc34 e.2)] at h1; exact h1) | (rw [if_neg (fun e => hc7 (congrArg nI e : nI (lK L p) = nI 2)), if_neg (fun e => hc24 (congrArg nI e.1 : nI (lK L p) = nI 3))] at h1; exact h1)
end
