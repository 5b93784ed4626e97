section
variable {d b : Nat} {h : AH} {L : SL} {S : SS} {Q : Option Value → AH → Prop}
theorem wvs_P (hO : LandOK L) (hV : PairsOK L (sW S)) {p : Nat} (hp : p < 6) : wvs (sW S) p = cntN (lP L) (fun q => !decide (q = p) && bt (sW S) (pr p q)) := by
  have o3 := hO.2.2.1
  refine cntN_up 6 o3 (fun q h1 h2 => ?_)
  by_cases e : q = p
  · simp [e]
  · cases e2 : bt (sW S) (pr p q) with
    | false => simp
    | true =>
      obtain ⟨u, v, h3, h4, h5⟩ := hV (pr p q) (by have := pr_lt p hp q h2 (Ne.symm e); omega) e2
      exact absurd h5 ((by decide +kernel : ∀ p, p < 6 → ∀ q, q < 6 → p ≠ q → ∀ v, v < q → ∀ u, u < v → ¬ pr p q = pr u v) p hp q h2 (Ne.symm e) v (by omega) u h3)
theorem m_wivesOf (hL : LandM h L) (hO : LandOK L) (hS : SceneM h b L S) (hV : PairsOK L (sW S)) (hb : b ≤ 880) {p : Nat} (hp : p < lP L) (h1 : Q (some (.int (nI (wvs (sW S) p)))) h) : Rc (d + 3) m_X13_wivesOf [.ref 235, .int (nI b), .int (nI p)] h Q := by
  obtain ⟨o1, o2, o3, o4, -⟩ := id hO
  rw [wvs_P hO hV (by omega)] at h1
  refine R_in rfl rfl ?_
  refine R_gs 5 rfl ?_
  refine w_lp (W := fun j s => Rw (d + 2) Q (m_X13_wivesOf, 5, [_, _, _, some (.int (nI s)), some (.int (nI j))], [], 262, h)) (fun q s => if (!decide (q = p) && bt (sW S) (pr p q)) = true then s + 1 else s) (lP L) (fun _ _ => True) 0 trivial (fun j s hj _ => ⟨trivial, fun w => ?_⟩) (fun _ => ?_)
  ·
    refine R_gs 8 rfl ?_
    refine R_k rfl rfl (m_people hL ?_)
    refine W_bf rfl (ltc hj (by omega)) ?_
    refine R_gs 18 rfl ?_
    refine W_b rfl (fun hc18 => ?_) (fun hc18 => ?_)
    ·
      rw [nI_eq (by omega) (by omega)] at hc18
      refine R_gs 5 rfl ?_
      first | (rw [nI_1, nI_1]; rw [if_pos (by simp [*])] at w; exact w) | (rw [show nI s + 0 = nI s from nI_add s 0, nI_1]; rw [if_neg (by simp [*])] at w; exact w)
    ·
      rw [nI_eq (by omega) (by omega)] at hc18
      refine R_gs 26 rfl ?_
      refine R_k rfl rfl (m_isWed hS hb (by omega) (by omega) (Ne.symm hc18) (fun hx26 => ?_) (fun hx26 => ?_))
      ·
        refine W_bf rfl (by decide) ?_
        refine R_gs 5 rfl ?_
        first | (rw [nI_1, nI_1]; rw [if_pos (by simp [*])] at w; exact w) | (rw [show nI s + 0 = nI s from nI_add s 0, nI_1]; rw [if_neg (by simp [*])] at w; exact w)
      ·
        refine W_bt rfl (by decide) ?_
        refine R_gs 5 rfl ?_
        first | (rw [nI_1, nI_1]; rw [if_pos (by simp [*])] at w; exact w) | (rw [show nI s + 0 = nI s from nI_add s 0, nI_1]; rw [if_neg (by simp [*])] at w; exact w)
  ·
    refine R_gs 8 rfl ?_
    refine R_k rfl rfl (m_people hL ?_)
    refine W_bt rfl (gec (by omega)) ?_
    refine R_gs 46 rfl ?_
    refine W_f rfl (by first | rfl | exact ⟨rfl, by first | decide | assumption | exact Or.inl rfl | exact Or.inr rfl | exact b2i_01 _⟩) ?_
    exact h1
theorem m_bigamistsOf (hL : LandM h L) (hO : LandOK L) (hS : SceneM h b L S) (hV : PairsOK L (sW S)) (hb : b ≤ 880) (h1 : Q (some (.int (bigs (sW S)))) h) : Rc (d + 4) m_X13_bigamistsOf [.ref 235, .int (nI b)] h Q := by
  obtain ⟨o1, o2, o3, o4, -⟩ := id hO
  have e : bigs (sW S) = setN (lP L) (fun p => decide (2 ≤ wvs (sW S) p)) := by
    refine setN_up 6 o3 (fun p h1 h2 => ?_)
    have : wvs (sW S) p = 0 := by
      rw [wvs_P hO hV h2]
      have : cntN (lP L) (fun q => !decide (q = p) && bt (sW S) (pr p q)) = cntN 0 (fun q => !decide (q = p) && bt (sW S) (pr p q)) := by
        refine cntN_up _ (Nat.zero_le _) (fun q _ h3 => ?_)
        cases e2 : bt (sW S) (pr p q) with
        | false => simp
        | true =>
          obtain ⟨u, v, h4, h5, h6⟩ := hV (pr p q) (by have := pr_lt p h2 q (by omega) (by omega); omega) e2
          exact absurd h6 ((by decide +kernel : ∀ p, p < 6 → ∀ q, q < p → ∀ v, v < p → ∀ u, u < v → ¬ pr p q = pr u v) p h2 q (by omega) v (by omega) u h4)
      rw [this]; rfl
    rw [this]; rfl
  rw [e] at h1
  refine R_in rfl rfl ?_
  refine R_gs 4 rfl ?_
  refine w_lp (W := fun j s => Rw (d + 3) Q (m_X13_bigamistsOf, 4, [_, _, some (.int s), some (.int (nI j))], [], 262, h)) (fun j s => if decide (2 ≤ wvs (sW S) j) = true then s ||| nI (2 ^ j) else s) (lP L) (fun _ _ => True) 0 trivial (fun j s hj _ => ⟨trivial, fun w => ?_⟩) (fun _ => ?_)
  ·
    have hw := wvs_le (sW S) j
    have nl := nI_leI (a := wvs (sW S) j) (b := 1) (by omega) (by omega)
    refine R_gs 6 rfl ?_
    refine R_k rfl rfl (m_people hL ?_)
    refine W_bf rfl (ltc hj (by omega)) ?_
    refine R_gs 16 rfl ?_
    refine R_k rfl rfl (m_wivesOf hL hO hS hV hb hj ?_)
    refine R_gs 20 rfl ?_
    refine W_b rfl (fun hc20 => ?_) (fun hc20 => ?_)
    ·
      refine R_gs 4 rfl ?_
      first | (rw [Int32.or_zero, nI_1]; rw [if_neg (by have := nl.mp hc20; simp; omega)] at w; exact w) | (rw [or_if _ _ (by omega), nI_1]; rw [if_pos (by have := mt nl.mpr hc20; simp; omega)] at w; exact w)
    ·
      refine R_gs 4 rfl ?_
      first | (rw [Int32.or_zero, nI_1]; rw [if_neg (by have := nl.mp hc20; simp; omega)] at w; exact w) | (rw [or_if _ _ (by omega), nI_1]; rw [if_pos (by have := mt nl.mpr hc20; simp; omega)] at w; exact w)
  ·
    refine R_gs 6 rfl ?_
    refine R_k rfl rfl (m_people hL ?_)
    refine W_bt rfl (gec (by omega)) ?_
    refine R_gs 39 rfl ?_
    refine W_f rfl (by first | rfl | exact ⟨rfl, by first | decide | assumption | exact Or.inl rfl | exact Or.inr rfl | exact b2i_01 _⟩) ?_
    exact h1
/-! laws -/
theorem StepM.ne0 {o a s : Int32} (h : StepM o a s) : ¬ o = 0 := by
  rintro rfl
  unfold StepM at h
  simp at h
theorem StepM.i1 {o a s : Int32} (h : StepM o a s) (e : o = 1) : a = s ∧ ¬ s < -3 ∧ ∀ x y z, xva s x y z = s := by
  subst e
  unfold StepM at h
  simp at h
  obtain ⟨h1, h2⟩ := h
  refine ⟨h1, fun h3 => absurd (Int32.lt_of_le_of_lt h2 h3) (by decide), fun x y z => ?_⟩
  unfold xva
  rw [if_neg (by rintro rfl; revert h2; decide), if_neg (by rintro rfl; revert h2; decide), if_neg (by rintro rfl; revert h2; decide)]
theorem StepM.i2 {o a s : Int32} (h : StepM o a s) (e : o = 2) : ∃ k, k < 3 ∧ a = nI k ∧ ¬ s < -3 ∧ ∀ x y z, xva s x y z = (if k = 0 then x else if k = 1 then y else z) := by
  subst e
  unfold StepM at h
  simp at h
  obtain ⟨k, hk, h1, h2⟩ := h
  refine ⟨k, hk, h1, ?_⟩
  have : k = 0 ∨ k = 1 ∨ k = 2 := by omega
  subst h2
  rcases this with rfl | rfl | rfl
  · rw [show (-1 - nI 0 : Int32) = -1 from by decide]; exact ⟨by decide, fun _ _ _ => by simp [xva]⟩
  · rw [show (-1 - nI 1 : Int32) = -2 from by decide]; exact ⟨by decide, fun _ _ _ => by simp [xva]⟩
  · rw [show (-1 - nI 2 : Int32) = -3 from by decide]; exact ⟨by decide, fun _ _ _ => by simp [xva]⟩
theorem StepM.i3 {o a s : Int32} (h : StepM o a s) (e : o = 3) : s < -3 ∧ s = -4 := by
  subst e
  unfold StepM at h
  simp at h
  subst h
  decide
/-- what joins, by the model's numbers -/
def xbo (o a b : Int32) : Int32 := if o = 4 then a + b else if o = 5 then a - b else if o = 6 then a * b else if o = 7 then (if a < b then 1 else 0) else if o = 8 then (if a = b then 1 else 0) else if o = 9 then (if ¬ a = 0 ∧ ¬ b = 0 then 1 else 0) else (if ¬ a = 0 ∨ ¬ b = 0 then 1 else 0)
theorem StepM.i4 {o a s : Int32} (h : StepM o a s) (e1 : ¬ o = 1) (e2 : ¬ o = 2) (e3 : ¬ o = 3) : s < -3 ∧ ¬ s = -4 ∧ ∀ u v, xbo o u v = xjo s u v := by
  unfold StepM at h
  rcases h with ⟨h, _⟩ | ⟨h, _⟩ | ⟨h, _⟩ | ⟨h, h2⟩ | ⟨h, h2⟩ | ⟨h, h2⟩ | ⟨h, h2⟩ | ⟨h, h2⟩ | ⟨h, h2⟩ | ⟨h, h2⟩
  · exact absurd h e1
  · exact absurd h e2
  · exact absurd h e3
  all_goals
    subst h
    subst h2
    exact ⟨by decide, by decide, fun _ _ => rfl⟩
theorem m_both {s x y : Int32} (h1 : Q (some (.int (xbo s x y))) h) : Rc (d + 1) m_X13_both [.int s, .int x, .int y] h Q := by
  refine R_in rfl rfl ?_
  refine R_gs 1 rfl ?_
  refine W_w rfl (fun jj tt ht hz => ?_) (fun hz => ?_)
  ·
    have hjj : jj < 6 := by rcases Nat.lt_or_ge jj 6 with hq | hq; exact hq; rw [List.getElem?_eq_none (by simpa using hq)] at ht; cases ht
    by_cases e0 : jj = 0
    ·
      subst e0; cases ht
      refine R_gs 43 rfl ?_
      refine W_f rfl (by first | rfl | exact ⟨rfl, by first | decide | assumption | exact Or.inl rfl | exact Or.inr rfl | exact b2i_01 _⟩) ?_
      have e := sw_eq 4 hz (by decide); subst e; exact h1
    by_cases e1 : jj = 1
    ·
      subst e1; cases ht
      refine R_gs 47 rfl ?_
      refine W_f rfl (by first | rfl | exact ⟨rfl, by first | decide | assumption | exact Or.inl rfl | exact Or.inr rfl | exact b2i_01 _⟩) ?_
      have e := sw_eq 5 hz (by decide); subst e; exact h1
    by_cases e2 : jj = 2
    ·
      subst e2; cases ht
      refine R_gs 51 rfl ?_
      refine W_f rfl (by first | rfl | exact ⟨rfl, by first | decide | assumption | exact Or.inl rfl | exact Or.inr rfl | exact b2i_01 _⟩) ?_
      have e := sw_eq 6 hz (by decide); subst e; exact h1
    by_cases e3 : jj = 3
    ·
      subst e3; cases ht
      refine R_gs 54 rfl ?_
      refine W_b rfl (fun hc54 => ?_) (fun hc54 => ?_)
      ·
        refine R_gs 62 rfl ?_
        refine W_f rfl (by first | rfl | exact ⟨rfl, by first | decide | assumption | exact Or.inl rfl | exact Or.inr rfl | exact b2i_01 _⟩) ?_
        have e := sw_eq 7 hz (by decide); subst e; simp [xbo, *] at h1; first | exact h1 | (rw [if_pos (Int32.not_le.mp hc54)] at h1; exact h1) | (rw [if_neg (Int32.not_lt.mpr hc54)] at h1; exact h1)
      ·
        refine R_gs 62 rfl ?_
        refine W_f rfl (by first | rfl | exact ⟨rfl, by first | decide | assumption | exact Or.inl rfl | exact Or.inr rfl | exact b2i_01 _⟩) ?_
        have e := sw_eq 7 hz (by decide); subst e; simp [xbo, *] at h1; first | exact h1 | (rw [if_pos (Int32.not_le.mp hc54)] at h1; exact h1) | (rw [if_neg (Int32.not_lt.mpr hc54)] at h1; exact h1)
    by_cases e4 : jj = 4
    ·
      subst e4; cases ht
      refine R_gs 65 rfl ?_
      refine W_b rfl (fun hc65 => ?_) (fun hc65 => ?_)
      ·
        refine R_gs 73 rfl ?_
        refine W_f rfl (by first | rfl | exact ⟨rfl, by first | decide | assumption | exact Or.inl rfl | exact Or.inr rfl | exact b2i_01 _⟩) ?_
        have e := sw_eq 8 hz (by decide); subst e; simp [xbo, *] at h1; exact h1
      ·
        refine R_gs 73 rfl ?_
        refine W_f rfl (by first | rfl | exact ⟨rfl, by first | decide | assumption | exact Or.inl rfl | exact Or.inr rfl | exact b2i_01 _⟩) ?_
        have e := sw_eq 8 hz (by decide); subst e; simp [xbo, *] at h1; exact h1
    by_cases e5 : jj = 5
    ·
      subst e5; cases ht
      refine R_gs 75 rfl ?_
      refine W_b rfl (fun hc75 => ?_) (fun hc75 => ?_)
      ·
        refine R_gs 87 rfl ?_
        refine W_f rfl (by first | rfl | exact ⟨rfl, by first | decide | assumption | exact Or.inl rfl | exact Or.inr rfl | exact b2i_01 _⟩) ?_
        have e := sw_eq 9 hz (by decide); subst e; simp [xbo, *] at h1; exact h1
      ·
        refine R_gs 79 rfl ?_
        refine W_b rfl (fun hc79 => ?_) (fun hc79 => ?_)
        ·
          refine R_gs 87 rfl ?_
          refine W_f rfl (by first | rfl | exact ⟨rfl, by first | decide | assumption | exact Or.inl rfl | exact Or.inr rfl | exact b2i_01 _⟩) ?_
          have e := sw_eq 9 hz (by decide); subst e; simp [xbo, *] at h1; exact h1
        ·
          refine R_gs 87 rfl ?_
          refine W_f rfl (by first | rfl | exact ⟨rfl, by first | decide | assumption | exact Or.inl rfl | exact Or.inr rfl | exact b2i_01 _⟩) ?_
          have e := sw_eq 9 hz (by decide); subst e; simp [xbo, *] at h1; exact h1
    exact absurd hjj (by omega)
  ·
    refine R_gs 89 rfl ?_
    refine W_b rfl (fun hc89 => ?_) (fun hc89 => ?_)
    ·
      refine R_gs 93 rfl ?_
      refine W_b rfl (fun hc93 => ?_) (fun hc93 => ?_)
      ·
        refine R_gs 101 rfl ?_
        refine W_f rfl (by first | rfl | exact ⟨rfl, by first | decide | assumption | exact Or.inl rfl | exact Or.inr rfl | exact b2i_01 _⟩) ?_
        unfold xbo at h1; rw [if_neg (by rintro rfl; revert hz; decide), if_neg (by rintro rfl; revert hz; decide), if_neg (by rintro rfl; revert hz; decide), if_neg (by rintro rfl; revert hz; decide), if_neg (by rintro rfl; revert hz; decide), if_neg (by rintro rfl; revert hz; decide)] at h1; simp [*] at h1; exact h1
      ·
        refine R_gs 101 rfl ?_
        refine W_f rfl (by first | rfl | exact ⟨rfl, by first | decide | assumption | exact Or.inl rfl | exact Or.inr rfl | exact b2i_01 _⟩) ?_
        unfold xbo at h1; rw [if_neg (by rintro rfl; revert hz; decide), if_neg (by rintro rfl; revert hz; decide), if_neg (by rintro rfl; revert hz; decide), if_neg (by rintro rfl; revert hz; decide), if_neg (by rintro rfl; revert hz; decide), if_neg (by rintro rfl; revert hz; decide)] at h1; simp [*] at h1; exact h1
    ·
      refine R_gs 101 rfl ?_
      refine W_f rfl (by first | rfl | exact ⟨rfl, by first | decide | assumption | exact Or.inl rfl | exact Or.inr rfl | exact b2i_01 _⟩) ?_
      unfold xbo at h1; rw [if_neg (by rintro rfl; revert hz; decide), if_neg (by rintro rfl; revert hz; decide), if_neg (by rintro rfl; revert hz; decide), if_neg (by rintro rfl; revert hz; decide), if_neg (by rintro rfl; revert hz; decide), if_neg (by rintro rfl; revert hz; decide)] at h1; simp [*] at h1; exact h1
theorem m_worthAt {k : Nat} {c : List Int32} (hC : CodeM h k c) (hK : LawOK c) {x y z : Int32} (f0 : hI h 249 0 = x) (f1 : hI h 249 1 = y) (f2 : hI h 249 2 = z) (h1 : ∀ h', Fr (fun q => Nat.beq q 250) h h' → Q (some (.int (xw c x y z))) h') : Rc (d + 2) m_X13_worthAt [.ref 235, .int (nI k)] h Q := by
  have hn := hK.1
  have hn2 := hC.1
  refine R_in rfl rfl ?_
  refine R_gs 4 rfl ?_
  refine w_inv (W := fun j (s : AH × List Int32) => ∀ x6 : Option Value, Rw (d + 1) Q (m_X13_worthAt, 4, [some (.ref 235), some (.int (nI k)), some (.int (nI s.2.length)), some (.int (nI (k + j))), x6], [], 262, s.1)) c.length (fun j s => Fr (fun q => Nat.beq q 250) h s.1 ∧ Pile (hI s.1 250) s.2 ∧ s.2.length ≤ 24 ∧ XI x y z c j s.2) (s0 := (h, [])) ⟨Fr.refl _ h, trivial, Nat.zero_le _, XI.start hK⟩ (fun j s hj hi w => ?_) (fun s hi => ?_) none
  ·
    intro x6
    obtain ⟨h', l⟩ := s
    obtain ⟨hf, hp, hl, hx⟩ := hi
    dsimp only at hf hp hl hx ⊢
    have hst := hC.2.1 j hj
    rw [← hf.I (b := 242) rfl, ← hf.I (b := 243) rfl] at hst
    have f0' : hI h' 249 0 = x := by rw [hf.I rfl]; exact f0
    have f1' : hI h' 249 1 = y := by rw [hf.I rfl]; exact f1
    have f2' : hI h' 249 2 = z := by rw [hf.I rfl]; exact f2
    refine R_gs 9 rfl ?_
    refine R_il rfl (by first | rfl | exact shO (by decide) (by omega) | exact shG (by decide) (by omega)) (by repeat (first | with_reducible apply ix_add | with_reducible apply ix_mul | with_reducible exact ix_nI _ | with_reducible exact ix_lit _ | exact rfl)) (by omega) (by first | exact rfl) ?_
    refine W_bf rfl (hst.ne0) ?_
    refine R_gs 18 rfl ?_
    refine R_il rfl (by first | rfl | exact shO (by decide) (by omega) | exact shG (by decide) (by omega)) (by repeat (first | with_reducible apply ix_add | with_reducible apply ix_mul | with_reducible exact ix_nI _ | with_reducible exact ix_lit _ | exact rfl)) (by omega) (by first | exact rfl) ?_
    refine R_gs 24 rfl ?_
    refine W_b rfl (fun hc24 => ?_) (fun hc24 => ?_)
    ·
      obtain ⟨g1, g2, g3⟩ := hst.i1 hc24
      obtain ⟨c2, nx⟩ := hx.n1 hj g2
      refine R_gs 41 rfl ?_
      refine W_bt rfl (hc24) ?_
      refine R_gs 49 rfl ?_
      refine R_il rfl (by first | rfl | exact shO (by decide) (by omega) | exact shG (by decide) (by omega)) (by repeat (first | with_reducible apply ix_add | with_reducible apply ix_mul | with_reducible exact ix_nI _ | with_reducible exact ix_lit _ | exact rfl)) (by omega) (by first | exact rfl) ?_
      refine R_gs 64 rfl ?_
      refine R_is rfl rfl (ix_nI _) (by omega) ?_
      refine R_gs 4 rfl ?_
      rw [nI_1, nI_1, g1]; rw [g3] at nx; exact w (wI h' 250 l.length _, _ :: l) ⟨hf.wI rfl, hp.push, c2, nx⟩ _
    ·
      refine R_gs 30 rfl ?_
      refine W_b rfl (fun hc30 => ?_) (fun hc30 => ?_)
      ·
        obtain ⟨kk, hkk, g1, g2, g3⟩ := hst.i2 hc30
        obtain ⟨c2, nx⟩ := hx.n1 hj g2
        refine R_gs 41 rfl ?_
        refine W_bf rfl (hc24) ?_
        refine R_gs 62 rfl ?_
        refine R_il rfl rfl (ix_nI _) (by omega) g1 ?_
        refine R_il rfl rfl (ix_nI _) hkk rfl ?_
        refine R_is rfl rfl (ix_nI _) (by omega) ?_
        refine R_gs 4 rfl ?_
        rw [nI_1, nI_1]; rw [g3] at nx; have hk3 : kk = 0 ∨ kk = 1 ∨ kk = 2 := by { omega }; rcases hk3 with rfl | rfl | rfl <;> simp at nx <;> exact w (wI h' 250 l.length _, _ :: l) ⟨hf.wI rfl, hp.push, c2, by first | (rw [f0']; exact nx) | (rw [f1']; exact nx) | (rw [f2']; exact nx)⟩ _
      ·
        refine R_gs 74 rfl ?_
        refine W_b rfl (fun hc74 => ?_) (fun hc74 => ?_)
        ·
          obtain ⟨g2, g3⟩ := hst.i3 hc74
          obtain ⟨u, l', rfl, nx⟩ := hx.n2 hj g2 g3
          simp only [List.length_cons] at hl ⊢
          refine R_gs 91 rfl ?_
          refine R_il rfl rfl (nI_pred _) (by omega) hp.1 ?_
          refine W_b rfl (fun hc92 => ?_) (fun hc92 => ?_)
          ·
            refine R_gs 100 rfl ?_
            refine R_is rfl rfl (nI_pred _) (by omega) ?_
            refine R_gs 4 rfl ?_
            rw [nI_1]; exact w (wI h' 250 l'.length _, _ :: l') ⟨hf.wI rfl, hp.2.push, by simp; omega, by first | (rw [if_pos hc92] at nx; exact nx) | (rw [if_neg hc92] at nx; exact nx)⟩ _
          ·
            refine R_gs 100 rfl ?_
            refine R_is rfl rfl (nI_pred _) (by omega) ?_
            refine R_gs 4 rfl ?_
            rw [nI_1]; exact w (wI h' 250 l'.length _, _ :: l') ⟨hf.wI rfl, hp.2.push, by simp; omega, by first | (rw [if_pos hc92] at nx; exact nx) | (rw [if_neg hc92] at nx; exact nx)⟩ _
        ·
          obtain ⟨g2, g3, g4⟩ := hst.i4 hc24 hc30 hc74
          obtain ⟨u, v, l', rfl, nx⟩ := hx.n3 hj g2 g3
          simp only [List.length_cons] at hl ⊢
          refine R_gs 123 rfl ?_
          refine R_il (j := l'.length) rfl rfl (by rw [nI_dec, nI_pred]) (by omega) hp.2.1 ?_
          refine R_gs 129 rfl ?_
          refine R_il (j := l'.length + 1) rfl rfl (by rw [nI_dec]) (by omega) hp.1 ?_
          refine R_k rfl rfl (m_both ?_)
          refine R_is (j := l'.length) rfl rfl (by rw [nI_dec, nI_pred]) (by omega) ?_
          refine R_gs 4 rfl ?_
          rw [nI_dec, nI_1]; exact w (wI h' 250 l'.length _, _ :: l') ⟨hf.wI rfl, hp.2.2.push, by simp; omega, by rw [g4]; exact nx⟩ _
  ·
    intro x6
    obtain ⟨h', l⟩ := s
    obtain ⟨hf, hp, hl, hx⟩ := hi
    dsimp only at hf hp hl hx ⊢
    have e0 : hI h' 242 (k + c.length) = 0 := by rw [hf.I rfl]; exact hC.2.2
    refine R_gs 9 rfl ?_
    refine R_il rfl (by first | rfl | exact shO (by decide) (by omega) | exact shG (by decide) (by omega)) (by repeat (first | with_reducible apply ix_add | with_reducible apply ix_mul | with_reducible exact ix_nI _ | with_reducible exact ix_lit _ | exact rfl)) (by omega) (by first | exact rfl) ?_
    refine W_bt rfl (e0) ?_
    refine R_gs 145 rfl ?_
    obtain ⟨v, rfl, ev⟩ := hx.fin
    refine R_il rfl rfl (ix_lit _) (by decide) (hp.1.trans ev) ?_
    refine W_f rfl (by first | rfl | exact ⟨rfl, by first | decide | assumption | exact Or.inl rfl | exact Or.inr rfl | exact b2i_01 _⟩) ?_
    exact h1 _ hf
end
