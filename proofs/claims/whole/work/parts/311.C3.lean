theorem clamp_eq (v : Int32) : (if 0 < (if v < 999 then v else 999) then (if v < 999 then v else 999) else 0) = clampP v := by
  unfold clampP
  have z : (0 : Int32).toInt = 0 := by decide
  have n : (999 : Int32).toInt = 999 := by decide
  by_cases h1 : v < 999
  · rw [if_pos h1]
    rw [Int32.lt_iff_toInt_lt, n] at h1
    by_cases h2 : 0 < v
    · rw [if_pos h2]
      rw [Int32.lt_iff_toInt_lt, z] at h2
      rw [if_neg (by rw [Int32.lt_iff_toInt_lt, z]; omega), if_neg (by rw [Int32.lt_iff_toInt_lt, n]; omega)]
    · rw [if_neg h2]
      rw [Int32.lt_iff_toInt_lt, z] at h2
      by_cases h3 : v < 0
      · rw [if_pos h3]
      · rw [if_neg h3, if_neg (by rw [Int32.lt_iff_toInt_lt, n]; omega)]
        rw [Int32.lt_iff_toInt_lt, z] at h3
        exact Int32.toInt_inj.mp (by rw [z]; omega)
  · rw [if_neg h1, if_pos (by decide)]
    rw [Int32.lt_iff_toInt_lt, n] at h1
    rw [if_neg (by rw [Int32.lt_iff_toInt_lt, z]; omega)]
    by_cases h3 : 999 < v
    · rw [if_pos h3]
    · rw [if_neg h3]
      rw [Int32.lt_iff_toInt_lt, n] at h3
      exact Int32.toInt_inj.mp (by rw [n]; omega)
theorem SayOK.ge {L : SL} {x : Int32} (hO : LandOK L) (h : SayOK L x) : ¬ x = -1 ↔ 0 ≤ x := by
  have o1 := hO.1
  rcases h with rfl | ⟨k, hk, rfl⟩
  · decide
  · exact ⟨fun _ => nI_pos' (by omega), fun h e => by rw [e] at h; revert h; decide⟩
section
variable {d a b : Nat} {h : AH} {L : SL} {S : SS} {Q : Option Value → AH → Prop}
theorem c_partingPrice (hT : St h) (ha : a = 143 ∨ a = 171) (hO : LandOK L) (hL : LandC h a L) (hb : b = 7 ∨ b = 14) (hS : SceneC h b L S) (hV : SceneOK L S) {p q : Nat} (hp : p < lP L) (hq : q < lP L) (hpq : p ≠ q) (h1 : ∀ h', Fr xsc h h' → Q (some (.int (price L (sW S) p q))) h') : Rc (d + 4) m_X9_partingPrice [.ref b, .ref a, .int (nI p), .int (nI q)] h Q := by
  have ha' := ha
  have hb' := hb
  rcases ha with rfl | rfl <;> rcases hb with rfl | rfl
  all_goals
    refine R_in rfl rfl ?_
    refine R_gs 12 rfl ?_
    refine R_k rfl rfl (c_worthOf hT ha' hO hL hb' hS hV hp hq hpq (by decide) hL.2.2.2.2.2.2 hO.2.2.2.2.2 (fun h' hf => ?_))
    refine R_gs 21 rfl ?_
    refine W_f rfl (by first | rfl | exact ⟨rfl, by first | decide | assumption | exact Or.inl rfl | exact Or.inr rfl | exact b2i_01 _⟩) ?_
    rw [clamp_eq]; exact h1 _ hf
/-- while the pairs of a moment are gone through -/
def WAI (b : Nat) (h : AH) (L : SL) (S : SS) (u : Nat → Int32) (s : AH × Int32 × Int32) : Prop := Fr (xs b) h s.1 ∧ hI s.1 b 10 = hI h b 10 ∧ (∀ k, k < lP L → hI s.1 (b + 4) k = u k) ∧ SceneC s.1 b L (setW S s.2.1) ∧ PairsOK L s.2.1
theorem WAI.sc {u : Nat → Int32} {h1 h2 : AH} {t : Int32 × Int32} (hb : b = 7 ∨ b = 14) (w : WAI b h L S u (h1, t)) (hf : Fr xsc h1 h2) : WAI b h L S u (h2, t) := by
  obtain ⟨w1, w2, w3, w4, w5⟩ := w
  rcases hb with rfl | rfl
  · exact ⟨w1.trans hf.sc, by dsimp only at *; rw [hf.I rfl]; exact w2, by dsimp only at *; rw [hf.I rfl]; exact w3, w4.fr hf rfl rfl rfl rfl rfl, w5⟩
  · exact ⟨w1.trans hf.sc, by dsimp only at *; rw [hf.I rfl]; exact w2, by dsimp only at *; rw [hf.I rfl]; exact w3, w4.fr hf rfl rfl rfl rfl rfl, w5⟩
theorem PairsOK.or {x : Int32} (hO : LandOK L) (hx : PairsOK L x) {p q : Nat} (hpq : p < q) (hq : q < lP L) : PairsOK L (x ||| nI (2 ^ pr p q)) := by
  have o3 := hO.2.2.1
  have := pr_lt p (by omega) q (by omega) (by omega)
  intro i hi e
  rw [pb_or (by omega) hi] at e
  simp only [Bool.or_eq_true, decide_eq_true_eq] at e
  rcases e with e | e
  · exact hx i hi e
  · exact ⟨p, q, hpq, hq, e⟩
theorem WAI.wed {u : Nat → Int32} {h1 : AH} {t : Int32 × Int32} (hb : b = 7 ∨ b = 14) (hO : LandOK L) (w : WAI b h L S u (h1, t)) {p q : Nat} (hpq : p < q) (hq : q < lP L) (f : Int32) : WAI b h L S u (wI h1 b 1 (t.1 ||| nI (2 ^ pr p q)), t.1 ||| nI (2 ^ pr p q), f) := by
  obtain ⟨w1, w2, w3, w4, w5⟩ := w
  rcases hb with rfl | rfl
  · exact ⟨w1.wI rfl, w2, w3, ⟨w4.1, rfl, w4.2.2.1, w4.2.2.2.1, w4.2.2.2.2⟩, w5.or hO hpq hq⟩
  · exact ⟨w1.wI rfl, w2, w3, ⟨w4.1, rfl, w4.2.2.1, w4.2.2.2.1, w4.2.2.2.2⟩, w5.or hO hpq hq⟩
theorem xs_land {a b : Nat} (ha : a = 143 ∨ a = 171) (hb : b = 7 ∨ b = 14) : ∀ i, i < 27 → i ≠ 24 → xs b (a + i) = false := by
  rcases ha with rfl | rfl <;> rcases hb with rfl | rfl <;> decide
theorem St.fr {X : Nat → Bool} {h h' : AH} (hT : St h) (hf : Fr X h h') (h1 : X 1101 = false) (h2 : X 1102 = false) : St h' := by
  unfold St at *
  rw [hf.I h1, hf.I h2]; exact hT
theorem c_wedAlike (hT : St h) (ha : a = 143 ∨ a = 171) (hO : LandOK L) (hL : LandC h a L) (hb : b = 7 ∨ b = 14) (hS : SceneC h b L S) (hV : SceneOK L S) {u : Nat → Int32} (hu : ∀ k, k < lP L → hI h (b + 4) k = u k) (hu2 : ∀ k, k < lP L → SayOK L (u k)) (h1 : ∀ h', WAI b h L S u (h', wall L S u) → Q (some (.int (wall L S u).2)) h') : Rc (d + 4) m_X9_wedAlike [.ref b, .ref a] h Q := by
  obtain ⟨o1, o2, o3, o4, -⟩ := id hO
  have ha' := ha
  have hb' := hb
  rcases ha with rfl | rfl <;> rcases hb with rfl | rfl
  ·
    refine R_in rfl rfl ?_
    refine R_gs 4 rfl ?_
    refine w_inv (W := fun p (s : AH × Int32 × Int32) => ∀ x4 x5 : Option Value, Rw (d + 3) Q (m_X9_wedAlike, 4, [some (.ref 7), some (.ref 143), some (.int s.2.2), some (.int (nI p)), x4, x5], [], 262, s.1)) (lP L) (fun p s => WAI 7 h L S u s ∧ s.2 = lp (wrow L S u) p (sW S, 0)) (s0 := (h, sW S, 0)) ⟨⟨Fr.refl _ h, rfl, hu, hS, hV.1⟩, rfl⟩ (fun p s hp hi w => ?_) (fun s hi => ?_) none none
    ·
      intro x4 x5
      obtain ⟨h0, t⟩ := s
      obtain ⟨hw, ht⟩ := hi
      have hL' := hL.fr hO hw.1 (xs_land ha' hb')
      refine R_gs 9 rfl ?_
      rw [hL'.P]
      refine W_bf rfl (ltc hp (by omega)) ?_
      refine R_gs 17 rfl ?_
      rw [nI_1]
      refine w_inv (W := fun i (s : AH × Int32 × Int32) => ∀ x5 : Option Value, Rw (d + 3) Q (m_X9_wedAlike, 17, [some (.ref 7), some (.ref 143), some (.int s.2.2), some (.int (nI p)), some (.int (nI (p + 1 + i))), x5], [], 262, s.1)) (lP L - (p + 1)) (fun i s => WAI 7 h L S u s ∧ s.2 = lp (fun i s => wst L S u p (p + 1 + i) s) i t) (s0 := (h0, t)) ⟨hw, rfl⟩ (fun i s hi' hi w2 => ?_) (fun s hi => ?_) x5
      ·
        intro x5
        obtain ⟨h', t'⟩ := s
        obtain ⟨hw', ht'⟩ := hi
        have hL' := hL.fr hO hw'.1 (xs_land ha' hb')
        have hV' : SceneOK L (setW S t'.1) := ⟨hw'.2.2.2.2, hV.2⟩
        have hT' := hT.fr hw'.1 rfl rfl
        have es := (hu2 p hp).ge hO
        dsimp only at ht' ⊢
        refine R_gs 23 rfl ?_
        rw [hL'.P]
        refine W_bf rfl (ltc (by omega) (by omega)) ?_
        refine R_gs 31 rfl ?_
        refine R_il rfl (by first | rfl | exact shO (by decide) (by omega) | exact shG (by decide) (by omega)) (by repeat (first | with_reducible apply ix_add | with_reducible apply ix_mul | with_reducible exact ix_nI _ | with_reducible exact ix_lit _ | exact rfl)) (by omega) (by first | exact hw'.2.2.1 _ hp) ?_
        refine R_gs 33 rfl ?_
        refine W_b rfl (fun hc33 => ?_) (fun hc33 => ?_)
        ·
          refine R_gs 61 rfl ?_
          refine W_bt rfl (by decide) ?_
          refine R_gs 17 rfl ?_
          rw [nI_1]; exact w2 (h', t') ⟨hw', by rw [show lp (fun i s => wst L S u p (p + 1 + i) s) (i + 1) t = wst L S u p (p + 1 + i) (lp (fun i s => wst L S u p (p + 1 + i) s) i t) from rfl, ← ht']; unfold wst; rw [if_neg (fun hq => es.mpr hq.1.1 hc33)]⟩ _
        ·
          refine R_gs 41 rfl ?_
          refine R_il rfl (by first | rfl | exact shO (by decide) (by omega) | exact shG (by decide) (by omega)) (by repeat (first | with_reducible apply ix_add | with_reducible apply ix_mul | with_reducible exact ix_nI _ | with_reducible exact ix_lit _ | exact rfl)) (by omega) (by first | exact hw'.2.2.1 _ hp) ?_
          refine R_gs 48 rfl ?_
          refine R_il rfl (by first | rfl | exact shO (by decide) (by omega) | exact shG (by decide) (by omega)) (by repeat (first | with_reducible apply ix_add | with_reducible apply ix_mul | with_reducible exact ix_nI _ | with_reducible exact ix_lit _ | exact rfl)) (by omega) (by first | exact hw'.2.2.1 _ (by omega)) ?_
          refine W_b rfl (fun hc49 => ?_) (fun hc49 => ?_)
          ·
            refine R_gs 61 rfl ?_
            refine W_bf rfl (by decide) ?_
            refine R_gs 69 rfl ?_
            refine R_k rfl rfl (c_couldSnap ha' hO hL' hb' hw'.2.2.2.1 hV' hp (by omega) (by omega) (fun hx69 => ?_) (fun hx69 => ?_))
            ·
              refine W_bf rfl (by decide) ?_
              refine R_gs 84 rfl ?_
              refine R_k rfl rfl (c_worthOf hT' ha' hO hL' hb' hw'.2.2.2.1 hV' hp (by omega) (by omega) (by decide) hL'.2.2.2.2.2.1 hO.2.2.2.2.1 (fun h2 hf2 => ?_))
              have hw2 := hw'.sc hb' hf2
              refine W_b rfl (fun hc87 => ?_) (fun hc87 => ?_)
              ·
                refine R_gs 17 rfl ?_
                rw [nI_1]; exact w2 (h2, t') ⟨hw2, by rw [show lp (fun i s => wst L S u p (p + 1 + i) s) (i + 1) t = wst L S u p (p + 1 + i) (lp (fun i s => wst L S u p (p + 1 + i) s) i t) from rfl, ← ht']; unfold wst; rw [if_neg (fun hq => hq.2.2 hc87)]⟩ _
              ·
                refine R_gs 98 rfl ?_
                rw [hw2.2.2.2.1.W]
                refine R_k rfl rfl (c_pairBit (by omega) (by omega) (by omega) ?_)
                refine R_gs 109 rfl ?_
                refine R_k rfl rfl (c_pairBit (by omega) (by omega) (by omega) ?_)
                refine R_gs 17 rfl ?_
                rw [nI_1]; exact w2 (wI h2 7 1 _, _, _) ⟨hw2.wed hb' hO (p := p) (q := p + 1 + i) (by omega) (by omega) _, by rw [show lp (fun i s => wst L S u p (p + 1 + i) s) (i + 1) t = wst L S u p (p + 1 + i) (lp (fun i s => wst L S u p (p + 1 + i) s) i t) from rfl, ← ht']; unfold wst; rw [if_pos ⟨⟨es.mp hc33, hc49⟩, hx69, hc87⟩]⟩ _
            ·
              refine W_bt rfl (by decide) ?_
              refine R_gs 17 rfl ?_
              rw [nI_1]; exact w2 (h', t') ⟨hw', by rw [show lp (fun i s => wst L S u p (p + 1 + i) s) (i + 1) t = wst L S u p (p + 1 + i) (lp (fun i s => wst L S u p (p + 1 + i) s) i t) from rfl, ← ht']; unfold wst; rw [if_neg (fun hq => by rw [hx69] at hq; exact absurd hq.2.1 (by decide))]⟩ _
          ·
            refine R_gs 61 rfl ?_
            refine W_bt rfl (by decide) ?_
            refine R_gs 17 rfl ?_
            rw [nI_1]; exact w2 (h', t') ⟨hw', by rw [show lp (fun i s => wst L S u p (p + 1 + i) s) (i + 1) t = wst L S u p (p + 1 + i) (lp (fun i s => wst L S u p (p + 1 + i) s) i t) from rfl, ← ht']; unfold wst; rw [if_neg (fun hq => hc49 hq.1.2)]⟩ _
      ·
        intro x5
        obtain ⟨h', t'⟩ := s
        obtain ⟨hw', ht'⟩ := hi
        have hL' := hL.fr hO hw'.1 (xs_land ha' hb')
        refine R_gs 23 rfl ?_
        rw [hL'.P]
        refine W_bt rfl ((nI_leI (by omega) (by omega)).mpr (by omega)) ?_
        refine R_gs 4 rfl ?_
        rw [nI_1]; exact w (h', t') ⟨hw', by rw [show lp (wrow L S u) (p + 1) (sW S, 0) = wrow L S u p (lp (wrow L S u) p (sW S, 0)) from rfl, ← ht]; exact ht'⟩ _ _
    ·
      intro x4 x5
      obtain ⟨h', t⟩ := s
      obtain ⟨hw, ht⟩ := hi
      have hL' := hL.fr hO hw.1 (xs_land ha' hb')
      refine R_gs 9 rfl ?_
      rw [hL'.P]
      refine W_bt rfl (gec (by omega)) ?_
      refine R_gs 127 rfl ?_
      refine W_f rfl (by first | rfl | exact ⟨rfl, by first | decide | assumption | exact Or.inl rfl | exact Or.inr rfl | exact b2i_01 _⟩) ?_
      dsimp only at ht ⊢; rw [ht]; exact h1 _ (by unfold wall; rw [← ht]; exact hw)
  ·
    refine R_in rfl rfl ?_
    refine R_gs 4 rfl ?_
    refine w_inv (W := fun p (s : AH × Int32 × Int32) => ∀ x4 x5 : Option Value, Rw (d + 3) Q (m_X9_wedAlike, 4, [some (.ref 14), some (.ref 143), some (.int s.2.2), some (.int (nI p)), x4, x5], [], 262, s.1)) (lP L) (fun p s => WAI 14 h L S u s ∧ s.2 = lp (wrow L S u) p (sW S, 0)) (s0 := (h, sW S, 0)) ⟨⟨Fr.refl _ h, rfl, hu, hS, hV.1⟩, rfl⟩ (fun p s hp hi w => ?_) (fun s hi => ?_) none none
    ·
      intro x4 x5
      obtain ⟨h0, t⟩ := s
      obtain ⟨hw, ht⟩ := hi
      have hL' := hL.fr hO hw.1 (xs_land ha' hb')
      refine R_gs 9 rfl ?_
      rw [hL'.P]
      refine W_bf rfl (ltc hp (by omega)) ?_
      refine R_gs 17 rfl ?_
      rw [nI_1]
      refine w_inv (W := fun i (s : AH × Int32 × Int32) => ∀ x5 : Option Value, Rw (d + 3) Q (m_X9_wedAlike, 17, [some (.ref 14), some (.ref 143), some (.int s.2.2), some (.int (nI p)), some (.int (nI (p + 1 + i))), x5], [], 262, s.1)) (lP L - (p + 1)) (fun i s => WAI 14 h L S u s ∧ s.2 = lp (fun i s => wst L S u p (p + 1 + i) s) i t) (s0 := (h0, t)) ⟨hw, rfl⟩ (fun i s hi' hi w2 => ?_) (fun s hi => ?_) x5
      ·
        intro x5
        obtain ⟨h', t'⟩ := s
        obtain ⟨hw', ht'⟩ := hi
        have hL' := hL.fr hO hw'.1 (xs_land ha' hb')
        have hV' : SceneOK L (setW S t'.1) := ⟨hw'.2.2.2.2, hV.2⟩
        have hT' := hT.fr hw'.1 rfl rfl
        have es := (hu2 p hp).ge hO
        dsimp only at ht' ⊢
        refine R_gs 23 rfl ?_
        rw [hL'.P]
        refine W_bf rfl (ltc (by omega) (by omega)) ?_
        refine R_gs 31 rfl ?_
        refine R_il rfl (by first | rfl | exact shO (by decide) (by omega) | exact shG (by decide) (by omega)) (by repeat (first | with_reducible apply ix_add | with_reducible apply ix_mul | with_reducible exact ix_nI _ | with_reducible exact ix_lit _ | exact rfl)) (by omega) (by first | exact hw'.2.2.1 _ hp) ?_
        refine R_gs 33 rfl ?_
        refine W_b rfl (fun hc33 => ?_) (fun hc33 => ?_)
        ·
          refine R_gs 61 rfl ?_
          refine W_bt rfl (by decide) ?_
          refine R_gs 17 rfl ?_
          rw [nI_1]; exact w2 (h', t') ⟨hw', by rw [show lp (fun i s => wst L S u p (p + 1 + i) s) (i + 1) t = wst L S u p (p + 1 + i) (lp (fun i s => wst L S u p (p + 1 + i) s) i t) from rfl, ← ht']; unfold wst; rw [if_neg (fun hq => es.mpr hq.1.1 hc33)]⟩ _
        ·
          refine R_gs 41 rfl ?_
          refine R_il rfl (by first | rfl | exact shO (by decide) (by omega) | exact shG (by decide) (by omega)) (by repeat (first | with_reducible apply ix_add | with_reducible apply ix_mul | with_reducible exact ix_nI _ | with_reducible exact ix_lit _ | exact rfl)) (by omega) (by first | exact hw'.2.2.1 _ hp) ?_
          refine R_gs 48 rfl ?_
          refine R_il rfl (by first | rfl | exact shO (by decide) (by omega) | exact shG (by decide) (by omega)) (by repeat (first | with_reducible apply ix_add | with_reducible apply ix_mul | with_reducible exact ix_nI _ | with_reducible exact ix_lit _ | exact rfl)) (by omega) (by first | exact hw'.2.2.1 _ (by omega)) ?_
          refine W_b rfl (fun hc49 => ?_) (fun hc49 => ?_)
          ·
            refine R_gs 61 rfl ?_
            refine W_bf rfl (by decide) ?_
            refine R_gs 69 rfl ?_
            refine R_k rfl rfl (c_couldSnap ha' hO hL' hb' hw'.2.2.2.1 hV' hp (by omega) (by omega) (fun hx69 => ?_) (fun hx69 => ?_))
            ·
              refine W_bf rfl (by decide) ?_
              refine R_gs 84 rfl ?_
              refine R_k rfl rfl (c_worthOf hT' ha' hO hL' hb' hw'.2.2.2.1 hV' hp (by omega) (by omega) (by decide) hL'.2.2.2.2.2.1 hO.2.2.2.2.1 (fun h2 hf2 => ?_))
              have hw2 := hw'.sc hb' hf2
              refine W_b rfl (fun hc87 => ?_) (fun hc87 => ?_)
              ·
                refine R_gs 17 rfl ?_
                rw [nI_1]; exact w2 (h2, t') ⟨hw2, by rw [show lp (fun i s => wst L S u p (p + 1 + i) s) (i + 1) t = wst L S u p (p + 1 + i) (lp (fun i s => wst L S u p (p + 1 + i) s) i t) from rfl, ← ht']; unfold wst; rw [if_neg (fun hq => hq.2.2 hc87)]⟩ _
              ·
                refine R_gs 98 rfl ?_
                rw [hw2.2.2.2.1.W]
                refine R_k rfl rfl (c_pairBit (by omega) (by omega) (by omega) ?_)
                refine R_gs 109 rfl ?_
                refine R_k rfl rfl (c_pairBit (by omega) (by omega) (by omega) ?_)
                refine R_gs 17 rfl ?_
                rw [nI_1]; exact w2 (wI h2 14 1 _, _, _) ⟨hw2.wed hb' hO (p := p) (q := p + 1 + i) (by omega) (by omega) _, by rw [show lp (fun i s => wst L S u p (p + 1 + i) s) (i + 1) t = wst L S u p (p + 1 + i) (lp (fun i s => wst L S u p (p + 1 + i) s) i t) from rfl, ← ht']; unfold wst; rw [if_pos ⟨⟨es.mp hc33, hc49⟩, hx69, hc87⟩]⟩ _
            ·
              refine W_bt rfl (by decide) ?_
              refine R_gs 17 rfl ?_
              rw [nI_1]; exact w2 (h', t') ⟨hw', by rw [show lp (fun i s => wst L S u p (p + 1 + i) s) (i + 1) t = wst L S u p (p + 1 + i) (lp (fun i s => wst L S u p (p + 1 + i) s) i t) from rfl, ← ht']; unfold wst; rw [if_neg (fun hq => by rw [hx69] at hq; exact absurd hq.2.1 (by decide))]⟩ _
          ·
            refine R_gs 61 rfl ?_
            refine W_bt rfl (by decide) ?_
            refine R_gs 17 rfl ?_
            rw [nI_1]; exact w2 (h', t') ⟨hw', by rw [show lp (fun i s => wst L S u p (p + 1 + i) s) (i + 1) t = wst L S u p (p + 1 + i) (lp (fun i s => wst L S u p (p + 1 + i) s) i t) from rfl, ← ht']; unfold wst; rw [if_neg (fun hq => hc49 hq.1.2)]⟩ _
      ·
        intro x5
        obtain ⟨h', t'⟩ := s
        obtain ⟨hw', ht'⟩ := hi
        have hL' := hL.fr hO hw'.1 (xs_land ha' hb')
        refine R_gs 23 rfl ?_
        rw [hL'.P]
        refine W_bt rfl ((nI_leI (by omega) (by omega)).mpr (by omega)) ?_
        refine R_gs 4 rfl ?_
        rw [nI_1]; exact w (h', t') ⟨hw', by rw [show lp (wrow L S u) (p + 1) (sW S, 0) = wrow L S u p (lp (wrow L S u) p (sW S, 0)) from rfl, ← ht]; exact ht'⟩ _ _
    ·
      intro x4 x5
      obtain ⟨h', t⟩ := s
      obtain ⟨hw, ht⟩ := hi
      have hL' := hL.fr hO hw.1 (xs_land ha' hb')
      refine R_gs 9 rfl ?_
      rw [hL'.P]
      refine W_bt rfl (gec (by omega)) ?_
      refine R_gs 127 rfl ?_
      refine W_f rfl (by first | rfl | exact ⟨rfl, by first | decide | assumption | exact Or.inl rfl | exact Or.inr rfl | exact b2i_01 _⟩) ?_
      dsimp only at ht ⊢; rw [ht]; exact h1 _ (by unfold wall; rw [← ht]; exact hw)
  ·
    refine R_in rfl rfl ?_
    refine R_gs 4 rfl ?_
    refine w_inv (W := fun p (s : AH × Int32 × Int32) => ∀ x4 x5 : Option Value, Rw (d + 3) Q (m_X9_wedAlike, 4, [some (.ref 7), some (.ref 171), some (.int s.2.2), some (.int (nI p)), x4, x5], [], 262, s.1)) (lP L) (fun p s => WAI 7 h L S u s ∧ s.2 = lp (wrow L S u) p (sW S, 0)) (s0 := (h, sW S, 0)) ⟨⟨Fr.refl _ h, rfl, hu, hS, hV.1⟩, rfl⟩ (fun p s hp hi w => ?_) (fun s hi => ?_) none none
    ·
      intro x4 x5
      obtain ⟨h0, t⟩ := s
      obtain ⟨hw, ht⟩ := hi
      have hL' := hL.fr hO hw.1 (xs_land ha' hb')
      refine R_gs 9 rfl ?_
      rw [hL'.P]
      refine W_bf rfl (ltc hp (by omega)) ?_
      refine R_gs 17 rfl ?_
      rw [nI_1]
      refine w_inv (W := fun i (s : AH × Int32 × Int32) => ∀ x5 : Option Value, Rw (d + 3) Q (m_X9_wedAlike, 17, [some (.ref 7), some (.ref 171), some (.int s.2.2), some (.int (nI p)), some (.int (nI (p + 1 + i))), x5], [], 262, s.1)) (lP L - (p + 1)) (fun i s => WAI 7 h L S u s ∧ s.2 = lp (fun i s => wst L S u p (p + 1 + i) s) i t) (s0 := (h0, t)) ⟨hw, rfl⟩ (fun i s hi' hi w2 => ?_) (fun s hi => ?_) x5
      ·
        intro x5
        obtain ⟨h', t'⟩ := s
        obtain ⟨hw', ht'⟩ := hi
        have hL' := hL.fr hO hw'.1 (xs_land ha' hb')
        have hV' : SceneOK L (setW S t'.1) := ⟨hw'.2.2.2.2, hV.2⟩
        have hT' := hT.fr hw'.1 rfl rfl
        have es := (hu2 p hp).ge hO
        dsimp only at ht' ⊢
        refine R_gs 23 rfl ?_
        rw [hL'.P]
        refine W_bf rfl (ltc (by omega) (by omega)) ?_
        refine R_gs 31 rfl ?_
        refine R_il rfl (by first | rfl | exact shO (by decide) (by omega) | exact shG (by decide) (by omega)) (by repeat (first | with_reducible apply ix_add | with_reducible apply ix_mul | with_reducible exact ix_nI _ | with_reducible exact ix_lit _ | exact rfl)) (by omega) (by first | exact hw'.2.2.1 _ hp) ?_
        refine R_gs 33 rfl ?_
        refine W_b rfl (fun hc33 => ?_) (fun hc33 => ?_)
        ·
          refine R_gs 61 rfl ?_
          refine W_bt rfl (by decide) ?_
          refine R_gs 17 rfl ?_
          rw [nI_1]; exact w2 (h', t') ⟨hw', by rw [show lp (fun i s => wst L S u p (p + 1 + i) s) (i + 1) t = wst L S u p (p + 1 + i) (lp (fun i s => wst L S u p (p + 1 + i) s) i t) from rfl, ← ht']; unfold wst; rw [if_neg (fun hq => es.mpr hq.1.1 hc33)]⟩ _
        ·
          refine R_gs 41 rfl ?_
          refine R_il rfl (by first | rfl | exact shO (by decide) (by omega) | exact shG (by decide) (by omega)) (by repeat (first | with_reducible apply ix_add | with_reducible apply ix_mul | with_reducible exact ix_nI _ | with_reducible exact ix_lit _ | exact rfl)) (by omega) (by first | exact hw'.2.2.1 _ hp) ?_
          refine R_gs 48 rfl ?_
          refine R_il rfl (by first | rfl | exact shO (by decide) (by omega) | exact shG (by decide) (by omega)) (by repeat (first | with_reducible apply ix_add | with_reducible apply ix_mul | with_reducible exact ix_nI _ | with_reducible exact ix_lit _ | exact rfl)) (by omega) (by first | exact hw'.2.2.1 _ (by omega)) ?_
          refine W_b rfl (fun hc49 => ?_) (fun hc49 => ?_)
          ·
            refine R_gs 61 rfl ?_
            refine W_bf rfl (by decide) ?_
            refine R_gs 69 rfl ?_
            refine R_k rfl rfl (c_couldSnap ha' hO hL' hb' hw'.2.2.2.1 hV' hp (by omega) (by omega) (fun hx69 => ?_) (fun hx69 => ?_))
            ·
              refine W_bf rfl (by decide) ?_
              refine R_gs 84 rfl ?_
              refine R_k rfl rfl (c_worthOf hT' ha' hO hL' hb' hw'.2.2.2.1 hV' hp (by omega) (by omega) (by decide) hL'.2.2.2.2.2.1 hO.2.2.2.2.1 (fun h2 hf2 => ?_))
              have hw2 := hw'.sc hb' hf2
              refine W_b rfl (fun hc87 => ?_) (fun hc87 => ?_)
              ·
                refine R_gs 17 rfl ?_
                rw [nI_1]; exact w2 (h2, t') ⟨hw2, by rw [show lp (fun i s => wst L S u p (p + 1 + i) s) (i + 1) t = wst L S u p (p + 1 + i) (lp (fun i s => wst L S u p (p + 1 + i) s) i t) from rfl, ← ht']; unfold wst; rw [if_neg (fun hq => hq.2.2 hc87)]⟩ _
              ·
                refine R_gs 98 rfl ?_
                rw [hw2.2.2.2.1.W]
                refine R_k rfl rfl (c_pairBit (by omega) (by omega) (by omega) ?_)
                refine R_gs 109 rfl ?_
                refine R_k rfl rfl (c_pairBit (by omega) (by omega) (by omega) ?_)
                refine R_gs 17 rfl ?_
                rw [nI_1]; exact w2 (wI h2 7 1 _, _, _) ⟨hw2.wed hb' hO (p := p) (q := p + 1 + i) (by omega) (by omega) _, by rw [show lp (fun i s => wst L S u p (p + 1 + i) s) (i + 1) t = wst L S u p (p + 1 + i) (lp (fun i s => wst L S u p (p + 1 + i) s) i t) from rfl, ← ht']; unfold wst; rw [if_pos ⟨⟨es.mp hc33, hc49⟩, hx69, hc87⟩]⟩ _
            ·
              refine W_bt rfl (by decide) ?_
              refine R_gs 17 rfl ?_
              rw [nI_1]; exact w2 (h', t') ⟨hw', by rw [show lp (fun i s => wst L S u p (p + 1 + i) s) (i + 1) t = wst L S u p (p + 1 + i) (lp (fun i s => wst L S u p (p + 1 + i) s) i t) from rfl, ← ht']; unfold wst; rw [if_neg (fun hq => by rw [hx69] at hq; exact absurd hq.2.1 (by decide))]⟩ _
          ·
            refine R_gs 61 rfl ?_
            refine W_bt rfl (by decide) ?_
            refine R_gs 17 rfl ?_
            rw [nI_1]; exact w2 (h', t') ⟨hw', by rw [show lp (fun i s => wst L S u p (p + 1 + i) s) (i + 1) t = wst L S u p (p + 1 + i) (lp (fun i s => wst L S u p (p + 1 + i) s) i t) from rfl, ← ht']; unfold wst; rw [if_neg (fun hq => hc49 hq.1.2)]⟩ _
      ·
        intro x5
        obtain ⟨h', t'⟩ := s
        obtain ⟨hw', ht'⟩ := hi
        have hL' := hL.fr hO hw'.1 (xs_land ha' hb')
        refine R_gs 23 rfl ?_
        rw [hL'.P]
        refine W_bt rfl ((nI_leI (by omega) (by omega)).mpr (by omega)) ?_
        refine R_gs 4 rfl ?_
        rw [nI_1]; exact w (h', t') ⟨hw', by rw [show lp (wrow L S u) (p + 1) (sW S, 0) = wrow L S u p (lp (wrow L S u) p (sW S, 0)) from rfl, ← ht]; exact ht'⟩ _ _
    ·
      intro x4 x5
      obtain ⟨h', t⟩ := s
      obtain ⟨hw, ht⟩ := hi
      have hL' := hL.fr hO hw.1 (xs_land ha' hb')
      refine R_gs 9 rfl ?_
      rw [hL'.P]
      refine W_bt rfl (gec (by omega)) ?_
      refine R_gs 127 rfl ?_
      refine W_f rfl (by first | rfl | exact ⟨rfl, by first | decide | assumption | exact Or.inl rfl | exact Or.inr rfl | exact b2i_01 _⟩) ?_
      dsimp only at ht ⊢; rw [ht]; exact h1 _ (by unfold wall; rw [← ht]; exact hw)
  ·
    refine R_in rfl rfl ?_
    refine R_gs 4 rfl ?_
    refine w_inv (W := fun p (s : AH × Int32 × Int32) => ∀ x4 x5 : Option Value, Rw (d + 3) Q (m_X9_wedAlike, 4, [some (.ref 14), some (.ref 171), some (.int s.2.2), some (.int (nI p)), x4, x5], [], 262, s.1)) (lP L) (fun p s => WAI 14 h L S u s ∧ s.2 = lp (wrow L S u) p (sW S, 0)) (s0 := (h, sW S, 0)) ⟨⟨Fr.refl _ h, rfl, hu, hS, hV.1⟩, rfl⟩ (fun p s hp hi w => ?_) (fun s hi => ?_) none none
    ·
      intro x4 x5
      obtain ⟨h0, t⟩ := s
      obtain ⟨hw, ht⟩ := hi
      have hL' := hL.fr hO hw.1 (xs_land ha' hb')
      refine R_gs 9 rfl ?_
      rw [hL'.P]
      refine W_bf rfl (ltc hp (by omega)) ?_
      refine R_gs 17 rfl ?_
      rw [nI_1]
      refine w_inv (W := fun i (s : AH × Int32 × Int32) => ∀ x5 : Option Value, Rw (d + 3) Q (m_X9_wedAlike, 17, [some (.ref 14), some (.ref 171), some (.int s.2.2), some (.int (nI p)), some (.int (nI (p + 1 + i))), x5], [], 262, s.1)) (lP L - (p + 1)) (fun i s => WAI 14 h L S u s ∧ s.2 = lp (fun i s => wst L S u p (p + 1 + i) s) i t) (s0 := (h0, t)) ⟨hw, rfl⟩ (fun i s hi' hi w2 => ?_) (fun s hi => ?_) x5
      ·
        intro x5
        obtain ⟨h', t'⟩ := s
        obtain ⟨hw', ht'⟩ := hi
        have hL' := hL.fr hO hw'.1 (xs_land ha' hb')
        have hV' : SceneOK L (setW S t'.1) := ⟨hw'.2.2.2.2, hV.2⟩
        have hT' := hT.fr hw'.1 rfl rfl
        have es := (hu2 p hp).ge hO
        dsimp only at ht' ⊢
        refine R_gs 23 rfl ?_
        rw [hL'.P]
        refine W_bf rfl (ltc (by omega) (by omega)) ?_
        refine R_gs 31 rfl ?_
        refine R_il rfl (by first | rfl | exact shO (by decide) (by omega) | exact shG (by decide) (by omega)) (by repeat (first | with_reducible apply ix_add | with_reducible apply ix_mul | with_reducible exact ix_nI _ | with_reducible exact ix_lit _ | exact rfl)) (by omega) (by first | exact hw'.2.2.1 _ hp) ?_
        refine R_gs 33 rfl ?_
        refine W_b rfl (fun hc33 => ?_) (fun hc33 => ?_)
        ·
          refine R_gs 61 rfl ?_
          refine W_bt rfl (by decide) ?_
          refine R_gs 17 rfl ?_
          rw [nI_1]; exact w2 (h', t') ⟨hw', by rw [show lp (fun i s => wst L S u p (p + 1 + i) s) (i + 1) t = wst L S u p (p + 1 + i) (lp (fun i s => wst L S u p (p + 1 + i) s) i t) from rfl, ← ht']; unfold wst; rw [if_neg (fun hq => es.mpr hq.1.1 hc33)]⟩ _
        ·
          refine R_gs 41 rfl ?_
          refine R_il rfl (by first | rfl | exact shO (by decide) (by omega) | exact shG (by decide) (by omega)) (by repeat (first | with_reducible apply ix_add | with_reducible apply ix_mul | with_reducible exact ix_nI _ | with_reducible exact ix_lit _ | exact rfl)) (by omega) (by first | exact hw'.2.2.1 _ hp) ?_
          refine R_gs 48 rfl ?_
          refine R_il rfl (by first | rfl | exact shO (by decide) (by omega) | exact shG (by decide) (by omega)) (by repeat (first | with_reducible apply ix_add | with_reducible apply ix_mul | with_reducible exact ix_nI _ | with_reducible exact ix_lit _ | exact rfl)) (by omega) (by first | exact hw'.2.2.1 _ (by omega)) ?_
          refine W_b rfl (fun hc49 => ?_) (fun hc49 => ?_)
          ·
            refine R_gs 61 rfl ?_
            refine W_bf rfl (by decide) ?_
            refine R_gs 69 rfl ?_
            refine R_k rfl rfl (c_couldSnap ha' hO hL' hb' hw'.2.2.2.1 hV' hp (by omega) (by omega) (fun hx69 => ?_) (fun hx69 => ?_))
            ·
              refine W_bf rfl (by decide) ?_
              refine R_gs 84 rfl ?_
              refine R_k rfl rfl (c_worthOf hT' ha' hO hL' hb' hw'.2.2.2.1 hV' hp (by omega) (by omega) (by decide) hL'.2.2.2.2.2.1 hO.2.2.2.2.1 (fun h2 hf2 => ?_))
              have hw2 := hw'.sc hb' hf2
              refine W_b rfl (fun hc87 => ?_) (fun hc87 => ?_)
              ·
                refine R_gs 17 rfl ?_
                rw [nI_1]; exact w2 (h2, t') ⟨hw2, by rw [show lp (fun i s => wst L S u p (p + 1 + i) s) (i + 1) t = wst L S u p (p + 1 + i) (lp (fun i s => wst L S u p (p + 1 + i) s) i t) from rfl, ← ht']; unfold wst; rw [if_neg (fun hq => hq.2.2 hc87)]⟩ _
              ·
                refine R_gs 98 rfl ?_
                rw [hw2.2.2.2.1.W]
                refine R_k rfl rfl (c_pairBit (by omega) (by omega) (by omega) ?_)
                refine R_gs 109 rfl ?_
                refine R_k rfl rfl (c_pairBit (by omega) (by omega) (by omega) ?_)
                refine R_gs 17 rfl ?_
                rw [nI_1]; exact w2 (wI h2 14 1 _, _, _) ⟨hw2.wed hb' hO (p := p) (q := p + 1 + i) (by omega) (by omega) _, by rw [show lp (fun i s => wst L S u p (p + 1 + i) s) (i + 1) t = wst L S u p (p + 1 + i) (lp (fun i s => wst L S u p (p + 1 + i) s) i t) from rfl, ← ht']; unfold wst; rw [if_pos ⟨⟨es.mp hc33, hc49⟩, hx69, hc87⟩]⟩ _
            ·
              refine W_bt rfl (by decide) ?_
              refine R_gs 17 rfl ?_
              rw [nI_1]; exact w2 (h', t') ⟨hw', by rw [show lp (fun i s => wst L S u p (p + 1 + i) s) (i + 1) t = wst L S u p (p + 1 + i) (lp (fun i s => wst L S u p (p + 1 + i) s) i t) from rfl, ← ht']; unfold wst; rw [if_neg (fun hq => by rw [hx69] at hq; exact absurd hq.2.1 (by decide))]⟩ _
          ·
            refine R_gs 61 rfl ?_
            refine W_bt rfl (by decide) ?_
            refine R_gs 17 rfl ?_
            rw [nI_1]; exact w2 (h', t') ⟨hw', by rw [show lp (fun i s => wst L S u p (p + 1 + i) s) (i + 1) t = wst L S u p (p + 1 + i) (lp (fun i s => wst L S u p (p + 1 + i) s) i t) from rfl, ← ht']; unfold wst; rw [if_neg (fun hq => hc49 hq.1.2)]⟩ _
      ·
        intro x5
        obtain ⟨h', t'⟩ := s
        obtain ⟨hw', ht'⟩ := hi
        have hL' := hL.fr hO hw'.1 (xs_land ha' hb')
        refine R_gs 23 rfl ?_
        rw [hL'.P]
        refine W_bt rfl ((nI_leI (by omega) (by omega)).mpr (by omega)) ?_
        refine R_gs 4 rfl ?_
        rw [nI_1]; exact w (h', t') ⟨hw', by rw [show lp (wrow L S u) (p + 1) (sW S, 0) = wrow L S u p (lp (wrow L S u) p (sW S, 0)) from rfl, ← ht]; exact ht'⟩ _ _
    ·
      intro x4 x5
      obtain ⟨h', t⟩ := s
      obtain ⟨hw, ht⟩ := hi
      have hL' := hL.fr hO hw.1 (xs_land ha' hb')
      refine R_gs 9 rfl ?_
      rw [hL'.P]
      refine W_bt rfl (gec (by omega)) ?_
      refine R_gs 127 rfl ?_
      refine W_f rfl (by first | rfl | exact ⟨rfl, by first | decide | assumption | exact Or.inl rfl | exact Or.inr rfl | exact b2i_01 _⟩) ?_
      dsimp only at ht ⊢; rw [ht]; exact h1 _ (by unfold wall; rw [← ht]; exact hw)
end
