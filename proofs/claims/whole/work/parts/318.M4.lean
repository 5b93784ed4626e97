/-- a stretch of the model's states -/
def Only (b n : Nat) (h h' : AH) : Prop := ∀ k, (k < b ∨ b + n ≤ k) → hI h' 251 k = hI h 251 k
theorem Only.refl (b n : Nat) (h : AH) : Only b n h h := fun _ _ => rfl
theorem Only.trans {b n : Nat} {h h' h'' : AH} (f : Only b n h h') (g : Only b n h' h'') : Only b n h h'' := fun k hk => (g k hk).trans (f k hk)
theorem Only.w {b n : Nat} {h h' : AH} (f : Only b n h h') {k : Nat} (hk : b ≤ k ∧ k < b + n) (v : Int32) : Only b n h (wI h' 251 k v) := fun i hi => by
  rw [wI_at, if_neg (by omega)]; exact f i hi
theorem Only.fr {X : Nat → Bool} {b n : Nat} {h h' h'' : AH} (f : Only b n h h') (g : Fr X h' h'') (hX : X 251 = false) : Only b n h h'' := fun k hk => by rw [g.I hX]; exact f k hk
theorem Only.mono {b n m : Nat} {h h' : AH} (f : Only b n h h') (hm : n ≤ m) : Only b m h h' := fun k hk => f k (by omega)
/-- the model's states, and what it writes on -/
def yst (q : Nat) : Bool := ysc q || Nat.beq q 251 || Nat.beq q 253
theorem Fr.yst {h h' : AH} (f : Fr ysc h h') : Fr yst h h' := f.mono (fun q hq => by unfold Pilot.CSnapWedLaw_law_r6034_35ee8a.yst; rw [hq]; rfl)
section
variable {d b : Nat} {h : AH} {L : SL} {S : SS} {Q : Option Value → AH → Prop}
/-- while the model goes through the pairs -/
def WAM (b : Nat) (h : AH) (L : SL) (S : SS) (u : Nat → Int32) (s : AH × Int32 × Int32) : Prop := Fr yst h s.1 ∧ Only b 34 h s.1 ∧ (∀ k, k < lP L → hI s.1 253 k = u k) ∧ SceneM s.1 b L (setW S s.2.1) ∧ PairsOK L s.2.1
theorem WAM.sc {u : Nat → Int32} {h1 h2 : AH} {t : Int32 × Int32} (w : WAM b h L S u (h1, t)) (hf : Fr ysc h1 h2) : WAM b h L S u (h2, t) := by
  obtain ⟨w1, w2, w3, w4, w5⟩ := w
  exact ⟨w1.trans hf.yst, w2.fr hf rfl, by dsimp only at *; rw [hf.I rfl]; exact w3, w4.fr hf rfl, w5⟩
theorem SceneM.w {w0 v : Int32} (hb : b ≤ 880) (hO : LandOK L) (hS : SceneM h b L (setW S w0)) : SceneM (wI h 251 (b + 1) v) b L (setW S v) := by
  have o3 := hO.2.2.1
  obtain ⟨e1, e2, e3, e4, e5, e6⟩ := hS
  refine ⟨by rw [wI_at, if_neg (by omega)]; exact e1, by rw [wI_at, if_pos rfl]; rfl, by rw [wI_at, if_neg (by omega)]; exact e3, by rw [wI_at, if_neg (by omega)]; exact e4, fun p hp => ⟨by rw [wI_at, if_neg (by omega)]; exact (e5 p hp).1, by rw [wI_at, if_neg (by omega)]; exact (e5 p hp).2.1, by rw [wI_at, if_neg (by omega)]; exact (e5 p hp).2.2⟩, fun s hs => ?_⟩
  have g1 : (fun p => hI (wI h 251 (b + 1) v) 251 (b + 22 + p)) = fun p => hI h 251 (b + 22 + p) := funext fun p => by rw [wI_at, if_neg (by omega)]
  have g2 : (fun p => hI (wI h 251 (b + 1) v) 251 (b + 28 + p)) = fun p => hI h 251 (b + 28 + p) := funext fun p => by rw [wI_at, if_neg (by omega)]
  rw [g1, g2]; exact e6 s hs
theorem WAM.wed {u : Nat → Int32} {h1 : AH} {t : Int32 × Int32} (hb : b ≤ 880) (hO : LandOK L) (w : WAM b h L S u (h1, t)) {p q : Nat} (hpq : p < q) (hq : q < lP L) (f : Int32) : WAM b h L S u (wI h1 251 (b + 1) (t.1 ||| nI (2 ^ pr p q)), t.1 ||| nI (2 ^ pr p q), f) := by
  obtain ⟨w1, w2, w3, w4, w5⟩ := w
  exact ⟨w1.wI rfl, w2.w (by omega) _, w3, w4.w hb hO, w5.or hO hpq hq⟩
theorem ecG_cong {u t u' t' : Nat → Int32} {s : Int32} : ∀ k j, (∀ i, i < j + k → u i = u' i ∧ t i = t' i) → ecG u t s j k = ecG u' t' s j k
  | 0, _, _ => rfl
  | k + 1, j, h => by
    show (if _ then _ else _) = (if _ then _ else _)
    rw [(h j (by omega)).1, (h j (by omega)).2, ecG_cong k (j + 1) (fun i hi => h i (by omega))]
/-- while the model lays what was uttered -/
def MI (b : Nat) (h : AH) (L : SL) (S : SS) (j : Nat) (s : AH) : Prop := Fr yst h s ∧ Only b 34 h s ∧ (hI s 251 b = sT S ∧ hI s 251 (b + 1) = (wall L S (utt L S)).1 ∧ hI s 251 (b + 2) = sE S ∧ hI s 251 (b + 3) = sD S) ∧ (∀ k, k < lP L → hI s 251 (b + 4 + k) = nI (sA S k) ∧ hI s 253 k = utt L S k) ∧ (∀ k, k < lP L → j ≤ k → hI s 251 (b + 10 + k) = sY S k) ∧ ∀ k, k < j → hI s 251 (b + 22 + k) = utt L S k ∧ hI s 251 (b + 28 + k) = nI (sA S k) ∧ hI s 251 (b + 16 + k) = sY S k ∧ hI s 251 (b + 10 + k) = -1
theorem MI.next {j : Nat} {s : AH} (hb : b ≤ 880) (hO : LandOK L) (hj : j < lP L) (m : MI b h L S j s) : MI b h L S (j + 1) (wI (wI (wI (wI s 251 (b + 22 + j) (utt L S j)) 251 (b + 28 + j) (nI (sA S j))) 251 (b + 16 + j) (sY S j)) 251 (b + 10 + j) (-1)) := by
  have o3 := hO.2.2.1
  obtain ⟨i1, i2, i3, i4, i5, i6⟩ := m
  refine ⟨(((i1.wI rfl).wI rfl).wI rfl).wI rfl, (((i2.w (by omega) _).w (by omega) _).w (by omega) _).w (by omega) _, ⟨?_, ?_, ?_, ?_⟩, fun k hk => ⟨?_, (i4 k hk).2⟩, fun k hk hk2 => ?_, fun k hk => ?_⟩
  · simp only [wI_at]; rw [if_neg (by omega), if_neg (by omega), if_neg (by omega), if_neg (by omega)]; exact i3.1
  · simp only [wI_at]; rw [if_neg (by omega), if_neg (by omega), if_neg (by omega), if_neg (by omega)]; exact i3.2.1
  · simp only [wI_at]; rw [if_neg (by omega), if_neg (by omega), if_neg (by omega), if_neg (by omega)]; exact i3.2.2.1
  · simp only [wI_at]; rw [if_neg (by omega), if_neg (by omega), if_neg (by omega), if_neg (by omega)]; exact i3.2.2.2
  · simp only [wI_at]; rw [if_neg (by omega), if_neg (by omega), if_neg (by omega), if_neg (by omega)]; exact (i4 k hk).1
  · simp only [wI_at]; rw [if_neg (by omega), if_neg (by omega), if_neg (by omega), if_neg (by omega)]; exact i5 k hk (by omega)
  · simp only [wI_at]
    by_cases e : k = j
    · subst e
      refine ⟨?_, ?_, ?_, ?_⟩
      · rw [if_neg (by omega), if_neg (by omega), if_neg (by omega), if_pos rfl]
      · rw [if_neg (by omega), if_neg (by omega), if_pos rfl]
      · rw [if_neg (by omega), if_pos rfl]
      · rw [if_pos rfl]
    · have g := i6 k (by omega)
      refine ⟨?_, ?_, ?_, ?_⟩
      · rw [if_neg (by omega), if_neg (by omega), if_neg (by omega), if_neg (by omega)]; exact g.1
      · rw [if_neg (by omega), if_neg (by omega), if_neg (by omega), if_neg (by omega)]; exact g.2.1
      · rw [if_neg (by omega), if_neg (by omega), if_neg (by omega), if_neg (by omega)]; exact g.2.2.1
      · rw [if_neg (by omega), if_neg (by omega), if_neg (by omega), if_neg (by omega)]; exact g.2.2.2
theorem m_passes (hL : LandM h L) (hO : LandOK L) (hS : SceneM h b L S) (hV : SceneOK L S) (hb : b ≤ 880) (h1 : ∀ h', Fr yst h h' → Only b 34 h h' → SceneM h' b L (momS L S) → Q (some (.int (momF L S))) h') : Rc (d + 6) m_X13_passes [.ref 235, .int (nI b)] h Q := by
  obtain ⟨o1, o2, o3, o4, -⟩ := id hO
  refine R_in rfl rfl ?_
  refine R_gs 2 rfl ?_
  refine w_inv (W := fun j (s : AH) => Rw (d + 5) Q (m_X13_passes, 2, [some (.ref 235), some (.int (nI b)), some (.int (nI j)), none, none], [], 262, s)) (lP L) (fun j s => Fr (fun q => Nat.beq q 253) h s ∧ ∀ k, k < j → hI s 253 k = utt L S k) (s0 := h) ⟨Fr.refl _ h, fun k hk => absurd hk (by omega)⟩ (fun j s hj hi w => ?_) (fun s hi => ?_)
  ·
    obtain ⟨hf, he⟩ := hi
    have hL' := hL.fr hf rfl rfl rfl
    have hS' := hS.fr hf rfl
    refine R_gs 4 rfl ?_
    refine R_k rfl rfl (m_people hL' ?_)
    refine W_bf rfl (ltc hj (by omega)) ?_
    refine R_gs 18 rfl ?_
    refine R_k rfl rfl (m_utters hL' hO hS' hV hb hj ?_)
    refine R_is rfl (by first | rfl | exact shO (by decide) (by omega) | exact shG (by decide) (by omega)) (by repeat (first | with_reducible apply ix_add | with_reducible apply ix_mul | with_reducible exact ix_nI _ | with_reducible exact ix_lit _ | exact rfl)) (by omega) ?_
    refine R_gs 2 rfl ?_
    rw [nI_1]; exact w _ ⟨hf.wI rfl, fun k hk => by { rw [wI_at]; by_cases e : k = j; { rw [if_pos e, e] }; { rw [if_neg e]; exact he k (by omega) } }⟩
  ·
    obtain ⟨hf, he⟩ := hi
    have hL' := hL.fr hf rfl rfl rfl
    have hS' := hS.fr hf rfl
    refine R_gs 4 rfl ?_
    refine R_k rfl rfl (m_people hL' ?_)
    refine W_bt rfl (gec (by omega)) ?_
    refine R_gs 32 rfl ?_
    have hF := hf.mono (Y := yst) (fun q hq => by have := Nat.eq_of_beq_eq_true hq; subst this; rfl)
    refine w_inv (W := fun p (s : AH × Int32 × Int32) => ∀ x4 : Option Value, Rw (d + 5) Q (m_X13_passes, 32, [some (.ref 235), some (.int (nI b)), some (.int s.2.2), some (.int (nI p)), x4], [], 262, s.1)) (lP L) (fun p s => WAM b h L S (utt L S) s ∧ s.2 = lp (wrow L S (utt L S)) p (sW S, 0)) (s0 := (s, sW S, 0)) ⟨⟨hF, fun k hk => by dsimp only; rw [hf.I rfl], he, hS', hV.1⟩, rfl⟩ (fun p s hp hi w => ?_) (fun s hi => ?_) none
    ·
      intro x4
      obtain ⟨h0, t⟩ := s
      obtain ⟨hw, ht⟩ := hi
      have hL' := hL.fr hw.1 rfl rfl rfl
      refine R_gs 34 rfl ?_
      refine R_k rfl rfl (m_people hL' ?_)
      refine W_bf rfl (ltc hp (by omega)) ?_
      refine R_gs 45 rfl ?_
      rw [nI_1]
      refine w_inv (W := fun i (s : AH × Int32 × Int32) => Rw (d + 5) Q (m_X13_passes, 45, [some (.ref 235), some (.int (nI b)), some (.int s.2.2), some (.int (nI p)), some (.int (nI (p + 1 + i)))], [], 262, s.1)) (lP L - (p + 1)) (fun i s => WAM b h L S (utt L S) s ∧ s.2 = lp (fun i s => wst L S (utt L S) p (p + 1 + i) s) i t) (s0 := (h0, t)) ⟨hw, rfl⟩ (fun i s hi' hi w2 => ?_) (fun s hi => ?_)
      ·
        obtain ⟨h', t'⟩ := s
        obtain ⟨hw', ht'⟩ := hi
        have hL' := hL.fr hw'.1 rfl rfl rfl
        have hV' : SceneOK L (setW S t'.1) := ⟨hw'.2.2.2.2, hV.2⟩
        dsimp only at ht' ⊢
        refine R_gs 48 rfl ?_
        refine R_k rfl rfl (m_people hL' ?_)
        refine W_bf rfl (ltc (by omega) (by omega)) ?_
        refine R_gs 59 rfl ?_
        refine R_il rfl (by first | rfl | exact shO (by decide) (by omega) | exact shG (by decide) (by omega)) (by repeat (first | with_reducible apply ix_add | with_reducible apply ix_mul | with_reducible exact ix_nI _ | with_reducible exact ix_lit _ | exact rfl)) (by omega) (by first | exact hw'.2.2.1 _ hp) ?_
        refine W_b rfl (fun hc60 => ?_) (fun hc60 => ?_)
        ·
          refine R_gs 45 rfl ?_
          rw [nI_1]; exact w2 (h', t') ⟨hw', by rw [show lp (fun i s => wst L S (utt L S) p (p + 1 + i) s) (i + 1) t = wst L S (utt L S) p (p + 1 + i) (lp (fun i s => wst L S (utt L S) p (p + 1 + i) s) i t) from rfl, ← ht']; unfold wst; rw [if_neg (fun hq => Int32.not_le.mpr hc60 hq.1.1)]⟩
        ·
          refine R_gs 68 rfl ?_
          refine R_il rfl (by first | rfl | exact shO (by decide) (by omega) | exact shG (by decide) (by omega)) (by repeat (first | with_reducible apply ix_add | with_reducible apply ix_mul | with_reducible exact ix_nI _ | with_reducible exact ix_lit _ | exact rfl)) (by omega) (by first | exact hw'.2.2.1 _ hp) ?_
          refine R_gs 75 rfl ?_
          refine R_il rfl (by first | rfl | exact shO (by decide) (by omega) | exact shG (by decide) (by omega)) (by repeat (first | with_reducible apply ix_add | with_reducible apply ix_mul | with_reducible exact ix_nI _ | with_reducible exact ix_lit _ | exact rfl)) (by omega) (by first | exact hw'.2.2.1 _ (by omega)) ?_
          refine W_b rfl (fun hc76 => ?_) (fun hc76 => ?_)
          ·
            refine R_gs 84 rfl ?_
            refine R_k rfl rfl (m_couldSnap hL' hO hw'.2.2.2.1 hV' hb hp (by omega) (by omega) (fun hx84 => ?_) (fun hx84 => ?_))
            ·
              refine W_bf rfl (by decide) ?_
              refine R_gs 95 rfl ?_
              refine R_k rfl rfl (m_itCounts hL' hO hw'.2.2.2.1 hV'.1 hb hp (by omega) (fun hk h2 hf2 => ?_) (fun hk h2 hf2 => ?_))
              ·
                refine W_bf rfl (by decide) ?_
                refine R_gs 106 rfl ?_
                have hw2 := hw'.sc hf2
                refine R_k rfl rfl (m_pairOf (by omega) (by omega) (by omega) ?_)
                refine R_gs 120 rfl ?_
                refine R_il rfl (by first | rfl | exact shO (by decide) (by omega) | exact shG (by decide) (by omega)) (by repeat (first | with_reducible apply ix_add | with_reducible apply ix_mul | with_reducible exact ix_nI _ | with_reducible exact ix_lit _ | exact rfl)) (by omega) (by first | exact hw2.2.2.2.1.W) ?_
                refine R_gs 125 rfl ?_
                refine R_k rfl rfl (m_pairOf (by omega) (by omega) (by omega) ?_)
                refine R_gs 130 rfl ?_
                refine R_is rfl (by first | rfl | exact shO (by decide) (by omega) | exact shG (by decide) (by omega)) (by repeat (first | with_reducible apply ix_add | with_reducible apply ix_mul | with_reducible exact ix_nI _ | with_reducible exact ix_lit _ | exact rfl)) (by omega) ?_
                refine R_gs 45 rfl ?_
                rw [nI_1, one_shl _ (by have := pr_lt p (by omega) (p + 1 + i) (by omega) (by omega); omega)]; exact w2 (wI h2 251 (b + 1) _, _, _) ⟨hw2.wed hb hO (p := p) (q := p + 1 + i) (by omega) (by omega) _, by rw [show lp (fun i s => wst L S (utt L S) p (p + 1 + i) s) (i + 1) t = wst L S (utt L S) p (p + 1 + i) (lp (fun i s => wst L S (utt L S) p (p + 1 + i) s) i t) from rfl, ← ht']; unfold wst; rw [if_pos ⟨⟨Int32.not_lt.mp hc60, hc76⟩, hx84, hk⟩]⟩
              ·
                refine W_bt rfl (by decide) ?_
                refine R_gs 45 rfl ?_
                rw [nI_1]; exact w2 (h2, t') ⟨hw'.sc hf2, by rw [show lp (fun i s => wst L S (utt L S) p (p + 1 + i) s) (i + 1) t = wst L S (utt L S) p (p + 1 + i) (lp (fun i s => wst L S (utt L S) p (p + 1 + i) s) i t) from rfl, ← ht']; unfold wst; rw [if_neg (fun hq => hq.2.2 hk)]⟩
            ·
              refine W_bt rfl (by decide) ?_
              refine R_gs 45 rfl ?_
              rw [nI_1]; exact w2 (h', t') ⟨hw', by rw [show lp (fun i s => wst L S (utt L S) p (p + 1 + i) s) (i + 1) t = wst L S (utt L S) p (p + 1 + i) (lp (fun i s => wst L S (utt L S) p (p + 1 + i) s) i t) from rfl, ← ht']; unfold wst; rw [if_neg (fun hq => by rw [hx84] at hq; exact absurd hq.2.1 (by decide))]⟩
          ·
            refine R_gs 45 rfl ?_
            rw [nI_1]; exact w2 (h', t') ⟨hw', by rw [show lp (fun i s => wst L S (utt L S) p (p + 1 + i) s) (i + 1) t = wst L S (utt L S) p (p + 1 + i) (lp (fun i s => wst L S (utt L S) p (p + 1 + i) s) i t) from rfl, ← ht']; unfold wst; rw [if_neg (fun hq => hc76 hq.1.2)]⟩
      ·
        obtain ⟨h', t'⟩ := s
        obtain ⟨hw', ht'⟩ := hi
        have hL' := hL.fr hw'.1 rfl rfl rfl
        refine R_gs 48 rfl ?_
        refine R_k rfl rfl (m_people hL' ?_)
        refine W_bt rfl ((nI_leI (by omega) (by omega)).mpr (by omega)) ?_
        refine R_gs 32 rfl ?_
        rw [nI_1]; exact w (h', t') ⟨hw', by rw [show lp (wrow L S (utt L S)) (p + 1) (sW S, 0) = wrow L S (utt L S) p (lp (wrow L S (utt L S)) p (sW S, 0)) from rfl, ← ht]; exact ht'⟩ _
    ·
      intro x4
      obtain ⟨h', t⟩ := s
      obtain ⟨hw, ht⟩ := hi
      have hL' := hL.fr hw.1 rfl rfl rfl
      refine R_gs 34 rfl ?_
      refine R_k rfl rfl (m_people hL' ?_)
      refine W_bt rfl (gec (by omega)) ?_
      refine R_gs 145 rfl ?_
      have hS2 := hw.2.2.2.1
      refine w_inv (W := fun j (s : AH) => Rw (d + 5) Q (m_X13_passes, 145, [some (.ref 235), some (.int (nI b)), some (.int t.2), some (.int (nI j)), x4], [], 262, s)) (lP L) (fun j s => MI b h L S j s) (s0 := h') ⟨hw.1, hw.2.1, ⟨hS2.T, by rw [hS2.W]; show t.1 = _; dsimp only at ht; rw [ht]; rfl, hS2.E, hS2.D⟩, fun k hk => ⟨hS2.A hk, hw.2.2.1 k hk⟩, fun k hk _ => hS2.Y hk, fun k hk => absurd hk (by omega)⟩ (fun j s hj hi w => ?_) (fun s hi => ?_)
      ·
        obtain ⟨i1, i2, i3, i4, i5, i6⟩ := hi
        have hL' := hL.fr i1 rfl rfl rfl
        refine R_gs 147 rfl ?_
        refine R_k rfl rfl (m_people hL' ?_)
        refine W_bf rfl (ltc hj (by omega)) ?_
        refine R_gs 168 rfl ?_
        refine R_il rfl (by first | rfl | exact shO (by decide) (by omega) | exact shG (by decide) (by omega)) (by repeat (first | with_reducible apply ix_add | with_reducible apply ix_mul | with_reducible exact ix_nI _ | with_reducible exact ix_lit _ | exact rfl)) (by omega) (by first | exact (i4 j hj).2) ?_
        refine R_is rfl (by first | rfl | exact shO (by decide) (by omega) | exact shG (by decide) (by omega)) (by repeat (first | with_reducible apply ix_add | with_reducible apply ix_mul | with_reducible exact ix_nI _ | with_reducible exact ix_lit _ | exact rfl)) (by omega) ?_
        refine R_gs 189 rfl ?_
        refine R_il rfl (by first | rfl | exact shO (by decide) (by omega) | exact shG (by decide) (by omega)) (by repeat (first | with_reducible apply ix_add | with_reducible apply ix_mul | with_reducible exact ix_nI _ | with_reducible exact ix_lit _ | exact rfl)) (by omega) (by first | exact (show hI (wI s 251 (b + 22 + j) (utt L S j)) 251 (b + 4 + j) = nI (sA S j) from by rw [wI_at, if_neg (by omega)]; exact (i4 j hj).1)) ?_
        refine R_is rfl (by first | rfl | exact shO (by decide) (by omega) | exact shG (by decide) (by omega)) (by repeat (first | with_reducible apply ix_add | with_reducible apply ix_mul | with_reducible exact ix_nI _ | with_reducible exact ix_lit _ | exact rfl)) (by omega) ?_
        refine R_gs 211 rfl ?_
        refine R_il rfl (by first | rfl | exact shO (by decide) (by omega) | exact shG (by decide) (by omega)) (by repeat (first | with_reducible apply ix_add | with_reducible apply ix_mul | with_reducible exact ix_nI _ | with_reducible exact ix_lit _ | exact rfl)) (by omega) (by first | exact (show hI (wI (wI s 251 (b + 22 + j) (utt L S j)) 251 (b + 28 + j) (nI (sA S j))) 251 (b + 10 + j) = sY S j from by rw [wI_at, if_neg (by omega), wI_at, if_neg (by omega)]; exact i5 j hj (Nat.le_refl _))) ?_
        refine R_is rfl (by first | rfl | exact shO (by decide) (by omega) | exact shG (by decide) (by omega)) (by repeat (first | with_reducible apply ix_add | with_reducible apply ix_mul | with_reducible exact ix_nI _ | with_reducible exact ix_lit _ | exact rfl)) (by omega) ?_
        refine R_gs 224 rfl ?_
        refine R_is rfl (by first | rfl | exact shO (by decide) (by omega) | exact shG (by decide) (by omega)) (by repeat (first | with_reducible apply ix_add | with_reducible apply ix_mul | with_reducible exact ix_nI _ | with_reducible exact ix_lit _ | exact rfl)) (by omega) ?_
        refine R_gs 145 rfl ?_
        rw [nI_1]; exact w _ (MI.next hb hO hj ⟨i1, i2, i3, i4, i5, i6⟩)
      ·
        obtain ⟨i1, i2, i3, i4, i5, i6⟩ := hi
        have hL' := hL.fr i1 rfl rfl rfl
        refine R_gs 147 rfl ?_
        refine R_k rfl rfl (m_people hL' ?_)
        refine W_bt rfl (gec (by omega)) ?_
        refine R_gs 239 rfl ?_
        refine R_il (j := b) rfl rfl (ix_add rfl (ix_lit _)) (by omega) i3.1 ?_
        refine R_gs 242 rfl ?_
        refine R_is (j := b) rfl rfl (ix_add rfl (ix_lit _)) (by omega) ?_
        refine R_gs 244 rfl ?_
        refine W_f rfl (by first | rfl | exact ⟨rfl, by first | decide | assumption | exact Or.inl rfl | exact Or.inr rfl | exact b2i_01 _⟩) ?_
        dsimp only at ht
        rw [show t.2 = momF L S from by rw [ht]; rfl]
        refine h1 _ (i1.wI rfl) (i2.w (by omega) _) ⟨?_, ?_, ?_, ?_, fun p hp => ⟨?_, ?_, ?_⟩, fun s' hs' => ?_⟩
        · rw [wI_at, if_pos rfl]; rfl
        · rw [wI_at, if_neg (by omega)]; exact i3.2.1
        · rw [wI_at, if_neg (by omega)]; exact i3.2.2.1
        · rw [wI_at, if_neg (by omega)]; exact i3.2.2.2
        · rw [wI_at, if_neg (by omega)]; exact (i4 p hp).1
        · rw [wI_at, if_neg (by omega)]; exact (i6 p hp).2.2.2
        · rw [wI_at, if_neg (by omega)]; exact (i6 p hp).2.2.1
        · exact ecG_cong _ _ (fun i hi => ⟨by rw [wI_at, if_neg (by omega)]; exact (i6 i (by omega)).1, by rw [wI_at, if_neg (by omega)]; exact (i6 i (by omega)).2.1⟩)
end
