theorem ecG_le {u t : Nat → Int32} {s : Int32} {j k : Nat} (h : t j = s ∧ 0 ≤ u j) : ecG u t s j (k + 1) = u j := by show (if _ then _ else _) = _; rw [if_pos h]
theorem ecG_ne {u t : Nat → Int32} {s : Int32} {j k : Nat} (h : ¬ (t j = s ∧ 0 ≤ u j)) : ecG u t s j (k + 1) = ecG u t s (j + 1) k := by show (if _ then _ else _) = _; rw [if_neg h]
theorem sub1 (n : Nat) : nI n + (-1) = nI n - 1 := by rw [Int32.sub_eq_add_neg]
theorem dn_f {k : Nat} (hk : k < 2 ^ 31) (h0 : 0 < k) : ¬ nI k - 1 < 0 := by
  obtain ⟨m, rfl⟩ : ∃ m, k = m + 1 := ⟨k - 1, by omega⟩
  rw [nI_pred]; exact nI_pos (by omega)
theorem dn_p {k : Nat} (h0 : 0 < k) : nI k - 1 = nI (k - 1) := by
  obtain ⟨m, rfl⟩ : ∃ m, k = m + 1 := ⟨k - 1, by omega⟩
  rw [nI_pred]; rfl
section
variable {d a b : Nat} {h : AH} {L : SL} {S : SS} {Q : Option Value → AH → Prop}
theorem c_keepUtterances (ha : a = 143 ∨ a = 171) (hO : LandOK L) (hL : LandC h a L) (hb : b = 7 ∨ b = 14) {u : Nat → Int32} {A : Nat → Nat} (hu : ∀ k, k < lP L → hI h (b + 4) k = u k) (hu2 : ∀ k, k < lP L → SayOK L (u k)) (hA : ∀ k, k < lP L → hI h (b + 1) k = nI (A k) ∧ A k < 4) (h1 : ∀ h', Fr (fun q => Nat.beq q (b + 5)) h h' → (∀ s, s < 4 → hI h' (b + 5) s = ecM u (fun p => nI (A p)) (nI s) (lP L)) → Q none h') : Rc (d + 2) m_X9_keepUtterances [.ref b, .ref a] h Q := by
  obtain ⟨o1, o2, o3, o4, -⟩ := id hO
  rcases ha with rfl | rfl <;> rcases hb with rfl | rfl
  ·
    refine R_in rfl rfl ?_
    refine R_gs 5 rfl ?_
    refine R_k rfl rfl (c_fill (a := 12) rfl (fun h0 f0 e0 => ?_))
    refine R_gs 15 rfl ?_
    rw [(congrFun (f0.I rfl) 6).trans hL.P]
    refine w_inv (W := fun j (s : AH) => Rw (d + 1) Q (m_X9_keepUtterances, 15, [some (.ref 7), some (.ref 143), some (.int (nI (lP L - j) - 1))], [], 262, s)) (lP L) (fun j s => Fr (fun q => Nat.beq q 12) h s ∧ ∀ s', s' < 4 → hI s 12 s' = ecG u (fun p => nI (A p)) (nI s') (lP L - j) j) (s0 := h0) ⟨f0, fun s' hs' => e0 s' hs'⟩ (fun j s hj hi w => ?_) (fun s hi => ?_)
    ·
      obtain ⟨hf, he⟩ := hi
      have hk : lP L - j - 1 < lP L := by { omega }
      have es := (hu2 _ hk).ge hO
      have ek : lP L - (j + 1) = lP L - j - 1 := by { omega }
      have ek2 : lP L - j = lP L - j - 1 + 1 := by { omega }
      refine R_gs 16 rfl ?_
      refine W_bf rfl (dn_f (by omega) (by omega)) ?_
      refine R_gs 24 rfl ?_
      refine R_il rfl rfl (dn_p (by omega)) (by omega) ((congrFun (hf.I rfl) _).trans (hu _ hk)) ?_
      refine R_gs 26 rfl ?_
      refine W_b rfl (fun hc26 => ?_) (fun hc26 => ?_)
      ·
        refine R_gs 15 rfl ?_
        rw [dn_p (by omega), sub1]; refine (ek ▸ w s) ⟨hf, fun s' hs' => ?_⟩; rw [ecG_ne (fun hq => es.mpr hq.2 hc26), ← ek2]; exact he s' hs'
      ·
        refine R_gs 38 rfl ?_
        refine R_il rfl rfl (dn_p (by omega)) (by omega) ((congrFun (hf.I rfl) _).trans (hA _ hk).1) ?_
        refine R_gs 44 rfl ?_
        refine R_il rfl rfl (dn_p (by omega)) (by omega) ((congrFun (hf.I rfl) _).trans (hu _ hk)) ?_
        refine R_is rfl rfl (ix_nI _) (hA _ hk).2 ?_
        refine R_gs 15 rfl ?_
        rw [dn_p (by omega), sub1]; refine (ek ▸ w _) ⟨hf.wI rfl, fun s' hs' => ?_⟩; rw [wI_at]; by_cases e : s' = A (lP L - j - 1); { rw [if_pos e, ecG_le ⟨by rw [e], es.mp hc26⟩] }; { rw [if_neg e, ecG_ne (t := fun p => nI (A p)) (fun hq => e (nI_eqc hq.1 (by have := (hA _ hk).2; omega) (by omega)).symm), ← ek2]; exact he s' hs' }
    ·
      obtain ⟨hf, he⟩ := hi
      refine R_gs 16 rfl ?_
      refine W_bt rfl (by rw [Nat.sub_self]; decide) ?_
      refine W_f rfl (by first | rfl | exact ⟨rfl, by first | decide | assumption | exact Or.inl rfl | exact Or.inr rfl | exact b2i_01 _⟩) ?_
      exact h1 _ hf (fun s' hs' => by rw [he s' hs', Nat.sub_self]; rfl)
  ·
    refine R_in rfl rfl ?_
    refine R_gs 5 rfl ?_
    refine R_k rfl rfl (c_fill (a := 19) rfl (fun h0 f0 e0 => ?_))
    refine R_gs 15 rfl ?_
    rw [(congrFun (f0.I rfl) 6).trans hL.P]
    refine w_inv (W := fun j (s : AH) => Rw (d + 1) Q (m_X9_keepUtterances, 15, [some (.ref 14), some (.ref 143), some (.int (nI (lP L - j) - 1))], [], 262, s)) (lP L) (fun j s => Fr (fun q => Nat.beq q 19) h s ∧ ∀ s', s' < 4 → hI s 19 s' = ecG u (fun p => nI (A p)) (nI s') (lP L - j) j) (s0 := h0) ⟨f0, fun s' hs' => e0 s' hs'⟩ (fun j s hj hi w => ?_) (fun s hi => ?_)
    ·
      obtain ⟨hf, he⟩ := hi
      have hk : lP L - j - 1 < lP L := by { omega }
      have es := (hu2 _ hk).ge hO
      have ek : lP L - (j + 1) = lP L - j - 1 := by { omega }
      have ek2 : lP L - j = lP L - j - 1 + 1 := by { omega }
      refine R_gs 16 rfl ?_
      refine W_bf rfl (dn_f (by omega) (by omega)) ?_
      refine R_gs 24 rfl ?_
      refine R_il rfl rfl (dn_p (by omega)) (by omega) ((congrFun (hf.I rfl) _).trans (hu _ hk)) ?_
      refine R_gs 26 rfl ?_
      refine W_b rfl (fun hc26 => ?_) (fun hc26 => ?_)
      ·
        refine R_gs 15 rfl ?_
        rw [dn_p (by omega), sub1]; refine (ek ▸ w s) ⟨hf, fun s' hs' => ?_⟩; rw [ecG_ne (fun hq => es.mpr hq.2 hc26), ← ek2]; exact he s' hs'
      ·
        refine R_gs 38 rfl ?_
        refine R_il rfl rfl (dn_p (by omega)) (by omega) ((congrFun (hf.I rfl) _).trans (hA _ hk).1) ?_
        refine R_gs 44 rfl ?_
        refine R_il rfl rfl (dn_p (by omega)) (by omega) ((congrFun (hf.I rfl) _).trans (hu _ hk)) ?_
        refine R_is rfl rfl (ix_nI _) (hA _ hk).2 ?_
        refine R_gs 15 rfl ?_
        rw [dn_p (by omega), sub1]; refine (ek ▸ w _) ⟨hf.wI rfl, fun s' hs' => ?_⟩; rw [wI_at]; by_cases e : s' = A (lP L - j - 1); { rw [if_pos e, ecG_le ⟨by rw [e], es.mp hc26⟩] }; { rw [if_neg e, ecG_ne (t := fun p => nI (A p)) (fun hq => e (nI_eqc hq.1 (by have := (hA _ hk).2; omega) (by omega)).symm), ← ek2]; exact he s' hs' }
    ·
      obtain ⟨hf, he⟩ := hi
      refine R_gs 16 rfl ?_
      refine W_bt rfl (by rw [Nat.sub_self]; decide) ?_
      refine W_f rfl (by first | rfl | exact ⟨rfl, by first | decide | assumption | exact Or.inl rfl | exact Or.inr rfl | exact b2i_01 _⟩) ?_
      exact h1 _ hf (fun s' hs' => by rw [he s' hs', Nat.sub_self]; rfl)
  ·
    refine R_in rfl rfl ?_
    refine R_gs 5 rfl ?_
    refine R_k rfl rfl (c_fill (a := 12) rfl (fun h0 f0 e0 => ?_))
    refine R_gs 15 rfl ?_
    rw [(congrFun (f0.I rfl) 6).trans hL.P]
    refine w_inv (W := fun j (s : AH) => Rw (d + 1) Q (m_X9_keepUtterances, 15, [some (.ref 7), some (.ref 171), some (.int (nI (lP L - j) - 1))], [], 262, s)) (lP L) (fun j s => Fr (fun q => Nat.beq q 12) h s ∧ ∀ s', s' < 4 → hI s 12 s' = ecG u (fun p => nI (A p)) (nI s') (lP L - j) j) (s0 := h0) ⟨f0, fun s' hs' => e0 s' hs'⟩ (fun j s hj hi w => ?_) (fun s hi => ?_)
    ·
      obtain ⟨hf, he⟩ := hi
      have hk : lP L - j - 1 < lP L := by { omega }
      have es := (hu2 _ hk).ge hO
      have ek : lP L - (j + 1) = lP L - j - 1 := by { omega }
      have ek2 : lP L - j = lP L - j - 1 + 1 := by { omega }
      refine R_gs 16 rfl ?_
      refine W_bf rfl (dn_f (by omega) (by omega)) ?_
      refine R_gs 24 rfl ?_
      refine R_il rfl rfl (dn_p (by omega)) (by omega) ((congrFun (hf.I rfl) _).trans (hu _ hk)) ?_
      refine R_gs 26 rfl ?_
      refine W_b rfl (fun hc26 => ?_) (fun hc26 => ?_)
      ·
        refine R_gs 15 rfl ?_
        rw [dn_p (by omega), sub1]; refine (ek ▸ w s) ⟨hf, fun s' hs' => ?_⟩; rw [ecG_ne (fun hq => es.mpr hq.2 hc26), ← ek2]; exact he s' hs'
      ·
        refine R_gs 38 rfl ?_
        refine R_il rfl rfl (dn_p (by omega)) (by omega) ((congrFun (hf.I rfl) _).trans (hA _ hk).1) ?_
        refine R_gs 44 rfl ?_
        refine R_il rfl rfl (dn_p (by omega)) (by omega) ((congrFun (hf.I rfl) _).trans (hu _ hk)) ?_
        refine R_is rfl rfl (ix_nI _) (hA _ hk).2 ?_
        refine R_gs 15 rfl ?_
        rw [dn_p (by omega), sub1]; refine (ek ▸ w _) ⟨hf.wI rfl, fun s' hs' => ?_⟩; rw [wI_at]; by_cases e : s' = A (lP L - j - 1); { rw [if_pos e, ecG_le ⟨by rw [e], es.mp hc26⟩] }; { rw [if_neg e, ecG_ne (t := fun p => nI (A p)) (fun hq => e (nI_eqc hq.1 (by have := (hA _ hk).2; omega) (by omega)).symm), ← ek2]; exact he s' hs' }
    ·
      obtain ⟨hf, he⟩ := hi
      refine R_gs 16 rfl ?_
      refine W_bt rfl (by rw [Nat.sub_self]; decide) ?_
      refine W_f rfl (by first | rfl | exact ⟨rfl, by first | decide | assumption | exact Or.inl rfl | exact Or.inr rfl | exact b2i_01 _⟩) ?_
      exact h1 _ hf (fun s' hs' => by rw [he s' hs', Nat.sub_self]; rfl)
  ·
    refine R_in rfl rfl ?_
    refine R_gs 5 rfl ?_
    refine R_k rfl rfl (c_fill (a := 19) rfl (fun h0 f0 e0 => ?_))
    refine R_gs 15 rfl ?_
    rw [(congrFun (f0.I rfl) 6).trans hL.P]
    refine w_inv (W := fun j (s : AH) => Rw (d + 1) Q (m_X9_keepUtterances, 15, [some (.ref 14), some (.ref 171), some (.int (nI (lP L - j) - 1))], [], 262, s)) (lP L) (fun j s => Fr (fun q => Nat.beq q 19) h s ∧ ∀ s', s' < 4 → hI s 19 s' = ecG u (fun p => nI (A p)) (nI s') (lP L - j) j) (s0 := h0) ⟨f0, fun s' hs' => e0 s' hs'⟩ (fun j s hj hi w => ?_) (fun s hi => ?_)
    ·
      obtain ⟨hf, he⟩ := hi
      have hk : lP L - j - 1 < lP L := by { omega }
      have es := (hu2 _ hk).ge hO
      have ek : lP L - (j + 1) = lP L - j - 1 := by { omega }
      have ek2 : lP L - j = lP L - j - 1 + 1 := by { omega }
      refine R_gs 16 rfl ?_
      refine W_bf rfl (dn_f (by omega) (by omega)) ?_
      refine R_gs 24 rfl ?_
      refine R_il rfl rfl (dn_p (by omega)) (by omega) ((congrFun (hf.I rfl) _).trans (hu _ hk)) ?_
      refine R_gs 26 rfl ?_
      refine W_b rfl (fun hc26 => ?_) (fun hc26 => ?_)
      ·
        refine R_gs 15 rfl ?_
        rw [dn_p (by omega), sub1]; refine (ek ▸ w s) ⟨hf, fun s' hs' => ?_⟩; rw [ecG_ne (fun hq => es.mpr hq.2 hc26), ← ek2]; exact he s' hs'
      ·
        refine R_gs 38 rfl ?_
        refine R_il rfl rfl (dn_p (by omega)) (by omega) ((congrFun (hf.I rfl) _).trans (hA _ hk).1) ?_
        refine R_gs 44 rfl ?_
        refine R_il rfl rfl (dn_p (by omega)) (by omega) ((congrFun (hf.I rfl) _).trans (hu _ hk)) ?_
        refine R_is rfl rfl (ix_nI _) (hA _ hk).2 ?_
        refine R_gs 15 rfl ?_
        rw [dn_p (by omega), sub1]; refine (ek ▸ w _) ⟨hf.wI rfl, fun s' hs' => ?_⟩; rw [wI_at]; by_cases e : s' = A (lP L - j - 1); { rw [if_pos e, ecG_le ⟨by rw [e], es.mp hc26⟩] }; { rw [if_neg e, ecG_ne (t := fun p => nI (A p)) (fun hq => e (nI_eqc hq.1 (by have := (hA _ hk).2; omega) (by omega)).symm), ← ek2]; exact he s' hs' }
    ·
      obtain ⟨hf, he⟩ := hi
      refine R_gs 16 rfl ?_
      refine W_bt rfl (by rw [Nat.sub_self]; decide) ?_
      refine W_f rfl (by first | rfl | exact ⟨rfl, by first | decide | assumption | exact Or.inl rfl | exact Or.inr rfl | exact b2i_01 _⟩) ?_
      exact h1 _ hf (fun s' hs' => by rw [he s' hs', Nat.sub_self]; rfl)
theorem utt_ok (hO : LandOK L) (hV : SceneOK L S) {p : Nat} (hp : p < lP L) : SayOK L (utt L S p) := by
  have v := hV.2.1 p hp
  have := hO.2.1
  unfold utt
  split
  · exact v.2.2
  · split
    · exact hV.2.2 _ (by omega)
    · exact v.2.1
theorem ecG_ok {u t : Nat → Int32} {s : Int32} : ∀ k j, (∀ i, i < j + k → SayOK L (u i)) → SayOK L (ecG u t s j k)
  | 0, _, _ => Or.inl rfl
  | k + 1, j, h => by
    show SayOK L (if _ then _ else _)
    split
    · exact h j (by omega)
    · exact ecG_ok k (j + 1) (fun i hi => h i (by omega))
theorem wrow_ok {u : Nat → Int32} (hO : LandOK L) {p : Nat} (hp : p < lP L) (t : Int32 × Int32) (ht : PairsOK L t.1) : ∀ k, k ≤ lP L - (p + 1) → PairsOK L (lp (fun i s => wst L S u p (p + 1 + i) s) k t).1
  | 0, _ => ht
  | k + 1, hk => by
    have ih := wrow_ok (u := u) hO hp t ht k (by omega)
    show PairsOK L (wst L S u p (p + 1 + k) (lp (fun i s => wst L S u p (p + 1 + i) s) k t)).1
    unfold wst
    split
    · exact ih.or hO (by omega) (by omega)
    · exact ih
theorem wall_ok {u : Nat → Int32} (hO : LandOK L) (hV : PairsOK L (sW S)) : ∀ k, k ≤ lP L → PairsOK L (lp (wrow L S u) k (sW S, 0)).1
  | 0, _ => hV
  | k + 1, hk => wrow_ok hO (by omega) _ (wall_ok hO hV k (by omega)) _ (Nat.le_refl _)
theorem mom_ok (hO : LandOK L) (hV : SceneOK L S) : SceneOK L (momS L S) := by
  refine ⟨wall_ok hO hV.1 _ (Nat.le_refl _), fun p hp => ⟨(hV.2.1 p hp).1, Or.inl rfl, (hV.2.1 p hp).2.1⟩, fun s _ => ?_⟩
  exact ecG_ok _ _ (fun i hi => utt_ok hO hV (by omega))
theorem c_passMoment (hT : St h) (ha : a = 143 ∨ a = 171) (hO : LandOK L) (hL : LandC h a L) (hb : b = 7 ∨ b = 14) (hS : SceneC h b L S) (hV : SceneOK L S) (h1 : ∀ h', Fr (xs b) h h' → hI h' b 10 = hI h b 10 → SceneC h' b L (momS L S) → Q (some (.int (momF L S))) h') : Rc (d + 5) m_X9_passMoment [.ref b, .ref a] h Q := by
  obtain ⟨o1, o2, o3, o4, -⟩ := id hO
  have ha' := ha
  have hb' := hb
  rcases ha with rfl | rfl <;> rcases hb with rfl | rfl
  ·
    refine R_in rfl rfl ?_
    refine R_gs 2 rfl ?_
    refine w_inv (W := fun j (s : AH) => Rw (d + 4) Q (m_X9_passMoment, 2, [some (.ref 7), some (.ref 143), some (.int (nI j))], [], 262, s)) (lP L) (fun j s => Fr (fun q => Nat.beq q 11) h s ∧ ∀ k, k < j → hI s 11 k = utt L S k) (s0 := h) ⟨Fr.refl _ h, fun k hk => absurd hk (by omega)⟩ (fun j s hj hi w => ?_) (fun s hi => ?_)
    ·
      obtain ⟨hf, he⟩ := hi
      have hL' := hL.fr hO hf (by decide)
      have hS' := hS.fr hf rfl rfl rfl rfl rfl
      refine R_gs 7 rfl ?_
      rw [hL'.P]
      refine W_bf rfl (ltc hj (by omega)) ?_
      refine R_gs 18 rfl ?_
      refine R_k rfl rfl (c_utteranceOf ha' hO hL' hb' hS' hV hj ?_)
      refine R_is rfl (by first | rfl | exact shO (by decide) (by omega) | exact shG (by decide) (by omega)) (by repeat (first | with_reducible apply ix_add | with_reducible apply ix_mul | with_reducible exact ix_nI _ | with_reducible exact ix_lit _ | exact rfl)) (by omega) ?_
      refine R_gs 2 rfl ?_
      rw [nI_1]; exact w _ ⟨hf.wI rfl, fun k hk => by { rw [wI_at]; by_cases e : k = j; { rw [if_pos e, e] }; { rw [if_neg e]; exact he k (by omega) } }⟩
    ·
      obtain ⟨hf, he⟩ := hi
      have hL' := hL.fr hO hf (by decide)
      have hS' := hS.fr hf rfl rfl rfl rfl rfl
      have hT' := hT.fr hf rfl rfl
      refine R_gs 7 rfl ?_
      rw [hL'.P]
      refine W_bt rfl (gec (by omega)) ?_
      refine R_gs 30 rfl ?_
      refine R_k rfl rfl (c_wedAlike hT' ha' hO hL' hb' hS' hV he (fun k hk => utt_ok hO hV hk) (fun h2 w2 => ?_))
      refine R_gs 36 rfl ?_
      refine R_k rfl rfl (c_keepUtterances ha' hO (hL'.fr hO w2.1 (xs_land ha' hb')) hb' w2.2.2.1 (fun k hk => utt_ok hO hV hk) (fun k hk => ⟨w2.2.2.2.1.A hk, (by have := (hV.2.1 k hk).1; show sA S k < 4; omega)⟩) (fun h3 f3 e3 => ?_))
      refine R_gs 51 rfl ?_
      refine R_cp rfl (b := 9) (a := 10) rfl rfl (n := 6) rfl (by omega) (by omega) (fun h4 f4 e4 => ?_)
      refine R_gs 59 rfl ?_
      refine R_k rfl rfl (c_fill (a := 9) rfl (fun h5 f5 e5 => ?_))
      refine R_gs 73 rfl ?_
      refine W_f rfl (by first | rfl | exact ⟨rfl, by first | decide | assumption | exact Or.inl rfl | exact Or.inr rfl | exact b2i_01 _⟩) ?_
      have g : ∀ k, hI h5 7 k = hI h2 7 k := fun k => by rw [f5.I rfl, f4.I rfl, f3.I rfl]
      have m1 : Fr (xs 7) h s := hf.mono (fun q hq => by have := Nat.eq_of_beq_eq_true hq; subst this; rfl)
      have m3 : Fr (xs 7) h2 h3 := f3.mono (fun q hq => by have := Nat.eq_of_beq_eq_true hq; subst this; rfl)
      have m4 : Fr (xs 7) h3 h4 := f4.mono (fun q hq => by have := Nat.eq_of_beq_eq_true hq; subst this; rfl)
      have m5 : Fr (xs 7) h4 h5 := f5.mono (fun q hq => by have := Nat.eq_of_beq_eq_true hq; subst this; rfl)
      obtain ⟨w1, w10, wu, wS, wP⟩ := w2
      refine h1 _ (((((m1.trans w1).trans m3).trans m4).trans m5).wI rfl) ?_ ⟨?_, ?_, ?_, ?_, fun p hp => ⟨?_, ?_, ?_⟩, fun s' hs' => ?_⟩
      · rw [wI_at, if_neg (by decide), g]; exact w10.trans (congrFun (hf.I rfl) 10)
      · rw [wI_at, if_pos rfl, g, wS.T]; rfl
      · rw [wI_at, if_neg (by decide), g, wS.W]; rfl
      · rw [wI_at, if_neg (by decide), g, wS.E]; rfl
      · rw [wI_at, if_neg (by decide), g, wS.D]; rfl
      · rw [wI_ne _ _ _ (by decide), f5.I rfl, f4.I rfl, f3.I rfl, wS.A hp]; rfl
      · rw [wI_ne _ _ _ (by decide), e5 p (by omega)]; rfl
      · rw [wI_ne _ _ _ (by decide), f5.I rfl, e4 p (by omega), f3.I rfl, wS.Y hp]; rfl
      · rw [wI_ne _ _ _ (by decide), f5.I rfl, f4.I rfl, e3 s' hs']; rfl
  ·
    refine R_in rfl rfl ?_
    refine R_gs 2 rfl ?_
    refine w_inv (W := fun j (s : AH) => Rw (d + 4) Q (m_X9_passMoment, 2, [some (.ref 14), some (.ref 143), some (.int (nI j))], [], 262, s)) (lP L) (fun j s => Fr (fun q => Nat.beq q 18) h s ∧ ∀ k, k < j → hI s 18 k = utt L S k) (s0 := h) ⟨Fr.refl _ h, fun k hk => absurd hk (by omega)⟩ (fun j s hj hi w => ?_) (fun s hi => ?_)
    ·
      obtain ⟨hf, he⟩ := hi
      have hL' := hL.fr hO hf (by decide)
      have hS' := hS.fr hf rfl rfl rfl rfl rfl
      refine R_gs 7 rfl ?_
      rw [hL'.P]
      refine W_bf rfl (ltc hj (by omega)) ?_
      refine R_gs 18 rfl ?_
      refine R_k rfl rfl (c_utteranceOf ha' hO hL' hb' hS' hV hj ?_)
      refine R_is rfl (by first | rfl | exact shO (by decide) (by omega) | exact shG (by decide) (by omega)) (by repeat (first | with_reducible apply ix_add | with_reducible apply ix_mul | with_reducible exact ix_nI _ | with_reducible exact ix_lit _ | exact rfl)) (by omega) ?_
      refine R_gs 2 rfl ?_
      rw [nI_1]; exact w _ ⟨hf.wI rfl, fun k hk => by { rw [wI_at]; by_cases e : k = j; { rw [if_pos e, e] }; { rw [if_neg e]; exact he k (by omega) } }⟩
    ·
      obtain ⟨hf, he⟩ := hi
      have hL' := hL.fr hO hf (by decide)
      have hS' := hS.fr hf rfl rfl rfl rfl rfl
      have hT' := hT.fr hf rfl rfl
      refine R_gs 7 rfl ?_
      rw [hL'.P]
      refine W_bt rfl (gec (by omega)) ?_
      refine R_gs 30 rfl ?_
      refine R_k rfl rfl (c_wedAlike hT' ha' hO hL' hb' hS' hV he (fun k hk => utt_ok hO hV hk) (fun h2 w2 => ?_))
      refine R_gs 36 rfl ?_
      refine R_k rfl rfl (c_keepUtterances ha' hO (hL'.fr hO w2.1 (xs_land ha' hb')) hb' w2.2.2.1 (fun k hk => utt_ok hO hV hk) (fun k hk => ⟨w2.2.2.2.1.A hk, (by have := (hV.2.1 k hk).1; show sA S k < 4; omega)⟩) (fun h3 f3 e3 => ?_))
      refine R_gs 51 rfl ?_
      refine R_cp rfl (b := 16) (a := 17) rfl rfl (n := 6) rfl (by omega) (by omega) (fun h4 f4 e4 => ?_)
      refine R_gs 59 rfl ?_
      refine R_k rfl rfl (c_fill (a := 16) rfl (fun h5 f5 e5 => ?_))
      refine R_gs 73 rfl ?_
      refine W_f rfl (by first | rfl | exact ⟨rfl, by first | decide | assumption | exact Or.inl rfl | exact Or.inr rfl | exact b2i_01 _⟩) ?_
      have g : ∀ k, hI h5 14 k = hI h2 14 k := fun k => by rw [f5.I rfl, f4.I rfl, f3.I rfl]
      have m1 : Fr (xs 14) h s := hf.mono (fun q hq => by have := Nat.eq_of_beq_eq_true hq; subst this; rfl)
      have m3 : Fr (xs 14) h2 h3 := f3.mono (fun q hq => by have := Nat.eq_of_beq_eq_true hq; subst this; rfl)
      have m4 : Fr (xs 14) h3 h4 := f4.mono (fun q hq => by have := Nat.eq_of_beq_eq_true hq; subst this; rfl)
      have m5 : Fr (xs 14) h4 h5 := f5.mono (fun q hq => by have := Nat.eq_of_beq_eq_true hq; subst this; rfl)
      obtain ⟨w1, w10, wu, wS, wP⟩ := w2
      refine h1 _ (((((m1.trans w1).trans m3).trans m4).trans m5).wI rfl) ?_ ⟨?_, ?_, ?_, ?_, fun p hp => ⟨?_, ?_, ?_⟩, fun s' hs' => ?_⟩
      · rw [wI_at, if_neg (by decide), g]; exact w10.trans (congrFun (hf.I rfl) 10)
      · rw [wI_at, if_pos rfl, g, wS.T]; rfl
      · rw [wI_at, if_neg (by decide), g, wS.W]; rfl
      · rw [wI_at, if_neg (by decide), g, wS.E]; rfl
      · rw [wI_at, if_neg (by decide), g, wS.D]; rfl
      · rw [wI_ne _ _ _ (by decide), f5.I rfl, f4.I rfl, f3.I rfl, wS.A hp]; rfl
      · rw [wI_ne _ _ _ (by decide), e5 p (by omega)]; rfl
      · rw [wI_ne _ _ _ (by decide), f5.I rfl, e4 p (by omega), f3.I rfl, wS.Y hp]; rfl
      · rw [wI_ne _ _ _ (by decide), f5.I rfl, f4.I rfl, e3 s' hs']; rfl
  ·
    refine R_in rfl rfl ?_
    refine R_gs 2 rfl ?_
    refine w_inv (W := fun j (s : AH) => Rw (d + 4) Q (m_X9_passMoment, 2, [some (.ref 7), some (.ref 171), some (.int (nI j))], [], 262, s)) (lP L) (fun j s => Fr (fun q => Nat.beq q 11) h s ∧ ∀ k, k < j → hI s 11 k = utt L S k) (s0 := h) ⟨Fr.refl _ h, fun k hk => absurd hk (by omega)⟩ (fun j s hj hi w => ?_) (fun s hi => ?_)
    ·
      obtain ⟨hf, he⟩ := hi
      have hL' := hL.fr hO hf (by decide)
      have hS' := hS.fr hf rfl rfl rfl rfl rfl
      refine R_gs 7 rfl ?_
      rw [hL'.P]
      refine W_bf rfl (ltc hj (by omega)) ?_
      refine R_gs 18 rfl ?_
      refine R_k rfl rfl (c_utteranceOf ha' hO hL' hb' hS' hV hj ?_)
      refine R_is rfl (by first | rfl | exact shO (by decide) (by omega) | exact shG (by decide) (by omega)) (by repeat (first | with_reducible apply ix_add | with_reducible apply ix_mul | with_reducible exact ix_nI _ | with_reducible exact ix_lit _ | exact rfl)) (by omega) ?_
      refine R_gs 2 rfl ?_
      rw [nI_1]; exact w _ ⟨hf.wI rfl, fun k hk => by { rw [wI_at]; by_cases e : k = j; { rw [if_pos e, e] }; { rw [if_neg e]; exact he k (by omega) } }⟩
    ·
      obtain ⟨hf, he⟩ := hi
      have hL' := hL.fr hO hf (by decide)
      have hS' := hS.fr hf rfl rfl rfl rfl rfl
      have hT' := hT.fr hf rfl rfl
      refine R_gs 7 rfl ?_
      rw [hL'.P]
      refine W_bt rfl (gec (by omega)) ?_
      refine R_gs 30 rfl ?_
      refine R_k rfl rfl (c_wedAlike hT' ha' hO hL' hb' hS' hV he (fun k hk => utt_ok hO hV hk) (fun h2 w2 => ?_))
      refine R_gs 36 rfl ?_
      refine R_k rfl rfl (c_keepUtterances ha' hO (hL'.fr hO w2.1 (xs_land ha' hb')) hb' w2.2.2.1 (fun k hk => utt_ok hO hV hk) (fun k hk => ⟨w2.2.2.2.1.A hk, (by have := (hV.2.1 k hk).1; show sA S k < 4; omega)⟩) (fun h3 f3 e3 => ?_))
      refine R_gs 51 rfl ?_
      refine R_cp rfl (b := 9) (a := 10) rfl rfl (n := 6) rfl (by omega) (by omega) (fun h4 f4 e4 => ?_)
      refine R_gs 59 rfl ?_
      refine R_k rfl rfl (c_fill (a := 9) rfl (fun h5 f5 e5 => ?_))
      refine R_gs 73 rfl ?_
      refine W_f rfl (by first | rfl | exact ⟨rfl, by first | decide | assumption | exact Or.inl rfl | exact Or.inr rfl | exact b2i_01 _⟩) ?_
      have g : ∀ k, hI h5 7 k = hI h2 7 k := fun k => by rw [f5.I rfl, f4.I rfl, f3.I rfl]
      have m1 : Fr (xs 7) h s := hf.mono (fun q hq => by have := Nat.eq_of_beq_eq_true hq; subst this; rfl)
      have m3 : Fr (xs 7) h2 h3 := f3.mono (fun q hq => by have := Nat.eq_of_beq_eq_true hq; subst this; rfl)
      have m4 : Fr (xs 7) h3 h4 := f4.mono (fun q hq => by have := Nat.eq_of_beq_eq_true hq; subst this; rfl)
      have m5 : Fr (xs 7) h4 h5 := f5.mono (fun q hq => by have := Nat.eq_of_beq_eq_true hq; subst this; rfl)
      obtain ⟨w1, w10, wu, wS, wP⟩ := w2
      refine h1 _ (((((m1.trans w1).trans m3).trans m4).trans m5).wI rfl) ?_ ⟨?_, ?_, ?_, ?_, fun p hp => ⟨?_, ?_, ?_⟩, fun s' hs' => ?_⟩
      · rw [wI_at, if_neg (by decide), g]; exact w10.trans (congrFun (hf.I rfl) 10)
      · rw [wI_at, if_pos rfl, g, wS.T]; rfl
      · rw [wI_at, if_neg (by decide), g, wS.W]; rfl
      · rw [wI_at, if_neg (by decide), g, wS.E]; rfl
      · rw [wI_at, if_neg (by decide), g, wS.D]; rfl
      · rw [wI_ne _ _ _ (by decide), f5.I rfl, f4.I rfl, f3.I rfl, wS.A hp]; rfl
      · rw [wI_ne _ _ _ (by decide), e5 p (by omega)]; rfl
      · rw [wI_ne _ _ _ (by decide), f5.I rfl, e4 p (by omega), f3.I rfl, wS.Y hp]; rfl
      · rw [wI_ne _ _ _ (by decide), f5.I rfl, f4.I rfl, e3 s' hs']; rfl
  ·
    refine R_in rfl rfl ?_
    refine R_gs 2 rfl ?_
    refine w_inv (W := fun j (s : AH) => Rw (d + 4) Q (m_X9_passMoment, 2, [some (.ref 14), some (.ref 171), some (.int (nI j))], [], 262, s)) (lP L) (fun j s => Fr (fun q => Nat.beq q 18) h s ∧ ∀ k, k < j → hI s 18 k = utt L S k) (s0 := h) ⟨Fr.refl _ h, fun k hk => absurd hk (by omega)⟩ (fun j s hj hi w => ?_) (fun s hi => ?_)
    ·
      obtain ⟨hf, he⟩ := hi
      have hL' := hL.fr hO hf (by decide)
      have hS' := hS.fr hf rfl rfl rfl rfl rfl
      refine R_gs 7 rfl ?_
      rw [hL'.P]
      refine W_bf rfl (ltc hj (by omega)) ?_
      refine R_gs 18 rfl ?_
      refine R_k rfl rfl (c_utteranceOf ha' hO hL' hb' hS' hV hj ?_)
      refine R_is rfl (by first | rfl | exact shO (by decide) (by omega) | exact shG (by decide) (by omega)) (by repeat (first | with_reducible apply ix_add | with_reducible apply ix_mul | with_reducible exact ix_nI _ | with_reducible exact ix_lit _ | exact rfl)) (by omega) ?_
      refine R_gs 2 rfl ?_
      rw [nI_1]; exact w _ ⟨hf.wI rfl, fun k hk => by { rw [wI_at]; by_cases e : k = j; { rw [if_pos e, e] }; { rw [if_neg e]; exact he k (by omega) } }⟩
    ·
      obtain ⟨hf, he⟩ := hi
      have hL' := hL.fr hO hf (by decide)
      have hS' := hS.fr hf rfl rfl rfl rfl rfl
      have hT' := hT.fr hf rfl rfl
      refine R_gs 7 rfl ?_
      rw [hL'.P]
      refine W_bt rfl (gec (by omega)) ?_
      refine R_gs 30 rfl ?_
      refine R_k rfl rfl (c_wedAlike hT' ha' hO hL' hb' hS' hV he (fun k hk => utt_ok hO hV hk) (fun h2 w2 => ?_))
      refine R_gs 36 rfl ?_
      refine R_k rfl rfl (c_keepUtterances ha' hO (hL'.fr hO w2.1 (xs_land ha' hb')) hb' w2.2.2.1 (fun k hk => utt_ok hO hV hk) (fun k hk => ⟨w2.2.2.2.1.A hk, (by have := (hV.2.1 k hk).1; show sA S k < 4; omega)⟩) (fun h3 f3 e3 => ?_))
      refine R_gs 51 rfl ?_
      refine R_cp rfl (b := 16) (a := 17) rfl rfl (n := 6) rfl (by omega) (by omega) (fun h4 f4 e4 => ?_)
      refine R_gs 59 rfl ?_
      refine R_k rfl rfl (c_fill (a := 16) rfl (fun h5 f5 e5 => ?_))
      refine R_gs 73 rfl ?_
      refine W_f rfl (by first | rfl | exact ⟨rfl, by first | decide | assumption | exact Or.inl rfl | exact Or.inr rfl | exact b2i_01 _⟩) ?_
      have g : ∀ k, hI h5 14 k = hI h2 14 k := fun k => by rw [f5.I rfl, f4.I rfl, f3.I rfl]
      have m1 : Fr (xs 14) h s := hf.mono (fun q hq => by have := Nat.eq_of_beq_eq_true hq; subst this; rfl)
      have m3 : Fr (xs 14) h2 h3 := f3.mono (fun q hq => by have := Nat.eq_of_beq_eq_true hq; subst this; rfl)
      have m4 : Fr (xs 14) h3 h4 := f4.mono (fun q hq => by have := Nat.eq_of_beq_eq_true hq; subst this; rfl)
      have m5 : Fr (xs 14) h4 h5 := f5.mono (fun q hq => by have := Nat.eq_of_beq_eq_true hq; subst this; rfl)
      obtain ⟨w1, w10, wu, wS, wP⟩ := w2
      refine h1 _ (((((m1.trans w1).trans m3).trans m4).trans m5).wI rfl) ?_ ⟨?_, ?_, ?_, ?_, fun p hp => ⟨?_, ?_, ?_⟩, fun s' hs' => ?_⟩
      · rw [wI_at, if_neg (by decide), g]; exact w10.trans (congrFun (hf.I rfl) 10)
      · rw [wI_at, if_pos rfl, g, wS.T]; rfl
      · rw [wI_at, if_neg (by decide), g, wS.W]; rfl
      · rw [wI_at, if_neg (by decide), g, wS.E]; rfl
      · rw [wI_at, if_neg (by decide), g, wS.D]; rfl
      · rw [wI_ne _ _ _ (by decide), f5.I rfl, f4.I rfl, f3.I rfl, wS.A hp]; rfl
      · rw [wI_ne _ _ _ (by decide), e5 p (by omega)]; rfl
      · rw [wI_ne _ _ _ (by decide), f5.I rfl, e4 p (by omega), f3.I rfl, wS.Y hp]; rfl
      · rw [wI_ne _ _ _ (by decide), f5.I rfl, f4.I rfl, e3 s' hs']; rfl
end
