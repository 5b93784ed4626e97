theorem xw_df (x y z : Int32) : xw [1, -1, -9, -2, -9] x y z = 1 + x + y := rfl
section
variable {d b : Nat} {h : AH} {L : SL} {S : SS} {Q : Option Value → AH → Prop}
theorem m_isIn {v lo hi : Int32} (h1 : (decide (lo ≤ v) && decide (v ≤ hi)) = true → Q (some (.int 1)) h) (h0 : (decide (lo ≤ v) && decide (v ≤ hi)) = false → Q (some (.int 0)) h) : Rc (d + 1) m_X13_isIn [.int v, .int lo, .int hi] h Q := by
  refine R_in rfl rfl ?_
  refine R_gs 2 rfl ?_
  refine W_b rfl (fun hc2 => ?_) (fun hc2 => ?_)
  ·
    refine R_gs 15 rfl ?_
    refine W_f rfl (by first | rfl | exact ⟨rfl, by first | decide | assumption | exact Or.inl rfl | exact Or.inr rfl | exact b2i_01 _⟩) ?_
    first | exact h0 (by rw [decide_eq_false (Int32.not_le.mpr hc2), Bool.false_and]) | exact h0 (by rw [decide_eq_false (Int32.not_le.mpr hc7), Bool.and_false]) | exact h1 (by rw [decide_eq_true (Int32.not_lt.mp hc2), decide_eq_true (Int32.not_lt.mp hc7)]; rfl)
  ·
    refine R_gs 7 rfl ?_
    refine W_b rfl (fun hc7 => ?_) (fun hc7 => ?_)
    ·
      refine R_gs 15 rfl ?_
      refine W_f rfl (by first | rfl | exact ⟨rfl, by first | decide | assumption | exact Or.inl rfl | exact Or.inr rfl | exact b2i_01 _⟩) ?_
      first | exact h0 (by rw [decide_eq_false (Int32.not_le.mpr hc2), Bool.false_and]) | exact h0 (by rw [decide_eq_false (Int32.not_le.mpr hc7), Bool.and_false]) | exact h1 (by rw [decide_eq_true (Int32.not_lt.mp hc2), decide_eq_true (Int32.not_lt.mp hc7)]; rfl)
    ·
      refine R_gs 15 rfl ?_
      refine W_f rfl (by first | rfl | exact ⟨rfl, by first | decide | assumption | exact Or.inl rfl | exact Or.inr rfl | exact b2i_01 _⟩) ?_
      first | exact h0 (by rw [decide_eq_false (Int32.not_le.mpr hc2), Bool.false_and]) | exact h0 (by rw [decide_eq_false (Int32.not_le.mpr hc7), Bool.and_false]) | exact h1 (by rw [decide_eq_true (Int32.not_lt.mp hc2), decide_eq_true (Int32.not_lt.mp hc7)]; rfl)
theorem m_echoAt (hL : LandM h L) (hO : LandOK L) (hb : b ≤ 880) {s : Nat} (h1 : Q (some (.int (ecM (fun p => hI h 251 (b + 22 + p)) (fun p => hI h 251 (b + 28 + p)) (nI s) (lP L)))) h) : Rc (d + 2) m_X13_echoAt [.ref 235, .int (nI b), .int (nI s)] h Q := by
  obtain ⟨o1, o2, o3, o4, -⟩ := id hO
  refine R_in rfl rfl ?_
  refine R_gs 3 rfl ?_
  refine R_k rfl rfl (m_people hL ?_)
  refine R_gs 10 rfl ?_
  refine w_inv (W := fun j (r : Int32) => Rw (d + 1) Q (m_X13_echoAt, 10, [_, _, _, some (.int r), some (.int (nI (lP L - j) - 1))], [], 262, h)) (lP L) (fun j r => r = ecG (fun p => hI h 251 (b + 22 + p)) (fun p => hI h 251 (b + 28 + p)) (nI s) (lP L - j) j) (s0 := -1) rfl (fun j r hj hi w => ?_) (fun r hi => ?_)
  ·
    have ek : lP L - (j + 1) = lP L - j - 1 := by { omega }
    have ek2 : lP L - j = lP L - j - 1 + 1 := by { omega }
    have w' := fun s => ek ▸ w s
    refine R_gs 12 rfl ?_
    refine W_bf rfl (dn_f (by omega) (by omega)) ?_
    refine R_gs 26 rfl ?_
    refine R_il (j := b + 28 + (lP L - j - 1)) rfl rfl (by rw [dn_p (by omega)]; exact ix_add (ix_add rfl (ix_lit _)) rfl) (by omega) rfl ?_
    refine R_gs 28 rfl ?_
    refine W_b rfl (fun hc28 => ?_) (fun hc28 => ?_)
    ·
      refine R_gs 42 rfl ?_
      refine R_il (j := b + 22 + (lP L - j - 1)) rfl rfl (by rw [dn_p (by omega)]; exact ix_add (ix_add rfl (ix_lit _)) rfl) (by omega) rfl ?_
      refine W_b rfl (fun hc43 => ?_) (fun hc43 => ?_)
      ·
        refine R_gs 10 rfl ?_
        rw [dn_p (by omega), sub1]; refine w' r ?_; rw [ecG_ne (u := fun p => hI h 251 (b + 22 + p)) (fun hq => Int32.not_le.mpr hc43 hq.2), ← ek2]; exact hi
      ·
        refine R_gs 57 rfl ?_
        refine R_il (j := b + 22 + (lP L - j - 1)) rfl rfl (by rw [dn_p (by omega)]; exact ix_add (ix_add rfl (ix_lit _)) rfl) (by omega) rfl ?_
        refine R_gs 10 rfl ?_
        rw [dn_p (by omega), sub1]; refine w' _ ?_; exact (ecG_le (u := fun p => hI h 251 (b + 22 + p)) (t := fun p => hI h 251 (b + 28 + p)) ⟨hc28, Int32.not_lt.mp hc43⟩).symm
    ·
      refine R_gs 10 rfl ?_
      rw [dn_p (by omega), sub1]; refine w' r ?_; rw [ecG_ne (t := fun p => hI h 251 (b + 28 + p)) (fun hq => hc28 hq.1), ← ek2]; exact hi
  ·
    refine R_gs 12 rfl ?_
    refine W_bt rfl (by rw [Nat.sub_self]; decide) ?_
    refine R_gs 70 rfl ?_
    refine W_f rfl (by first | rfl | exact ⟨rfl, by first | decide | assumption | exact Or.inl rfl | exact Or.inr rfl | exact b2i_01 _⟩) ?_
    rw [hi, Nat.sub_self]; exact h1
theorem m_utters (hL : LandM h L) (hO : LandOK L) (hS : SceneM h b L S) (hV : SceneOK L S) (hb : b ≤ 880) {p : Nat} (hp : p < lP L) (h1 : Q (some (.int (utt L S p))) h) : Rc (d + 3) m_X13_utters [.ref 235, .int (nI b), .int (nI p)] h Q := by
  obtain ⟨o1, o2, o3, o4, -⟩ := id hO
  have u1 := (o4 p hp).1
  have u2 := hV.2.1 p hp
  have es := u2.2.1.ge hO
  unfold utt at h1
  refine R_in rfl rfl ?_
  refine R_gs 10 rfl ?_
  refine R_il rfl (by first | rfl | exact shO (by decide) (by omega) | exact shG (by decide) (by omega)) (by repeat (first | with_reducible apply ix_add | with_reducible apply ix_mul | with_reducible exact ix_nI _ | with_reducible exact ix_lit _ | exact rfl)) (by omega) (by first | exact hS.Y hp) ?_
  refine R_gs 14 rfl ?_
  refine R_k rfl rfl (m_kindOf hL hO hp ?_)
  refine R_gs 18 rfl ?_
  refine W_b rfl (fun hc18 => ?_) (fun hc18 => ?_)
  ·
    rw [nI_is2 (by omega)] at hc18
    rw [if_pos hc18] at h1
    refine R_gs 31 rfl ?_
    refine R_il rfl (by first | rfl | exact shO (by decide) (by omega) | exact shG (by decide) (by omega)) (by repeat (first | with_reducible apply ix_add | with_reducible apply ix_mul | with_reducible exact ix_nI _ | with_reducible exact ix_lit _ | exact rfl)) (by omega) (by first | exact hS.B hp) ?_
    refine R_gs 67 rfl ?_
    skip
    refine W_f rfl (by first | rfl | exact ⟨rfl, by first | decide | assumption | exact Or.inl rfl | exact Or.inr rfl | exact b2i_01 _⟩) ?_
    first | exact h1 | (rw [if_neg (fun hq => hc41 hq.1)] at h1; exact h1) | (rw [if_neg (fun hq => es.mpr hc45 hq.2)] at h1; exact h1) | (rw [hS.U (by omega)]; rw [if_pos ⟨hc41, Classical.byContradiction (fun hq => hc45 (es.mp hq))⟩] at h1; exact h1)
  ·
    rw [nI_is2 (by omega)] at hc18
    rw [if_neg hc18] at h1
    refine R_gs 37 rfl ?_
    refine R_k rfl rfl (m_kindOf hL hO hp ?_)
    refine R_gs 41 rfl ?_
    refine W_b rfl (fun hc41 => ?_) (fun hc41 => ?_)
    ·
      rw [nI_is3 (by omega)] at hc41
      refine R_gs 45 rfl ?_
      refine W_b rfl (fun hc45 => ?_) (fun hc45 => ?_)
      ·
        refine R_gs 67 rfl ?_
        skip
        refine W_f rfl (by first | rfl | exact ⟨rfl, by first | decide | assumption | exact Or.inl rfl | exact Or.inr rfl | exact b2i_01 _⟩) ?_
        first | exact h1 | (rw [if_neg (fun hq => hc41 hq.1)] at h1; exact h1) | (rw [if_neg (fun hq => es.mpr hc45 hq.2)] at h1; exact h1) | (rw [hS.U (by omega)]; rw [if_pos ⟨hc41, Classical.byContradiction (fun hq => hc45 (es.mp hq))⟩] at h1; exact h1)
      ·
        refine R_gs 59 rfl ?_
        refine R_il rfl (by first | rfl | exact shO (by decide) (by omega) | exact shG (by decide) (by omega)) (by repeat (first | with_reducible apply ix_add | with_reducible apply ix_mul | with_reducible exact ix_nI _ | with_reducible exact ix_lit _ | exact rfl)) (by omega) (by first | exact hS.A hp) ?_
        refine R_k rfl rfl (m_echoAt hL hO hb ?_)
        refine R_gs 67 rfl ?_
        skip
        refine W_f rfl (by first | rfl | exact ⟨rfl, by first | decide | assumption | exact Or.inl rfl | exact Or.inr rfl | exact b2i_01 _⟩) ?_
        first | exact h1 | (rw [if_neg (fun hq => hc41 hq.1)] at h1; exact h1) | (rw [if_neg (fun hq => es.mpr hc45 hq.2)] at h1; exact h1) | (rw [hS.U (by omega)]; rw [if_pos ⟨hc41, Classical.byContradiction (fun hq => hc45 (es.mp hq))⟩] at h1; exact h1)
    ·
      rw [nI_is3 (by omega)] at hc41
      refine R_gs 67 rfl ?_
      skip
      refine W_f rfl (by first | rfl | exact ⟨rfl, by first | decide | assumption | exact Or.inl rfl | exact Or.inr rfl | exact b2i_01 _⟩) ?_
      first | exact h1 | (rw [if_neg (fun hq => hc41 hq.1)] at h1; exact h1) | (rw [if_neg (fun hq => es.mpr hc45 hq.2)] at h1; exact h1) | (rw [hS.U (by omega)]; rw [if_pos ⟨hc41, Classical.byContradiction (fun hq => hc45 (es.mp hq))⟩] at h1; exact h1)
/-- what the model writes on -/
def ysc (q : Nat) : Bool := Nat.beq q 249 || Nat.beq q 250
theorem m_laysFacts (hL : LandM h L) (hO : LandOK L) (hS : SceneM h b L S) (hV : PairsOK L (sW S)) (hb : b ≤ 880) {p q : Nat} (hp : p < lP L) (hq : q < lP L) (h1 : ∀ h', Fr ysc h h' → hI h' 249 0 = nI (if p < q then lG L p q else lG L q p) → hI h' 249 1 = nI (if p < q then lG L q p else lG L p q) → hI h' 249 2 = nI (wvs (sW S) p + wvs (sW S) q) → Q none h') : Rc (d + 4) m_X13_laysFacts [.ref 235, .int (nI b), .int (nI p), .int (nI q)] h Q := by
  obtain ⟨o1, o2, o3, o4, -⟩ := id hO
  refine R_in rfl rfl ?_
  refine R_gs 2 rfl ?_
  refine W_b rfl (fun hc2 => ?_) (fun hc2 => ?_)
  ·
    rw [nI_leI (by omega) (by omega)] at hc2
    refine R_gs 14 rfl ?_
    refine W_bt rfl ((nI_leI (by omega) (by omega)).mpr hc2) ?_
    refine R_gs 34 rfl ?_
    refine R_k rfl rfl (m_likingOf hL hO (by omega) (by omega) ?_)
    refine R_is rfl (by first | rfl | exact shO (by decide) (by omega) | exact shG (by decide) (by omega)) (by repeat (first | with_reducible apply ix_add | with_reducible apply ix_mul | with_reducible exact ix_nI _ | with_reducible exact ix_lit _ | exact rfl)) (by omega) ?_
    refine R_gs 48 rfl ?_
    have g1 := (Fr.refl ysc h).wI (a := 249) (k := 0) (v := nI (if p < q then lG L p q else lG L q p)) rfl
    rw [if_neg (by omega)] at g1; have L1 := hL.fr g1 rfl rfl rfl; have S1 := hS.fr g1 rfl; refine R_k rfl rfl (m_likingOf L1 hO (by omega) (by omega) ?_)
    refine R_is rfl (by first | rfl | exact shO (by decide) (by omega) | exact shG (by decide) (by omega)) (by repeat (first | with_reducible apply ix_add | with_reducible apply ix_mul | with_reducible exact ix_nI _ | with_reducible exact ix_lit _ | exact rfl)) (by omega) ?_
    refine R_gs 60 rfl ?_
    have g2 := g1.wI (a := 249) (k := 1) (v := nI (if p < q then lG L q p else lG L p q)) rfl
    rw [if_neg (by omega)] at g2; have L2 := hL.fr g2 rfl rfl rfl; have S2 := hS.fr g2 rfl; refine R_k rfl rfl (m_wivesOf L2 hO S2 hV hb hp ?_)
    refine R_gs 66 rfl ?_
    refine R_k rfl rfl (m_wivesOf L2 hO S2 hV hb hq ?_)
    refine R_gs 70 rfl ?_
    refine R_is rfl (by first | rfl | exact shO (by decide) (by omega) | exact shG (by decide) (by omega)) (by repeat (first | with_reducible apply ix_add | with_reducible apply ix_mul | with_reducible exact ix_nI _ | with_reducible exact ix_lit _ | exact rfl)) (by omega) ?_
    refine W_f rfl (by first | rfl | exact ⟨rfl, by first | decide | assumption | exact Or.inl rfl | exact Or.inr rfl | exact b2i_01 _⟩) ?_
    rw [nI_add]; rw [if_neg (by omega), if_neg (by omega)] at h1; exact h1 _ (g2.wI rfl) rfl rfl rfl
  ·
    rw [nI_leI (by omega) (by omega)] at hc2
    refine R_gs 14 rfl ?_
    refine W_bf rfl (mt (nI_leI (by omega) (by omega)).mp hc2) ?_
    refine R_gs 34 rfl ?_
    refine R_k rfl rfl (m_likingOf hL hO (by omega) (by omega) ?_)
    refine R_is rfl (by first | rfl | exact shO (by decide) (by omega) | exact shG (by decide) (by omega)) (by repeat (first | with_reducible apply ix_add | with_reducible apply ix_mul | with_reducible exact ix_nI _ | with_reducible exact ix_lit _ | exact rfl)) (by omega) ?_
    refine R_gs 48 rfl ?_
    have g1 := (Fr.refl ysc h).wI (a := 249) (k := 0) (v := nI (if p < q then lG L p q else lG L q p)) rfl
    rw [if_pos (by omega)] at g1; have L1 := hL.fr g1 rfl rfl rfl; have S1 := hS.fr g1 rfl; refine R_k rfl rfl (m_likingOf L1 hO (by omega) (by omega) ?_)
    refine R_is rfl (by first | rfl | exact shO (by decide) (by omega) | exact shG (by decide) (by omega)) (by repeat (first | with_reducible apply ix_add | with_reducible apply ix_mul | with_reducible exact ix_nI _ | with_reducible exact ix_lit _ | exact rfl)) (by omega) ?_
    refine R_gs 60 rfl ?_
    have g2 := g1.wI (a := 249) (k := 1) (v := nI (if p < q then lG L q p else lG L p q)) rfl
    rw [if_pos (by omega)] at g2; have L2 := hL.fr g2 rfl rfl rfl; have S2 := hS.fr g2 rfl; refine R_k rfl rfl (m_wivesOf L2 hO S2 hV hb hp ?_)
    refine R_gs 66 rfl ?_
    refine R_k rfl rfl (m_wivesOf L2 hO S2 hV hb hq ?_)
    refine R_gs 70 rfl ?_
    refine R_is rfl (by first | rfl | exact shO (by decide) (by omega) | exact shG (by decide) (by omega)) (by repeat (first | with_reducible apply ix_add | with_reducible apply ix_mul | with_reducible exact ix_nI _ | with_reducible exact ix_lit _ | exact rfl)) (by omega) ?_
    refine W_f rfl (by first | rfl | exact ⟨rfl, by first | decide | assumption | exact Or.inl rfl | exact Or.inr rfl | exact b2i_01 _⟩) ?_
    rw [nI_add]; rw [if_pos (by omega), if_pos (by omega)] at h1; exact h1 _ (g2.wI rfl) rfl rfl rfl
theorem m_itCounts (hL : LandM h L) (hO : LandOK L) (hS : SceneM h b L S) (hV : PairsOK L (sW S)) (hb : b ≤ 880) {p q : Nat} (hp : p < lP L) (hq : q < lP L) (h1 : ¬ law3 L (lC L) (sW S) p q = 0 → ∀ h', Fr ysc h h' → Q (some (.int 1)) h') (h2 : law3 L (lC L) (sW S) p q = 0 → ∀ h', Fr ysc h h' → Q (some (.int 0)) h') : Rc (d + 5) m_X13_itCounts [.ref 235, .int (nI b), .int (nI p), .int (nI q)] h Q := by
  have hK := hO.2.2.2.2.1
  rcases hL.2.2.2.2.2.1 with ⟨e1, e2⟩ | ⟨k, e1, e2⟩
  ·
    refine R_in rfl rfl ?_
    refine R_gs 4 rfl ?_
    refine R_k rfl rfl (m_laysFacts hL hO hS hV hb hp hq (fun h' hf f0 f1 f2 => ?_))
    refine R_gs 12 rfl ?_
    refine R_il rfl (by first | rfl | exact shO (by decide) (by omega) | exact shG (by decide) (by omega)) (by repeat (first | with_reducible apply ix_add | with_reducible apply ix_mul | with_reducible exact ix_nI _ | with_reducible exact ix_lit _ | exact rfl)) (by omega) (by first | exact (congrFun (hf.I rfl) 3).trans e1) ?_
    refine W_bt rfl (by decide) ?_
    refine R_gs 34 rfl ?_
    refine W_f rfl (by first | rfl | exact ⟨rfl, by first | decide | assumption | exact Or.inl rfl | exact Or.inr rfl | exact b2i_01 _⟩) ?_
    exact h1 (by unfold law3; rw [e2]; show ¬ (1 : Int32) = 0; decide) _ hf
  · have hk := e2.1
    refine R_in rfl rfl ?_
    refine R_gs 4 rfl ?_
    refine R_k rfl rfl (m_laysFacts hL hO hS hV hb hp hq (fun h' hf f0 f1 f2 => ?_))
    refine R_gs 12 rfl ?_
    refine R_il rfl (by first | rfl | exact shO (by decide) (by omega) | exact shG (by decide) (by omega)) (by repeat (first | with_reducible apply ix_add | with_reducible apply ix_mul | with_reducible exact ix_nI _ | with_reducible exact ix_lit _ | exact rfl)) (by omega) (by first | exact (congrFun (hf.I rfl) 3).trans e1) ?_
    refine W_bf rfl (nI_pos (by omega)) ?_
    refine R_gs 22 rfl ?_
    refine R_il rfl (by first | rfl | exact shO (by decide) (by omega) | exact shG (by decide) (by omega)) (by repeat (first | with_reducible apply ix_add | with_reducible apply ix_mul | with_reducible exact ix_nI _ | with_reducible exact ix_lit _ | exact rfl)) (by omega) (by first | exact (congrFun (hf.I rfl) 3).trans e1) ?_
    refine R_k rfl rfl (m_worthAt (by unfold CodeM; rw [hf.I (b := 242) rfl, hf.I (b := 243) rfl]; exact e2) hK f0 f1 f2 (fun h9 hf2 => ?_))
    have hg := hf.trans (hf2.mono (fun q hq => by have := Nat.eq_of_beq_eq_true hq; subst this; rfl))
    refine W_b rfl (fun hc26 => ?_) (fun hc26 => ?_)
    ·
      refine R_gs 34 rfl ?_
      refine W_f rfl (by first | rfl | exact ⟨rfl, by first | decide | assumption | exact Or.inl rfl | exact Or.inr rfl | exact b2i_01 _⟩) ?_
      first | exact h1 hc26 _ hg | exact h2 hc26 _ hg
    ·
      refine R_gs 34 rfl ?_
      refine W_f rfl (by first | rfl | exact ⟨rfl, by first | decide | assumption | exact Or.inl rfl | exact Or.inr rfl | exact b2i_01 _⟩) ?_
      first | exact h1 hc26 _ hg | exact h2 hc26 _ hg
theorem m_partingOf (hL : LandM h L) (hO : LandOK L) (hS : SceneM h b L S) (hV : PairsOK L (sW S)) (hb : b ≤ 880) {p q : Nat} (hp : p < lP L) (hq : q < lP L) (h1 : ∀ h', Fr ysc h h' → Q (some (.int (price L (sW S) p q))) h') : Rc (d + 5) m_X13_partingOf [.ref 235, .int (nI b), .int (nI p), .int (nI q)] h Q := by
  have hK := hO.2.2.2.2.2
  rcases hL.2.2.2.2.2.2 with ⟨e1, e2⟩ | ⟨k, e1, e2⟩
  ·
    refine R_in rfl rfl ?_
    refine R_gs 4 rfl ?_
    refine R_k rfl rfl (m_laysFacts hL hO hS hV hb hp hq (fun h' hf f0 f1 f2 => ?_))
    refine R_gs 12 rfl ?_
    refine R_il rfl (by first | rfl | exact shO (by decide) (by omega) | exact shG (by decide) (by omega)) (by repeat (first | with_reducible apply ix_add | with_reducible apply ix_mul | with_reducible exact ix_nI _ | with_reducible exact ix_lit _ | exact rfl)) (by omega) (by first | exact (congrFun (hf.I rfl) 4).trans e1) ?_
    refine W_bf rfl (by decide) ?_
    refine R_gs 22 rfl ?_
    refine R_il rfl (by first | rfl | exact shO (by decide) (by omega) | exact shG (by decide) (by omega)) (by repeat (first | with_reducible apply ix_add | with_reducible apply ix_mul | with_reducible exact ix_nI _ | with_reducible exact ix_lit _ | exact rfl)) (by omega) (by first | exact f0) ?_
    refine R_gs 29 rfl ?_
    refine R_il rfl (by first | rfl | exact shO (by decide) (by omega) | exact shG (by decide) (by omega)) (by repeat (first | with_reducible apply ix_add | with_reducible apply ix_mul | with_reducible exact ix_nI _ | with_reducible exact ix_lit _ | exact rfl)) (by omega) (by first | exact f1) ?_
    refine R_gs 48 rfl ?_
    refine W_b rfl (fun hc48 => ?_) (fun hc48 => ?_)
    ·
      refine R_gs 60 rfl ?_
      refine W_b rfl (fun hc60 => ?_) (fun hc60 => ?_)
      ·
        refine R_gs 71 rfl ?_
        refine W_f rfl (by first | rfl | exact ⟨rfl, by first | decide | assumption | exact Or.inl rfl | exact Or.inr rfl | exact b2i_01 _⟩) ?_
        have h1' := h1 _ hf; unfold price law3 clampP at h1'; rw [e2, xw_df] at h1'; first | (rw [if_pos (Int32.not_le.mp hc48)] at h1'; exact h1') | (rw [if_neg (Int32.not_lt.mpr hc48), if_pos (Int32.not_le.mp hc60)] at h1'; exact h1') | (rw [if_neg (Int32.not_lt.mpr hc48), if_neg (Int32.not_lt.mpr hc60)] at h1'; exact h1')
      ·
        refine R_gs 71 rfl ?_
        refine W_f rfl (by first | rfl | exact ⟨rfl, by first | decide | assumption | exact Or.inl rfl | exact Or.inr rfl | exact b2i_01 _⟩) ?_
        have h1' := h1 _ hf; unfold price law3 clampP at h1'; rw [e2, xw_df] at h1'; first | (rw [if_pos (Int32.not_le.mp hc48)] at h1'; exact h1') | (rw [if_neg (Int32.not_lt.mpr hc48), if_pos (Int32.not_le.mp hc60)] at h1'; exact h1') | (rw [if_neg (Int32.not_lt.mpr hc48), if_neg (Int32.not_lt.mpr hc60)] at h1'; exact h1')
    ·
      refine R_gs 71 rfl ?_
      refine W_f rfl (by first | rfl | exact ⟨rfl, by first | decide | assumption | exact Or.inl rfl | exact Or.inr rfl | exact b2i_01 _⟩) ?_
      have h1' := h1 _ hf; unfold price law3 clampP at h1'; rw [e2, xw_df] at h1'; first | (rw [if_pos (Int32.not_le.mp hc48)] at h1'; exact h1') | (rw [if_neg (Int32.not_lt.mpr hc48), if_pos (Int32.not_le.mp hc60)] at h1'; exact h1') | (rw [if_neg (Int32.not_lt.mpr hc48), if_neg (Int32.not_lt.mpr hc60)] at h1'; exact h1')
  · have hk := e2.1
    refine R_in rfl rfl ?_
    refine R_gs 4 rfl ?_
    refine R_k rfl rfl (m_laysFacts hL hO hS hV hb hp hq (fun h' hf f0 f1 f2 => ?_))
    refine R_gs 12 rfl ?_
    refine R_il rfl (by first | rfl | exact shO (by decide) (by omega) | exact shG (by decide) (by omega)) (by repeat (first | with_reducible apply ix_add | with_reducible apply ix_mul | with_reducible exact ix_nI _ | with_reducible exact ix_lit _ | exact rfl)) (by omega) (by first | exact (congrFun (hf.I rfl) 4).trans e1) ?_
    refine W_bt rfl (nI_pos' (by omega)) ?_
    refine R_gs 40 rfl ?_
    refine R_il rfl (by first | rfl | exact shO (by decide) (by omega) | exact shG (by decide) (by omega)) (by repeat (first | with_reducible apply ix_add | with_reducible apply ix_mul | with_reducible exact ix_nI _ | with_reducible exact ix_lit _ | exact rfl)) (by omega) (by first | exact (congrFun (hf.I rfl) 4).trans e1) ?_
    refine R_k rfl rfl (m_worthAt (by unfold CodeM; rw [hf.I (b := 242) rfl, hf.I (b := 243) rfl]; exact e2) hK f0 f1 f2 (fun h9 hf2 => ?_))
    refine R_gs 48 rfl ?_
    have hg := hf.trans (hf2.mono (fun q hq => by have := Nat.eq_of_beq_eq_true hq; subst this; rfl))
    refine W_b rfl (fun hc48 => ?_) (fun hc48 => ?_)
    ·
      refine R_gs 60 rfl ?_
      refine W_b rfl (fun hc60 => ?_) (fun hc60 => ?_)
      ·
        refine R_gs 71 rfl ?_
        refine W_f rfl (by first | rfl | exact ⟨rfl, by first | decide | assumption | exact Or.inl rfl | exact Or.inr rfl | exact b2i_01 _⟩) ?_
        have h1' := h1 _ hg; unfold price law3 clampP at h1'; first | (rw [if_pos (Int32.not_le.mp hc48)] at h1'; exact h1') | (rw [if_neg (Int32.not_lt.mpr hc48), if_pos (Int32.not_le.mp hc60)] at h1'; exact h1') | (rw [if_neg (Int32.not_lt.mpr hc48), if_neg (Int32.not_lt.mpr hc60)] at h1'; exact h1')
      ·
        refine R_gs 71 rfl ?_
        refine W_f rfl (by first | rfl | exact ⟨rfl, by first | decide | assumption | exact Or.inl rfl | exact Or.inr rfl | exact b2i_01 _⟩) ?_
        have h1' := h1 _ hg; unfold price law3 clampP at h1'; first | (rw [if_pos (Int32.not_le.mp hc48)] at h1'; exact h1') | (rw [if_neg (Int32.not_lt.mpr hc48), if_pos (Int32.not_le.mp hc60)] at h1'; exact h1') | (rw [if_neg (Int32.not_lt.mpr hc48), if_neg (Int32.not_lt.mpr hc60)] at h1'; exact h1')
    ·
      refine R_gs 71 rfl ?_
      refine W_f rfl (by first | rfl | exact ⟨rfl, by first | decide | assumption | exact Or.inl rfl | exact Or.inr rfl | exact b2i_01 _⟩) ?_
      have h1' := h1 _ hg; unfold price law3 clampP at h1'; first | (rw [if_pos (Int32.not_le.mp hc48)] at h1'; exact h1') | (rw [if_neg (Int32.not_lt.mpr hc48), if_pos (Int32.not_le.mp hc60)] at h1'; exact h1') | (rw [if_neg (Int32.not_lt.mpr hc48), if_neg (Int32.not_lt.mpr hc60)] at h1'; exact h1')
end
