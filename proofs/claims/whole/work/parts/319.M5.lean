/-- the model's own numbers are as they were, but for one -/
def FldX (x : Nat) (h h' : AH) : Prop := ∀ k, k ≠ x → hI h' 235 k = hI h 235 k
/-- a scene of the model's was copied -/
theorem SceneM.cp {h h' : AH} {f t : Nat} {L : SL} {S : SS} (hO : LandOK L) (hS : SceneM h f L S) (e : ∀ k, k < 34 → hI h' 251 (t + k) = hI h 251 (f + k)) : SceneM h' t L S := by
  have o3 := hO.2.2.1
  obtain ⟨e1, e2, e3, e4, e5, e6⟩ := hS
  refine ⟨(e 0 (by omega)).trans e1, (e 1 (by omega)).trans e2, (e 2 (by omega)).trans e3, (e 3 (by omega)).trans e4, fun p hp => ⟨?_, ?_, ?_⟩, fun s hs => ?_⟩
  · rw [Nat.add_assoc, e (4 + p) (by omega), ← Nat.add_assoc]; exact (e5 p hp).1
  · rw [Nat.add_assoc, e (10 + p) (by omega), ← Nat.add_assoc]; exact (e5 p hp).2.1
  · rw [Nat.add_assoc, e (16 + p) (by omega), ← Nat.add_assoc]; exact (e5 p hp).2.2
  · rw [← e6 s hs]
    refine ecG_cong _ _ (fun i hi => ⟨?_, ?_⟩)
    · rw [Nat.add_assoc, e (22 + i) (by omega), ← Nat.add_assoc]
    · rw [Nat.add_assoc, e (28 + i) (by omega), ← Nat.add_assoc]
theorem SceneM.only {h h' : AH} {b b' n : Nat} {L : SL} {S : SS} (hO : LandOK L) (hS : SceneM h b L S) (ho : Only b' n h h') (hd : b + 34 ≤ b' ∨ b' + n ≤ b) : SceneM h' b L S := hS.cp hO (fun k hk => ho _ (by omega))
section
variable {d b : Nat} {h : AH} {L : SL} {S : SS} {Q : Option Value → AH → Prop}
theorem m_partsTwo (hL : LandM h L) (hO : LandOK L) (hS : SceneM h b L S) (hV : SceneOK L S) (hb : b ≤ 880) {p q : Nat} (hp : p < lP L) (hq : q < lP L) (hpq : p ≠ q) (h1 : ∀ h', Fr yst h h' → Only b 34 h h' → SceneM h' b L (sepS L S p q) → Q (some (.int (price L (sW S) p q))) h') : Rc (d + 6) m_X13_partsTwo [.ref 235, .int (nI b), .int (nI p), .int (nI q)] h Q := by
  obtain ⟨o1, o2, o3, o4, -⟩ := id hO
  have hk := pr_lt p (by omega) q (by omega) hpq
  refine R_in rfl rfl ?_
  refine R_gs 4 rfl ?_
  refine R_k rfl rfl (m_partingOf hL hO hS hV.1 hb hp hq (fun h' hf => ?_))
  refine R_gs 17 rfl ?_
  have hS' := hS.fr hf rfl
  refine R_il rfl (by first | rfl | exact shO (by decide) (by omega) | exact shG (by decide) (by omega)) (by repeat (first | with_reducible apply ix_add | with_reducible apply ix_mul | with_reducible exact ix_nI _ | with_reducible exact ix_lit _ | exact rfl)) (by omega) (by first | exact hS'.W) ?_
  refine R_gs 21 rfl ?_
  refine R_k rfl rfl (m_pairOf (by omega) (by omega) hpq ?_)
  refine R_gs 28 rfl ?_
  rw [one_shl _ (by omega)]
  refine R_is rfl (by first | rfl | exact shO (by decide) (by omega) | exact shG (by decide) (by omega)) (by repeat (first | with_reducible apply ix_add | with_reducible apply ix_mul | with_reducible exact ix_nI _ | with_reducible exact ix_lit _ | exact rfl)) (by omega) ?_
  refine R_gs 37 rfl ?_
  refine R_il rfl (by first | rfl | exact shO (by decide) (by omega) | exact shG (by decide) (by omega)) (by repeat (first | with_reducible apply ix_add | with_reducible apply ix_mul | with_reducible exact ix_nI _ | with_reducible exact ix_lit _ | exact rfl)) (by omega) (by first | exact (show hI (wI h' 251 (b + 1) (sW S &&& (nI (2 ^ pr p q) ^^^ -1))) 251 (b + 3) = sD S from by rw [wI_at, if_neg (by omega)]; exact hS'.D)) ?_
  refine R_gs 41 rfl ?_
  refine R_is rfl (by first | rfl | exact shO (by decide) (by omega) | exact shG (by decide) (by omega)) (by repeat (first | with_reducible apply ix_add | with_reducible apply ix_mul | with_reducible exact ix_nI _ | with_reducible exact ix_lit _ | exact rfl)) (by omega) ?_
  refine R_gs 44 rfl ?_
  refine W_f rfl (by first | rfl | exact ⟨rfl, by first | decide | assumption | exact Or.inl rfl | exact Or.inr rfl | exact b2i_01 _⟩) ?_
  refine h1 _ ((hf.yst.wI rfl).wI rfl) ((((Only.refl b 34 h).fr hf rfl).w (by omega) _).w (by omega) _) ?_
  obtain ⟨e1, e2, e3, e4, e5, e6⟩ := hS'
  refine ⟨?_, ?_, ?_, ?_, fun i hi => ⟨?_, ?_, ?_⟩, fun s hs => ?_⟩
  · rw [wI_at, if_neg (by omega), wI_at, if_neg (by omega)]; exact e1
  · rw [wI_at, if_neg (by omega), wI_at, if_pos rfl]; rfl
  · rw [wI_at, if_neg (by omega), wI_at, if_neg (by omega)]; exact e3
  · rw [wI_at, if_pos rfl]; rfl
  · rw [wI_at, if_neg (by omega), wI_at, if_neg (by omega)]; exact (e5 i hi).1
  · rw [wI_at, if_neg (by omega), wI_at, if_neg (by omega)]; exact (e5 i hi).2.1
  · rw [wI_at, if_neg (by omega), wI_at, if_neg (by omega)]; exact (e5 i hi).2.2
  · exact Eq.trans (ecG_cong _ _ (fun i hi => ⟨by rw [wI_at, if_neg (by omega), wI_at, if_neg (by omega)], by rw [wI_at, if_neg (by omega), wI_at, if_neg (by omega)]⟩)) (e6 s hs)
theorem m_copies {f t n : Nat} (hf : f + n ≤ 920) (ht : t + n ≤ 920) (hd : f + n ≤ t ∨ t + n ≤ f) (h1 : ∀ h', Fr (fun q => Nat.beq q 251) h h' → Only t n h h' → (∀ k, k < n → hI h' 251 (t + k) = hI h 251 (f + k)) → Q none h') : Rc (d + 1) m_X13_copies [.ref 235, .int (nI f), .int (nI t), .int (nI n)] h Q := by
  refine R_in rfl rfl ?_
  refine R_gs 3 rfl ?_
  refine w_inv (W := fun j (s : AH) => Rw d Q (m_X13_copies, 3, [_, _, _, _, some (.int (nI j))], [], 262, s)) n (fun j s => Fr (fun q => Nat.beq q 251) h s ∧ Only t n h s ∧ ∀ k, k < j → hI s 251 (t + k) = hI h 251 (f + k)) (s0 := h) ⟨Fr.refl _ h, Only.refl _ _ h, fun k hk => absurd hk (by omega)⟩ (fun j s hj hi w => ?_) (fun s hi => ?_)
  ·
    refine R_gs 6 rfl ?_
    refine W_bf rfl (ltc hj (by omega)) ?_
    refine R_gs 25 rfl ?_
    refine R_il rfl (by first | rfl | exact shO (by decide) (by omega) | exact shG (by decide) (by omega)) (by repeat (first | with_reducible apply ix_add | with_reducible apply ix_mul | with_reducible exact ix_nI _ | with_reducible exact ix_lit _ | exact rfl)) (by omega) (by first | exact (hi.2.1 (f + j) (by omega))) ?_
    refine R_is rfl (by first | rfl | exact shO (by decide) (by omega) | exact shG (by decide) (by omega)) (by repeat (first | with_reducible apply ix_add | with_reducible apply ix_mul | with_reducible exact ix_nI _ | with_reducible exact ix_lit _ | exact rfl)) (by omega) ?_
    refine R_gs 3 rfl ?_
    rw [nI_1]; exact w _ ⟨hi.1.wI rfl, hi.2.1.w (by omega) _, fun k hk => by { rw [wI_at]; by_cases e : k = j; { subst e; rw [if_pos rfl] }; { rw [if_neg (by omega)]; exact hi.2.2 k (by omega) } }⟩
  ·
    refine R_gs 6 rfl ?_
    refine W_bt rfl (gec (by omega)) ?_
    refine W_f rfl (by first | rfl | exact ⟨rfl, by first | decide | assumption | exact Or.inl rfl | exact Or.inr rfl | exact b2i_01 _⟩) ?_
    exact h1 _ hi.1 hi.2.1 hi.2.2
/-- while the model lays a start -/
def SI (b : Nat) (h : AH) (L : SL) (j : Nat) (s : AH) : Prop := Fr (fun q => Nat.beq q 251) h s ∧ Only b 34 h s ∧ ((∀ k, k < 4 → k ≠ 2 → hI s 251 (b + k) = 0) ∧ hI s 251 (b + 2) = lE L) ∧ ∀ k, k < j → hI s 251 (b + 4 + k) = hI h 241 (8 + 3 * k + 1) ∧ hI s 251 (b + 10 + k) = -1 ∧ hI s 251 (b + 16 + k) = -1 ∧ hI s 251 (b + 22 + k) = -1
theorem SI.next {j : Nat} {s : AH} (hj : j < 6) (m : SI b h L j s) : SI b h L (j + 1) (wI (wI (wI (wI (wI s 251 (b + 4 + j) (hI h 241 (8 + 3 * j + 1))) 251 (b + 10 + j) (-1)) 251 (b + 16 + j) (-1)) 251 (b + 22 + j) (-1)) 251 (b + 28 + j) (-1)) := by
  obtain ⟨i1, i2, i3, i4⟩ := m
  refine ⟨((((i1.wI rfl).wI rfl).wI rfl).wI rfl).wI rfl, ((((i2.w (by omega) _).w (by omega) _).w (by omega) _).w (by omega) _).w (by omega) _, ⟨fun k hk h2 => ?_, ?_⟩, fun k hk => ?_⟩
  · simp only [wI_at]; rw [if_neg (by omega), if_neg (by omega), if_neg (by omega), if_neg (by omega), if_neg (by omega)]; exact i3.1 k hk h2
  · simp only [wI_at]; rw [if_neg (by omega), if_neg (by omega), if_neg (by omega), if_neg (by omega), if_neg (by omega)]; exact i3.2
  · simp only [wI_at]
    by_cases e : k = j
    · subst e
      refine ⟨?_, ?_, ?_, ?_⟩
      · rw [if_neg (by omega), if_neg (by omega), if_neg (by omega), if_neg (by omega), if_pos rfl]
      · rw [if_neg (by omega), if_neg (by omega), if_neg (by omega), if_pos rfl]
      · rw [if_neg (by omega), if_neg (by omega), if_pos rfl]
      · rw [if_neg (by omega), if_pos rfl]
    · have g := i4 k (by omega)
      refine ⟨?_, ?_, ?_, ?_⟩
      · rw [if_neg (by omega), if_neg (by omega), if_neg (by omega), if_neg (by omega), if_neg (by omega)]; exact g.1
      · rw [if_neg (by omega), if_neg (by omega), if_neg (by omega), if_neg (by omega), if_neg (by omega)]; exact g.2.1
      · rw [if_neg (by omega), if_neg (by omega), if_neg (by omega), if_neg (by omega), if_neg (by omega)]; exact g.2.2.1
      · rw [if_neg (by omega), if_neg (by omega), if_neg (by omega), if_neg (by omega), if_neg (by omega)]; exact g.2.2.2
theorem ecG_none {u t : Nat → Int32} {s : Int32} : ∀ k j, (∀ i, i < j + k → u i = -1) → ecG u t s j k = -1
  | 0, _, _ => rfl
  | k + 1, j, h => by
    rw [ecG_ne (fun hq => by rw [h j (by omega)] at hq; exact absurd hq.2 (by decide))]
    exact ecG_none k (j + 1) (fun i hi => h i (by omega))
theorem m_starts (hL : LandM h L) (hO : LandOK L) (hb : b ≤ 880) (h1 : ∀ h', Fr (fun q => Nat.beq q 251) h h' → Only b 34 h h' → SceneM h' b L (begS L) → Q none h') : Rc (d + 1) m_X13_starts [.ref 235, .int (nI b)] h Q := by
  obtain ⟨o1, o2, o3, o4, -⟩ := id hO
  refine R_in rfl rfl ?_
  refine R_gs 2 rfl ?_
  refine w_inv (W := fun j (s : AH) => Rw d Q (m_X13_starts, 2, [_, _, some (.int (nI j))], [], 262, s)) 34 (fun j s => Fr (fun q => Nat.beq q 251) h s ∧ Only b 34 h s ∧ ∀ k, k < j → hI s 251 (b + k) = 0) (s0 := h) ⟨Fr.refl _ h, Only.refl _ _ h, fun k hk => absurd hk (by omega)⟩ (fun j s hj hi w => ?_) (fun s hi => ?_)
  ·
    refine R_gs 5 rfl ?_
    refine W_bf rfl (ltc (N := 34) hj (by omega)) ?_
    refine R_gs 16 rfl ?_
    refine R_is rfl (by first | rfl | exact shO (by decide) (by omega) | exact shG (by decide) (by omega)) (by repeat (first | with_reducible apply ix_add | with_reducible apply ix_mul | with_reducible exact ix_nI _ | with_reducible exact ix_lit _ | exact rfl)) (by omega) ?_
    refine R_gs 2 rfl ?_
    rw [nI_1]; exact w _ ⟨hi.1.wI rfl, hi.2.1.w (by omega) _, fun k hk => by { rw [wI_at]; by_cases e : k = j; { rw [if_pos (by omega)] }; { rw [if_neg (by omega)]; exact hi.2.2 k (by omega) } }⟩
  ·
    refine R_gs 5 rfl ?_
    refine W_bt rfl (gec (N := 34) (by omega)) ?_
    refine R_gs 35 rfl ?_
    refine R_il rfl (by first | rfl | exact shO (by decide) (by omega) | exact shG (by decide) (by omega)) (by repeat (first | with_reducible apply ix_add | with_reducible apply ix_mul | with_reducible exact ix_nI _ | with_reducible exact ix_lit _ | exact rfl)) (by omega) (by first | exact ((congrFun (hi.1.I rfl) 5).trans hL.E)) ?_
    refine R_is rfl (by first | rfl | exact shO (by decide) (by omega) | exact shG (by decide) (by omega)) (by repeat (first | with_reducible apply ix_add | with_reducible apply ix_mul | with_reducible exact ix_nI _ | with_reducible exact ix_lit _ | exact rfl)) (by omega) ?_
    refine R_gs 39 rfl ?_
    obtain ⟨i1, i2, i3⟩ := hi
    have i3' : ∀ k, k < 4 → k ≠ 2 → hI (wI s 251 (b + 2) (lE L)) 251 (b + k) = 0 := fun k hk h2 => by rw [wI_at, if_neg (by omega)]; exact i3 k (by omega)
    refine w_inv (W := fun j (s : AH) => Rw d Q (m_X13_starts, 39, [_, _, some (.int (nI j))], [], 262, s)) 6 (SI b h L) (s0 := wI s 251 (b + 2) (lE L)) ⟨i1.wI rfl, i2.w (by omega) _, ⟨i3', by rw [wI_at, if_pos rfl]⟩, fun k hk => absurd hk (by omega)⟩ (fun j s hj hi w => ?_) (fun s hi => ?_)
    ·
      refine R_gs 42 rfl ?_
      refine W_bf rfl (ltc (N := 6) hj (by omega)) ?_
      refine R_gs 66 rfl ?_
      refine R_il rfl (by first | rfl | exact shO (by decide) (by omega) | exact shG (by decide) (by omega)) (by repeat (first | with_reducible apply ix_add | with_reducible apply ix_mul | with_reducible exact ix_nI _ | with_reducible exact ix_lit _ | exact rfl)) (by omega) (by first | exact (congrFun (hi.1.I rfl) _)) ?_
      refine R_is rfl (by first | rfl | exact shO (by decide) (by omega) | exact shG (by decide) (by omega)) (by repeat (first | with_reducible apply ix_add | with_reducible apply ix_mul | with_reducible exact ix_nI _ | with_reducible exact ix_lit _ | exact rfl)) (by omega) ?_
      refine R_gs 79 rfl ?_
      refine R_is rfl (by first | rfl | exact shO (by decide) (by omega) | exact shG (by decide) (by omega)) (by repeat (first | with_reducible apply ix_add | with_reducible apply ix_mul | with_reducible exact ix_nI _ | with_reducible exact ix_lit _ | exact rfl)) (by omega) ?_
      refine R_gs 91 rfl ?_
      refine R_is rfl (by first | rfl | exact shO (by decide) (by omega) | exact shG (by decide) (by omega)) (by repeat (first | with_reducible apply ix_add | with_reducible apply ix_mul | with_reducible exact ix_nI _ | with_reducible exact ix_lit _ | exact rfl)) (by omega) ?_
      refine R_gs 103 rfl ?_
      refine R_is rfl (by first | rfl | exact shO (by decide) (by omega) | exact shG (by decide) (by omega)) (by repeat (first | with_reducible apply ix_add | with_reducible apply ix_mul | with_reducible exact ix_nI _ | with_reducible exact ix_lit _ | exact rfl)) (by omega) ?_
      refine R_gs 115 rfl ?_
      refine R_is rfl (by first | rfl | exact shO (by decide) (by omega) | exact shG (by decide) (by omega)) (by repeat (first | with_reducible apply ix_add | with_reducible apply ix_mul | with_reducible exact ix_nI _ | with_reducible exact ix_lit _ | exact rfl)) (by omega) ?_
      refine R_gs 39 rfl ?_
      rw [nI_1]; exact w _ (hi.next hj)
    ·
      refine R_gs 42 rfl ?_
      refine W_bt rfl (gec (N := 6) (by omega)) ?_
      refine W_f rfl (by first | rfl | exact ⟨rfl, by first | decide | assumption | exact Or.inl rfl | exact Or.inr rfl | exact b2i_01 _⟩) ?_
      obtain ⟨i1, i2, i3, i4⟩ := hi
      refine h1 _ i1 i2 ⟨i3.1 0 (by omega) (by omega), i3.1 1 (by omega) (by omega), i3.2, i3.1 3 (by omega) (by omega), fun p hp => ⟨(i4 p (by omega)).1.trans (hL.H hp), (i4 p (by omega)).2.1, (i4 p (by omega)).2.2.1⟩, fun s' hs' => ?_⟩
      exact ecG_none _ _ (fun i hi => (i4 i (by omega)).2.2.2)
end
