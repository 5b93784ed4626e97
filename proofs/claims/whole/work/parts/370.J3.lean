section
variable {d b : Nat} {h h' : AH} {L : SL} {S : SS} {H : SH'} {B : SB'} {M : SM'} {D : SD'} {T : ST'} {N : SN'} {Q : Option Value → AH → Prop}
theorem SceneM.yb {k j : Nat} {v : Int32} (hO : LandOK L) (hS : SceneM h b L S) (hk : k < lP L) (ej : j = b + 10 + k) : SceneM (wI h 251 j v) b L (setY S k v) := by
  subst ej
  have o3 := hO.2.2.1
  obtain ⟨e1, e2, e3, e4, e5, e6⟩ := hS
  refine ⟨by rw [wI_at, if_neg (by omega)]; exact e1, by rw [wI_at, if_neg (by omega)]; exact e2, by rw [wI_at, if_neg (by omega)]; exact e3, by rw [wI_at, if_neg (by omega)]; exact e4, fun p hp => ⟨by rw [wI_at, if_neg (by omega)]; exact (e5 p hp).1, ?_, by rw [wI_at, if_neg (by omega)]; exact (e5 p hp).2.2⟩, fun s hs => ?_⟩
  · rw [wI_at]
    show _ = if p = k then v else sY S p
    by_cases e : p = k
    · rw [if_pos (by omega), if_pos e]
    · rw [if_neg (by omega), if_neg e]; exact (e5 p hp).2.1
  · exact Eq.trans (ecG_cong _ _ (fun i hi => ⟨by rw [wI_at, if_neg (by omega)], by rw [wI_at, if_neg (by omega)]⟩)) (e6 s hs)
theorem SceneM.ab {k j v : Nat} (hO : LandOK L) (hS : SceneM h b L S) (hk : k < lP L) (ej : j = b + 4 + k) : SceneM (wI h 251 j (nI v)) b L (setA S k v) := by
  subst ej
  have o3 := hO.2.2.1
  obtain ⟨e1, e2, e3, e4, e5, e6⟩ := hS
  refine ⟨by rw [wI_at, if_neg (by omega)]; exact e1, by rw [wI_at, if_neg (by omega)]; exact e2, by rw [wI_at, if_neg (by omega)]; exact e3, by rw [wI_at, if_neg (by omega)]; exact e4, fun p hp => ⟨?_, by rw [wI_at, if_neg (by omega)]; exact (e5 p hp).2.1, by rw [wI_at, if_neg (by omega)]; exact (e5 p hp).2.2⟩, fun s hs => ?_⟩
  · rw [wI_at]
    show _ = nI (if p = k then v else sA S p)
    by_cases e : p = k
    · rw [if_pos (by omega), if_pos e]
    · rw [if_neg (by omega), if_neg e]; exact (e5 p hp).1
  · exact Eq.trans (ecG_cong _ _ (fun i hi => ⟨by rw [wI_at, if_neg (by omega)], by rw [wI_at, if_neg (by omega)]⟩)) (e6 s hs)
theorem SceneM.eb {j : Nat} {v : Int32} (hO : LandOK L) (hS : SceneM h b L S) (ej : j = b + 2) : SceneM (wI h 251 j v) b L (setE S v) := by
  subst ej
  have o3 := hO.2.2.1
  obtain ⟨e1, e2, e3, e4, e5, e6⟩ := hS
  refine ⟨by rw [wI_at, if_neg (by omega)]; exact e1, by rw [wI_at, if_neg (by omega)]; exact e2, by rw [wI_at, if_pos (by omega)]; rfl, by rw [wI_at, if_neg (by omega)]; exact e4, fun p hp => ⟨by rw [wI_at, if_neg (by omega)]; exact (e5 p hp).1, by rw [wI_at, if_neg (by omega)]; exact (e5 p hp).2.1, by rw [wI_at, if_neg (by omega)]; exact (e5 p hp).2.2⟩, fun s hs => ?_⟩
  exact Eq.trans (ecG_cong _ _ (fun i hi => ⟨by rw [wI_at, if_neg (by omega)], by rw [wI_at, if_neg (by omega)]⟩)) (e6 s hs)
/-- behind the scenes -/
theorem RM.tri {X : Nat → Bool} (W : WOK L S H B M D T N) (c : RM h L S H B M D T N) (f : Fr X h h') (hX : X 236 = false ∧ X 241 = false ∧ X 242 = false ∧ X 243 = false ∧ X 244 = false ∧ X 246 = false ∧ X 248 = false ∧ X 252 = false) (e2 : hI h' 235 2 = hI h 235 2) (e18 : hI h' 235 18 = hI h 235 18) (e25 : hI h' 235 25 = hI h 235 25) (o : Only 840 80 h h') : RM h' L S H B M D T N := by
  obtain ⟨x1, x2, x3, x4, x5, x6, x7, x8⟩ := hX
  obtain ⟨c1, c2, c3, c4, c5, c6, c7, c8⟩ := c
  have hO := W.1
  have hB := W.2.2.2.1.1
  refine ⟨c1.fr f x2 x3 x4, c2.only hO o (by omega), c3.only W.2.2.1.1 o (by omega), ⟨e25.trans c4.1, fun k hk => (c4.2 k hk).only hO o (by omega)⟩, fun m hm => ?_, c6.fr f x7, c7.fr f e2 x1, c8.fr f e18 x5 x6⟩
  rw [f.I x8]
  refine ⟨(c5 m hm).1, fun U hU => ⟨((c5 m hm).2 U hU).1.only hO o (by omega), ((c5 m hm).2 U hU).2.only ((W.2.2.2.2.1 m hm U hU).2.1) o (by omega)⟩⟩
theorem setE_same {S : SS} {k : Nat} (hk : k < 31) (h : bt (sE S) k = true) : setE S (sE S ||| nI (2 ^ k)) = S := by
  have : sE S ||| nI (2 ^ k) = sE S := by
    apply b_ext
    intro i hi
    rw [pb_or hk hi]
    by_cases e : i = k
    · rw [e, h]; rfl
    · rw [decide_eq_false e, Bool.or_false]
  rw [this]; rfl
theorem m_does (hL : LandM h L) (hO : LandOK L) (hS : SceneM h 840 L S) (hV : SceneOK L S) {l : Nat × Nat × Nat} (hl : LineOK L l) (h5 : l.1 ≠ 5) (h1 : ∀ h', Fr yst h h' → Only 840 34 h h' → SceneM h' 840 L (lnS L S l) → Q (some (.int (b2i (lnB S l)))) h') : Rc (d + 7) m_X13_does [.ref 235, .int (nI l.1), .int (nI l.2.1), .int (nI l.2.2)] h Q := by
  obtain ⟨o1, o2, o3, o4, -⟩ := id hO
  obtain ⟨l1, l2, l3, l4, l5, -⟩ := hl
  have hp := l2 h5
  obtain ⟨t, p, v⟩ := l
  dsimp only at *
  unfold lnS lnB at h1
  dsimp only at h1
  have v1 := (hV.2.1 p hp).1
  rcases (by omega : t = 0 ∨ t = 1 ∨ t = 2 ∨ t = 3 ∨ t = 4) with rfl | rfl | rfl | rfl | rfl
  ·
    refine R_in rfl rfl ?_
    refine R_gs 2 rfl ?_
    refine W_bf rfl ((by decide)) ?_
    refine R_gs 29 rfl ?_
    refine W_bf rfl ((by decide)) ?_
    refine R_gs 46 rfl ?_
    refine W_bf rfl ((by decide)) ?_
    refine R_gs 70 rfl ?_
    refine W_bf rfl (by decide) ?_
    refine R_gs 75 rfl ?_
    refine W_bf rfl ((by decide)) ?_
    refine R_gs 88 rfl ?_
    refine W_bt rfl ((by decide)) ?_
    refine R_gs 96 rfl ?_
    refine R_is rfl (by first | rfl | exact shO (by decide) (by omega) | exact shG (by decide) (by omega)) (by repeat (first | with_reducible apply ix_add | with_reducible apply ix_mul | with_reducible exact ix_nI _ | with_reducible exact ix_lit _ | exact rfl)) (by omega) ?_
    refine R_gs 177 rfl ?_
    refine W_f rfl (by first | rfl | exact ⟨rfl, by first | decide | assumption | exact Or.inl rfl | exact Or.inr rfl | exact b2i_01 _⟩) ?_
    exact h1 _ ((Fr.refl _ h).wI rfl) ((Only.refl 840 34 h).w (by omega) _) (hS.yb hO hp (j := 850 + p) (by omega))
  ·
    refine R_in rfl rfl ?_
    refine R_gs 2 rfl ?_
    refine W_bf rfl ((by decide)) ?_
    refine R_gs 29 rfl ?_
    refine W_bf rfl ((by decide)) ?_
    refine R_gs 46 rfl ?_
    refine W_bf rfl ((by decide)) ?_
    refine R_gs 70 rfl ?_
    refine W_bf rfl (by decide) ?_
    refine R_gs 75 rfl ?_
    refine W_bf rfl ((by decide)) ?_
    refine R_gs 88 rfl ?_
    refine W_bf rfl ((by decide)) ?_
    refine R_gs 96 rfl ?_
    refine R_is rfl (by first | rfl | exact shO (by decide) (by omega) | exact shG (by decide) (by omega)) (by repeat (first | with_reducible apply ix_add | with_reducible apply ix_mul | with_reducible exact ix_nI _ | with_reducible exact ix_lit _ | exact rfl)) (by omega) ?_
    refine R_gs 177 rfl ?_
    refine W_f rfl (by first | rfl | exact ⟨rfl, by first | decide | assumption | exact Or.inl rfl | exact Or.inr rfl | exact b2i_01 _⟩) ?_
    exact h1 _ ((Fr.refl _ h).wI rfl) ((Only.refl 840 34 h).w (by omega) _) (hS.yb hO hp (j := 850 + p) (by omega))
  ·
    refine R_in rfl rfl ?_
    refine R_gs 2 rfl ?_
    refine W_bt rfl ((by decide)) ?_
    refine R_gs 14 rfl ?_
    refine R_il rfl rfl (ix_add (ix_lit _) rfl) (by omega) ((congrArg (hI h 251) (by omega : 844 + p = 840 + 4 + p)).trans (hS.A hp)) ?_
    refine R_gs 16 rfl ?_
    refine W_b rfl (fun hc16 => ?_) (fun hc16 => ?_)
    ·
      rw [nI_eq (by omega) (by have := l4 rfl; omega)] at hc16
      refine R_gs 70 rfl ?_
      refine W_bt rfl (by decide) ?_
      refine R_gs 102 rfl ?_
      refine W_bt rfl (by decide) ?_
      refine R_gs 126 rfl ?_
      refine W_bt rfl (by decide) ?_
      refine R_gs 149 rfl ?_
      refine W_bt rfl (by decide) ?_
      refine R_gs 177 rfl ?_
      refine W_f rfl (by first | rfl | exact ⟨rfl, by first | decide | assumption | exact Or.inl rfl | exact Or.inr rfl | exact b2i_01 _⟩) ?_
      have e : b2i (!decide (sA S p = v)) = 0 := (by rw [decide_eq_true hc16]; rfl)
      have := h1 h (Fr.refl _ h) (Only.refl _ _ h) (by subst hc16; rw [if_pos rfl, setA_same]; exact hS)
      rw [if_pos rfl, e] at this; exact this
    ·
      rw [nI_eq (by omega) (by have := l4 rfl; omega)] at hc16
      refine R_gs 70 rfl ?_
      refine W_bf rfl (by decide) ?_
      refine R_gs 75 rfl ?_
      refine W_bt rfl ((by decide)) ?_
      refine R_gs 102 rfl ?_
      refine W_bf rfl (by decide) ?_
      refine R_gs 107 rfl ?_
      refine W_bt rfl ((by decide)) ?_
      refine R_gs 120 rfl ?_
      refine R_is rfl (by first | rfl | exact shO (by decide) (by omega) | exact shG (by decide) (by omega)) (by repeat (first | with_reducible apply ix_add | with_reducible apply ix_mul | with_reducible exact ix_nI _ | with_reducible exact ix_lit _ | exact rfl)) (by omega) ?_
      refine R_gs 177 rfl ?_
      refine W_f rfl (by first | rfl | exact ⟨rfl, by first | decide | assumption | exact Or.inl rfl | exact Or.inr rfl | exact b2i_01 _⟩) ?_
      have e : b2i (!decide (sA S p = v)) = 1 := (by rw [decide_eq_false hc16]; rfl)
      have := h1 _ ((Fr.refl _ h).wI rfl) ((Only.refl 840 34 h).w (by omega) _) (hS.ab hO hp (j := 844 + p) (by omega))
      rw [if_pos rfl, e] at this; exact this
  ·
    refine R_in rfl rfl ?_
    refine R_gs 2 rfl ?_
    refine W_bf rfl ((by decide)) ?_
    refine R_gs 29 rfl ?_
    refine W_bt rfl ((by decide)) ?_
    refine R_gs 38 rfl ?_
    refine R_k rfl rfl (m_isWed (b := 840) hS (by omega) (by omega) (by have := (l5 (by decide)).1; omega) (Ne.symm (l5 (by decide)).2) (fun hx38 => ?_) (fun hx38 => ?_))
    ·
      refine R_gs 70 rfl ?_
      refine W_bf rfl (by decide) ?_
      refine R_gs 75 rfl ?_
      refine W_bt rfl ((by decide)) ?_
      refine R_gs 102 rfl ?_
      refine W_bf rfl (by decide) ?_
      refine R_gs 107 rfl ?_
      refine W_bf rfl ((by decide)) ?_
      refine R_gs 126 rfl ?_
      refine W_bf rfl (by decide) ?_
      refine R_gs 131 rfl ?_
      refine W_bt rfl ((by decide)) ?_
      refine R_gs 140 rfl ?_
      refine R_k rfl rfl (m_partsTwo (b := 840) hL hO hS hV (by omega) hp (l5 (by decide)).1 (Ne.symm (l5 (by decide)).2) (fun h2 f2 o2 s2 => ?_))
      refine R_gs 177 rfl ?_
      refine W_f rfl (by first | rfl | exact ⟨rfl, by first | decide | assumption | exact Or.inl rfl | exact Or.inr rfl | exact b2i_01 _⟩) ?_
      have := h1 h2 f2 o2 (by rw [if_neg (by decide), if_pos rfl, if_pos hx38]; exact s2)
      rw [if_neg (by decide), if_pos rfl, hx38] at this; exact this
    ·
      refine R_gs 70 rfl ?_
      refine W_bt rfl (by decide) ?_
      refine R_gs 102 rfl ?_
      refine W_bt rfl (by decide) ?_
      refine R_gs 126 rfl ?_
      refine W_bt rfl (by decide) ?_
      refine R_gs 149 rfl ?_
      refine W_bt rfl (by decide) ?_
      refine R_gs 177 rfl ?_
      refine W_f rfl (by first | rfl | exact ⟨rfl, by first | decide | assumption | exact Or.inl rfl | exact Or.inr rfl | exact b2i_01 _⟩) ?_
      have := h1 h (Fr.refl _ h) (Only.refl _ _ h) (by rw [if_neg (by decide), if_pos rfl, if_neg (by rw [hx38]; decide)]; exact hS)
      rw [if_neg (by decide), if_pos rfl, hx38] at this; exact this
  ·
    refine R_in rfl rfl ?_
    refine R_gs 2 rfl ?_
    refine W_bf rfl ((by decide)) ?_
    refine R_gs 29 rfl ?_
    refine W_bf rfl ((by decide)) ?_
    refine R_gs 46 rfl ?_
    refine W_bt rfl ((by decide)) ?_
    refine R_gs 55 rfl ?_
    refine R_k rfl rfl (m_isKept (b := 840) hS (by omega) (by omega) (by have := (l5 (by decide)).1; omega) (Ne.symm (l5 (by decide)).2) (fun hx55 => ?_) (fun hx55 => ?_))
    ·
      refine W_bf rfl (by decide) ?_
      refine R_gs 70 rfl ?_
      refine W_bt rfl (by decide) ?_
      refine R_gs 102 rfl ?_
      refine W_bt rfl (by decide) ?_
      refine R_gs 126 rfl ?_
      refine W_bt rfl (by decide) ?_
      refine R_gs 149 rfl ?_
      refine W_bt rfl (by decide) ?_
      refine R_gs 177 rfl ?_
      refine W_f rfl (by first | rfl | exact ⟨rfl, by first | decide | assumption | exact Or.inl rfl | exact Or.inr rfl | exact b2i_01 _⟩) ?_
      have := h1 h (Fr.refl _ h) (Only.refl _ _ h) (by rw [if_neg (by decide), if_neg (by decide), if_pos rfl, setE_same (by have := pr_lt p (by omega) v (by have := (l5 (by decide)).1; omega) (Ne.symm (l5 (by decide)).2); omega) hx55]; exact hS)
      rw [if_neg (by decide), if_neg (by decide), if_pos rfl, hx55] at this; exact this
    ·
      refine W_bt rfl (by decide) ?_
      refine R_gs 70 rfl ?_
      refine W_bf rfl (by decide) ?_
      refine R_gs 75 rfl ?_
      refine W_bt rfl ((by decide)) ?_
      refine R_gs 102 rfl ?_
      refine W_bf rfl (by decide) ?_
      refine R_gs 107 rfl ?_
      refine W_bf rfl ((by decide)) ?_
      refine R_gs 126 rfl ?_
      refine W_bf rfl (by decide) ?_
      refine R_gs 131 rfl ?_
      refine W_bf rfl ((by decide)) ?_
      refine R_gs 149 rfl ?_
      refine W_bf rfl (by decide) ?_
      refine R_gs 154 rfl ?_
      refine W_bt rfl ((by decide)) ?_
      refine R_gs 165 rfl ?_
      refine R_il rfl rfl (ix_lit _) (by omega) (v := sE S) hS.E ?_
      refine R_gs 169 rfl ?_
      refine R_k rfl rfl (m_pairOf (by omega) (by have := (l5 (by decide)).1; omega) (Ne.symm (l5 (by decide)).2) ?_)
      refine R_gs 174 rfl ?_
      refine R_is rfl (by first | rfl | exact shO (by decide) (by omega) | exact shG (by decide) (by omega)) (by repeat (first | with_reducible apply ix_add | with_reducible apply ix_mul | with_reducible exact ix_nI _ | with_reducible exact ix_lit _ | exact rfl)) (by omega) ?_
      refine R_gs 177 rfl ?_
      refine W_f rfl (by first | rfl | exact ⟨rfl, by first | decide | assumption | exact Or.inl rfl | exact Or.inr rfl | exact b2i_01 _⟩) ?_
      rw [one_shl _ (by have := pr_lt p (by omega) v (by have := (l5 (by decide)).1; omega) (Ne.symm (l5 (by decide)).2); omega)]
      have := h1 _ ((Fr.refl _ h).wI rfl) ((Only.refl 840 34 h).w (by omega) _) (hS.eb hO (j := 842) (by omega))
      rw [if_neg (by decide), if_neg (by decide), if_pos rfl, hx55] at this; exact this
theorem ln5 {l : Nat × Nat × Nat} (e : l.1 = 5) : lnS L S l = momS L S ∧ lnB S l = true := by
  unfold lnS lnB
  rw [e]
  exact ⟨rfl, rfl⟩
theorem m1_or {x : Int32} {k : Nat} (hk : k ≤ 30) (h : x = -1 ∨ ∃ i, i < k ∧ x = nI i) : 0 ≤ x ↔ ¬ x = -1 := by
  rcases h with rfl | ⟨i, hi, rfl⟩
  · decide
  · exact ⟨fun _ e => by have := nI_pos' (n := i) (by omega); rw [e] at this; exact absurd this (by decide), fun _ => nI_pos' (by omega)⟩
theorem y_judged (W : WOK L S H B M D T N) (c : RM h L S H B M D T N) {w : Int32} (h1 : ∀ h', Fr xM h h' → RM h' L S H B M D T N → Q (some (.int (jdA L D w))) h') : Rc (d + 8) m_X13_judged [.ref 235, .int w] h Q := by
  have hO := W.1
  have hDO := W.2.2.2.2.2.1
  have hD30 := hDO.1
  have c0 := c.thr
  have F0 : Fr xM h (wI h 235 0 0) := (Fr.refl _ h).wI rfl
  have hP := (jd_ok hO hDO D.1 (Nat.le_refl _)).1.b15 hO.2.2.1
  unfold jdA at h1
  refine R_in rfl rfl ?_
  refine R_gs 8 rfl ?_
  refine R_k rfl rfl (m_isIn (fun hx8 => ?_) (fun hx8 => ?_))
  ·
    refine W_bf rfl (by decide) ?_
    refine R_gs 21 rfl ?_
    refine R_k rfl rfl (m_starts (b := 840) c0.1 hO (by omega) (fun h2 f2 o2 s2 => ?_))
    refine R_gs 31 rfl ?_
    rw [hx8, if_pos rfl] at h1
    refine w_inv (W := fun k (s : AH × Int32 × Int32) => ∀ x5 x6 : Option Value, Rw (d + 7) Q (m_X13_judged, 31, [some (.ref 235), some (.int w), some (.int s.2.1), some (.int s.2.2), some (.int (nI k)), x5, x6], [], 262, s.1)) D.1 (fun k s => Fr yst (wI h 235 0 0) s.1 ∧ Only 840 34 (wI h 235 0 0) s.1 ∧ SceneM s.1 840 L (jdS L D k).1 ∧ s.2.1 = (jdS L D k).2.1 ∧ s.2.2 = (jdS L D k).2.2) (s0 := (h2, -1, -1)) ⟨f2.mono (fun q hq => by have := Nat.eq_of_beq_eq_true hq; subst this; rfl), o2, s2, rfl, rfl⟩ (fun k s hk hi ww => ?_) (fun s hi => ?_) none none
    ·
      intro x5 x6
      obtain ⟨hh, u, v⟩ := s
      obtain ⟨i1, i2, i3, i4, i5⟩ := hi
      dsimp only at i1 i2 i3 i4 i5 ⊢
      have iL := c0.1.fr i1 rfl rfl rfl
      have iD := c0.2.2.2.2.2.1.fr i1 rfl
      have iV := jd_ok hO hDO k (by omega)
      have j1 := jd_1 (L := L) (D := D) k
      have j2 := jd_2 (L := L) (D := D) k
      have lk := hDO.2 k hk
      have lk1 := lk.1
      refine R_gs 38 rfl ?_
      refine R_il rfl (by first | rfl | exact shO (by decide) (by omega) | exact shG (by decide) (by omega)) (by repeat (first | with_reducible apply ix_add | with_reducible apply ix_mul | with_reducible exact ix_nI _ | with_reducible exact ix_lit _ | exact rfl)) (by omega) (by first | exact iD.1) ?_
      refine W_bf rfl (ltc hk (by omega)) ?_
      refine R_gs 52 rfl ?_
      refine R_il rfl (by first | rfl | exact shO (by decide) (by omega) | exact shG (by decide) (by omega)) (by repeat (first | with_reducible apply ix_add | with_reducible apply ix_mul | with_reducible exact ix_nI _ | with_reducible exact ix_lit _ | exact rfl)) (by omega) (by first | exact (iD.2 k hk).1) ?_
      refine R_gs 58 rfl ?_
      refine W_b rfl (fun hc58 => ?_) (fun hc58 => ?_)
      ·
        rw [show (nI (D.2 k).1 = 5 ↔ (D.2 k).1 = 5) from nI_eq (b := 5) (by omega) (by omega)] at hc58
        refine R_gs 65 rfl ?_
        refine R_k rfl rfl (m_passes (b := 840) iL hO i3 iV (by omega) (fun h3 f3 o3 s3 => ?_))
        refine R_gs 70 rfl ?_
        refine W_b rfl (fun hc70 => ?_) (fun hc70 => ?_)
        ·
          refine R_gs 31 rfl ?_
          rw [nI_1]; subst i4; subst i5; refine ww (h3, (jdS L D k).2.1, (jdS L D k).2.2) ⟨i1.trans f3, i2.trans o3, (by rw [jd_s1, (ln5 hc58).1]; exact s3), ?_, ?_⟩ _ _
          · rw [jd_s2, if_neg (fun e => by rw [(ln5 (L := L) hc58).2] at e; exact absurd e.1 (by decide))]
          · rw [jd_s3, if_neg (fun e => (m1_or (by omega) j2).mp hc70 e.2.1)]
        ·
          refine R_gs 77 rfl ?_
          refine R_k rfl rfl (m_bigamistsOf (b := 840) (iL.fr f3 rfl rfl rfl) hO s3 (mom_ok hO iV).1 (by omega) ?_)
          refine W_b rfl (fun hc80 => ?_) (fun hc80 => ?_)
          ·
            refine R_gs 31 rfl ?_
            rw [nI_1]; subst i4; subst i5; refine ww (h3, (jdS L D k).2.1, (jdS L D k).2.2) ⟨i1.trans f3, i2.trans o3, (by rw [jd_s1, (ln5 hc58).1]; exact s3), ?_, ?_⟩ _ _
            · rw [jd_s2, if_neg (fun e => by rw [(ln5 (L := L) hc58).2] at e; exact absurd e.1 (by decide))]
            · rw [jd_s3, if_neg (fun e => e.2.2 (by rw [jd_s1, (ln5 hc58).1]; exact hc80))]
          ·
            refine R_gs 31 rfl ?_
            rw [nI_1]; subst i4; subst i5; refine ww (h3, (jdS L D k).2.1, nI k) ⟨i1.trans f3, i2.trans o3, (by rw [jd_s1, (ln5 hc58).1]; exact s3), ?_, ?_⟩ _ _
            · rw [jd_s2, if_neg (fun e => by rw [(ln5 (L := L) hc58).2] at e; exact absurd e.1 (by decide))]
            · rw [jd_s3, if_pos ⟨hc58, Decidable.not_not.mp (mt (m1_or (by omega) j2).mpr hc70), by rw [jd_s1, (ln5 hc58).1]; exact hc80⟩]
      ·
        rw [show (nI (D.2 k).1 = 5 ↔ (D.2 k).1 = 5) from nI_eq (b := 5) (by omega) (by omega)] at hc58
        refine R_gs 106 rfl ?_
        refine R_il rfl (by first | rfl | exact shO (by decide) (by omega) | exact shG (by decide) (by omega)) (by repeat (first | with_reducible apply ix_add | with_reducible apply ix_mul | with_reducible exact ix_nI _ | with_reducible exact ix_lit _ | exact rfl)) (by omega) (by first | exact (iD.2 k hk).2.1) ?_
        refine R_gs 117 rfl ?_
        refine R_il rfl (by first | rfl | exact shO (by decide) (by omega) | exact shG (by decide) (by omega)) (by repeat (first | with_reducible apply ix_add | with_reducible apply ix_mul | with_reducible exact ix_nI _ | with_reducible exact ix_lit _ | exact rfl)) (by omega) (by first | exact (iD.2 k hk).2.2) ?_
        refine R_k rfl rfl (m_does iL hO i3 iV lk hc58 (fun h3 f3 o3 s3 => ?_))
        refine R_gs 125 rfl ?_
        refine W_b rfl (fun hc125 => ?_) (fun hc125 => ?_)
        ·
          refine R_gs 129 rfl ?_
          refine W_b rfl (fun hc129 => ?_) (fun hc129 => ?_)
          ·
            refine R_gs 31 rfl ?_
            rw [nI_1]; subst i4; subst i5; refine ww (h3, (jdS L D k).2.1, (jdS L D k).2.2) ⟨i1.trans f3, i2.trans o3, s3, ?_, ?_⟩ _ _
            · rw [jd_s2, if_neg (fun e => (m1_or (by omega) j1).mp hc129 e.2)]
            · rw [jd_s3, if_neg (fun e => hc58 e.1)]
          ·
            refine R_gs 31 rfl ?_
            rw [nI_1]; subst i4; subst i5; refine ww (h3, nI k, (jdS L D k).2.2) ⟨i1.trans f3, i2.trans o3, s3, ?_, ?_⟩ _ _
            · rw [jd_s2, if_pos ⟨b2i0.mp hc125, Decidable.not_not.mp (mt (m1_or (by omega) j1).mpr hc129)⟩]
            · rw [jd_s3, if_neg (fun e => hc58 e.1)]
        ·
          refine R_gs 31 rfl ?_
          rw [nI_1]; subst i4; subst i5; refine ww (h3, (jdS L D k).2.1, (jdS L D k).2.2) ⟨i1.trans f3, i2.trans o3, s3, ?_, ?_⟩ _ _
          · rw [jd_s2, if_neg (fun e => by rw [e.1] at hc125; exact hc125 rfl)]
          · rw [jd_s3, if_neg (fun e => hc58 e.1)]
    ·
      intro x5 x6
      obtain ⟨hh, u, v⟩ := s
      obtain ⟨i1, i2, i3, i4, i5⟩ := hi
      dsimp only at i1 i2 i3 i4 i5 ⊢
      have iD := c0.2.2.2.2.2.1.fr i1 rfl
      refine R_gs 38 rfl ?_
      refine R_il rfl (by first | rfl | exact shO (by decide) (by omega) | exact shG (by decide) (by omega)) (by repeat (first | with_reducible apply ix_add | with_reducible apply ix_mul | with_reducible exact ix_nI _ | with_reducible exact ix_lit _ | exact rfl)) (by omega) (by first | exact iD.1) ?_
      refine W_bt rfl (gec (by omega)) ?_
      refine R_gs 146 rfl ?_
      have F1 : Fr xM h hh := F0.trans (i1.mono (fun q => yst_x))
      have r1 := c0.tri W i1 ⟨rfl, rfl, rfl, rfl, rfl, rfl, rfl, rfl⟩ (congrFun (i1.I rfl) 2) (congrFun (i1.I rfl) 18) (congrFun (i1.I rfl) 25) (i2.mono (by omega))
      refine W_b rfl (fun hc146 => ?_) (fun hc146 => ?_)
      ·
        refine R_gs 173 rfl ?_
        refine W_f rfl (by first | rfl | exact ⟨rfl, by first | decide | assumption | exact Or.inl rfl | exact Or.inr rfl | exact b2i_01 _⟩) ?_
        rw [if_neg (by rw [hc146]; decide), if_pos hc146] at h1; rw [i4]; exact h1 _ F1 r1
      ·
        refine R_gs 155 rfl ?_
        refine W_b rfl (fun hc155 => ?_) (fun hc155 => ?_)
        ·
          refine R_gs 173 rfl ?_
          refine W_f rfl (by first | rfl | exact ⟨rfl, by first | decide | assumption | exact Or.inl rfl | exact Or.inr rfl | exact b2i_01 _⟩) ?_
          rw [if_neg (by rw [hc155]; decide), if_neg hc146] at h1; rw [i5]; exact h1 _ F1 r1
        ·
          refine R_gs 169 rfl ?_
          refine R_il rfl rfl (ix_lit _) (by omega) (v := sW (jdS L D D.1).1) i3.W ?_
          refine R_k rfl rfl (m_bits hP ?_)
          refine W_f rfl (by first | rfl | exact ⟨rfl, by first | decide | assumption | exact Or.inl rfl | exact Or.inr rfl | exact b2i_01 _⟩) ?_
          rw [if_pos (Int32.toInt_inj.mp (by have := in5 hx8; have a0 : (0 : Int32).toInt = 0 := (by decide); have a1 : (1 : Int32).toInt = 1 := (by decide); have a2 : (2 : Int32).toInt = 2 := (by decide); rw [← Int32.toInt_inj, a0] at hc146; rw [← Int32.toInt_inj, a1] at hc155; omega))] at h1; exact h1 _ F1 r1
  ·
    refine W_bt rfl (by decide) ?_
    refine R_gs 16 rfl ?_
    refine W_f rfl (by first | rfl | exact ⟨rfl, by first | decide | assumption | exact Or.inl rfl | exact Or.inr rfl | exact b2i_01 _⟩) ?_
    rw [hx8] at h1; exact h1 _ F0 c0
end
