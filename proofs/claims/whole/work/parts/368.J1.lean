def hrOk (L : SL) (H : SH') (x : Int32) : Bool := (decide (x = -1) || inN x (lS L)) && !decide (H.1 = 5)
def hrAdd (H : SH') (x : Int32) : SH' := (H.1 + 1, fun i => if i = H.1 then x else H.2 i)
section
variable {d : Nat} {h h' : AH} {L : SL} {S : SS} {H : SH'} {B : SB'} {M : SM'} {D : SD'} {T : ST'} {N : SN'} {Q : Option Value → AH → Prop}
theorem y_count (W : WOK L S H B M D T N) (c : RM h L S H B M D T N) {w : Int32} (h1 : Q (some (.int (cntA L S H B D T w))) (wI h 235 0 0)) : Rc (d + 4) m_X13_count [.ref 235, .int w] h Q := by
  have c0 := c.thr
  unfold cntA at h1
  refine R_in rfl rfl ?_
  refine R_gs 6 rfl ?_
  refine W_w rfl (fun jj tt ht hz => ?_) (fun hz => ?_)
  ·
    have hjj : jj < 11 := by rcases Nat.lt_or_ge jj 11 with hq | hq; exact hq; rw [List.getElem?_eq_none (by simpa using hq)] at ht; cases ht
    by_cases e0 : jj = 0
    ·
      subst e0; cases ht
      refine R_gs 69 rfl ?_
      have e : ∃ k, k < 3 ∧ w = nI k := (by first | exact ⟨0, by decide, sw_eq 0 hz (by decide)⟩ | exact ⟨1, by decide, sw_eq 1 hz (by decide)⟩ | exact ⟨2, by decide, sw_eq 2 hz (by decide)⟩)
      obtain ⟨k, hk, rfl⟩ := e
      refine R_il (v := cntA L S H B D T (nI k)) rfl rfl (ix_nI _) (by omega) (by rcases (by omega : k = 0 ∨ k = 1 ∨ k = 2) with rfl | rfl | rfl; exact c0.1.S; exact c0.1.Q; exact c0.1.P) ?_
      refine W_f rfl (by first | rfl | exact ⟨rfl, by first | decide | assumption | exact Or.inl rfl | exact Or.inr rfl | exact b2i_01 _⟩) ?_
      exact h1
    by_cases e1 : jj = 1
    ·
      subst e1; cases ht
      refine R_gs 69 rfl ?_
      have e : ∃ k, k < 3 ∧ w = nI k := (by first | exact ⟨0, by decide, sw_eq 0 hz (by decide)⟩ | exact ⟨1, by decide, sw_eq 1 hz (by decide)⟩ | exact ⟨2, by decide, sw_eq 2 hz (by decide)⟩)
      obtain ⟨k, hk, rfl⟩ := e
      refine R_il (v := cntA L S H B D T (nI k)) rfl rfl (ix_nI _) (by omega) (by rcases (by omega : k = 0 ∨ k = 1 ∨ k = 2) with rfl | rfl | rfl; exact c0.1.S; exact c0.1.Q; exact c0.1.P) ?_
      refine W_f rfl (by first | rfl | exact ⟨rfl, by first | decide | assumption | exact Or.inl rfl | exact Or.inr rfl | exact b2i_01 _⟩) ?_
      exact h1
    by_cases e2 : jj = 2
    ·
      subst e2; cases ht
      refine R_gs 69 rfl ?_
      have e : ∃ k, k < 3 ∧ w = nI k := (by first | exact ⟨0, by decide, sw_eq 0 hz (by decide)⟩ | exact ⟨1, by decide, sw_eq 1 hz (by decide)⟩ | exact ⟨2, by decide, sw_eq 2 hz (by decide)⟩)
      obtain ⟨k, hk, rfl⟩ := e
      refine R_il (v := cntA L S H B D T (nI k)) rfl rfl (ix_nI _) (by omega) (by rcases (by omega : k = 0 ∨ k = 1 ∨ k = 2) with rfl | rfl | rfl; exact c0.1.S; exact c0.1.Q; exact c0.1.P) ?_
      refine W_f rfl (by first | rfl | exact ⟨rfl, by first | decide | assumption | exact Or.inl rfl | exact Or.inr rfl | exact b2i_01 _⟩) ?_
      exact h1
    by_cases e3 : jj = 3
    ·
      subst e3; cases ht
      refine R_gs 76 rfl ?_
      refine R_il rfl (by first | rfl | exact shO (by decide) (by omega) | exact shG (by decide) (by omega)) (by repeat (first | with_reducible apply ix_add | with_reducible apply ix_mul | with_reducible exact ix_nI _ | with_reducible exact ix_lit _ | exact rfl)) (by omega) (by first | exact c0.2.1.T) ?_
      refine W_f rfl (by first | rfl | exact ⟨rfl, by first | decide | assumption | exact Or.inl rfl | exact Or.inr rfl | exact b2i_01 _⟩) ?_
      have e := sw_eq 3 hz (by decide); subst e; exact h1
    by_cases e4 : jj = 4
    ·
      subst e4; cases ht
      refine R_gs 83 rfl ?_
      refine R_il rfl (by first | rfl | exact shO (by decide) (by omega) | exact shG (by decide) (by omega)) (by repeat (first | with_reducible apply ix_add | with_reducible apply ix_mul | with_reducible exact ix_nI _ | with_reducible exact ix_lit _ | exact rfl)) (by omega) (by first | exact c0.2.1.W) ?_
      refine W_f rfl (by first | rfl | exact ⟨rfl, by first | decide | assumption | exact Or.inl rfl | exact Or.inr rfl | exact b2i_01 _⟩) ?_
      have e := sw_eq 4 hz (by decide); subst e; exact h1
    by_cases e5 : jj = 5
    ·
      subst e5; cases ht
      refine R_gs 90 rfl ?_
      refine R_il rfl (by first | rfl | exact shO (by decide) (by omega) | exact shG (by decide) (by omega)) (by repeat (first | with_reducible apply ix_add | with_reducible apply ix_mul | with_reducible exact ix_nI _ | with_reducible exact ix_lit _ | exact rfl)) (by omega) (by first | exact c0.2.1.E) ?_
      refine W_f rfl (by first | rfl | exact ⟨rfl, by first | decide | assumption | exact Or.inl rfl | exact Or.inr rfl | exact b2i_01 _⟩) ?_
      have e := sw_eq 5 hz (by decide); subst e; exact h1
    by_cases e6 : jj = 6
    ·
      subst e6; cases ht
      refine R_gs 97 rfl ?_
      refine R_il rfl (by first | rfl | exact shO (by decide) (by omega) | exact shG (by decide) (by omega)) (by repeat (first | with_reducible apply ix_add | with_reducible apply ix_mul | with_reducible exact ix_nI _ | with_reducible exact ix_lit _ | exact rfl)) (by omega) (by first | exact c0.2.1.D) ?_
      refine W_f rfl (by first | rfl | exact ⟨rfl, by first | decide | assumption | exact Or.inl rfl | exact Or.inr rfl | exact b2i_01 _⟩) ?_
      have e := sw_eq 6 hz (by decide); subst e; exact h1
    by_cases e7 : jj = 7
    ·
      subst e7; cases ht
      refine R_gs 104 rfl ?_
      refine R_il rfl (by first | rfl | exact shO (by decide) (by omega) | exact shG (by decide) (by omega)) (by repeat (first | with_reducible apply ix_add | with_reducible apply ix_mul | with_reducible exact ix_nI _ | with_reducible exact ix_lit _ | exact rfl)) (by omega) (by first | exact c0.2.2.2.2.2.1.1) ?_
      refine W_f rfl (by first | rfl | exact ⟨rfl, by first | decide | assumption | exact Or.inl rfl | exact Or.inr rfl | exact b2i_01 _⟩) ?_
      have e := sw_eq 7 hz (by decide); subst e; exact h1
    by_cases e8 : jj = 8
    ·
      subst e8; cases ht
      refine R_gs 112 rfl ?_
      refine R_il rfl (by first | rfl | exact shO (by decide) (by omega) | exact shG (by decide) (by omega)) (by repeat (first | with_reducible apply ix_add | with_reducible apply ix_mul | with_reducible exact ix_nI _ | with_reducible exact ix_lit _ | exact rfl)) (by omega) (by first | exact c0.2.2.1.1) ?_
      refine W_f rfl (by first | rfl | exact ⟨rfl, by first | decide | assumption | exact Or.inl rfl | exact Or.inr rfl | exact b2i_01 _⟩) ?_
      have e := sw_eq 8 hz (by decide); subst e; exact h1
    by_cases e9 : jj = 9
    ·
      subst e9; cases ht
      refine R_gs 118 rfl ?_
      rw [show hI (wI h 235 0 0) 235 25 = nI B.1 from c0.2.2.2.1.1]
      refine W_f rfl (by first | rfl | exact ⟨rfl, by first | decide | assumption | exact Or.inl rfl | exact Or.inr rfl | exact b2i_01 _⟩) ?_
      have e := sw_eq 9 hz (by decide); subst e; exact h1
    by_cases e10 : jj = 10
    ·
      subst e10; cases ht
      refine R_gs 123 rfl ?_
      rw [show hI (wI h 235 0 0) 235 2 = nI T.1 from c0.2.2.2.2.2.2.1.1]
      refine W_f rfl (by first | rfl | exact ⟨rfl, by first | decide | assumption | exact Or.inl rfl | exact Or.inr rfl | exact b2i_01 _⟩) ?_
      have e := sw_eq 10 hz (by decide); subst e; exact h1
    exact absurd hjj (by omega)
  ·
    refine R_gs 125 rfl ?_
    refine W_f rfl (by first | rfl | exact ⟨rfl, by first | decide | assumption | exact Or.inl rfl | exact Or.inr rfl | exact b2i_01 _⟩) ?_
    simp only [if_neg (show ¬ w = 0 from by rintro rfl; revert hz; decide), if_neg (show ¬ w = 1 from by rintro rfl; revert hz; decide), if_neg (show ¬ w = 2 from by rintro rfl; revert hz; decide), if_neg (show ¬ w = 3 from by rintro rfl; revert hz; decide), if_neg (show ¬ w = 4 from by rintro rfl; revert hz; decide), if_neg (show ¬ w = 5 from by rintro rfl; revert hz; decide), if_neg (show ¬ w = 6 from by rintro rfl; revert hz; decide), if_neg (show ¬ w = 7 from by rintro rfl; revert hz; decide), if_neg (show ¬ w = 8 from by rintro rfl; revert hz; decide), if_neg (show ¬ w = 9 from by rintro rfl; revert hz; decide), if_neg (show ¬ w = 10 from by rintro rfl; revert hz; decide)] at h1; exact h1
theorem RC.hrd (hO : LandOK L) {H' : SH'} (c : RC h L S H B M D T N) (f : Fr (fun q => Nat.beq q 7 || Nat.beq q 13) h h') (hS : SceneC h' 7 L S) (hH : HrdC h' 7 H') : RC h' L S H' B M D T N := by
  obtain ⟨a, g, c1, c2, c3, c4, c5, c6, c7, c8, c9, c10, c11⟩ := c
  have ha := c1.1
  have hg := c1.2.1
  have xf : ∀ q, q ≠ 7 → q ≠ 13 → (Nat.beq q 7 || Nat.beq q 13) = false := fun q h1 h2 => by rw [bq_f h1, bq_f h2]; rfl
  exact ⟨a, g, c1.fr f rfl, c2.fr hO f (fun i h1 h2 => xf _ (by omega) (by omega)), hS, hH, c5.fr f rfl (fun q _ _ => xf _ (by omega) (by omega)), c6.fr f rfl (fun q _ _ => xf _ (by omega) (by omega)), c7.fr f (xf _ (by omega) (by omega)) (xf _ (by omega) (by omega)) (xf _ (by omega) (by omega)) (xf _ (by omega) (by omega)), c8.fr f rfl rfl, c9.fr f (xf _ (by omega) (by omega)) (xf _ (by omega) (by omega)) (xf _ (by omega) (by omega)) (xf _ (by omega) (by omega)), c10.fr f rfl rfl, c11.fr f rfl⟩
theorem x_hear (W : WOK L S H B M D T N) (c : RC h L S H B M D T N) {x : Int32} (h1 : ∀ h', Fr xC h h' → RC h' L S (if hrOk L H x = true then hrAdd H x else H) B M D T N → Q (some (.int (b2i (hrOk L H x)))) h') : Rc (d + 4) m_X12_hear [.ref 0, .int x] h Q := by
  have hO := W.1
  have hK := W.2.2.1.1
  have c0 := c
  obtain ⟨a, g, c1, c2, c3, c4, c5, c6, c7, c8, c9, c10, c11⟩ := c
  have ha := c1.1
  have eL := vr c1.2.2.1
  rcases ha with rfl | rfl
  all_goals
    refine R_in rfl rfl ?_
    refine R_gs 2 rfl ?_
    refine W_b rfl (fun hc2 => ?_) (fun hc2 => ?_)
    ·
      refine R_gs 24 rfl ?_
      try rw [c4.1]
      refine W_b rfl (fun hc24 => ?_) (fun hc24 => ?_)
      ·
        rw [show (nI H.1 < 5 ↔ H.1 < 5) from nI_ltI (b := 5) (by omega) (by omega)] at hc24
        refine R_gs 44 rfl ?_
        try rw [c4.1]
        refine R_is rfl (by first | rfl | exact shO (by decide) (by omega) | exact shG (by decide) (by omega)) (by repeat (first | with_reducible apply ix_add | with_reducible apply ix_mul | with_reducible exact ix_nI _ | with_reducible exact ix_lit _ | exact rfl)) (by omega) ?_
        refine R_gs 59 rfl ?_
        try rw [c4.1]
        refine W_f rfl (by first | rfl | exact ⟨rfl, by first | decide | assumption | exact Or.inl rfl | exact Or.inr rfl | exact b2i_01 _⟩) ?_
        rw [show hrOk L H x = true from by unfold hrOk; rw [decide_eq_false (show ¬ H.1 = 5 by omega)]; simp [*]] at h1
        refine h1 _ (((Fr.refl _ h).wI rfl).wI rfl) (c0.hrd hO (((Fr.refl _ h).wI rfl).wI rfl) c3 ⟨?_, fun i hi => ?_⟩)
        · show hI h 7 10 + 1 = nI (H.1 + 1); rw [c4.1, nI_1]
        · show (if i = H.1 then x else hI h 13 i) = if i = H.1 then x else H.2 i; by_cases e : i = H.1; rw [if_pos e, if_pos e]; rw [if_neg e, if_neg e]; have hi' : i < H.1 + 1 := hi; exact c4.2 i (by omega)
      ·
        rw [show (nI H.1 < 5 ↔ H.1 < 5) from nI_ltI (b := 5) (by omega) (by omega)] at hc24
        refine R_gs 28 rfl ?_
        refine W_f rfl (by first | rfl | exact ⟨rfl, by first | decide | assumption | exact Or.inl rfl | exact Or.inr rfl | exact b2i_01 _⟩) ?_
        rw [show hrOk L H x = false from by unfold hrOk; rw [decide_eq_true (show H.1 = 5 by omega)]; simp] at h1; exact h1 _ (Fr.refl _ h) c0
    ·
      refine R_gs 9 rfl ?_
      rw [eL]
      refine R_gs 10 rfl ?_
      refine R_k rfl rfl (c_hasSaying (by decide) c2 (fun hx10 => ?_) (fun hx10 => ?_))
      ·
        refine W_bf rfl (by decide) ?_
        refine R_gs 24 rfl ?_
        try rw [c4.1]
        refine W_b rfl (fun hc24 => ?_) (fun hc24 => ?_)
        ·
          rw [show (nI H.1 < 5 ↔ H.1 < 5) from nI_ltI (b := 5) (by omega) (by omega)] at hc24
          refine R_gs 44 rfl ?_
          try rw [c4.1]
          refine R_is rfl (by first | rfl | exact shO (by decide) (by omega) | exact shG (by decide) (by omega)) (by repeat (first | with_reducible apply ix_add | with_reducible apply ix_mul | with_reducible exact ix_nI _ | with_reducible exact ix_lit _ | exact rfl)) (by omega) ?_
          refine R_gs 59 rfl ?_
          try rw [c4.1]
          refine W_f rfl (by first | rfl | exact ⟨rfl, by first | decide | assumption | exact Or.inl rfl | exact Or.inr rfl | exact b2i_01 _⟩) ?_
          rw [show hrOk L H x = true from by unfold hrOk; rw [decide_eq_false (show ¬ H.1 = 5 by omega)]; simp [*]] at h1
          refine h1 _ (((Fr.refl _ h).wI rfl).wI rfl) (c0.hrd hO (((Fr.refl _ h).wI rfl).wI rfl) c3 ⟨?_, fun i hi => ?_⟩)
          · show hI h 7 10 + 1 = nI (H.1 + 1); rw [c4.1, nI_1]
          · show (if i = H.1 then x else hI h 13 i) = if i = H.1 then x else H.2 i; by_cases e : i = H.1; rw [if_pos e, if_pos e]; rw [if_neg e, if_neg e]; have hi' : i < H.1 + 1 := hi; exact c4.2 i (by omega)
        ·
          rw [show (nI H.1 < 5 ↔ H.1 < 5) from nI_ltI (b := 5) (by omega) (by omega)] at hc24
          refine R_gs 28 rfl ?_
          refine W_f rfl (by first | rfl | exact ⟨rfl, by first | decide | assumption | exact Or.inl rfl | exact Or.inr rfl | exact b2i_01 _⟩) ?_
          rw [show hrOk L H x = false from by unfold hrOk; rw [decide_eq_true (show H.1 = 5 by omega)]; simp] at h1; exact h1 _ (Fr.refl _ h) c0
      ·
        refine W_bt rfl (by decide) ?_
        refine R_gs 28 rfl ?_
        refine W_f rfl (by first | rfl | exact ⟨rfl, by first | decide | assumption | exact Or.inl rfl | exact Or.inr rfl | exact b2i_01 _⟩) ?_
        rw [show hrOk L H x = false from by unfold hrOk; rw [hx10, decide_eq_false hc2]; rfl] at h1; exact h1 _ (Fr.refl _ h) c0
theorem RM.hrd {H' : SH'} (W : WOK L S H B M D T N) (c : RM h L S H B M D T N) (f : Fr (fun q => Nat.beq q 251) h h') (o : Only 34 6 h h') (hH : HrdM h' 0 H') : RM h' L S H' B M D T N := by
  obtain ⟨c1, c2, c3, c4, c5, c6, c7, c8⟩ := c
  have hO := W.1
  have e : ∀ k, hI h' 235 k = hI h 235 k := fun k => by rw [f.I rfl]
  refine ⟨c1.fr f rfl rfl rfl, c2.only hO o (by omega), hH, ⟨(e 25).trans c4.1, fun k hk => (c4.2 k hk).only hO o (by omega)⟩, fun m hm => ?_, c6.fr f rfl, c7.fr f (e 2) rfl, c8.fr f (e 18) rfl rfl⟩
  rw [f.I rfl]
  exact ⟨(c5 m hm).1, fun U hU => ⟨((c5 m hm).2 U hU).1.only hO o (by omega), ((c5 m hm).2 U hU).2.only ((W.2.2.2.2.1 m hm U hU).2.1) o (by omega)⟩⟩
theorem y_hear (W : WOK L S H B M D T N) (c : RM h L S H B M D T N) {x : Int32} (h1 : ∀ h', Fr xM h h' → RM h' L S (if hrOk L H x = true then hrAdd H x else H) B M D T N → Q (some (.int (b2i (hrOk L H x)))) h') : Rc (d + 4) m_X13_hear [.ref 235, .int x] h Q := by
  have hO := W.1
  have hK := W.2.2.1.1
  have c0 := c.thr
  have F0 : Fr xM h (wI h 235 0 0) := (Fr.refl _ h).wI rfl
  have e34 : hI (wI h 235 0 0) 251 34 = nI H.1 := c0.2.2.1.1
  refine R_in rfl rfl ?_
  refine R_gs 7 rfl ?_
  refine W_b rfl (fun hc7 => ?_) (fun hc7 => ?_)
  ·
    refine R_gs 24 rfl ?_
    refine R_il rfl (by first | rfl | exact shO (by decide) (by omega) | exact shG (by decide) (by omega)) (by repeat (first | with_reducible apply ix_add | with_reducible apply ix_mul | with_reducible exact ix_nI _ | with_reducible exact ix_lit _ | exact rfl)) (by omega) (by first | exact e34) ?_
    refine R_gs 26 rfl ?_
    refine W_b rfl (fun hc26 => ?_) (fun hc26 => ?_)
    ·
      rw [show (nI H.1 = 5 ↔ H.1 = 5) from nI_eq (b := 5) (by omega) (by omega)] at hc26
      refine R_gs 30 rfl ?_
      refine W_f rfl (by first | rfl | exact ⟨rfl, by first | decide | assumption | exact Or.inl rfl | exact Or.inr rfl | exact b2i_01 _⟩) ?_
      rw [show hrOk L H x = false from by unfold hrOk; rw [decide_eq_true hc26]; simp] at h1; exact h1 _ F0 c0
    ·
      rw [show (nI H.1 = 5 ↔ H.1 = 5) from nI_eq (b := 5) (by omega) (by omega)] at hc26
      refine R_gs 43 rfl ?_
      refine R_il rfl (by first | rfl | exact shO (by decide) (by omega) | exact shG (by decide) (by omega)) (by repeat (first | with_reducible apply ix_add | with_reducible apply ix_mul | with_reducible exact ix_nI _ | with_reducible exact ix_lit _ | exact rfl)) (by omega) (by first | exact e34) ?_
      refine R_gs 46 rfl ?_
      refine R_is rfl rfl (ix_add (ix_lit _) rfl) (by omega) ?_
      refine R_gs 54 rfl ?_
      refine R_il rfl rfl (ix_lit _) (by omega) (v := nI H.1) ((wI_at _ _ _ _ _).trans ((if_neg (by omega)).trans e34)) ?_
      refine R_gs 57 rfl ?_
      refine R_is rfl (by first | rfl | exact shO (by decide) (by omega) | exact shG (by decide) (by omega)) (by repeat (first | with_reducible apply ix_add | with_reducible apply ix_mul | with_reducible exact ix_nI _ | with_reducible exact ix_lit _ | exact rfl)) (by omega) ?_
      refine R_gs 59 rfl ?_
      refine W_f rfl (by first | rfl | exact ⟨rfl, by first | decide | assumption | exact Or.inl rfl | exact Or.inr rfl | exact b2i_01 _⟩) ?_
      rw [show hrOk L H x = true from by unfold hrOk; rw [decide_eq_false hc26]; simp [*]] at h1
      refine h1 _ ((F0.wI rfl).wI rfl) (c0.hrd W (((Fr.refl _ _).wI rfl).wI rfl) (((Only.refl 34 6 _).w (by omega) _).w (by omega) _) ⟨?_, fun i hi => ?_⟩)
      · rw [wI_at, if_pos (by omega), nI_1]; rfl
      · have hi' : i < H.1 + 1 := hi; show _ = if i = H.1 then x else H.2 i; rw [wI_at, if_neg (by omega), wI_at]; by_cases e : i = H.1; rw [if_pos (by omega), if_pos e]; rw [if_neg (by omega), if_neg e]; exact c0.2.2.1.2 i (by omega)
  ·
    refine R_gs 12 rfl ?_
    refine R_k rfl rfl (m_isSaying c0.1 (fun hx12 => ?_) (fun hx12 => ?_))
    ·
      refine W_bf rfl (by decide) ?_
      refine R_gs 24 rfl ?_
      refine R_il rfl (by first | rfl | exact shO (by decide) (by omega) | exact shG (by decide) (by omega)) (by repeat (first | with_reducible apply ix_add | with_reducible apply ix_mul | with_reducible exact ix_nI _ | with_reducible exact ix_lit _ | exact rfl)) (by omega) (by first | exact e34) ?_
      refine R_gs 26 rfl ?_
      refine W_b rfl (fun hc26 => ?_) (fun hc26 => ?_)
      ·
        rw [show (nI H.1 = 5 ↔ H.1 = 5) from nI_eq (b := 5) (by omega) (by omega)] at hc26
        refine R_gs 30 rfl ?_
        refine W_f rfl (by first | rfl | exact ⟨rfl, by first | decide | assumption | exact Or.inl rfl | exact Or.inr rfl | exact b2i_01 _⟩) ?_
        rw [show hrOk L H x = false from by unfold hrOk; rw [decide_eq_true hc26]; simp] at h1; exact h1 _ F0 c0
      ·
        rw [show (nI H.1 = 5 ↔ H.1 = 5) from nI_eq (b := 5) (by omega) (by omega)] at hc26
        refine R_gs 43 rfl ?_
        refine R_il rfl (by first | rfl | exact shO (by decide) (by omega) | exact shG (by decide) (by omega)) (by repeat (first | with_reducible apply ix_add | with_reducible apply ix_mul | with_reducible exact ix_nI _ | with_reducible exact ix_lit _ | exact rfl)) (by omega) (by first | exact e34) ?_
        refine R_gs 46 rfl ?_
        refine R_is rfl rfl (ix_add (ix_lit _) rfl) (by omega) ?_
        refine R_gs 54 rfl ?_
        refine R_il rfl rfl (ix_lit _) (by omega) (v := nI H.1) ((wI_at _ _ _ _ _).trans ((if_neg (by omega)).trans e34)) ?_
        refine R_gs 57 rfl ?_
        refine R_is rfl (by first | rfl | exact shO (by decide) (by omega) | exact shG (by decide) (by omega)) (by repeat (first | with_reducible apply ix_add | with_reducible apply ix_mul | with_reducible exact ix_nI _ | with_reducible exact ix_lit _ | exact rfl)) (by omega) ?_
        refine R_gs 59 rfl ?_
        refine W_f rfl (by first | rfl | exact ⟨rfl, by first | decide | assumption | exact Or.inl rfl | exact Or.inr rfl | exact b2i_01 _⟩) ?_
        rw [show hrOk L H x = true from by unfold hrOk; rw [decide_eq_false hc26]; simp [*]] at h1
        refine h1 _ ((F0.wI rfl).wI rfl) (c0.hrd W (((Fr.refl _ _).wI rfl).wI rfl) (((Only.refl 34 6 _).w (by omega) _).w (by omega) _) ⟨?_, fun i hi => ?_⟩)
        · rw [wI_at, if_pos (by omega), nI_1]; rfl
        · have hi' : i < H.1 + 1 := hi; show _ = if i = H.1 then x else H.2 i; rw [wI_at, if_neg (by omega), wI_at]; by_cases e : i = H.1; rw [if_pos (by omega), if_pos e]; rw [if_neg (by omega), if_neg e]; exact c0.2.2.1.2 i (by omega)
    ·
      refine W_bt rfl (by decide) ?_
      refine R_gs 30 rfl ?_
      refine W_f rfl (by first | rfl | exact ⟨rfl, by first | decide | assumption | exact Or.inl rfl | exact Or.inr rfl | exact b2i_01 _⟩) ?_
      rw [show hrOk L H x = false from by unfold hrOk; rw [hx12, decide_eq_false hc7]; rfl] at h1; exact h1 _ F0 c0
/-- marks: laid, or gone back to -/
def mkOk (M : SM') (m z : Int32) : Bool := inN m 4 && (decide (z = 0) || (M m.toNatClampNeg).isSome)
def mkM (M : SM') (S : SS) (H : SH') (m z : Int32) : SM' := if mkOk M m z = true ∧ z = 0 then (fun i => if i = m.toNatClampNeg then some (S, H) else M i) else M
def mkS (M : SM') (S : SS) (m z : Int32) : SS := if mkOk M m z = true ∧ z ≠ 0 then ((M m.toNatClampNeg).map (fun t => t.1)).getD S else S
def mkH (M : SM') (H : SH') (m z : Int32) : SH' := if mkOk M m z = true ∧ z ≠ 0 then ((M m.toNatClampNeg).map (fun t => t.2)).getD H else H
def mkB (M : SM') (B : SB') (m z : Int32) : SB' := if mkOk M m z = true ∧ z ≠ 0 then (0, B.2) else B
theorem Sc_mk (m : Nat) (hm : m < 4) : Sc (207 + 7 * m) := by
  rcases (by omega : m = 0 ∨ m = 1 ∨ m = 2 ∨ m = 3) with rfl | rfl | rfl | rfl <;> exact ⟨by decide, rfl⟩
theorem mark_in {m : Int32} (h1 : ¬ m < 0) (h2 : m < 4) : ∃ k, k < 4 ∧ m = nI k ∧ m.toNatClampNeg = k ∧ inN m 4 = true := by
  have e : inN m 4 = true := inN_t h1 (by show ¬ (4 : Int32) ≤ m; exact Int32.not_le.mpr h2)
  obtain ⟨k, hk, rfl⟩ := inN_of (by omega) e
  exact ⟨k, hk, rfl, nI_clamp (by omega), e⟩
theorem mk_mk {m k : Nat} {U : SS × SH'} {C : Prop} (hU : (fun i => if i = k then some (S, H) else M i) m = some U) (h1 : m ≠ k ∧ M m = some U → C) (h2 : m = k → (S, H) = U → C) : C := by
  have hU' : (if m = k then some (S, H) else M m) = some U := hU
  by_cases e : m = k
  · rw [if_pos e] at hU'; exact h2 e (Option.some.inj hU')
  · rw [if_neg e] at hU'; exact h1 ⟨e, hU'⟩
theorem x_mark (W : WOK L S H B M D T N) (c : RC h L S H B M D T N) {m z : Int32} (h1 : ∀ h', Fr xC h h' → RC h' L (mkS M S m z) (mkH M H m z) (mkB M B m z) (mkM M S H m z) D T N → Q (some (.int (b2i (mkOk M m z)))) h') : Rc (d + 4) m_X12_mark [.ref 0, .int m, .int z] h Q := by
  have hO := W.1
  have o3 := hO.2.2.1
  have c0 := c
  obtain ⟨a, g, c1, c2, c3, c4, c5, c6, c7, c8, c9, c10, c11⟩ := c
  have hno : mkOk M m z = false → Q (some (.int 0)) h := fun e => by
    unfold mkS mkH mkB mkM at h1
    rw [e] at h1
    simp only [Bool.false_eq_true, false_and, if_false] at h1
    exact h1 _ (Fr.refl _ h) c0
  have hK := W.2.2.1.1
  refine R_in rfl rfl ?_
  refine R_gs 1 rfl ?_
  refine W_b rfl (fun hc1 => ?_) (fun hc1 => ?_)
  ·
    refine R_gs 10 rfl ?_
    refine W_f rfl (by first | rfl | exact ⟨rfl, by first | decide | assumption | exact Or.inl rfl | exact Or.inr rfl | exact b2i_01 _⟩) ?_
    exact hno (by unfold mkOk; rw [inN_f1 hc1]; rfl)
  ·
    refine R_gs 6 rfl ?_
    refine W_b rfl (fun hc6 => ?_) (fun hc6 => ?_)
    ·
      refine R_gs 12 rfl ?_
      obtain ⟨k, hk, rfl, ek, hin⟩ := mark_in hc1 hc6
      refine W_b rfl (fun hc12 => ?_) (fun hc12 => ?_)
      ·
        refine R_gs 20 rfl ?_
        refine R_al rfl rfl rfl (Or.inl rfl) (ix_nI _) (by omega) ?_
        refine R_gs 25 rfl ?_
        refine R_k rfl (q_rcS (Sc_mk k hk) [.ref 7]) (c_copyAll (Sc_mk k hk) ⟨by decide, rfl⟩ (by omega) (fun h2 k2 f2 => ?_))
        refine R_gs 41 rfl ?_
        refine W_f rfl (by first | rfl | exact ⟨rfl, by first | decide | assumption | exact Or.inl rfl | exact Or.inr rfl | exact b2i_01 _⟩) ?_
        have hz : z = 0 := hc12
        have ok : mkOk M (nI k) z = true := by { unfold mkOk; rw [hin, decide_eq_true hz]; rfl }
        have e1 : mkS M S (nI k) z = S := if_neg (fun e => e.2 hz)
        have e2 : mkH M H (nI k) z = H := if_neg (fun e => e.2 hz)
        have e3 : mkB M B (nI k) z = B := if_neg (fun e => e.2 hz)
        have e4 : mkM M S H (nI k) z = fun i => if i = k then some (S, H) else M i := by { unfold mkM; rw [if_pos ⟨ok, hz⟩, ek] }
        rw [ok, e1, e2, e3, e4] at h1
        rw [one_shl k (by omega)]
        have ha := c1.1
        have hg := c1.2.1
        have xf : ∀ q, q < 207 + 7 * k ∨ 213 + 7 * k < q → xqa (207 + 7 * k) q = false := fun q hq => xqa_n (by omega)
        have f3 : ∀ v, Fr (fun q => Nat.beq q 0) h2 (wI h2 0 12 v) := fun v => (Fr.refl _ h2).wI rfl
        have F : ∀ v, Fr (fun q => Nat.beq q 0 || xqa (207 + 7 * k) q) h (wI h2 0 12 v) := fun v => (f2.mono (fun q hq => by show (_ || _) = true; rw [hq, Bool.or_true])).wI rfl
        have xF : ∀ q, q ≠ 0 → (q < 207 + 7 * k ∨ 213 + 7 * k < q) → (Nat.beq q 0 || xqa (207 + 7 * k) q) = false := fun q h1 h2 => by rw [bq_f h1, xf q h2]; rfl
        refine h1 _ ((f2.c (fun q hq => by have := xqa_of hq; omega)).wI rfl) ⟨a, g, ?_, c2.fr hO (F _) (fun i h1 h2 => xF _ (by omega) (by omega)), c3.fr (F _) (xF _ (by omega) (by omega)) (xF _ (by omega) (by omega)) (xF _ (by omega) (by omega)) (xF _ (by omega) (by omega)) (xF _ (by omega) (by omega)), c4.fr (F _) (xF _ (by omega) (by omega)) (xF _ (by omega) (by omega)), c5.fr (F _) (xF _ (by omega) (by omega)) (fun q _ _ => xF _ (by omega) (by omega)), ⟨fun m hm => ?_, fun m hm U hU => ?_⟩, c7.fr (F _) (xF _ (by omega) (by omega)) (xF _ (by omega) (by omega)) (xF _ (by omega) (by omega)) (xF _ (by omega) (by omega)), c8.fr (F _) (xF _ (by omega) (by omega)) (xF _ (by omega) (by omega)), c9.fr (F _) (xF _ (by omega) (by omega)) (xF _ (by omega) (by omega)) (xF _ (by omega) (by omega)) (xF _ (by omega) (by omega)), c10.fr (F _) (xF _ (by omega) (by omega)) (xF _ (by omega) (by omega)), c11.fr (F _) (xF _ (by omega) (by omega))⟩
        · exact (c1.fr f2 (xf 0 (by omega)) : CoreC h2 a g)
        · rw [wI_at, if_pos rfl, pb_or (by omega) (by omega), f2.I (xf 0 (by omega)), c6.1 m hm]; show _ = (if m = k then some (S, H) else M m).isSome; by_cases e : m = k; rw [if_pos e, decide_eq_true e, Bool.or_true]; rfl; rw [if_neg e, decide_eq_false e, Bool.or_false]
        · exact mk_mk (M := M) hU (fun hU' => by obtain ⟨q1, q2⟩ := c6.2 m hm U hU'.2; exact ⟨q1.fr (F _) (xF _ (by omega) (by omega)) (xF _ (by omega) (by omega)) (xF _ (by omega) (by omega)) (xF _ (by omega) (by omega)) (xF _ (by omega) (by omega)), q2.fr (F _) (xF _ (by omega) (by omega)) (xF _ (by omega) (by omega))⟩) (fun e1 e5 => by subst e1; subst e5; exact ⟨(k2.1.sc hO c3).fr (f3 _) (bq_f (by omega)) (bq_f (by omega)) (bq_f (by omega)) (bq_f (by omega)) (bq_f (by omega)), HrdC.fr ⟨k2.2.1.trans c4.1, fun i hi => (k2.2.2 i (by have : i < H.1 := hi; omega)).trans (c4.2 i hi)⟩ (f3 _) (bq_f (by omega)) (bq_f (by omega))⟩)
      ·
        refine R_gs 47 rfl ?_
        refine R_k rfl rfl (c_hasBit (by omega) (fun hx47 => ?_) (fun hx47 => ?_))
        ·
          refine W_bf rfl (by decide) ?_
          refine R_gs 64 rfl ?_
          refine R_al rfl rfl rfl (Or.inl rfl) (ix_nI _) (by omega) ?_
          refine R_k rfl rfl (c_copyAll (a := 7) ⟨by decide, rfl⟩ (Sc_mk k hk) (by omega) (fun h2 k2 f2 => ?_))
          refine R_gs 77 rfl ?_
          refine W_f rfl (by first | rfl | exact ⟨rfl, by first | decide | assumption | exact Or.inl rfl | exact Or.inr rfl | exact b2i_01 _⟩) ?_
          obtain ⟨U, hU⟩ : ∃ U, M k = some U := Option.isSome_iff_exists.mp ((c6.1 k hk).symm.trans hx47)
          have ok : mkOk M (nI k) z = true := by { unfold mkOk; rw [hin, ek, hU]; simp }
          have e1 : mkS M S (nI k) z = U.1 := by { unfold mkS; rw [if_pos ⟨ok, hc12⟩, ek, hU]; rfl }
          have e2 : mkH M H (nI k) z = U.2 := by { unfold mkH; rw [if_pos ⟨ok, hc12⟩, ek, hU]; rfl }
          have e3 : mkB M B (nI k) z = (0, B.2) := if_pos ⟨ok, hc12⟩
          have e4 : mkM M S H (nI k) z = M := if_neg (fun e => hc12 e.2)
          rw [ok, e1, e2, e3, e4] at h1
          obtain ⟨q1, q2⟩ := c6.2 k hk U hU
          have hKU := (W.2.2.2.2.1 k hk U hU).2.1
          have ha := c1.1
          have hg := c1.2.1
          have xf : ∀ q, q < 7 ∨ 13 < q → xqa 7 q = false := fun q hq => xqa_n (by omega)
          have F : Fr (fun q => Nat.beq q 21 || xqa 7 q) h (wI h2 21 2 0) := (f2.mono (fun q hq => by show (_ || _) = true; rw [hq, Bool.or_true])).wI rfl
          have xF : ∀ q, q ≠ 21 → (q < 7 ∨ 13 < q) → (Nat.beq q 21 || xqa 7 q) = false := fun q h1 h2 => by rw [bq_f h1, xf q h2]; rfl
          have f3 : Fr (fun q => Nat.beq q 21) h2 (wI h2 21 2 0) := (Fr.refl _ h2).wI rfl
          refine h1 _ ((f2.c (fun q hq => by have := xqa_of hq; omega)).wI rfl) ⟨a, g, c1.fr F (xF _ (by omega) (by omega)), c2.fr hO F (fun i h1 h2 => xF _ (by omega) (by omega)), (k2.1.sc hO q1).fr f3 rfl rfl rfl rfl rfl, HrdC.fr ⟨k2.2.1.trans q2.1, fun i hi => (k2.2.2 i (by omega)).trans (q2.2 i hi)⟩ f3 rfl rfl, ?_, c6.fr F (xF _ (by omega) (by omega)) (fun q _ _ => xF _ (by omega) (by omega)), c7.fr F (xF _ (by omega) (by omega)) (xF _ (by omega) (by omega)) (xF _ (by omega) (by omega)) (xF _ (by omega) (by omega)), c8.fr F (xF _ (by omega) (by omega)) (xF _ (by omega) (by omega)), c9.fr F (xF _ (by omega) (by omega)) (xF _ (by omega) (by omega)) (xF _ (by omega) (by omega)) (xF _ (by omega) (by omega)), c10.fr F (xF _ (by omega) (by omega)) (xF _ (by omega) (by omega)), c11.fr F (xF _ (by omega) (by omega))⟩
          obtain ⟨hn, x, hx, v1, v2, v3⟩ := c5
          exact ⟨by omega, x, hx, by rw [wI_at, if_neg (by omega), f2.I (xf 21 (by omega))]; exact v1, by rw [wI_at, if_pos rfl]; rfl, fun k hk => absurd hk (by omega)⟩
        ·
          refine W_bt rfl (by decide) ?_
          refine R_gs 54 rfl ?_
          refine W_f rfl (by first | rfl | exact ⟨rfl, by first | decide | assumption | exact Or.inl rfl | exact Or.inr rfl | exact b2i_01 _⟩) ?_
          exact hno (by unfold mkOk; rw [hin, ek, ← c6.1 k hk, hx47, decide_eq_false hc12]; rfl)
    ·
      refine R_gs 10 rfl ?_
      refine W_f rfl (by first | rfl | exact ⟨rfl, by first | decide | assumption | exact Or.inl rfl | exact Or.inr rfl | exact b2i_01 _⟩) ?_
      exact hno (by unfold mkOk; rw [inN_f2 (n := 4) (Int32.not_lt.mp hc6)]; rfl)
theorem mark_in3 {m : Int32} (h : (decide (0 ≤ m) && decide (m ≤ 3)) = true) : ∃ k, k < 4 ∧ m = nI k ∧ m.toNatClampNeg = k ∧ inN m 4 = true := by
  have := in5 h
  have a0 : (0 : Int32).toInt = 0 := by decide
  have a3 : (3 : Int32).toInt = 3 := by decide
  have a4 : (4 : Int32).toInt = 4 := by decide
  exact mark_in (by rw [Int32.lt_iff_toInt_lt]; omega) (by rw [Int32.lt_iff_toInt_lt]; omega)
theorem mark_out {m : Int32} (h : (decide (0 ≤ m) && decide (m ≤ 3)) = false) : inN m 4 = false := by
  have := in5f h
  have a0 : (0 : Int32).toInt = 0 := by decide
  have a3 : (3 : Int32).toInt = 3 := by decide
  have a4 : (4 : Int32).toInt = 4 := by decide
  rcases this with e | e
  · exact inN_f1 (by rw [Int32.lt_iff_toInt_lt]; omega)
  · exact inN_f2 (n := 4) (by show (4 : Int32) ≤ m; rw [Int32.le_iff_toInt_le]; omega)
theorem HrdM.cp {b f : Nat} {h h' : AH} {H : SH'} (hH : HrdM h f H) (hn : H.1 ≤ 5) (e : ∀ k, k < 40 → hI h' 251 (b + k) = hI h 251 (f + k)) : HrdM h' b H := ⟨(e 34 (by omega)).trans hH.1, fun i hi => by have := e (35 + i) (by omega); rw [← Nat.add_assoc, ← Nat.add_assoc] at this; exact this.trans (hH.2 i hi)⟩
theorem mk_lay {k : Nat} {z : Int32} {s' : AH} (W : WOK L S H B M D T N) (c : RM h L S H B M D T N) (hz : z = 0) (hk : k < 4) (ek : (nI k).toNatClampNeg = k) (hin : inN (nI k) 4 = true) (f' : Fr (fun q => Nat.beq q 251) (wI h 252 k 1) s') (o' : Only (40 * (1 + k)) 40 (wI h 252 k 1) s') (c' : ∀ j, j < 40 → hI s' 251 (40 * (1 + k) + j) = hI (wI h 252 k 1) 251 (0 + j)) (h1 : ∀ h', Fr xM h h' → RM h' L (mkS M S (nI k) z) (mkH M H (nI k) z) (mkB M B (nI k) z) (mkM M S H (nI k) z) D T N → Q (some (.int (b2i (mkOk M (nI k) z)))) h') : Q (some (.int 1)) (wI s' 235 25 (hI s' 235 25)) := by
  have hO := W.1
  have ok : mkOk M (nI k) z = true := by { unfold mkOk; rw [hin, decide_eq_true hz]; rfl }
  have e1 : mkS M S (nI k) z = S := if_neg (fun e => e.2 hz)
  have e2 : mkH M H (nI k) z = H := if_neg (fun e => e.2 hz)
  have e3 : mkB M B (nI k) z = B := if_neg (fun e => e.2 hz)
  have e4 : mkM M S H (nI k) z = fun i => if i = k then some (S, H) else M i := by { unfold mkM; rw [if_pos ⟨ok, hz⟩, ek] }
  rw [ok, e1, e2, e3, e4] at h1
  have gA : Fr (fun q => Nat.beq q 252) h (wI h 252 k 1) := (Fr.refl _ _).wI rfl
  have g3 : ∀ v, Fr (fun q => Nat.beq q 235) s' (wI s' 235 25 v) := fun v => (Fr.refl _ _).wI rfl
  have G : ∀ v, Fr (fun q => Nat.beq q 235 || Nat.beq q 251 || Nat.beq q 252) h (wI s' 235 25 v) := fun v => ((gA.mono (fun q hq => by show (_ || _ || _) = true; rw [hq, Bool.or_true])).trans (f'.mono (fun q hq => by show (_ || _ || _) = true; rw [hq, Bool.or_true, Bool.true_or]))).wI rfl
  obtain ⟨c1, c2, c3, c4, c5, c6, c7, c8⟩ := c
  have S1 : ∀ {b U v}, SceneM h b L U → (b + 34 ≤ 40 * (1 + k) ∨ 40 * (1 + k) + 40 ≤ b) → SceneM (wI s' 235 25 v) b L U := fun hS hd => ((hS.fr gA rfl).only hO o' hd).fr (g3 _) rfl
  have e : ∀ v j, hI (wI s' 235 25 v) 235 j = if j = 25 then v else hI h 235 j := fun v j => by rw [wI_at, f'.I rfl]; rfl
  refine h1 _ ((G _).mono (fun q hq => by simp only [Bool.or_eq_true, Nat.beq_eq] at hq; rcases hq with (rfl | rfl) | rfl <;> rfl)) ⟨c1.fr (G _) rfl rfl rfl, S1 c2 (by omega), ((c3.fr gA rfl).only W.2.2.1.1 o' (by omega)).fr (g3 _) rfl, ⟨?_, fun j hj => S1 (c4.2 j hj) (by omega)⟩, fun m hm => ?_, c6.fr (G _) rfl, c7.fr (G _) (by rw [e, if_neg (by omega)]) rfl, c8.fr (G _) (by rw [e, if_neg (by omega)]) rfl rfl⟩
  · rw [e, if_pos rfl, f'.I rfl]; exact c4.1
  · rw [show hI (wI s' 235 25 (hI s' 235 25)) 252 m = hI s' 252 m from rfl, f'.I rfl, wI_at]
    show _ = b2i (if m = k then some (S, H) else M m).isSome ∧ ∀ U, (if m = k then some (S, H) else M m) = some U → _
    by_cases em : m = k
    · subst em
      rw [if_pos rfl, if_pos rfl]
      refine ⟨rfl, fun U hU => ?_⟩
      cases hU
      exact ⟨((c2.fr gA rfl).cp hO (fun j hj => c' j (by omega))).fr (g3 _) rfl, (HrdM.cp (c3.fr gA rfl) W.2.2.1.1 c').fr (g3 _) rfl⟩
    · rw [if_neg em, if_neg em]
      refine ⟨(c5 m hm).1, fun U hU => ⟨S1 ((c5 m hm).2 U hU).1 (by omega), ((((c5 m hm).2 U hU).2.fr gA rfl).only (W.2.2.2.2.1 m hm U hU).2.1 o' (by omega)).fr (g3 _) rfl⟩⟩
theorem mk_go {k : Nat} {z : Int32} {s' : AH} (W : WOK L S H B M D T N) (c : RM h L S H B M D T N) (hz : ¬ z = 0) (hk : k < 4) (ek : (nI k).toNatClampNeg = k) (hin : inN (nI k) 4 = true) (hm : ¬ b2i (M k).isSome = 0) (f' : Fr (fun q => Nat.beq q 251) (wI h 252 k 1) s') (o' : Only 0 40 (wI h 252 k 1) s') (c' : ∀ j, j < 40 → hI s' 251 (0 + j) = hI (wI h 252 k 1) 251 (40 * (1 + k) + j)) (h1 : ∀ h', Fr xM h h' → RM h' L (mkS M S (nI k) z) (mkH M H (nI k) z) (mkB M B (nI k) z) (mkM M S H (nI k) z) D T N → Q (some (.int (b2i (mkOk M (nI k) z)))) h') : Q (some (.int 1)) (wI s' 235 25 0) := by
  have hO := W.1
  obtain ⟨U, hU⟩ : ∃ U, M k = some U := Option.isSome_iff_exists.mp (by cases e : (M k).isSome; rw [e] at hm; exact absurd rfl hm; rfl)
  have ok : mkOk M (nI k) z = true := by { unfold mkOk; rw [hin, ek, hU]; simp }
  have e1 : mkS M S (nI k) z = U.1 := by { unfold mkS; rw [if_pos ⟨ok, hz⟩, ek, hU]; rfl }
  have e2 : mkH M H (nI k) z = U.2 := by { unfold mkH; rw [if_pos ⟨ok, hz⟩, ek, hU]; rfl }
  have e3 : mkB M B (nI k) z = (0, B.2) := if_pos ⟨ok, hz⟩
  have e4 : mkM M S H (nI k) z = M := if_neg (fun e => hz e.2)
  rw [ok, e1, e2, e3, e4] at h1
  have gA : Fr (fun q => Nat.beq q 252) h (wI h 252 k 1) := (Fr.refl _ _).wI rfl
  have g3 : Fr (fun q => Nat.beq q 235) s' (wI s' 235 25 0) := (Fr.refl _ _).wI rfl
  have G : Fr (fun q => Nat.beq q 235 || Nat.beq q 251 || Nat.beq q 252) h (wI s' 235 25 0) := ((gA.mono (fun q hq => by show (_ || _ || _) = true; rw [hq, Bool.or_true])).trans (f'.mono (fun q hq => by show (_ || _ || _) = true; rw [hq, Bool.or_true, Bool.true_or]))).wI rfl
  obtain ⟨c1, c2, c3, c4, c5, c6, c7, c8⟩ := c
  obtain ⟨q1, q2⟩ := (c5 k hk).2 U hU
  have hKU := (W.2.2.2.2.1 k hk U hU).2.1
  have S1 : ∀ {b V}, SceneM h b L V → 40 ≤ b → SceneM (wI s' 235 25 0) b L V := fun hS hd => ((hS.fr gA rfl).only hO o' (by omega)).fr g3 rfl
  have e : ∀ j, hI (wI s' 235 25 0) 235 j = if j = 25 then 0 else hI h 235 j := fun j => by rw [wI_at, f'.I rfl]; rfl
  refine h1 _ (G.mono (fun q hq => by simp only [Bool.or_eq_true, Nat.beq_eq] at hq; rcases hq with (rfl | rfl) | rfl <;> rfl)) ⟨c1.fr G rfl rfl rfl, ((q1.fr gA rfl).cp hO (fun j hj => c' j (by omega))).fr g3 rfl, (HrdM.cp (q2.fr gA rfl) hKU c').fr g3 rfl, ⟨?_, fun j hj => absurd hj (by omega)⟩, fun m hm => ?_, c6.fr G rfl, c7.fr G (by rw [e, if_neg (by omega)]) rfl, c8.fr G (by rw [e, if_neg (by omega)]) rfl rfl⟩
  · rw [e, if_pos rfl]; rfl
  · rw [show hI (wI s' 235 25 0) 252 m = hI s' 252 m from rfl, f'.I rfl, wI_at]
    refine ⟨?_, fun V hV => ⟨S1 ((c5 m hm).2 V hV).1 (by omega), ((((c5 m hm).2 V hV).2.fr gA rfl).only (W.2.2.2.2.1 m hm V hV).2.1 o' (by omega)).fr g3 rfl⟩⟩
    by_cases em : m = k
    · subst em; rw [if_pos rfl, hU]; rfl
    · rw [if_neg em]; exact (c5 m hm).1
theorem y_mark (W : WOK L S H B M D T N) (c : RM h L S H B M D T N) {m z : Int32} (h1 : ∀ h', Fr xM h h' → RM h' L (mkS M S m z) (mkH M H m z) (mkB M B m z) (mkM M S H m z) D T N → Q (some (.int (b2i (mkOk M m z)))) h') : Rc (d + 4) m_X13_mark [.ref 235, .int m, .int z] h Q := by
  have hO := W.1
  have hK := W.2.2.1.1
  have c0 := c.thr
  have F0 : Fr xM h (wI h 235 0 0) := (Fr.refl _ h).wI rfl
  have hno : mkOk M m z = false → Q (some (.int 0)) (wI h 235 0 0) := fun e => by
    unfold mkS mkH mkB mkM at h1
    rw [e] at h1
    simp only [Bool.false_eq_true, false_and, if_false] at h1
    exact h1 _ F0 c0
  refine R_in rfl rfl ?_
  refine R_gs 8 rfl ?_
  refine R_k rfl rfl (m_isIn (fun hx8 => ?_) (fun hx8 => ?_))
  ·
    refine W_bf rfl (by decide) ?_
    refine R_gs 15 rfl ?_
    obtain ⟨k, hk, rfl, ek, hin⟩ := mark_in3 hx8
    refine W_b rfl (fun hc15 => ?_) (fun hc15 => ?_)
    ·
      refine R_gs 35 rfl ?_
      refine R_zs rfl rfl (ix_nI _) (by omega) ?_
      refine R_gs 38 rfl ?_
      refine W_bt rfl (hc15) ?_
      refine R_gs 52 rfl ?_
      refine W_bt rfl (hc15) ?_
      refine R_gs 67 rfl ?_
      rw [show (40 : Int32) * (1 + nI k) = nI (40 * (1 + k)) from ix_mul (ix_lit 40) (ix_add (ix_lit 1) rfl), show vp_nar .boolean 1 = 1 from rfl]
      refine R_k rfl rfl (m_copies (f := 0) (t := 40 * (1 + k)) (n := 40) (by omega) (by omega) (by omega) (fun s' f' o' c' => ?_))
      refine R_gs 72 rfl ?_
      refine W_bt rfl (hc15) ?_
      refine R_gs 87 rfl ?_
      refine W_f rfl (by first | rfl | exact ⟨rfl, by first | decide | assumption | exact Or.inl rfl | exact Or.inr rfl | exact b2i_01 _⟩) ?_
      refine mk_lay W c0 hc15 hk ek hin f' o' c' (fun h' hF hR => h1 h' (F0.trans hF) hR)
    ·
      refine R_gs 23 rfl ?_
      refine R_bl rfl rfl (Or.inr rfl) (ix_nI _) (by omega) ((c0.2.2.2.2.1 k hk).1) ?_
      refine W_b rfl (fun hc24 => ?_) (fun hc24 => ?_)
      ·
        refine R_gs 28 rfl ?_
        refine W_f rfl (by first | rfl | exact ⟨rfl, by first | decide | assumption | exact Or.inl rfl | exact Or.inr rfl | exact b2i_01 _⟩) ?_
        exact hno (by unfold mkOk; rw [hin, ek, decide_eq_false hc15, b2i0.mp hc24]; rfl)
      ·
        refine R_gs 35 rfl ?_
        refine R_zs rfl rfl (ix_nI _) (by omega) ?_
        refine R_gs 38 rfl ?_
        refine W_bf rfl (hc15) ?_
        refine R_gs 52 rfl ?_
        refine W_bf rfl (hc15) ?_
        refine R_gs 67 rfl ?_
        rw [show (40 : Int32) * (1 + nI k) = nI (40 * (1 + k)) from ix_mul (ix_lit 40) (ix_add (ix_lit 1) rfl), show vp_nar .boolean 1 = 1 from rfl]
        refine R_k rfl rfl (m_copies (f := 40 * (1 + k)) (t := 0) (n := 40) (by omega) (by omega) (by omega) (fun s' f' o' c' => ?_))
        refine R_gs 72 rfl ?_
        refine W_bf rfl (hc15) ?_
        refine R_gs 87 rfl ?_
        refine W_f rfl (by first | rfl | exact ⟨rfl, by first | decide | assumption | exact Or.inl rfl | exact Or.inr rfl | exact b2i_01 _⟩) ?_
        refine mk_go W c0 hc15 hk ek hin hc24 f' o' c' (fun h' hF hR => h1 h' (F0.trans hF) hR)
  ·
    refine W_bt rfl (by decide) ?_
    refine R_gs 28 rfl ?_
    refine W_f rfl (by first | rfl | exact ⟨rfl, by first | decide | assumption | exact Or.inl rfl | exact Or.inr rfl | exact b2i_01 _⟩) ?_
    exact hno (by unfold mkOk; rw [mark_out hx8]; rfl)
end
