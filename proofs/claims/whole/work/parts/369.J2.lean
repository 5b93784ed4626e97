/-! told days, judged -/
def lnS (L : SL) (S : SS) (l : Nat × Nat × Nat) : SS := if l.1 = 2 then setA S l.2.1 l.2.2 else if l.1 = 3 then (if bt (sW S) (pr l.2.1 l.2.2) = true then sepS L S l.2.1 l.2.2 else S) else if l.1 = 4 then setE S (sE S ||| nI (2 ^ pr l.2.1 l.2.2)) else if l.1 = 5 then momS L S else setY S l.2.1 (if l.1 = 0 then nI l.2.2 else -1)
def lnB (S : SS) (l : Nat × Nat × Nat) : Bool := if l.1 = 2 then !decide (sA S l.2.1 = l.2.2) else if l.1 = 3 then bt (sW S) (pr l.2.1 l.2.2) else if l.1 = 4 then !bt (sE S) (pr l.2.1 l.2.2) else true
def jdF (L : SL) (D : SD') (k : Nat) (s : SS × Int32 × Int32) : SS × Int32 × Int32 := (lnS L s.1 (D.2 k), if lnB s.1 (D.2 k) = false ∧ s.2.1 = -1 then nI k else s.2.1, if (D.2 k).1 = 5 ∧ s.2.2 = -1 ∧ ¬ bigs (sW (lnS L s.1 (D.2 k))) = 0 then nI k else s.2.2)
def jdS (L : SL) (D : SD') (n : Nat) : SS × Int32 × Int32 := lp (jdF L D) n (begS L, -1, -1)
def jdA (L : SL) (D : SD') (w : Int32) : Int32 := if (decide (0 ≤ w) && decide (w ≤ 2)) = true then (if w = 2 then nI (pop (sW (jdS L D D.1).1)) else if w = 0 then (jdS L D D.1).2.1 else (jdS L D D.1).2.2) else -2
theorem lnS_ok {L : SL} {S : SS} {l : Nat × Nat × Nat} (hO : LandOK L) (hV : SceneOK L S) (hl : LineOK L l) : SceneOK L (lnS L S l) := by
  obtain ⟨l1, l2, l3, l4, l5, -⟩ := hl
  unfold lnS
  split
  · exact setA_ok hV (l4 (by assumption))
  · split
    · split
      · exact sep_ok hV _ _
      · exact hV
    · split
      · exact setE_ok hV _
      · split
        · exact mom_ok hO hV
        · refine setY_ok hV ?_
          split
          · exact Or.inr ⟨_, l3 (by assumption), rfl⟩
          · exact Or.inl rfl
theorem jd_ok {L : SL} {D : SD'} (hO : LandOK L) (hD : DayOK L D) : ∀ k, k ≤ D.1 → SceneOK L (jdS L D k).1
  | 0, _ => beg_ok hO
  | k + 1, hk => lnS_ok hO (jd_ok hO hD k (by omega)) (hD.2 k (by omega))
section
variable {d a g : Nat} {h h' : AH} {L : SL} {S : SS} {H : SH'} {B : SB'} {M : SM'} {D : SD'} {T : ST'} {N : SN'} {Q : Option Value → AH → Prop}
theorem DayC.V (c : DayC h g D) {k : Nat} (hk : k < D.1) : va_rf (hR h (g + 1) k) = .ref (1017 + (D.2 k).1) := by rw [(c.2 k hk).1]; rfl
theorem price_ne {L : SL} {w : Int32} {p q : Nat} : ¬ price L w p q = -1 := by
  unfold price clampP
  intro e
  split at e
  · exact absurd e (by decide)
  · split at e
    · exact absurd e (by decide)
    · rename_i h1 h2; rw [e] at h1; exact h1 (by decide)
theorem c_perform (hT : St h) (ha : a = 143 ∨ a = 171) (hg : g = 199 ∨ g = 203) (hO : LandOK L) (hL : LandC h a L) (hD : DayC h g D) (hDO : DayOK L D) (hS : SceneC h 14 L S) (hV : SceneOK L S) {k : Nat} (hk : k < D.1) (h1 : ∀ h', Fr (xs 14) h h' → SceneC h' 14 L (lnS L S (D.2 k)) → Q (some (.int (b2i (lnB S (D.2 k))))) h') : Rc (d + 6) m_X1_perform [.ref g, .int (nI k), .ref a, .ref 14] h Q := by
  obtain ⟨o1, o2, o3, o4, -⟩ := id hO
  have ha' := ha
  have hV1 := hD.V hk
  obtain ⟨l1, l2, l3, l4, l5, -⟩ := hDO.2 k hk
  have hD30 := hDO.1
  unfold lnS lnB at h1
  rcases ha with rfl | rfl <;> rcases hg with rfl | rfl
  all_goals
    refine R_in rfl rfl ?_
    refine R_gs 5 rfl ?_
    refine R_il rfl (by first | rfl | exact shO (by decide) (by omega) | exact shG (by decide) (by omega)) (by repeat (first | with_reducible apply ix_add | with_reducible apply ix_mul | with_reducible exact ix_nI _ | with_reducible exact ix_lit _ | exact rfl)) (by omega) (by first | exact (hD.2 k hk).2.1) ?_
    refine R_gs 13 rfl ?_
    refine R_il rfl (by first | rfl | exact shO (by decide) (by omega) | exact shG (by decide) (by omega)) (by repeat (first | with_reducible apply ix_add | with_reducible apply ix_mul | with_reducible exact ix_nI _ | with_reducible exact ix_lit _ | exact rfl)) (by omega) (by first | exact (hD.2 k hk).2.2) ?_
    refine R_gs 21 rfl ?_
    refine R_tl rfl rfl rfl (ix_nI _) (by omega) hV1 ?_
    refine R_gs 25 rfl ?_
    refine W_d rfl (by omega) (by omega) (by omega) (by omega) (fun hc25 => ?_) (fun hc25 => ?_)
    ·
      have e : (D.2 k).1 = 2 := (by omega)
      simp only [if_pos e] at h1
      refine R_gs 33 rfl ?_
      refine R_k rfl rfl (c_walkTo hO (Or.inr rfl) hS hV (l2 (by omega)) (l4 e) ?_)
      refine W_f rfl (by first | rfl | exact ⟨rfl, by first | decide | assumption | exact Or.inl rfl | exact Or.inr rfl | exact b2i_01 _⟩) ?_
      exact h1 _ ((Fr.refl _ h).wI rfl) (hS.pa (Or.inr rfl) _ _)
    ·
      have n2 : ¬ (D.2 k).1 = 2 := (by omega)
      simp only [if_neg n2] at h1
      refine R_gs 42 rfl ?_
      refine R_tl rfl rfl rfl (ix_nI _) (by omega) hV1 ?_
      refine R_gs 46 rfl ?_
      refine W_d rfl (by omega) (by omega) (by omega) (by omega) (fun hc46 => ?_) (fun hc46 => ?_)
      ·
        have e : (D.2 k).1 = 3 := (by omega)
        simp only [if_pos e] at h1
        refine R_gs 55 rfl ?_
        refine R_k rfl rfl (c_separate hT ha' hO hL (Or.inr rfl) hS hV (l2 (by omega)) (l5 (Or.inl e)).1 (Ne.symm (l5 (Or.inl e)).2) (fun hw => ?_) (fun hw h2 f2 e2 s2 => ?_))
        ·
          refine R_gs 59 rfl ?_
          refine W_bt rfl (rfl) ?_
          refine R_gs 67 rfl ?_
          refine W_f rfl (by first | rfl | exact ⟨rfl, by first | decide | assumption | exact Or.inl rfl | exact Or.inr rfl | exact b2i_01 _⟩) ?_
          rw [hw] at h1; exact h1 _ (Fr.refl _ h) hS
        ·
          refine R_gs 59 rfl ?_
          refine W_bf rfl (price_ne) ?_
          refine R_gs 67 rfl ?_
          refine W_f rfl (by first | rfl | exact ⟨rfl, by first | decide | assumption | exact Or.inl rfl | exact Or.inr rfl | exact b2i_01 _⟩) ?_
          rw [hw] at h1; exact h1 _ f2 s2
      ·
        have n3 : ¬ (D.2 k).1 = 3 := (by omega)
        simp only [if_neg n3] at h1
        refine R_gs 73 rfl ?_
        refine R_tl rfl rfl rfl (ix_nI _) (by omega) hV1 ?_
        refine R_gs 77 rfl ?_
        refine W_d rfl (by omega) (by omega) (by omega) (by omega) (fun hc77 => ?_) (fun hc77 => ?_)
        ·
          have e : (D.2 k).1 = 4 := (by omega)
          simp only [if_pos e] at h1
          refine R_gs 85 rfl ?_
          refine R_k rfl rfl (c_grant hO (Or.inr rfl) hS (l2 (by omega)) (l5 (Or.inr e)).1 (Ne.symm (l5 (Or.inr e)).2) ?_)
          refine W_f rfl (by first | rfl | exact ⟨rfl, by first | decide | assumption | exact Or.inl rfl | exact Or.inr rfl | exact b2i_01 _⟩) ?_
          exact h1 _ ((Fr.refl _ h).wI rfl) (hS.e (Or.inr rfl) _)
        ·
          have n4 : ¬ (D.2 k).1 = 4 := (by omega)
          simp only [if_neg n4] at h1
          refine R_gs 94 rfl ?_
          refine R_tl rfl rfl rfl (ix_nI _) (by omega) hV1 ?_
          refine R_gs 98 rfl ?_
          refine W_d rfl (by omega) (by omega) (by omega) (by omega) (fun hc98 => ?_) (fun hc98 => ?_)
          ·
            have e : (D.2 k).1 = 5 := (by omega)
            simp only [if_pos e] at h1
            refine R_gs 103 rfl ?_
            refine R_k rfl rfl (c_passMoment hT ha' hO hL (Or.inr rfl) hS hV (fun h2 f2 e2 s2 => ?_))
            refine R_gs 136 rfl ?_
            refine W_f rfl (by first | rfl | exact ⟨rfl, by first | decide | assumption | exact Or.inl rfl | exact Or.inr rfl | exact b2i_01 _⟩) ?_
            exact h1 _ f2 s2
          ·
            have n5 : ¬ (D.2 k).1 = 5 := (by omega)
            simp only [if_neg n5] at h1
            have hp := l2 n5
            refine R_gs 121 rfl ?_
            refine R_tl rfl rfl rfl (ix_nI _) (by omega) hV1 ?_
            refine R_gs 125 rfl ?_
            refine W_d rfl (by omega) (by omega) (by omega) (by omega) (fun hc125 => ?_) (fun hc125 => ?_)
            ·
              have e : (D.2 k).1 = 0 := (by omega)
              simp only [if_pos e] at h1
              refine R_gs 134 rfl ?_
              refine R_is rfl (by first | rfl | exact shO (by decide) (by omega) | exact shG (by decide) (by omega)) (by repeat (first | with_reducible apply ix_add | with_reducible apply ix_mul | with_reducible exact ix_nI _ | with_reducible exact ix_lit _ | exact rfl)) (by omega) ?_
              refine R_gs 136 rfl ?_
              refine W_f rfl (by first | rfl | exact ⟨rfl, by first | decide | assumption | exact Or.inl rfl | exact Or.inr rfl | exact b2i_01 _⟩) ?_
              exact h1 _ ((Fr.refl _ h).wI rfl) (hS.y (Or.inr rfl) _ _)
            ·
              have n0 : ¬ (D.2 k).1 = 0 := (by omega)
              simp only [if_neg n0] at h1
              refine R_gs 134 rfl ?_
              refine R_is rfl (by first | rfl | exact shO (by decide) (by omega) | exact shG (by decide) (by omega)) (by repeat (first | with_reducible apply ix_add | with_reducible apply ix_mul | with_reducible exact ix_nI _ | with_reducible exact ix_lit _ | exact rfl)) (by omega) ?_
              refine R_gs 136 rfl ?_
              refine W_f rfl (by first | rfl | exact ⟨rfl, by first | decide | assumption | exact Or.inl rfl | exact Or.inr rfl | exact b2i_01 _⟩) ?_
              exact h1 _ ((Fr.refl _ h).wI rfl) (hS.y (Or.inr rfl) _ _)
def xj (g q : Nat) : Bool := xs 14 q || Nat.beq q g
theorem xj_f {g q : Nat} (h : q < 14 ∨ 19 < q) (h2 : q ≠ 167 ∧ q ≠ 170 ∧ q ≠ 195 ∧ q ≠ 198) (h3 : q ≠ g) : xj g q = false := by
  cases e : xj g q with
  | false => rfl
  | true =>
    simp only [xj, xs, xsc, Bool.or_eq_true, Bool.and_eq_true, Nat.beq_eq, Nat.ble_eq] at e
    omega
theorem xj_s {g q : Nat} (h : xs 14 q = true) : xj g q = true := by unfold xj; rw [h]; rfl
theorem xj_g {g : Nat} : xj g g = true := by unfold xj; rw [Nat.beq_refl, Bool.or_true]
theorem DayC.j (c : DayC h g D) (hg : g = 199 ∨ g = 203) (f : Fr (xj g) h h') (e : hI h' g 3 = hI h g 3) : DayC h' g D := by
  unfold DayC at *
  rw [e, f.R (xj_f (by omega) (by omega) (by omega)), f.I (xj_f (by omega) (by omega) (by omega)), f.I (b := g + 3) (xj_f (by omega) (by omega) (by omega))]; exact c
theorem jd_s1 {L : SL} {D : SD'} {k : Nat} : (jdS L D (k + 1)).1 = lnS L (jdS L D k).1 (D.2 k) := rfl
theorem jd_s2 {L : SL} {D : SD'} {k : Nat} : (jdS L D (k + 1)).2.1 = if lnB (jdS L D k).1 (D.2 k) = false ∧ (jdS L D k).2.1 = -1 then nI k else (jdS L D k).2.1 := rfl
theorem jd_s3 {L : SL} {D : SD'} {k : Nat} : (jdS L D (k + 1)).2.2 = if (D.2 k).1 = 5 ∧ (jdS L D k).2.2 = -1 ∧ ¬ bigs (sW (jdS L D (k + 1)).1) = 0 then nI k else (jdS L D k).2.2 := rfl
theorem jd_1 {L : SL} {D : SD'} : ∀ k, (jdS L D k).2.1 = -1 ∨ ∃ i, i < k ∧ (jdS L D k).2.1 = nI i
  | 0 => Or.inl rfl
  | k + 1 => by
    rw [jd_s2]
    split
    · exact Or.inr ⟨k, by omega, rfl⟩
    · rcases jd_1 (L := L) (D := D) k with e | ⟨i, hi, e⟩
      · exact Or.inl e
      · exact Or.inr ⟨i, by omega, e⟩
theorem jd_2 {L : SL} {D : SD'} : ∀ k, (jdS L D k).2.2 = -1 ∨ ∃ i, i < k ∧ (jdS L D k).2.2 = nI i
  | 0 => Or.inl rfl
  | k + 1 => by
    rw [jd_s3]
    split
    · exact Or.inr ⟨k, by omega, rfl⟩
    · rcases jd_2 (L := L) (D := D) k with e | ⟨i, hi, e⟩
      · exact Or.inl e
      · exact Or.inr ⟨i, by omega, e⟩
theorem c_judge (hT : St h) (ha : a = 143 ∨ a = 171) (hg : g = 199 ∨ g = 203) (hO : LandOK L) (hL : LandC h a L) (hD : DayC h g D) (hDO : DayOK L D) (h1 : ∀ h', Fr (xj g) h h' → hI h' g 3 = hI h g 3 → SceneC h' 14 L (jdS L D D.1).1 → hI h' g 4 = (jdS L D D.1).2.1 → hI h' g 5 = (jdS L D D.1).2.2 → Q none h') : Rc (d + 7) m_X1_judge [.ref g, .ref a, .ref 14] h Q := by
  obtain ⟨o1, o2, o3, o4, -⟩ := id hO
  have ha' := ha
  have hg' := hg
  have hD30 := hDO.1
  rcases ha with rfl | rfl <;> rcases hg with rfl | rfl
  ·
    refine R_in rfl rfl ?_
    refine R_gs 2 rfl ?_
    refine R_k rfl rfl (c_begin ha' hO hL (Or.inr rfl) (fun h2 f2 e2 s2 => ?_))
    refine R_gs 17 rfl ?_
    refine w_inv (W := fun k (s : AH) => Rw (d + 6) Q (m_X1_judge, 17, [some (.ref 199), some (.ref 143), some (.ref 14), some (.int (nI k))], [], 262, s)) D.1 (fun k s => Fr (xj 199) h s ∧ hI s 199 3 = nI D.1 ∧ SceneC s 14 L (jdS L D k).1 ∧ hI s 199 4 = (jdS L D k).2.1 ∧ hI s 199 5 = (jdS L D k).2.2) ⟨((f2.mono (Y := xj 199) (fun q hq => xj_s (by have := xq_of hq; unfold xs; rw [Nat.ble_eq_true_of_le this.1, Nat.ble_eq_true_of_le (by omega)]; simp))).wI xj_g).wI xj_g, (congrFun (f2.I rfl) 3).trans hD.1, s2, rfl, rfl⟩ (fun k s hk hi w => ?_) (fun s hi => ?_)
    ·
      obtain ⟨i1, i2, i3, i4, i5⟩ := hi
      have iT := hT.fr i1 rfl rfl
      have iL := hL.fr hO i1 (fun i h1 h2 => xj_f (by omega) (by omega) (by omega))
      have iD : DayC s 199 D := hD.j hg' i1 (i2.trans hD.1.symm)
      have iV := jd_ok hO hDO k (by omega)
      have j1 := jd_1 (L := L) (D := D) k
      have j2 := jd_2 (L := L) (D := D) k
      have lk1 := (hDO.2 k hk).1
      refine R_gs 22 rfl ?_
      refine W_bf rfl (by rw [i2]; exact ltc hk (by omega)) ?_
      refine R_gs 29 rfl ?_
      refine R_k rfl rfl (c_perform iT ha' hg' hO iL iD hDO i3 iV hk (fun h3 f3 s3 => ?_))
      have k1 : Fr (xj 199) h h3 := i1.trans (f3.mono (fun q hq => xj_s hq))
      have kk : ∀ j, hI h3 199 j = hI s 199 j := fun j => by rw [f3.I rfl]
      have k2 : hI h3 199 3 = nI D.1 := (kk 3).trans i2
      have k4 := (kk 4).trans i4
      have k5 := (kk 5).trans i5
      have kT := hT.fr k1 rfl rfl
      have iD' : DayC h3 199 D := hD.j hg' k1 (k2.trans hD.1.symm)
      refine W_b rfl (fun hc32 => ?_) (fun hc32 => ?_)
      ·
        refine R_gs 40 rfl ?_
        rw [k4]
        refine W_b rfl (fun hc40 => ?_) (fun hc40 => ?_)
        ·
          refine R_gs 53 rfl ?_
          refine R_tl rfl rfl rfl (ix_nI _) (by omega) (iD'.V hk) ?_
          refine R_gs 57 rfl ?_
          refine W_d rfl (by omega) (by omega) (by omega) (by omega) (fun hc57 => ?_) (fun hc57 => ?_)
          ·
            refine R_gs 65 rfl ?_
            try rw [k5]
            rw [show hI (wI h3 199 4 (nI k)) 199 5 = (jdS L D k).2.2 from k5]
            refine W_b rfl (fun hc65 => ?_) (fun hc65 => ?_)
            ·
              refine R_gs 69 rfl ?_
              refine R_k rfl rfl (c_bigamistBits (by exact kT) (Or.inr rfl) hO (S := (jdS L D (k + 1)).1) (by exact s3) (jd_ok hO hDO (k + 1) hk) ?_)
              refine W_b rfl (fun hc72 => ?_) (fun hc72 => ?_)
              ·
                refine R_gs 17 rfl ?_
                rw [nI_1]; refine w _ ⟨(k1.wI xj_g), k2, s3, ?_, ?_⟩
                · rw [jd_s2]; rw [if_pos ⟨b2i0.mp hc32, hc40⟩]; rfl
                · rw [jd_s3]; rw [if_neg (fun e => e.2.2 hc72)]; exact k5
              ·
                refine R_gs 17 rfl ?_
                rw [nI_1]; refine w _ ⟨((k1.wI xj_g).wI xj_g), k2, s3, ?_, ?_⟩
                · rw [jd_s2]; rw [if_pos ⟨b2i0.mp hc32, hc40⟩]; rfl
                · rw [jd_s3]; rw [if_pos ⟨by omega, hc65, hc72⟩]; rfl
            ·
              refine R_gs 17 rfl ?_
              rw [nI_1]; refine w _ ⟨(k1.wI xj_g), k2, s3, ?_, ?_⟩
              · rw [jd_s2]; rw [if_pos ⟨b2i0.mp hc32, hc40⟩]; rfl
              · rw [jd_s3]; rw [if_neg (fun e => hc65 e.2.1)]; exact k5
          ·
            refine R_gs 17 rfl ?_
            rw [nI_1]; refine w _ ⟨(k1.wI xj_g), k2, s3, ?_, ?_⟩
            · rw [jd_s2]; rw [if_pos ⟨b2i0.mp hc32, hc40⟩]; rfl
            · rw [jd_s3]; rw [if_neg (fun e => hc57 (by rw [e.1]))]; exact k5
        ·
          refine R_gs 53 rfl ?_
          refine R_tl rfl rfl rfl (ix_nI _) (by omega) (iD'.V hk) ?_
          refine R_gs 57 rfl ?_
          refine W_d rfl (by omega) (by omega) (by omega) (by omega) (fun hc57 => ?_) (fun hc57 => ?_)
          ·
            refine R_gs 65 rfl ?_
            try rw [k5]
            skip
            refine W_b rfl (fun hc65 => ?_) (fun hc65 => ?_)
            ·
              refine R_gs 69 rfl ?_
              refine R_k rfl rfl (c_bigamistBits (by exact kT) (Or.inr rfl) hO (S := (jdS L D (k + 1)).1) (by exact s3) (jd_ok hO hDO (k + 1) hk) ?_)
              refine W_b rfl (fun hc72 => ?_) (fun hc72 => ?_)
              ·
                refine R_gs 17 rfl ?_
                rw [nI_1]; refine w _ ⟨k1, k2, s3, ?_, ?_⟩
                · rw [jd_s2]; rw [if_neg (fun e => hc40 e.2)]; exact k4
                · rw [jd_s3]; rw [if_neg (fun e => e.2.2 hc72)]; exact k5
              ·
                refine R_gs 17 rfl ?_
                rw [nI_1]; refine w _ ⟨(k1.wI xj_g), k2, s3, ?_, ?_⟩
                · rw [jd_s2]; rw [if_neg (fun e => hc40 e.2)]; exact k4
                · rw [jd_s3]; rw [if_pos ⟨by omega, hc65, hc72⟩]; rfl
            ·
              refine R_gs 17 rfl ?_
              rw [nI_1]; refine w _ ⟨k1, k2, s3, ?_, ?_⟩
              · rw [jd_s2]; rw [if_neg (fun e => hc40 e.2)]; exact k4
              · rw [jd_s3]; rw [if_neg (fun e => hc65 e.2.1)]; exact k5
          ·
            refine R_gs 17 rfl ?_
            rw [nI_1]; refine w _ ⟨k1, k2, s3, ?_, ?_⟩
            · rw [jd_s2]; rw [if_neg (fun e => hc40 e.2)]; exact k4
            · rw [jd_s3]; rw [if_neg (fun e => hc57 (by rw [e.1]))]; exact k5
      ·
        refine R_gs 53 rfl ?_
        refine R_tl rfl rfl rfl (ix_nI _) (by omega) (iD'.V hk) ?_
        refine R_gs 57 rfl ?_
        refine W_d rfl (by omega) (by omega) (by omega) (by omega) (fun hc57 => ?_) (fun hc57 => ?_)
        ·
          refine R_gs 65 rfl ?_
          try rw [k5]
          skip
          refine W_b rfl (fun hc65 => ?_) (fun hc65 => ?_)
          ·
            refine R_gs 69 rfl ?_
            refine R_k rfl rfl (c_bigamistBits (by exact kT) (Or.inr rfl) hO (S := (jdS L D (k + 1)).1) (by exact s3) (jd_ok hO hDO (k + 1) hk) ?_)
            refine W_b rfl (fun hc72 => ?_) (fun hc72 => ?_)
            ·
              refine R_gs 17 rfl ?_
              rw [nI_1]; refine w _ ⟨k1, k2, s3, ?_, ?_⟩
              · rw [jd_s2]; rw [if_neg (fun e => hc32 (b2i0.mpr e.1))]; exact k4
              · rw [jd_s3]; rw [if_neg (fun e => e.2.2 hc72)]; exact k5
            ·
              refine R_gs 17 rfl ?_
              rw [nI_1]; refine w _ ⟨(k1.wI xj_g), k2, s3, ?_, ?_⟩
              · rw [jd_s2]; rw [if_neg (fun e => hc32 (b2i0.mpr e.1))]; exact k4
              · rw [jd_s3]; rw [if_pos ⟨by omega, hc65, hc72⟩]; rfl
          ·
            refine R_gs 17 rfl ?_
            rw [nI_1]; refine w _ ⟨k1, k2, s3, ?_, ?_⟩
            · rw [jd_s2]; rw [if_neg (fun e => hc32 (b2i0.mpr e.1))]; exact k4
            · rw [jd_s3]; rw [if_neg (fun e => hc65 e.2.1)]; exact k5
        ·
          refine R_gs 17 rfl ?_
          rw [nI_1]; refine w _ ⟨k1, k2, s3, ?_, ?_⟩
          · rw [jd_s2]; rw [if_neg (fun e => hc32 (b2i0.mpr e.1))]; exact k4
          · rw [jd_s3]; rw [if_neg (fun e => hc57 (by rw [e.1]))]; exact k5
    ·
      obtain ⟨i1, i2, i3, i4, i5⟩ := hi
      refine R_gs 22 rfl ?_
      refine W_bt rfl (by rw [i2]; exact gec (by omega)) ?_
      refine W_f rfl (by first | rfl | exact ⟨rfl, by first | decide | assumption | exact Or.inl rfl | exact Or.inr rfl | exact b2i_01 _⟩) ?_
      exact h1 _ i1 (i2.trans hD.1.symm) i3 i4 i5
  ·
    refine R_in rfl rfl ?_
    refine R_gs 2 rfl ?_
    refine R_k rfl rfl (c_begin ha' hO hL (Or.inr rfl) (fun h2 f2 e2 s2 => ?_))
    refine R_gs 17 rfl ?_
    refine w_inv (W := fun k (s : AH) => Rw (d + 6) Q (m_X1_judge, 17, [some (.ref 203), some (.ref 143), some (.ref 14), some (.int (nI k))], [], 262, s)) D.1 (fun k s => Fr (xj 203) h s ∧ hI s 203 3 = nI D.1 ∧ SceneC s 14 L (jdS L D k).1 ∧ hI s 203 4 = (jdS L D k).2.1 ∧ hI s 203 5 = (jdS L D k).2.2) ⟨((f2.mono (Y := xj 203) (fun q hq => xj_s (by have := xq_of hq; unfold xs; rw [Nat.ble_eq_true_of_le this.1, Nat.ble_eq_true_of_le (by omega)]; simp))).wI xj_g).wI xj_g, (congrFun (f2.I rfl) 3).trans hD.1, s2, rfl, rfl⟩ (fun k s hk hi w => ?_) (fun s hi => ?_)
    ·
      obtain ⟨i1, i2, i3, i4, i5⟩ := hi
      have iT := hT.fr i1 rfl rfl
      have iL := hL.fr hO i1 (fun i h1 h2 => xj_f (by omega) (by omega) (by omega))
      have iD : DayC s 203 D := hD.j hg' i1 (i2.trans hD.1.symm)
      have iV := jd_ok hO hDO k (by omega)
      have j1 := jd_1 (L := L) (D := D) k
      have j2 := jd_2 (L := L) (D := D) k
      have lk1 := (hDO.2 k hk).1
      refine R_gs 22 rfl ?_
      refine W_bf rfl (by rw [i2]; exact ltc hk (by omega)) ?_
      refine R_gs 29 rfl ?_
      refine R_k rfl rfl (c_perform iT ha' hg' hO iL iD hDO i3 iV hk (fun h3 f3 s3 => ?_))
      have k1 : Fr (xj 203) h h3 := i1.trans (f3.mono (fun q hq => xj_s hq))
      have kk : ∀ j, hI h3 203 j = hI s 203 j := fun j => by rw [f3.I rfl]
      have k2 : hI h3 203 3 = nI D.1 := (kk 3).trans i2
      have k4 := (kk 4).trans i4
      have k5 := (kk 5).trans i5
      have kT := hT.fr k1 rfl rfl
      have iD' : DayC h3 203 D := hD.j hg' k1 (k2.trans hD.1.symm)
      refine W_b rfl (fun hc32 => ?_) (fun hc32 => ?_)
      ·
        refine R_gs 40 rfl ?_
        rw [k4]
        refine W_b rfl (fun hc40 => ?_) (fun hc40 => ?_)
        ·
          refine R_gs 53 rfl ?_
          refine R_tl rfl rfl rfl (ix_nI _) (by omega) (iD'.V hk) ?_
          refine R_gs 57 rfl ?_
          refine W_d rfl (by omega) (by omega) (by omega) (by omega) (fun hc57 => ?_) (fun hc57 => ?_)
          ·
            refine R_gs 65 rfl ?_
            try rw [k5]
            rw [show hI (wI h3 203 4 (nI k)) 203 5 = (jdS L D k).2.2 from k5]
            refine W_b rfl (fun hc65 => ?_) (fun hc65 => ?_)
            ·
              refine R_gs 69 rfl ?_
              refine R_k rfl rfl (c_bigamistBits (by exact kT) (Or.inr rfl) hO (S := (jdS L D (k + 1)).1) (by exact s3) (jd_ok hO hDO (k + 1) hk) ?_)
              refine W_b rfl (fun hc72 => ?_) (fun hc72 => ?_)
              ·
                refine R_gs 17 rfl ?_
                rw [nI_1]; refine w _ ⟨(k1.wI xj_g), k2, s3, ?_, ?_⟩
                · rw [jd_s2]; rw [if_pos ⟨b2i0.mp hc32, hc40⟩]; rfl
                · rw [jd_s3]; rw [if_neg (fun e => e.2.2 hc72)]; exact k5
              ·
                refine R_gs 17 rfl ?_
                rw [nI_1]; refine w _ ⟨((k1.wI xj_g).wI xj_g), k2, s3, ?_, ?_⟩
                · rw [jd_s2]; rw [if_pos ⟨b2i0.mp hc32, hc40⟩]; rfl
                · rw [jd_s3]; rw [if_pos ⟨by omega, hc65, hc72⟩]; rfl
            ·
              refine R_gs 17 rfl ?_
              rw [nI_1]; refine w _ ⟨(k1.wI xj_g), k2, s3, ?_, ?_⟩
              · rw [jd_s2]; rw [if_pos ⟨b2i0.mp hc32, hc40⟩]; rfl
              · rw [jd_s3]; rw [if_neg (fun e => hc65 e.2.1)]; exact k5
          ·
            refine R_gs 17 rfl ?_
            rw [nI_1]; refine w _ ⟨(k1.wI xj_g), k2, s3, ?_, ?_⟩
            · rw [jd_s2]; rw [if_pos ⟨b2i0.mp hc32, hc40⟩]; rfl
            · rw [jd_s3]; rw [if_neg (fun e => hc57 (by rw [e.1]))]; exact k5
        ·
          refine R_gs 53 rfl ?_
          refine R_tl rfl rfl rfl (ix_nI _) (by omega) (iD'.V hk) ?_
          refine R_gs 57 rfl ?_
          refine W_d rfl (by omega) (by omega) (by omega) (by omega) (fun hc57 => ?_) (fun hc57 => ?_)
          ·
            refine R_gs 65 rfl ?_
            try rw [k5]
            skip
            refine W_b rfl (fun hc65 => ?_) (fun hc65 => ?_)
            ·
              refine R_gs 69 rfl ?_
              refine R_k rfl rfl (c_bigamistBits (by exact kT) (Or.inr rfl) hO (S := (jdS L D (k + 1)).1) (by exact s3) (jd_ok hO hDO (k + 1) hk) ?_)
              refine W_b rfl (fun hc72 => ?_) (fun hc72 => ?_)
              ·
                refine R_gs 17 rfl ?_
                rw [nI_1]; refine w _ ⟨k1, k2, s3, ?_, ?_⟩
                · rw [jd_s2]; rw [if_neg (fun e => hc40 e.2)]; exact k4
                · rw [jd_s3]; rw [if_neg (fun e => e.2.2 hc72)]; exact k5
              ·
                refine R_gs 17 rfl ?_
                rw [nI_1]; refine w _ ⟨(k1.wI xj_g), k2, s3, ?_, ?_⟩
                · rw [jd_s2]; rw [if_neg (fun e => hc40 e.2)]; exact k4
                · rw [jd_s3]; rw [if_pos ⟨by omega, hc65, hc72⟩]; rfl
            ·
              refine R_gs 17 rfl ?_
              rw [nI_1]; refine w _ ⟨k1, k2, s3, ?_, ?_⟩
              · rw [jd_s2]; rw [if_neg (fun e => hc40 e.2)]; exact k4
              · rw [jd_s3]; rw [if_neg (fun e => hc65 e.2.1)]; exact k5
          ·
            refine R_gs 17 rfl ?_
            rw [nI_1]; refine w _ ⟨k1, k2, s3, ?_, ?_⟩
            · rw [jd_s2]; rw [if_neg (fun e => hc40 e.2)]; exact k4
            · rw [jd_s3]; rw [if_neg (fun e => hc57 (by rw [e.1]))]; exact k5
      ·
        refine R_gs 53 rfl ?_
        refine R_tl rfl rfl rfl (ix_nI _) (by omega) (iD'.V hk) ?_
        refine R_gs 57 rfl ?_
        refine W_d rfl (by omega) (by omega) (by omega) (by omega) (fun hc57 => ?_) (fun hc57 => ?_)
        ·
          refine R_gs 65 rfl ?_
          try rw [k5]
          skip
          refine W_b rfl (fun hc65 => ?_) (fun hc65 => ?_)
          ·
            refine R_gs 69 rfl ?_
            refine R_k rfl rfl (c_bigamistBits (by exact kT) (Or.inr rfl) hO (S := (jdS L D (k + 1)).1) (by exact s3) (jd_ok hO hDO (k + 1) hk) ?_)
            refine W_b rfl (fun hc72 => ?_) (fun hc72 => ?_)
            ·
              refine R_gs 17 rfl ?_
              rw [nI_1]; refine w _ ⟨k1, k2, s3, ?_, ?_⟩
              · rw [jd_s2]; rw [if_neg (fun e => hc32 (b2i0.mpr e.1))]; exact k4
              · rw [jd_s3]; rw [if_neg (fun e => e.2.2 hc72)]; exact k5
            ·
              refine R_gs 17 rfl ?_
              rw [nI_1]; refine w _ ⟨(k1.wI xj_g), k2, s3, ?_, ?_⟩
              · rw [jd_s2]; rw [if_neg (fun e => hc32 (b2i0.mpr e.1))]; exact k4
              · rw [jd_s3]; rw [if_pos ⟨by omega, hc65, hc72⟩]; rfl
          ·
            refine R_gs 17 rfl ?_
            rw [nI_1]; refine w _ ⟨k1, k2, s3, ?_, ?_⟩
            · rw [jd_s2]; rw [if_neg (fun e => hc32 (b2i0.mpr e.1))]; exact k4
            · rw [jd_s3]; rw [if_neg (fun e => hc65 e.2.1)]; exact k5
        ·
          refine R_gs 17 rfl ?_
          rw [nI_1]; refine w _ ⟨k1, k2, s3, ?_, ?_⟩
          · rw [jd_s2]; rw [if_neg (fun e => hc32 (b2i0.mpr e.1))]; exact k4
          · rw [jd_s3]; rw [if_neg (fun e => hc57 (by rw [e.1]))]; exact k5
    ·
      obtain ⟨i1, i2, i3, i4, i5⟩ := hi
      refine R_gs 22 rfl ?_
      refine W_bt rfl (by rw [i2]; exact gec (by omega)) ?_
      refine W_f rfl (by first | rfl | exact ⟨rfl, by first | decide | assumption | exact Or.inl rfl | exact Or.inr rfl | exact b2i_01 _⟩) ?_
      exact h1 _ i1 (i2.trans hD.1.symm) i3 i4 i5
  ·
    refine R_in rfl rfl ?_
    refine R_gs 2 rfl ?_
    refine R_k rfl rfl (c_begin ha' hO hL (Or.inr rfl) (fun h2 f2 e2 s2 => ?_))
    refine R_gs 17 rfl ?_
    refine w_inv (W := fun k (s : AH) => Rw (d + 6) Q (m_X1_judge, 17, [some (.ref 199), some (.ref 171), some (.ref 14), some (.int (nI k))], [], 262, s)) D.1 (fun k s => Fr (xj 199) h s ∧ hI s 199 3 = nI D.1 ∧ SceneC s 14 L (jdS L D k).1 ∧ hI s 199 4 = (jdS L D k).2.1 ∧ hI s 199 5 = (jdS L D k).2.2) ⟨((f2.mono (Y := xj 199) (fun q hq => xj_s (by have := xq_of hq; unfold xs; rw [Nat.ble_eq_true_of_le this.1, Nat.ble_eq_true_of_le (by omega)]; simp))).wI xj_g).wI xj_g, (congrFun (f2.I rfl) 3).trans hD.1, s2, rfl, rfl⟩ (fun k s hk hi w => ?_) (fun s hi => ?_)
    ·
      obtain ⟨i1, i2, i3, i4, i5⟩ := hi
      have iT := hT.fr i1 rfl rfl
      have iL := hL.fr hO i1 (fun i h1 h2 => xj_f (by omega) (by omega) (by omega))
      have iD : DayC s 199 D := hD.j hg' i1 (i2.trans hD.1.symm)
      have iV := jd_ok hO hDO k (by omega)
      have j1 := jd_1 (L := L) (D := D) k
      have j2 := jd_2 (L := L) (D := D) k
      have lk1 := (hDO.2 k hk).1
      refine R_gs 22 rfl ?_
      refine W_bf rfl (by rw [i2]; exact ltc hk (by omega)) ?_
      refine R_gs 29 rfl ?_
      refine R_k rfl rfl (c_perform iT ha' hg' hO iL iD hDO i3 iV hk (fun h3 f3 s3 => ?_))
      have k1 : Fr (xj 199) h h3 := i1.trans (f3.mono (fun q hq => xj_s hq))
      have kk : ∀ j, hI h3 199 j = hI s 199 j := fun j => by rw [f3.I rfl]
      have k2 : hI h3 199 3 = nI D.1 := (kk 3).trans i2
      have k4 := (kk 4).trans i4
      have k5 := (kk 5).trans i5
      have kT := hT.fr k1 rfl rfl
      have iD' : DayC h3 199 D := hD.j hg' k1 (k2.trans hD.1.symm)
      refine W_b rfl (fun hc32 => ?_) (fun hc32 => ?_)
      ·
        refine R_gs 40 rfl ?_
        rw [k4]
        refine W_b rfl (fun hc40 => ?_) (fun hc40 => ?_)
        ·
          refine R_gs 53 rfl ?_
          refine R_tl rfl rfl rfl (ix_nI _) (by omega) (iD'.V hk) ?_
          refine R_gs 57 rfl ?_
          refine W_d rfl (by omega) (by omega) (by omega) (by omega) (fun hc57 => ?_) (fun hc57 => ?_)
          ·
            refine R_gs 65 rfl ?_
            try rw [k5]
            rw [show hI (wI h3 199 4 (nI k)) 199 5 = (jdS L D k).2.2 from k5]
            refine W_b rfl (fun hc65 => ?_) (fun hc65 => ?_)
            ·
              refine R_gs 69 rfl ?_
              refine R_k rfl rfl (c_bigamistBits (by exact kT) (Or.inr rfl) hO (S := (jdS L D (k + 1)).1) (by exact s3) (jd_ok hO hDO (k + 1) hk) ?_)
              refine W_b rfl (fun hc72 => ?_) (fun hc72 => ?_)
              ·
                refine R_gs 17 rfl ?_
                rw [nI_1]; refine w _ ⟨(k1.wI xj_g), k2, s3, ?_, ?_⟩
                · rw [jd_s2]; rw [if_pos ⟨b2i0.mp hc32, hc40⟩]; rfl
                · rw [jd_s3]; rw [if_neg (fun e => e.2.2 hc72)]; exact k5
              ·
                refine R_gs 17 rfl ?_
                rw [nI_1]; refine w _ ⟨((k1.wI xj_g).wI xj_g), k2, s3, ?_, ?_⟩
                · rw [jd_s2]; rw [if_pos ⟨b2i0.mp hc32, hc40⟩]; rfl
                · rw [jd_s3]; rw [if_pos ⟨by omega, hc65, hc72⟩]; rfl
            ·
              refine R_gs 17 rfl ?_
              rw [nI_1]; refine w _ ⟨(k1.wI xj_g), k2, s3, ?_, ?_⟩
              · rw [jd_s2]; rw [if_pos ⟨b2i0.mp hc32, hc40⟩]; rfl
              · rw [jd_s3]; rw [if_neg (fun e => hc65 e.2.1)]; exact k5
          ·
            refine R_gs 17 rfl ?_
            rw [nI_1]; refine w _ ⟨(k1.wI xj_g), k2, s3, ?_, ?_⟩
            · rw [jd_s2]; rw [if_pos ⟨b2i0.mp hc32, hc40⟩]; rfl
            · rw [jd_s3]; rw [if_neg (fun e => hc57 (by rw [e.1]))]; exact k5
        ·
          refine R_gs 53 rfl ?_
          refine R_tl rfl rfl rfl (ix_nI _) (by omega) (iD'.V hk) ?_
          refine R_gs 57 rfl ?_
          refine W_d rfl (by omega) (by omega) (by omega) (by omega) (fun hc57 => ?_) (fun hc57 => ?_)
          ·
            refine R_gs 65 rfl ?_
            try rw [k5]
            skip
            refine W_b rfl (fun hc65 => ?_) (fun hc65 => ?_)
            ·
              refine R_gs 69 rfl ?_
              refine R_k rfl rfl (c_bigamistBits (by exact kT) (Or.inr rfl) hO (S := (jdS L D (k + 1)).1) (by exact s3) (jd_ok hO hDO (k + 1) hk) ?_)
              refine W_b rfl (fun hc72 => ?_) (fun hc72 => ?_)
              ·
                refine R_gs 17 rfl ?_
                rw [nI_1]; refine w _ ⟨k1, k2, s3, ?_, ?_⟩
                · rw [jd_s2]; rw [if_neg (fun e => hc40 e.2)]; exact k4
                · rw [jd_s3]; rw [if_neg (fun e => e.2.2 hc72)]; exact k5
              ·
                refine R_gs 17 rfl ?_
                rw [nI_1]; refine w _ ⟨(k1.wI xj_g), k2, s3, ?_, ?_⟩
                · rw [jd_s2]; rw [if_neg (fun e => hc40 e.2)]; exact k4
                · rw [jd_s3]; rw [if_pos ⟨by omega, hc65, hc72⟩]; rfl
            ·
              refine R_gs 17 rfl ?_
              rw [nI_1]; refine w _ ⟨k1, k2, s3, ?_, ?_⟩
              · rw [jd_s2]; rw [if_neg (fun e => hc40 e.2)]; exact k4
              · rw [jd_s3]; rw [if_neg (fun e => hc65 e.2.1)]; exact k5
          ·
            refine R_gs 17 rfl ?_
            rw [nI_1]; refine w _ ⟨k1, k2, s3, ?_, ?_⟩
            · rw [jd_s2]; rw [if_neg (fun e => hc40 e.2)]; exact k4
            · rw [jd_s3]; rw [if_neg (fun e => hc57 (by rw [e.1]))]; exact k5
      ·
        refine R_gs 53 rfl ?_
        refine R_tl rfl rfl rfl (ix_nI _) (by omega) (iD'.V hk) ?_
        refine R_gs 57 rfl ?_
        refine W_d rfl (by omega) (by omega) (by omega) (by omega) (fun hc57 => ?_) (fun hc57 => ?_)
        ·
          refine R_gs 65 rfl ?_
          try rw [k5]
          skip
          refine W_b rfl (fun hc65 => ?_) (fun hc65 => ?_)
          ·
            refine R_gs 69 rfl ?_
            refine R_k rfl rfl (c_bigamistBits (by exact kT) (Or.inr rfl) hO (S := (jdS L D (k + 1)).1) (by exact s3) (jd_ok hO hDO (k + 1) hk) ?_)
            refine W_b rfl (fun hc72 => ?_) (fun hc72 => ?_)
            ·
              refine R_gs 17 rfl ?_
              rw [nI_1]; refine w _ ⟨k1, k2, s3, ?_, ?_⟩
              · rw [jd_s2]; rw [if_neg (fun e => hc32 (b2i0.mpr e.1))]; exact k4
              · rw [jd_s3]; rw [if_neg (fun e => e.2.2 hc72)]; exact k5
            ·
              refine R_gs 17 rfl ?_
              rw [nI_1]; refine w _ ⟨(k1.wI xj_g), k2, s3, ?_, ?_⟩
              · rw [jd_s2]; rw [if_neg (fun e => hc32 (b2i0.mpr e.1))]; exact k4
              · rw [jd_s3]; rw [if_pos ⟨by omega, hc65, hc72⟩]; rfl
          ·
            refine R_gs 17 rfl ?_
            rw [nI_1]; refine w _ ⟨k1, k2, s3, ?_, ?_⟩
            · rw [jd_s2]; rw [if_neg (fun e => hc32 (b2i0.mpr e.1))]; exact k4
            · rw [jd_s3]; rw [if_neg (fun e => hc65 e.2.1)]; exact k5
        ·
          refine R_gs 17 rfl ?_
          rw [nI_1]; refine w _ ⟨k1, k2, s3, ?_, ?_⟩
          · rw [jd_s2]; rw [if_neg (fun e => hc32 (b2i0.mpr e.1))]; exact k4
          · rw [jd_s3]; rw [if_neg (fun e => hc57 (by rw [e.1]))]; exact k5
    ·
      obtain ⟨i1, i2, i3, i4, i5⟩ := hi
      refine R_gs 22 rfl ?_
      refine W_bt rfl (by rw [i2]; exact gec (by omega)) ?_
      refine W_f rfl (by first | rfl | exact ⟨rfl, by first | decide | assumption | exact Or.inl rfl | exact Or.inr rfl | exact b2i_01 _⟩) ?_
      exact h1 _ i1 (i2.trans hD.1.symm) i3 i4 i5
  ·
    refine R_in rfl rfl ?_
    refine R_gs 2 rfl ?_
    refine R_k rfl rfl (c_begin ha' hO hL (Or.inr rfl) (fun h2 f2 e2 s2 => ?_))
    refine R_gs 17 rfl ?_
    refine w_inv (W := fun k (s : AH) => Rw (d + 6) Q (m_X1_judge, 17, [some (.ref 203), some (.ref 171), some (.ref 14), some (.int (nI k))], [], 262, s)) D.1 (fun k s => Fr (xj 203) h s ∧ hI s 203 3 = nI D.1 ∧ SceneC s 14 L (jdS L D k).1 ∧ hI s 203 4 = (jdS L D k).2.1 ∧ hI s 203 5 = (jdS L D k).2.2) ⟨((f2.mono (Y := xj 203) (fun q hq => xj_s (by have := xq_of hq; unfold xs; rw [Nat.ble_eq_true_of_le this.1, Nat.ble_eq_true_of_le (by omega)]; simp))).wI xj_g).wI xj_g, (congrFun (f2.I rfl) 3).trans hD.1, s2, rfl, rfl⟩ (fun k s hk hi w => ?_) (fun s hi => ?_)
    ·
      obtain ⟨i1, i2, i3, i4, i5⟩ := hi
      have iT := hT.fr i1 rfl rfl
      have iL := hL.fr hO i1 (fun i h1 h2 => xj_f (by omega) (by omega) (by omega))
      have iD : DayC s 203 D := hD.j hg' i1 (i2.trans hD.1.symm)
      have iV := jd_ok hO hDO k (by omega)
      have j1 := jd_1 (L := L) (D := D) k
      have j2 := jd_2 (L := L) (D := D) k
      have lk1 := (hDO.2 k hk).1
      refine R_gs 22 rfl ?_
      refine W_bf rfl (by rw [i2]; exact ltc hk (by omega)) ?_
      refine R_gs 29 rfl ?_
      refine R_k rfl rfl (c_perform iT ha' hg' hO iL iD hDO i3 iV hk (fun h3 f3 s3 => ?_))
      have k1 : Fr (xj 203) h h3 := i1.trans (f3.mono (fun q hq => xj_s hq))
      have kk : ∀ j, hI h3 203 j = hI s 203 j := fun j => by rw [f3.I rfl]
      have k2 : hI h3 203 3 = nI D.1 := (kk 3).trans i2
      have k4 := (kk 4).trans i4
      have k5 := (kk 5).trans i5
      have kT := hT.fr k1 rfl rfl
      have iD' : DayC h3 203 D := hD.j hg' k1 (k2.trans hD.1.symm)
      refine W_b rfl (fun hc32 => ?_) (fun hc32 => ?_)
      ·
        refine R_gs 40 rfl ?_
        rw [k4]
        refine W_b rfl (fun hc40 => ?_) (fun hc40 => ?_)
        ·
          refine R_gs 53 rfl ?_
          refine R_tl rfl rfl rfl (ix_nI _) (by omega) (iD'.V hk) ?_
          refine R_gs 57 rfl ?_
          refine W_d rfl (by omega) (by omega) (by omega) (by omega) (fun hc57 => ?_) (fun hc57 => ?_)
          ·
            refine R_gs 65 rfl ?_
            try rw [k5]
            rw [show hI (wI h3 203 4 (nI k)) 203 5 = (jdS L D k).2.2 from k5]
            refine W_b rfl (fun hc65 => ?_) (fun hc65 => ?_)
            ·
              refine R_gs 69 rfl ?_
              refine R_k rfl rfl (c_bigamistBits (by exact kT) (Or.inr rfl) hO (S := (jdS L D (k + 1)).1) (by exact s3) (jd_ok hO hDO (k + 1) hk) ?_)
              refine W_b rfl (fun hc72 => ?_) (fun hc72 => ?_)
              ·
                refine R_gs 17 rfl ?_
                rw [nI_1]; refine w _ ⟨(k1.wI xj_g), k2, s3, ?_, ?_⟩
                · rw [jd_s2]; rw [if_pos ⟨b2i0.mp hc32, hc40⟩]; rfl
                · rw [jd_s3]; rw [if_neg (fun e => e.2.2 hc72)]; exact k5
              ·
                refine R_gs 17 rfl ?_
                rw [nI_1]; refine w _ ⟨((k1.wI xj_g).wI xj_g), k2, s3, ?_, ?_⟩
                · rw [jd_s2]; rw [if_pos ⟨b2i0.mp hc32, hc40⟩]; rfl
                · rw [jd_s3]; rw [if_pos ⟨by omega, hc65, hc72⟩]; rfl
            ·
              refine R_gs 17 rfl ?_
              rw [nI_1]; refine w _ ⟨(k1.wI xj_g), k2, s3, ?_, ?_⟩
              · rw [jd_s2]; rw [if_pos ⟨b2i0.mp hc32, hc40⟩]; rfl
              · rw [jd_s3]; rw [if_neg (fun e => hc65 e.2.1)]; exact k5
          ·
            refine R_gs 17 rfl ?_
            rw [nI_1]; refine w _ ⟨(k1.wI xj_g), k2, s3, ?_, ?_⟩
            · rw [jd_s2]; rw [if_pos ⟨b2i0.mp hc32, hc40⟩]; rfl
            · rw [jd_s3]; rw [if_neg (fun e => hc57 (by rw [e.1]))]; exact k5
        ·
          refine R_gs 53 rfl ?_
          refine R_tl rfl rfl rfl (ix_nI _) (by omega) (iD'.V hk) ?_
          refine R_gs 57 rfl ?_
          refine W_d rfl (by omega) (by omega) (by omega) (by omega) (fun hc57 => ?_) (fun hc57 => ?_)
          ·
            refine R_gs 65 rfl ?_
            try rw [k5]
            skip
            refine W_b rfl (fun hc65 => ?_) (fun hc65 => ?_)
            ·
              refine R_gs 69 rfl ?_
              refine R_k rfl rfl (c_bigamistBits (by exact kT) (Or.inr rfl) hO (S := (jdS L D (k + 1)).1) (by exact s3) (jd_ok hO hDO (k + 1) hk) ?_)
              refine W_b rfl (fun hc72 => ?_) (fun hc72 => ?_)
              ·
                refine R_gs 17 rfl ?_
                rw [nI_1]; refine w _ ⟨k1, k2, s3, ?_, ?_⟩
                · rw [jd_s2]; rw [if_neg (fun e => hc40 e.2)]; exact k4
                · rw [jd_s3]; rw [if_neg (fun e => e.2.2 hc72)]; exact k5
              ·
                refine R_gs 17 rfl ?_
                rw [nI_1]; refine w _ ⟨(k1.wI xj_g), k2, s3, ?_, ?_⟩
                · rw [jd_s2]; rw [if_neg (fun e => hc40 e.2)]; exact k4
                · rw [jd_s3]; rw [if_pos ⟨by omega, hc65, hc72⟩]; rfl
            ·
              refine R_gs 17 rfl ?_
              rw [nI_1]; refine w _ ⟨k1, k2, s3, ?_, ?_⟩
              · rw [jd_s2]; rw [if_neg (fun e => hc40 e.2)]; exact k4
              · rw [jd_s3]; rw [if_neg (fun e => hc65 e.2.1)]; exact k5
          ·
            refine R_gs 17 rfl ?_
            rw [nI_1]; refine w _ ⟨k1, k2, s3, ?_, ?_⟩
            · rw [jd_s2]; rw [if_neg (fun e => hc40 e.2)]; exact k4
            · rw [jd_s3]; rw [if_neg (fun e => hc57 (by rw [e.1]))]; exact k5
      ·
        refine R_gs 53 rfl ?_
        refine R_tl rfl rfl rfl (ix_nI _) (by omega) (iD'.V hk) ?_
        refine R_gs 57 rfl ?_
        refine W_d rfl (by omega) (by omega) (by omega) (by omega) (fun hc57 => ?_) (fun hc57 => ?_)
        ·
          refine R_gs 65 rfl ?_
          try rw [k5]
          skip
          refine W_b rfl (fun hc65 => ?_) (fun hc65 => ?_)
          ·
            refine R_gs 69 rfl ?_
            refine R_k rfl rfl (c_bigamistBits (by exact kT) (Or.inr rfl) hO (S := (jdS L D (k + 1)).1) (by exact s3) (jd_ok hO hDO (k + 1) hk) ?_)
            refine W_b rfl (fun hc72 => ?_) (fun hc72 => ?_)
            ·
              refine R_gs 17 rfl ?_
              rw [nI_1]; refine w _ ⟨k1, k2, s3, ?_, ?_⟩
              · rw [jd_s2]; rw [if_neg (fun e => hc32 (b2i0.mpr e.1))]; exact k4
              · rw [jd_s3]; rw [if_neg (fun e => e.2.2 hc72)]; exact k5
            ·
              refine R_gs 17 rfl ?_
              rw [nI_1]; refine w _ ⟨(k1.wI xj_g), k2, s3, ?_, ?_⟩
              · rw [jd_s2]; rw [if_neg (fun e => hc32 (b2i0.mpr e.1))]; exact k4
              · rw [jd_s3]; rw [if_pos ⟨by omega, hc65, hc72⟩]; rfl
          ·
            refine R_gs 17 rfl ?_
            rw [nI_1]; refine w _ ⟨k1, k2, s3, ?_, ?_⟩
            · rw [jd_s2]; rw [if_neg (fun e => hc32 (b2i0.mpr e.1))]; exact k4
            · rw [jd_s3]; rw [if_neg (fun e => hc65 e.2.1)]; exact k5
        ·
          refine R_gs 17 rfl ?_
          rw [nI_1]; refine w _ ⟨k1, k2, s3, ?_, ?_⟩
          · rw [jd_s2]; rw [if_neg (fun e => hc32 (b2i0.mpr e.1))]; exact k4
          · rw [jd_s3]; rw [if_neg (fun e => hc57 (by rw [e.1]))]; exact k5
    ·
      obtain ⟨i1, i2, i3, i4, i5⟩ := hi
      refine R_gs 22 rfl ?_
      refine W_bt rfl (by rw [i2]; exact gec (by omega)) ?_
      refine W_f rfl (by first | rfl | exact ⟨rfl, by first | decide | assumption | exact Or.inl rfl | exact Or.inr rfl | exact b2i_01 _⟩) ?_
      exact h1 _ i1 (i2.trans hD.1.symm) i3 i4 i5
theorem RC.jud (hO : LandOK L) {h' : AH} (c1 : CoreC h a g) (c2 : LandC h a L) (c3 : SceneC h 7 L S) (c4 : HrdC h 7 H) (c5 : HisC h L B.1 B.2) (c6 : MrkC h L M) (c7 : DayC h g D) (c8 : TapC h T) (c9 : NamC h a N) (c10 : St h) (c11 : MatC h) (f : Fr (xj g) h h') (e : hI h' g 3 = hI h g 3) : RC h' L S H B M D T N := by
  have ha := c1.1
  have hg := c1.2.1
  have xf : ∀ q, (q < 14 ∨ 19 < q) → (q ≠ 167 ∧ q ≠ 170 ∧ q ≠ 195 ∧ q ≠ 198) → q ≠ g → xj g q = false := fun q h1 h2 h3 => xj_f h1 h2 h3
  exact ⟨a, g, c1.fr f (xf _ (by omega) (by omega) (by omega)), c2.fr hO f (fun i h1 h2 => xf _ (by omega) (by omega) (by omega)), c3.fr f (xf _ (by omega) (by omega) (by omega)) (xf _ (by omega) (by omega) (by omega)) (xf _ (by omega) (by omega) (by omega)) (xf _ (by omega) (by omega) (by omega)) (xf _ (by omega) (by omega) (by omega)), c4.fr f (xf _ (by omega) (by omega) (by omega)) (xf _ (by omega) (by omega) (by omega)), c5.fr f (xf _ (by omega) (by omega) (by omega)) (fun q _ _ => xf _ (by omega) (by omega) (by omega)), c6.fr f (xf _ (by omega) (by omega) (by omega)) (fun q _ _ => xf _ (by omega) (by omega) (by omega)), c7.j hg f e, c8.fr f (xf _ (by omega) (by omega) (by omega)) (xf _ (by omega) (by omega) (by omega)), c9.fr f (xf _ (by omega) (by omega) (by omega)) (xf _ (by omega) (by omega) (by omega)) (xf _ (by omega) (by omega) (by omega)) (xf _ (by omega) (by omega) (by omega)), c10.fr f (xf _ (by omega) (by omega) (by omega)) (xf _ (by omega) (by omega) (by omega)), c11.fr f (xf _ (by omega) (by omega) (by omega))⟩
theorem x_judged (W : WOK L S H B M D T N) (c : RC h L S H B M D T N) {w : Int32} (h1 : ∀ h', Fr xC h h' → RC h' L S H B M D T N → Q (some (.int (jdA L D w))) h') : Rc (d + 8) m_X12_judged [.ref 0, .int w] h Q := by
  have hO := W.1
  have hDO := W.2.2.2.2.2.1
  have c0 := c
  obtain ⟨a, g, c1, c2, c3, c4, c5, c6, c7, c8, c9, c10, c11⟩ := c
  have ha := c1.1
  have hg := c1.2.1
  have ha' := ha
  have hg' := hg
  have eL := vr c1.2.2.1
  have eG := vr c1.2.2.2.2.1
  have hP := (jd_ok hO hDO D.1 (Nat.le_refl _)).1.b15 hO.2.2.1
  unfold jdA at h1
  rcases ha with rfl | rfl <;> rcases hg with rfl | rfl
  all_goals
    refine R_in rfl rfl ?_
    refine R_gs 1 rfl ?_
    refine W_b rfl (fun hc1 => ?_) (fun hc1 => ?_)
    ·
      refine R_gs 11 rfl ?_
      refine W_f rfl (by first | rfl | exact ⟨rfl, by first | decide | assumption | exact Or.inl rfl | exact Or.inr rfl | exact b2i_01 _⟩) ?_
      rw [show (decide (0 ≤ w) && decide (w ≤ 2)) = false from by rw [decide_eq_false (Int32.not_le.mpr hc1)]; rfl] at h1; exact h1 _ (Fr.refl _ h) c0
    ·
      refine R_gs 6 rfl ?_
      refine W_b rfl (fun hc6 => ?_) (fun hc6 => ?_)
      ·
        refine R_gs 16 rfl ?_
        rw [eG]
        refine R_gs 20 rfl ?_
        rw [eL]
        refine R_gs 24 rfl ?_
        rw [show (decide (0 ≤ w) && decide (w ≤ 2)) = true from by rw [decide_eq_true (Int32.not_lt.mp hc1), decide_eq_true hc6]; rfl, if_pos rfl] at h1
        refine R_k rfl rfl (c_judge c10 ha' hg' hO c2 c7 hDO (fun h2 f2 e2 s2 e4 e5 => ?_))
        have r2 := RC.jud hO c1 c2 c3 c4 c5 c6 c7 c8 c9 c10 c11 f2 e2
        have F2 : Fr xC h h2 := f2.c (fun q hq => by simp only [xj, xs, xsc, Bool.or_eq_true, Bool.and_eq_true, Nat.beq_eq, Nat.ble_eq] at hq; omega)
        have eG2 := vr ((congrFun (f2.R (b := 0) rfl) 10).trans c1.2.2.2.2.1)
        refine R_gs 29 rfl ?_
        refine W_b rfl (fun hc29 => ?_) (fun hc29 => ?_)
        ·
          rw [if_pos hc29] at h1
          refine R_gs 39 rfl ?_
          rw [s2.W]
          refine R_k rfl rfl (c_bitCount hP ?_)
          refine W_f rfl (by first | rfl | exact ⟨rfl, by first | decide | assumption | exact Or.inl rfl | exact Or.inr rfl | exact b2i_01 _⟩) ?_
          exact h1 _ F2 r2
        ·
          rw [if_neg hc29] at h1
          refine R_gs 44 rfl ?_
          refine W_b rfl (fun hc44 => ?_) (fun hc44 => ?_)
          ·
            rw [if_pos hc44] at h1
            refine R_gs 51 rfl ?_
            rw [eG2]
            refine R_gs 64 rfl ?_
            rw [e4]
            refine W_f rfl (by first | rfl | exact ⟨rfl, by first | decide | assumption | exact Or.inl rfl | exact Or.inr rfl | exact b2i_01 _⟩) ?_
            exact h1 _ F2 r2
          ·
            rw [if_neg hc44] at h1
            refine R_gs 61 rfl ?_
            rw [eG2]
            refine R_gs 64 rfl ?_
            rw [e5]
            refine W_f rfl (by first | rfl | exact ⟨rfl, by first | decide | assumption | exact Or.inl rfl | exact Or.inr rfl | exact b2i_01 _⟩) ?_
            exact h1 _ F2 r2
      ·
        refine R_gs 11 rfl ?_
        refine W_f rfl (by first | rfl | exact ⟨rfl, by first | decide | assumption | exact Or.inl rfl | exact Or.inr rfl | exact b2i_01 _⟩) ?_
        rw [show (decide (0 ≤ w) && decide (w ≤ 2)) = false from by rw [decide_eq_false hc6, Bool.and_false]] at h1; exact h1 _ (Fr.refl _ h) c0
end
