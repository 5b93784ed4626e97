section
variable {d a : Nat} {h h' : AH} {L : SL} {S : SS} {H : SH'} {B : SB'} {M : SM'} {D : SD'} {T : ST'} {N : SN'} {Q : Option Value → AH → Prop}
theorem md_lt {cs : Nat → Nat} {w : Nat} (hw : w < 32768) (i : Nat) (hi : i ≤ 76) : lp (mdF cs w) i w < 32768 := by
  have := (md_I (cs := cs) (w := w) i hi).1
  rw [← andn_2 this.1]; exact andn_lt hw
theorem c_leastParted (hT : St h) (ha : a = 143 ∨ a = 171) (hO : LandOK L) (hL : LandC h a L) (hS : SceneC h 7 L S) (hV : SceneOK L S) (hM : MatC h) (h1 : ∀ h', Fr xpr h h' → PriC h' L S → Q (some (.int (nI (mdB (csN L S) (wdN S))))) h') : Rc (d + 7) m_X4_leastParted [.ref 136, .ref a, .ref 7] h Q := by
  have ha' := ha
  obtain ⟨ew, hw⟩ := wd_n hO hV
  rcases ha with rfl | rfl
  all_goals
    refine R_in rfl rfl ?_
    refine R_gs 3 rfl ?_
    refine R_k rfl rfl (c_setPrices hT ha' hO hL hS hV (fun h2 f2 p2 => ?_))
    have gS := hS.fr f2 rfl rfl rfl rfl rfl
    have gM := hM.fr f2 rfl
    have gW : hI h2 7 1 = nI (wdN S) := gS.W.trans ew
    refine R_gs 14 rfl ?_
    rw [gW]
    refine w_inv (W := fun i (b : Nat) => ∀ x5 : Option Value, Rw (d + 6) Q (m_X4_leastParted, 14, [_, _, _, some (.int (nI b)), some (.int (nI i)), x5], [], 262, h2)) 76 (fun i b => b = lp (mdF (csN L S) (wdN S)) i (wdN S)) (s0 := wdN S) rfl (fun i b hi hb w => ?_) (fun b hb => ?_) none
    ·
      intro x5
      have b1 : b < 32768 := by { rw [hb]; exact md_lt hw i (by omega) }
      have pf := (PRS_f i hi).2
      have es : lp (mdF (csN L S) (wdN S)) (i + 1) (wdN S) = mdF (csN L S) (wdN S) i b := by { rw [hb]; rfl }
      refine R_gs 18 rfl ?_
      refine W_bf rfl (fun e => absurd ((nI_leI (a := 76) (by omega) (by omega)).mp e) (by omega)) ?_
      refine R_gs 31 rfl ?_
      rw [gW]
      refine R_il rfl (by first | rfl | exact shO (by decide) (by omega) | exact shG (by decide) (by omega)) (by repeat (first | with_reducible apply ix_add | with_reducible apply ix_mul | with_reducible exact ix_nI _ | with_reducible exact ix_lit _ | exact rfl)) (by omega) (by first | exact gM i hi) ?_
      refine R_gs 43 rfl ?_
      refine R_il rfl (by first | rfl | exact shO (by decide) (by omega) | exact shG (by decide) (by omega)) (by repeat (first | with_reducible apply ix_add | with_reducible apply ix_mul | with_reducible exact ix_nI _ | with_reducible exact ix_lit _ | exact rfl)) (by omega) (by first | exact gM i hi) ?_
      refine R_gs 51 rfl ?_
      rw [gW]
      rw [nI_andn, nI_andn]
      refine W_b rfl (fun hc51 => ?_) (fun hc51 => ?_)
      ·
        rw [nI_e0 (by have := andn_lt (b := wdN S) pf; omega)] at hc51
        refine R_gs 58 rfl ?_
        refine R_k rfl rfl (c_isLess p2 (andn_lt hw) b1 (fun hx58 => ?_) (fun hx58 => ?_))
        ·
          refine W_bf rfl (by decide) ?_
          refine R_gs 14 rfl ?_
          rw [nI_1]; exact w _ (by rw [es]; exact (if_pos ⟨hc51, hx58⟩).symm) _
        ·
          refine W_bt rfl (by decide) ?_
          refine R_gs 14 rfl ?_
          rw [nI_1]; exact w b (by rw [es]; exact (if_neg (fun e => hx58 e.2)).symm) _
      ·
        rw [nI_e0 (by have := andn_lt (b := wdN S) pf; omega)] at hc51
        refine R_gs 14 rfl ?_
        rw [nI_1]; exact w b (by rw [es]; exact (if_neg (fun e => hc51 e.1)).symm) _
    ·
      intro x5
      refine R_gs 18 rfl ?_
      refine W_bt rfl (by decide) ?_
      refine R_gs 74 rfl ?_
      refine W_f rfl (by first | rfl | exact ⟨rfl, by first | decide | assumption | exact Or.inl rfl | exact Or.inr rfl | exact b2i_01 _⟩) ?_
      rw [hb]; exact h1 _ f2 p2
theorem x_mend (W : WOK L S H B M D T N) (c : RC h L S H B M D T N) {w : Int32} (h1 : ∀ h', Fr xC h h' → RC h' L S H B M D T N → Q (some (.int (menA L S w))) h') : Rc (d + 8) m_X12_mend [.ref 0, .int w] h Q := by
  have hO := W.1
  have hV := W.2.1
  have c0 := c
  obtain ⟨a, g, c1, c2, c3, c4, c5, c6, c7, c8, c9, c10, c11⟩ := c
  have ha := c1.1
  have ha' := ha
  have eL := vr c1.2.2.1
  unfold menA at h1
  rcases ha with rfl | rfl
  all_goals
    refine R_in rfl rfl ?_
    refine R_gs 1 rfl ?_
    refine W_b rfl (fun hc1 => ?_) (fun hc1 => ?_)
    ·
      refine R_gs 19 rfl ?_
      rw [eL]
      refine R_gs 23 rfl ?_
      refine R_k rfl rfl (c_leastParted c10 ha' hO c2 c3 hV c11 (fun h2 f2 p2 => ?_))
      refine R_gs 29 rfl ?_
      refine W_bf rfl ((by rw [hc1]; decide)) ?_
      refine R_gs 41 rfl ?_
      refine R_k rfl rfl (c_priceOf p2 (by have := md_lt (cs := csN L S) (wd_n hO hV).2 76 (by omega); exact this) ?_)
      refine W_f rfl (by first | rfl | exact ⟨rfl, by first | decide | assumption | exact Or.inl rfl | exact Or.inr rfl | exact b2i_01 _⟩) ?_
      subst hc1; exact h1 _ ((f2.mono (fun q => xpr_c)).c (fun q => xcs_le)) (c0.fr hO (f2.mono (fun q => xpr_c)))
    ·
      refine R_gs 6 rfl ?_
      refine W_b rfl (fun hc6 => ?_) (fun hc6 => ?_)
      ·
        refine R_gs 19 rfl ?_
        rw [eL]
        refine R_gs 23 rfl ?_
        refine R_k rfl rfl (c_leastParted c10 ha' hO c2 c3 hV c11 (fun h2 f2 p2 => ?_))
        refine R_gs 29 rfl ?_
        refine W_bt rfl (hc6) ?_
        refine R_gs 44 rfl ?_
        refine W_f rfl (by first | rfl | exact ⟨rfl, by first | decide | assumption | exact Or.inl rfl | exact Or.inr rfl | exact b2i_01 _⟩) ?_
        subst hc6; exact h1 _ ((f2.mono (fun q => xpr_c)).c (fun q => xcs_le)) (c0.fr hO (f2.mono (fun q => xpr_c)))
      ·
        refine R_gs 10 rfl ?_
        refine W_f rfl (by first | rfl | exact ⟨rfl, by first | decide | assumption | exact Or.inl rfl | exact Or.inr rfl | exact b2i_01 _⟩) ?_
        rw [show (decide (0 ≤ w) && decide (w ≤ 1)) = false from by rw [← Bool.not_eq_true]; intro e; have := in5 e; have a0 : (0 : Int32).toInt = 0 := (by decide); have a1 : (1 : Int32).toInt = 1 := (by decide); rw [← Int32.toInt_inj, a0] at hc1; rw [← Int32.toInt_inj, a1] at hc6; omega] at h1; exact h1 _ (Fr.refl _ h) c0
/-! the model -/
def LayM (h : AH) (L : SL) (S : SS) : Prop := ∀ k, k < 15 → hI h 255 k = nI (loP k) ∧ hI h 256 k = nI (hiP k) ∧ hI h 254 k = nI (csN L S k)
def ymd (q : Nat) : Bool := ysc q || (Nat.ble 254 q && Nat.ble q 256)
theorem lay_w {g g' : AH} {m : Nat} (a1 : ∀ k, hI g' 255 k = if k = m then nI (loP m) else hI g 255 k) (a2 : ∀ k, hI g' 256 k = if k = m then nI (hiP m) else hI g 256 k) (a3 : ∀ k, hI g' 254 k = if k = m then nI (csN L S m) else hI g 254 k) (j2 : ∀ k, k < m → hI g 255 k = nI (loP k) ∧ hI g 256 k = nI (hiP k) ∧ hI g 254 k = nI (csN L S k)) : ∀ k, k < m + 1 → hI g' 255 k = nI (loP k) ∧ hI g' 256 k = nI (hiP k) ∧ hI g' 254 k = nI (csN L S k) := by
  intro k hk
  rw [a1, a2, a3]
  by_cases e : k = m
  · subst e; rw [if_pos rfl, if_pos rfl, if_pos rfl]; exact ⟨rfl, rfl, rfl⟩
  · rw [if_neg e, if_neg e, if_neg e]; exact j2 k (by omega)
theorem m_layPairs (hL : LandM h L) (hO : LandOK L) (hS : SceneM h 0 L S) (hV : SceneOK L S) (h1 : ∀ h', Fr ymd h h' → LayM h' L S → Q none h') : Rc (d + 7) m_X13_layPairs [.ref 235] h Q := by
  obtain ⟨o1, o2, o3, o4, -⟩ := id hO
  refine R_in rfl rfl ?_
  refine R_gs 2 rfl ?_
  refine w_inv (W := fun p (g : AH) => ∀ x2 x3 : Option Value, Rw (d + 6) Q (m_X13_layPairs, 2, [some (.ref 235), some (.int (nI p)), x2, x3], [], 262, g)) 6 (fun p g => Fr ymd h g ∧ ∀ k, k < bsN p → hI g 255 k = nI (loP k) ∧ hI g 256 k = nI (hiP k) ∧ hI g 254 k = nI (csN L S k)) (s0 := h) ⟨Fr.refl _ h, fun k hk => absurd hk (by unfold bsN; omega)⟩ (fun p g hp hi w => ?_) (fun g hi => ?_) none none
  ·
    intro x2 x3
    obtain ⟨e5, e15⟩ := bs_n p hp
    refine R_gs 5 rfl ?_
    refine W_bf rfl (fun e => absurd ((nI_leI (a := 6) (by omega) (by omega)).mp e) (by omega)) ?_
    refine R_gs 12 rfl ?_
    rw [nI_1]
    refine w_inv (W := fun i (g : AH) => ∀ x3 : Option Value, Rw (d + 6) Q (m_X13_layPairs, 12, [some (.ref 235), some (.int (nI p)), some (.int (nI (p + 1 + i))), x3], [], 262, g)) (5 - p) (fun i g => Fr ymd h g ∧ ∀ k, k < bsN p + i → hI g 255 k = nI (loP k) ∧ hI g 256 k = nI (hiP k) ∧ hI g 254 k = nI (csN L S k)) (s0 := g) hi (fun i g2 hi2 hj w2 => ?_) (fun g2 hj => ?_) x3
    ·
      intro x3
      obtain ⟨j1, j2⟩ := hj
      obtain ⟨ep, e14⟩ := bs_p p hp i hi2
      have ec := cs_pr (L := L) (S := S) (p := p) (q := p + 1 + i) (by omega) (by omega)
      obtain ⟨el, eh⟩ := lh_pr p (by omega) (p + 1 + i) (by omega) (by omega)
      refine R_gs 15 rfl ?_
      refine W_bf rfl (fun e => absurd ((nI_leI (a := 6) (by omega) (by omega)).mp e) (by omega)) ?_
      refine R_gs 20 rfl ?_
      refine R_k rfl rfl (m_pairOf (by omega) (by omega) (by omega) ?_)
      refine R_gs 30 rfl ?_
      rw [← ep]
      refine R_is rfl rfl (ix_nI _) (by omega) ?_
      refine R_gs 37 rfl ?_
      refine R_is rfl rfl (ix_nI _) (by omega) ?_
      have k1 : Fr ymd h (wI (wI g2 255 (bsN p + i) (nI p)) 256 (bsN p + i) (nI (p + 1 + i))) := (j1.wI rfl).wI rfl
      have gL := hL.fr k1 rfl rfl rfl
      have gS := hS.fr k1 rfl
      refine R_gs 48 rfl ?_
      refine R_il rfl (by first | rfl | exact shO (by decide) (by omega) | exact shG (by decide) (by omega)) (by repeat (first | with_reducible apply ix_add | with_reducible apply ix_mul | with_reducible exact ix_nI _ | with_reducible exact ix_lit _ | exact rfl)) (by omega) (by first | exact gS.W) ?_
      refine R_gs 54 rfl ?_
      rw [sh_and (by omega)]
      refine W_b rfl (fun hc54 => ?_) (fun hc54 => ?_)
      ·
        refine R_gs 61 rfl ?_
        have hqP := wed_P hO hV (p := p) (q := p + 1 + i) (by omega) (by omega) (by rw [← ep]; exact b1o hc54)
        refine R_k rfl rfl (m_partingOf (b := 0) gL hO gS hV.1 (by omega) (by omega) hqP (fun h3 f3 => ?_))
        refine R_gs 68 rfl ?_
        refine R_is rfl (by first | rfl | exact shO (by decide) (by omega) | exact shG (by decide) (by omega)) (by repeat (first | with_reducible apply ix_add | with_reducible apply ix_mul | with_reducible exact ix_nI _ | with_reducible exact ix_lit _ | exact rfl)) (by omega) ?_
        refine R_gs 12 rfl ?_
        rw [nI_1]; have ev : nI (csN L S (bsN p + i)) = price L (sW S) p (p + 1 + i) := (by rw [ep, ec, if_pos (by rw [← ep]; exact b1o hc54)]; exact price_n.1.symm)
        refine w2 (wI h3 254 (bsN p + i) (price L (sW S) p (p + 1 + i))) ⟨(k1.trans (f3.mono (fun q hq => by show (_ || _) = true; rw [hq]; rfl))).wI rfl, lay_w (g := g2) (m := bsN p + i) (fun k => ?_) (fun k => ?_) (fun k => ?_) j2⟩ _
        · rw [wI_ne _ _ _ (by omega), f3.I rfl, wI_ne _ _ _ (by omega), wI_at, ep, el]
        · rw [wI_ne _ _ _ (by omega), f3.I rfl, wI_at, ep, eh, wI_ne _ _ _ (by omega)]
        · rw [wI_at, f3.I rfl, wI_ne _ _ _ (by omega), wI_ne _ _ _ (by omega), ev]
      ·
        refine R_gs 68 rfl ?_
        refine R_is rfl (by first | rfl | exact shO (by decide) (by omega) | exact shG (by decide) (by omega)) (by repeat (first | with_reducible apply ix_add | with_reducible apply ix_mul | with_reducible exact ix_nI _ | with_reducible exact ix_lit _ | exact rfl)) (by omega) ?_
        refine R_gs 12 rfl ?_
        rw [nI_1]; have ev : nI (csN L S (bsN p + i)) = 0 := (by rw [ep, ec, if_neg (by rw [← ep, b1z hc54]; decide)]; rfl)
        refine w2 _ ⟨k1.wI rfl, lay_w (g := g2) (m := bsN p + i) (fun k => ?_) (fun k => ?_) (fun k => ?_) j2⟩ _
        · rw [wI_ne _ _ _ (by omega), wI_ne _ _ _ (by omega), wI_at, ep, el]
        · rw [wI_ne _ _ _ (by omega), wI_at, ep, eh, wI_ne _ _ _ (by omega)]
        · rw [wI_at, wI_ne _ _ _ (by omega), wI_ne _ _ _ (by omega), ev]
    ·
      intro x3
      obtain ⟨j1, j2⟩ := hj
      refine R_gs 15 rfl ?_
      refine W_bt rfl ((nI_leI (a := 6) (by omega) (by omega)).mpr (by omega)) ?_
      refine R_gs 2 rfl ?_
      rw [nI_1]; exact w g2 ⟨j1, fun k hk => j2 k (by omega)⟩ _ _
  ·
    intro x2 x3
    refine R_gs 5 rfl ?_
    refine W_bt rfl (by decide) ?_
    refine W_f rfl (by first | rfl | exact ⟨rfl, by first | decide | assumption | exact Or.inl rfl | exact Or.inr rfl | exact b2i_01 _⟩) ?_
    exact h1 _ hi.1 (fun k hk => hi.2 k (by show k < bsN 6; unfold bsN; omega))
theorem tw_lt : ∀ k, k < 15 → twP k < 2 ^ 6 := by decide +kernel
theorem ymd_x {q : Nat} (h : ymd q = true) : xM q = true := by
  simp only [ymd, ysc, Bool.or_eq_true, Bool.and_eq_true, Nat.beq_eq, Nat.ble_eq] at h
  show (_ && _ && !Nat.beq q 240) = true
  rw [bq_f (by omega : q ≠ 240), Bool.and_eq_true, Bool.and_eq_true, Nat.ble_eq, Nat.ble_eq]
  exact ⟨⟨by omega, by omega⟩, rfl⟩
def oN (r : Option Nat) : Int32 := match r with | some k => nI k | none => -1
def mdI (cs : Nat → Nat) (w j : Nat) (s : Option Nat × Nat) : Prop := match s.1 with
  | none => s.2 = 0 ∧ ∀ t, t < j → ¬ cand w t
  | some r => s.2 = cosN cs r ∧ r < j ∧ cand w r ∧ ∀ t, t < j → cand w t → ¬ kLt cs t r
theorem md_no {cs : Nat → Nat} {w j l : Nat} {r : Option Nat} (hi : mdI cs w j (r, l)) (hc : ¬ cand w j) : mdI cs w (j + 1) (r, l) := by
  cases r with
  | none =>
    obtain ⟨i1, i2⟩ := hi
    refine ⟨i1, fun t ht => ?_⟩
    by_cases e : t = j
    · rw [e]; exact hc
    · exact i2 t (by omega)
  | some r =>
    obtain ⟨i1, i2, i3, i4⟩ := hi
    refine ⟨i1, by omega, i3, fun t ht h => ?_⟩
    by_cases e : t = j
    · rw [e] at h; exact absurd h hc
    · exact i4 t (by omega) h
theorem md_first {cs : Nat → Nat} {w j l : Nat} (hi : mdI cs w j (none, l)) (hc : cand w j) : mdI cs w (j + 1) (some j, cosN cs j) := by
  obtain ⟨i1, i2⟩ := hi
  refine ⟨rfl, by omega, hc, fun t ht h => ?_⟩
  by_cases e : t = j
  · rw [e]; unfold kLt; omega
  · exact absurd h (i2 t (by omega))
theorem md_new {cs : Nat → Nat} {w j l r : Nat} (hi : mdI cs w j (some r, l)) (hc : cand w j) (hl : cosN cs j < l ∨ (cosN cs j = l ∧ pop (nI j) < pop (nI r))) : mdI cs w (j + 1) (some j, cosN cs j) := by
  obtain ⟨i1, i2, i3, i4⟩ := hi
  dsimp only at i1
  refine ⟨rfl, by omega, hc, fun t ht h => ?_⟩
  by_cases e : t = j
  · rw [e]; unfold kLt; omega
  · have := i4 t (by omega) h
    unfold kLt at *; omega
theorem md_stay {cs : Nat → Nat} {w j l r : Nat} (hi : mdI cs w j (some r, l)) (hl : ¬ (cosN cs j < l ∨ (cosN cs j = l ∧ pop (nI j) < pop (nI r)))) : mdI cs w (j + 1) (some r, l) := by
  obtain ⟨i1, i2, i3, i4⟩ := hi
  dsimp only at i1
  refine ⟨i1, by omega, i3, fun t ht h => ?_⟩
  by_cases e : t = j
  · rw [e]; unfold kLt; omega
  · exact i4 t (by omega) h
theorem md_fin {cs : Nat → Nat} {w l : Nat} {r : Option Nat} (hw : w < 32768) (hi : mdI cs w 32768 (r, l)) : r = some (mdB cs w) ∧ l = cosN cs (mdB cs w) := by
  cases r with
  | none => exact absurd (cand_w w) (hi.2 w hw)
  | some r =>
    obtain ⟨i1, i2, i3, i4⟩ := hi
    have e := md_uni (cs := cs) hw i3 i4
    rw [← e]; exact ⟨rfl, i1⟩
theorem md_b {cs : Nat → Nat} {w j l r : Nat} (hi : mdI cs w j (some r, l)) : r < j ∧ l = cosN cs r := ⟨hi.2.1, hi.1⟩
theorem n15b {n : Nat} (hn : n < 32768) : B15 (nI n) := fun i h1 h2 => by rw [bt_nI, Nat.testBit_lt_two_pow (Nat.lt_of_lt_of_le hn (Nat.pow_le_pow_right (n := 2) (by decide) h1)), Bool.and_false]
theorem m_isFair (hM : LayM h L S) {P : Nat} (hp : P < 32768) (h1 : fairN P = true → Q (some (.int 1)) h) (h0 : fairN P = false → Q (some (.int 0)) h) : Rc (d + 1) m_X13_isFair [.ref 235, .int (nI P)] h Q := by
  refine R_in rfl rfl ?_
  refine R_gs 7 rfl ?_
  refine w_lp (W := fun k (s : Bool × Nat) => ∀ x5 : Option Value, Rw d Q (m_X13_isFair, 7, [some (.ref 235), some (.int (nI P)), some (.int (nI s.2)), some (.int (b2i s.1)), some (.int (nI k)), x5], [], 262, h)) (fai P) 15 (fun _ s => s.2 < 64) (true, 0) (by decide) (fun k s hk hs => ⟨by unfold fai; split; exact Nat.or_lt_two_pow (n := 6) hs (tw_lt k hk); exact hs, fun w => ?_⟩) (fun _ => ?_) none
  ·
    intro x5
    have eb : bt (nI P) k = P.testBit k := by { rw [bt_nI, decide_eq_true (by omega : k < 32), Bool.true_and] }
    obtain ⟨l1, l2, l3, l4⟩ := pr_lh k hk
    have tl := tw_lt k hk
    refine R_gs 11 rfl ?_
    refine W_bf rfl (fun e => absurd ((nI_leI (a := 15) (by omega) (by omega)).mp e) (by omega)) ?_
    refine R_gs 21 rfl ?_
    rw [sh_and (by omega), eb]
    refine W_b rfl (fun hc21 => ?_) (fun hc21 => ?_)
    ·
      refine R_gs 31 rfl ?_
      refine R_il rfl (by first | rfl | exact shO (by decide) (by omega) | exact shG (by decide) (by omega)) (by repeat (first | with_reducible apply ix_add | with_reducible apply ix_mul | with_reducible exact ix_nI _ | with_reducible exact ix_lit _ | exact rfl)) (by omega) (by first | exact (hM k hk).1) ?_
      refine R_gs 40 rfl ?_
      refine R_il rfl (by first | rfl | exact shO (by decide) (by omega) | exact shG (by decide) (by omega)) (by repeat (first | with_reducible apply ix_add | with_reducible apply ix_mul | with_reducible exact ix_nI _ | with_reducible exact ix_lit _ | exact rfl)) (by omega) (by first | exact (hM k hk).2.1) ?_
      refine R_gs 46 rfl ?_
      rw [one_shl _ (by omega), one_shl _ (by omega), nI_or, ← l4]
      refine W_b rfl (fun hc46 => ?_) (fun hc46 => ?_)
      ·
        refine R_gs 7 rfl ?_
        rw [nI_1, nI_or]; rw [show fai P k s = (s.1 && Nat.beq (s.2 &&& twP k) 0, s.2 ||| twP k) from if_pos (b1o hc21), b2i0.mp hc46, Bool.false_and] at w; exact w _
      ·
        refine R_gs 53 rfl ?_
        rw [nI_and]
        refine W_b rfl (fun hc53 => ?_) (fun hc53 => ?_)
        ·
          rw [nI_e0 (by have := Nat.and_le_left (n := s.2) (m := twP k); omega)] at hc53
          refine R_gs 7 rfl ?_
          rw [nI_1, nI_or]; rw [show fai P k s = (s.1 && Nat.beq (s.2 &&& twP k) 0, s.2 ||| twP k) from if_pos (b1o hc21), show Nat.beq (s.2 &&& twP k) 0 = true from by rw [hc53]; rfl, show s.1 = true from by cases e : s.1; rw [e] at hc46; exact absurd rfl hc46; rfl] at w; exact w _
        ·
          rw [nI_e0 (by have := Nat.and_le_left (n := s.2) (m := twP k); omega)] at hc53
          refine R_gs 7 rfl ?_
          rw [nI_1, nI_or]; rw [show fai P k s = (s.1 && Nat.beq (s.2 &&& twP k) 0, s.2 ||| twP k) from if_pos (b1o hc21), show Nat.beq (s.2 &&& twP k) 0 = false from by cases e : Nat.beq (s.2 &&& twP k) 0; rfl; exact absurd (Nat.eq_of_beq_eq_true e) hc53, Bool.and_false] at w; exact w _
    ·
      refine R_gs 7 rfl ?_
      rw [nI_1]; rw [show fai P k s = s from if_neg (by rw [b1z hc21]; decide)] at w; exact w _
  ·
    intro x5
    refine R_gs 11 rfl ?_
    refine W_bt rfl (by decide) ?_
    refine R_gs 74 rfl ?_
    refine W_f rfl (by first | rfl | exact ⟨rfl, by first | decide | assumption | exact Or.inl rfl | exact Or.inr rfl | exact b2i_01 _⟩) ?_
    by_cases e : fairN P = true
    · rw [show b2i (lp (fai P) 15 (true, 0)).1 = 1 from by rw [show (lp (fai P) 15 (true, 0)).1 = true from e]; rfl]; exact h1 e
    · rw [show b2i (lp (fai P) 15 (true, 0)).1 = 0 from by rw [show (lp (fai P) 15 (true, 0)).1 = false from by cases e2 : (lp (fai P) 15 (true, 0)).1; rfl; exact absurd e2 e]; rfl]; exact h0 (by cases e2 : fairN P; rfl; exact absurd e2 e)
theorem y_mend (W : WOK L S H B M D T N) (c : RM h L S H B M D T N) {w : Int32} (h1 : ∀ h', Fr xM h h' → RM h' L S H B M D T N → Q (some (.int (menA L S w))) h') : Rc (d + 9) m_X13_mend [.ref 235, .int w] h Q := by
  have hO := W.1
  have hV := W.2.1
  have c0 := c.thr
  have F0 : Fr xM h (wI h 235 0 0) := (Fr.refl _ h).wI rfl
  obtain ⟨ew, hw⟩ := wd_n hO hV
  unfold menA at h1
  refine R_in rfl rfl ?_
  refine R_gs 8 rfl ?_
  refine R_k rfl rfl (m_isIn (fun hx8 => ?_) (fun hx8 => ?_))
  ·
    refine W_bf rfl (by decide) ?_
    refine R_gs 17 rfl ?_
    rw [hx8, if_pos rfl] at h1
    refine R_k rfl rfl (m_layPairs c0.1 hO c0.2.1 hV (fun h2 f2 l2 => ?_))
    have gS := c0.2.1.fr f2 rfl
    have gW : hI h2 251 1 = nI (wdN S) := gS.W.trans ew
    have r2 := c0.scr f2 ⟨rfl, rfl, rfl, rfl, rfl, rfl, rfl, rfl, rfl⟩ (congrFun (f2.I rfl) 2) (congrFun (f2.I rfl) 18) (congrFun (f2.I rfl) 25)
    have F2 := F0.trans (f2.mono (Y := xM) (fun q => ymd_x))
    refine R_gs 25 rfl ?_
    refine R_il rfl (by first | rfl | exact shO (by decide) (by omega) | exact shG (by decide) (by omega)) (by repeat (first | with_reducible apply ix_add | with_reducible apply ix_mul | with_reducible exact ix_nI _ | with_reducible exact ix_lit _ | exact rfl)) (by omega) (by first | exact gW) ?_
    refine R_gs 35 rfl ?_
    refine w_inv (W := fun j (s : Option Nat × Nat) => ∀ x6 x7 : Option Value, Rw (d + 8) Q (m_X13_mend, 35, [some (.ref 235), some (.int w), some (.int (nI (wdN S))), some (.int (oN s.1)), some (.int (nI s.2)), some (.int (nI j)), x6, x7], [], 262, h2)) 32768 (fun j s => mdI (csN L S) (wdN S) j s) (s0 := (none, 0)) ⟨rfl, fun s hs => absurd hs (by omega)⟩ (fun j s hj hi ww => ?_) (fun s hi => ?_) none none
    ·
      intro x6 x7
      obtain ⟨r, l⟩ := s
      dsimp only
      refine R_gs 40 rfl ?_
      refine W_bf rfl (fun e => absurd ((nI_leI (a := 32768) (by omega) (by omega)).mp e) (by omega)) ?_
      refine R_gs 49 rfl ?_
      rw [nI_andn]
      refine W_b rfl (fun hc49 => ?_) (fun hc49 => ?_)
      ·
        rw [nI_e0 (by have := andn_lt (b := wdN S) hj; omega)] at hc49
        refine R_gs 59 rfl ?_
        rw [nI_andn]
        refine R_k rfl rfl (m_isFair l2 (andn_lt hw) (fun hx59 => ?_) (fun hx59 => ?_))
        ·
          refine W_bf rfl (by decide) ?_
          refine R_gs 71 rfl ?_
          refine w_lp (W := fun k s => Rw (d + 8) Q (m_X13_mend, 71, [some (.ref 235), some (.int w), some (.int (nI (wdN S))), some (.int (oN r)), some (.int (nI l)), some (.int (nI j)), some (.int (nI s)), some (.int (nI k))], [], 262, h2)) (fun k s => s + if j.testBit k = true then csN L S k else 0) 15 (fun _ _ => True) 0 trivial (fun k s hk _ => ⟨trivial, fun w3 => ?_⟩) (fun _ => ?_)
          ·
            have eb : bt (nI j) k = j.testBit k := by { rw [bt_nI, decide_eq_true (by omega : k < 32), Bool.true_and] }
            refine R_gs 75 rfl ?_
            refine W_bf rfl (fun e => absurd ((nI_leI (a := 15) (by omega) (by omega)).mp e) (by omega)) ?_
            refine R_gs 88 rfl ?_
            rw [sh_and (by omega), eb]
            refine W_b rfl (fun hc88 => ?_) (fun hc88 => ?_)
            ·
              refine R_gs 97 rfl ?_
              refine R_il rfl (by first | rfl | exact shO (by decide) (by omega) | exact shG (by decide) (by omega)) (by repeat (first | with_reducible apply ix_add | with_reducible apply ix_mul | with_reducible exact ix_nI _ | with_reducible exact ix_lit _ | exact rfl)) (by omega) (by first | exact (l2 k hk).2.2) ?_
              refine R_gs 71 rfl ?_
              rw [nI_add, nI_1]; rw [if_pos (b1o hc88)] at w3; exact w3
            ·
              refine R_gs 71 rfl ?_
              rw [show nI s + 0 = nI s from nI_add s 0, nI_1]; rw [if_neg (by rw [b1z hc88]; decide), Nat.add_zero] at w3; exact w3
          ·
            rw [show lp (fun k s => s + if j.testBit k = true then csN L S k else 0) 15 0 = cosN (csN L S) j from rfl]
            have cj := cos_le (L := L) (S := S) j
            have pj := pop_le (nI j)
            refine R_gs 75 rfl ?_
            refine W_bt rfl (by decide) ?_
            refine R_gs 112 rfl ?_
            refine W_b rfl (fun hc112 => ?_) (fun hc112 => ?_)
            ·
              have hc112 : r = none := (by cases r with | none => rfl | some r => exact absurd hc112 (nI_pos (by have := (md_b hi).1; omega)))
              refine R_gs 150 rfl ?_
              refine W_bf rfl (by decide) ?_
              refine R_gs 162 rfl ?_
              refine W_bf rfl (by decide) ?_
              refine R_gs 35 rfl ?_
              rw [nI_1]; exact ww (some j, cosN (csN L S) j) (md_first (by rw [← hc112]; exact hi) ⟨hc49, hx59⟩) _ _
            ·
              obtain ⟨r, rfl⟩ : ∃ r0, r = some r0 := (by cases r with | none => exact absurd (by decide) hc112 | some r0 => exact ⟨r0, rfl⟩)
              obtain ⟨rj, el⟩ := md_b hi
              have cr := cos_le (L := L) (S := S) r
              have p9 := pop_le (nI r)
              refine R_gs 119 rfl ?_
              refine W_b rfl (fun hc119 => ?_) (fun hc119 => ?_)
              ·
                rw [nI_ltI (by omega) (by omega)] at hc119
                refine R_gs 150 rfl ?_
                refine W_bf rfl (by decide) ?_
                refine R_gs 162 rfl ?_
                refine W_bf rfl (by decide) ?_
                refine R_gs 35 rfl ?_
                rw [nI_1]; exact ww (some j, cosN (csN L S) j) (md_new hi ⟨hc49, hx59⟩ (Or.inl hc119)) _ _
              ·
                rw [nI_ltI (by omega) (by omega)] at hc119
                refine R_gs 126 rfl ?_
                refine W_b rfl (fun hc126 => ?_) (fun hc126 => ?_)
                ·
                  rw [nI_eq (by omega) (by omega)] at hc126
                  refine R_gs 131 rfl ?_
                  refine R_k rfl rfl (m_bits (n15b hj) ?_)
                  refine R_gs 135 rfl ?_
                  refine R_k rfl rfl (m_bits (x := nI r) (n15b (by omega)) ?_)
                  refine W_b rfl (fun hc138 => ?_) (fun hc138 => ?_)
                  ·
                    rw [nI_leI (by omega) (by omega)] at hc138
                    refine R_gs 150 rfl ?_
                    refine W_bt rfl (by decide) ?_
                    refine R_gs 162 rfl ?_
                    refine W_bt rfl (by decide) ?_
                    refine R_gs 35 rfl ?_
                    rw [nI_1]; exact ww (some r, l) (md_stay hi (by omega)) _ _
                  ·
                    rw [nI_leI (by omega) (by omega)] at hc138
                    refine R_gs 150 rfl ?_
                    refine W_bf rfl (by decide) ?_
                    refine R_gs 162 rfl ?_
                    refine W_bf rfl (by decide) ?_
                    refine R_gs 35 rfl ?_
                    rw [nI_1]; exact ww (some j, cosN (csN L S) j) (md_new hi ⟨hc49, hx59⟩ (Or.inr ⟨hc126, by omega⟩)) _ _
                ·
                  rw [nI_eq (by omega) (by omega)] at hc126
                  refine R_gs 150 rfl ?_
                  refine W_bt rfl (by decide) ?_
                  refine R_gs 162 rfl ?_
                  refine W_bt rfl (by decide) ?_
                  refine R_gs 35 rfl ?_
                  rw [nI_1]; exact ww (some r, l) (md_stay hi (by omega)) _ _
        ·
          refine W_bt rfl (by decide) ?_
          refine R_gs 35 rfl ?_
          rw [nI_1]; exact ww (r, l) (md_no hi (fun e => by rw [e.2] at hx59; cases hx59)) _ _
      ·
        rw [nI_e0 (by have := andn_lt (b := wdN S) hj; omega)] at hc49
        refine R_gs 35 rfl ?_
        rw [nI_1]; exact ww (r, l) (md_no hi (fun e => hc49 e.1)) _ _
    ·
      intro x6 x7
      obtain ⟨r, l⟩ := s
      dsimp only
      refine R_gs 40 rfl ?_
      refine W_bt rfl (by decide) ?_
      refine R_gs 181 rfl ?_
      refine W_b rfl (fun hc181 => ?_) (fun hc181 => ?_)
      ·
        refine R_gs 190 rfl ?_
        refine W_f rfl (by first | rfl | exact ⟨rfl, by first | decide | assumption | exact Or.inl rfl | exact Or.inr rfl | exact b2i_01 _⟩) ?_
        obtain ⟨rfl, rfl⟩ := md_fin hw hi; rw [if_pos hc181] at h1; exact h1 _ F2 r2
      ·
        refine R_gs 190 rfl ?_
        refine W_f rfl (by first | rfl | exact ⟨rfl, by first | decide | assumption | exact Or.inl rfl | exact Or.inr rfl | exact b2i_01 _⟩) ?_
        obtain ⟨rfl, rfl⟩ := md_fin hw hi; rw [if_neg hc181] at h1; exact h1 _ F2 r2
  ·
    refine W_bt rfl (by decide) ?_
    refine R_gs 15 rfl ?_
    refine W_f rfl (by first | rfl | exact ⟨rfl, by first | decide | assumption | exact Or.inl rfl | exact Or.inr rfl | exact b2i_01 _⟩) ?_
    rw [hx8] at h1; exact h1 _ F0 c0
end
