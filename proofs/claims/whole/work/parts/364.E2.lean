/-- a scene with what was heard -/
def CopA (h' : AH) (a : Nat) (h : AH) (b : Nat) : Prop := Cop h' a h b ∧ hI h' a 10 = hI h b 10 ∧ ∀ i, i < 5 → hI h' (a + 6) i = hI h (b + 6) i
def xqa (b q : Nat) : Bool := Nat.ble b q && Nat.ble q (b + 6)
theorem xqa_t {b i : Nat} (hi : i ≤ 6) : xqa b (b + i) = true := by
  unfold xqa
  rw [Nat.ble_eq_true_of_le (by omega), Nat.ble_eq_true_of_le (by omega)]; rfl
theorem xqa_of {b q : Nat} (h : xqa b q = true) : b ≤ q ∧ q ≤ b + 6 := by
  unfold xqa at h
  simpa using h
theorem xqa_n {b q : Nat} (h : q < b ∨ b + 6 < q) : xqa b q = false := by
  cases e : xqa b q with
  | false => rfl
  | true => have := xqa_of e; omega
section
variable {d a b : Nat} {h : AH} {L : SL} {S : SS} {H : SH'} {B : SB'} {M : SM'} {D : SD'} {T : ST'} {N : SN'} {Q : Option Value → AH → Prop}
theorem c_copyAll (ha : Sc a) (hb : Sc b) (hd : a + 6 < b ∨ b + 6 < a) (h1 : ∀ h', CopA h' a h b → Fr (xqa a) h h' → Q none h') : Rc (d + 2) m_X9_copyAll [.ref a, .ref b] h Q := by
  obtain ⟨⟨-, -, -, -, -, ra6⟩, -, -, -, -, -, sa6⟩ := ha.all
  obtain ⟨⟨-, -, -, -, -, rb6⟩, -, -, -, -, -, sb6⟩ := hb.all
  refine R_in rfl rfl ?_
  refine R_gs 2 rfl ?_
  refine R_k rfl (q_rcS ha [.ref b]) (c_copyButHeard ha hb hd (fun g cg fg tg => ?_))
  refine R_gs 7 rfl ?_
  refine R_gI rfl (by first | exact ha | exact hb) ?_
  refine R_pI rfl (by first | exact ha | exact hb) ?_
  refine R_gs 14 rfl ?_
  refine R_gA rfl (by first | exact ha | exact hb) (by first | exact ra6 | exact rb6) ?_
  refine R_gs 19 rfl ?_
  refine R_gA rfl (by first | exact ha | exact hb) (by first | exact ra6 | exact rb6) ?_
  refine R_gs 24 rfl ?_
  refine R_cp rfl sb6 sa6 (n := 5) rfl (by omega) (by omega) (fun g1 f1 e1 => ?_)
  refine W_f rfl (by first | rfl | exact ⟨rfl, by first | decide | assumption | exact Or.inl rfl | exact Or.inr rfl | exact b2i_01 _⟩) ?_
  skip
  have xa := xqa_t (b := a) (i := 0) (by omega)
  rw [Nat.add_zero] at xa
  have F0 := fg.mono (Y := xqa a) (fun q hq => by have := xq_of hq; unfold xqa; rw [Nat.ble_eq_true_of_le this.1, Nat.ble_eq_true_of_le (by omega)]; rfl)
  have F1 := f1.mono (Y := xqa a) (fun q hq => by have := Nat.eq_of_beq_eq_true hq; subst this; exact xqa_t (by omega))
  have e0 : ∀ b', b' ≠ a → b' ≠ a + 6 → hI g1 b' = hI g b' := fun b' h1 h2 => by rw [f1.I (bq_f h2), wI_ne _ _ _ h1]
  have ea : ∀ k, hI g1 a k = if k = 10 then hI g b 10 else hI g a k := fun k => by rw [f1.I (bq_f (by omega)), wI_at]
  have gb : ∀ k, hI g b k = hI h b k := fun k => by rw [fg.I (xq_n (by omega))]
  obtain ⟨⟨k0, k1, k2, k3⟩, k4, k5⟩ := cg
  refine h1 _ ⟨⟨⟨?_, ?_, ?_, ?_⟩, fun i hi => ?_, fun i hi => ?_⟩, ?_, fun i hi => ?_⟩ ((F0.wI xa).trans F1)
  · rw [ea, if_neg (by omega)]; exact k0
  · rw [ea, if_neg (by omega)]; exact k1
  · rw [ea, if_neg (by omega)]; exact k2
  · rw [ea, if_neg (by omega)]; exact k3
  · rw [e0 _ (by omega) (by omega), e0 _ (by omega) (by omega), e0 _ (by omega) (by omega)]; exact k4 i hi
  · rw [e0 _ (by omega) (by omega)]; exact k5 i hi
  · rw [ea, if_pos rfl, gb]
  · rw [e1 i hi, wI_ne _ _ _ (by omega), fg.I (xq_n (by omega))]
theorem hvn_t {L : SL} (hO : LandOK L) {p q : Nat} (hp : p < lP L) (hq : q < lP L) : chN L p q ≤ 1000000 * 405 := by
  have := chN_le hO hp hq; omega
/-- the sum of odds' products is not above the product of the sums -/
theorem alk_oT {L : SL} (p q : Nat) : alk L p q ≤ oA L p * oA L q := by
  unfold alk oA
  induction lS L with
  | zero => exact Nat.zero_le _
  | succ n ih =>
    show sumN n (fun w => lO L p w * lO L q w) + lO L p n * lO L q n ≤ (sumN n (lO L p) + lO L p n) * (sumN n (lO L q) + lO L q n)
    rw [Nat.add_mul, Nat.mul_add, Nat.mul_add]
    omega
theorem chN_m {L : SL} (p q : Nat) : chN L p q ≤ 1000000 := by
  unfold chN
  have h1 := alk_oT (L := L) p q
  have h2 : oA L p * oA L q ≤ oT L p * oT L q := Nat.mul_le_mul (by unfold oT; omega) (by unfold oT; omega)
  apply Nat.div_le_of_le_mul
  have : alk L p q ≤ oT L p * oT L q := Nat.le_trans h1 h2
  calc alk L p q * 1000000 ≤ oT L p * oT L q * 1000000 := Nat.mul_le_mul_right _ this
theorem hvn_le {L : SL} {S : SS} (hO : LandOK L) (p s : Nat) : hvn L S p s ≤ 6000000 := by
  have o3 := hO.2.2.1
  have := sumN_le (f := fun q => if (!decide (q = p) && (decide (sA S q = s) && free L S p q && !bt (sW S) (pr p q))) = true then chN L p q else 0) (b := 1000000) (lP L) (fun q hq => by split; exact chN_m p q; omega)
  unfold hvn; omega
theorem ofT_hv {p q s : Nat} (h : q ≠ p) : ofT L (setA S p s) p q = if (!decide (q = p) && (decide (sA S q = s) && free L S p q && !bt (sW S) (pr p q))) = true then chN L p q else 0 := by
  unfold ofT
  have : snap L (setA S p s) p q = (!decide (q = p) && (decide (sA S q = s) && free L S p q && !bt (sW S) (pr p q))) := by
    unfold snap
    show (decide ((if p = p then s else sA S p) = (if q = p then s else sA S q)) && free L S p q && !bt (sW S) (pr p q)) = _
    rw [if_pos rfl, if_neg h, decide_eq_false h]
    have : decide (s = sA S q) = decide (sA S q = s) := decide_eq_decide.mpr ⟨Eq.symm, Eq.symm⟩
    rw [this]; rfl
  rw [this]
theorem sumN_s (n : Nat) (f : Nat → Nat) : sumN (n + 1) f = sumN n f + f n := rfl
/-- only the stage, and the laws' piles -/
theorem setA_set {S : SS} {p v w : Nat} : setA (setA S p v) p w = setA S p w := by
  unfold setA
  refine Prod.ext rfl (Prod.ext rfl (Prod.ext rfl (Prod.ext rfl (Prod.ext ?_ rfl))))
  funext i
  show (if i = p then w else if i = p then v else sA S i) = if i = p then w else sA S i
  by_cases e : i = p
  · rw [if_pos e, if_pos e]
  · rw [if_neg e, if_neg e, if_neg e]
theorem setA_same {S : SS} {p : Nat} : setA S p (sA S p) = S := by
  unfold setA
  refine Prod.ext rfl (Prod.ext rfl (Prod.ext rfl (Prod.ext rfl (Prod.ext ?_ rfl))))
  funext i
  show (if i = p then sA S p else sA S i) = sA S i
  split
  · rename_i e; rw [e]
  · rfl
theorem c_safestPlace (ha : a = 143 ∨ a = 171) (hO : LandOK L) (hL : LandC h a L) (hS : SceneC h 14 L S) (hV : SceneOK L S) {p : Nat} (hp : p < lP L) (h1 : ∀ h', Fr (xqa 14) h h' → Q (some (.int (oB (lp (lst (fun _ => true) (hvn L S p)) (lQ L) none)))) h') : Rc (d + 5) m_X5_safestPlace [.ref a, .ref 14, .int (nI p)] h Q := by
  obtain ⟨o1, o2, o3, o4, -⟩ := id hO
  have ha' := ha
  rcases ha with rfl | rfl
  ·
    refine R_in rfl rfl ?_
    refine R_gs 8 rfl ?_
    refine w_inv (W := fun j (s : AH × Option (Nat × Nat)) => ∀ x6 x7 : Option Value, Rw (d + 4) Q (m_X5_safestPlace, 8, [some (.ref 143), some (.ref 14), some (.int (nI p)), some (.int (oB s.2)), some (.int (oL s.2)), some (.int (nI j)), x6, x7], [], 262, s.1)) (lQ L) (fun j s => Fr (xqa 14) h s.1 ∧ (∃ v, v < lQ L ∧ SceneC s.1 14 L (setA S p v)) ∧ s.2 = lp (lst (fun _ => true) (hvn L S p)) j none ∧ lstI 4 6000000 s.2) (s0 := (h, none)) ⟨Fr.refl _ h, ⟨sA S p, (hV.2.1 p hp).1, by rw [show setA S p (sA S p) = S from setA_same]; exact hS⟩, rfl, fun v l e => by cases e⟩ (fun j s hj hi ww => ?_) (fun s hi => ?_) none none
    ·
      intro x6 x7
      obtain ⟨g0, s⟩ := s
      obtain ⟨i1, ⟨v0, hv0, i2⟩, i3, i4⟩ := hi
      dsimp only at i1 i2 i3 i4 ⊢
      have hL' := hL.fr hO i1 (by decide)
      refine R_gs 14 rfl ?_
      rw [hL'.Q]
      refine W_bf rfl (ltc hj (by omega)) ?_
      refine R_gs 24 rfl ?_
      refine R_is rfl rfl (ix_nI _) (by omega) ?_
      have S1 : SceneC (wI g0 15 p (nI j)) 14 L (setA S p j) := by have := i2.pa (Or.inr rfl) p j; rw [setA_set] at this; exact this
      have hL2 := hL.fr hO (i1.wI (a := 15) (k := p) (v := nI j) rfl) (by decide)
      have hV2 : SceneOK L (setA S p j) := setA_ok hV hj
      refine R_gs 31 rfl ?_
      refine w_lp (W := fun q s' => Rw (d + 4) Q (m_X5_safestPlace, 31, [some (.ref 143), some (.ref 14), some (.int (nI p)), some (.int (oB s)), some (.int (oL s)), some (.int (nI j)), some (.int (nI s')), some (.int (nI q))], [], 262, wI g0 15 p (nI j))) (fun q s => s + if (!decide (q = p) && (decide (sA S q = j) && free L S p q && !bt (sW S) (pr p q))) = true then chN L p q else 0) (lP L) (fun _ _ => True) 0 trivial (fun q s' hq _ => ⟨trivial, fun w2 => ?_⟩) (fun _ => ?_)
      ·
        refine R_gs 37 rfl ?_
        rw [hL2.P]
        refine W_bf rfl (ltc hq (by omega)) ?_
        refine R_gs 45 rfl ?_
        refine W_b rfl (fun hc45 => ?_) (fun hc45 => ?_)
        ·
          rw [nI_eq (by omega) (by omega)] at hc45
          refine R_gs 31 rfl ?_
          rw [show nI s' + 0 = nI s' from nI_add s' 0, nI_1]; rw [if_neg (by simp [hc45]), Nat.add_zero] at w2; exact w2
        ·
          rw [nI_eq (by omega) (by omega)] at hc45
          refine R_gs 57 rfl ?_
          refine R_k rfl rfl (c_ofTwo ha' hO hL2 (Or.inr rfl) S1 hV2 hp hq (Ne.symm hc45) ?_)
          refine R_gs 31 rfl ?_
          rw [nI_add, nI_1, ofT_hv hc45]; exact w2
      ·
        have h3 := hvn_le (S := S) hO p j
        refine R_gs 37 rfl ?_
        rw [hL2.P]
        refine W_bt rfl (gec (by omega)) ?_
        refine R_gs 71 rfl ?_
        refine W_b rfl (fun hc71 => ?_) (fun hc71 => ?_)
        ·
          rw [oB_n (fun v l e => by have := (i4 v l e).1; omega)] at hc71
          refine R_gs 8 rfl ?_
          rw [nI_1]; subst hc71; exact ww (wI g0 15 p (nI j), some (j, hvn L S p j)) ⟨i1.wI rfl, ⟨j, hj, S1⟩, by rw [show lp (lst (fun _ => true) (hvn L S p)) (j + 1) none = lst (fun _ => true) (hvn L S p) j (lp (lst (fun _ => true) (hvn L S p)) j none) from rfl, ← i3, lst_first rfl], fun v l e => by cases e; exact ⟨by omega, hvn_le hO _ _⟩⟩ _ _
        ·
          rw [oB_n (fun v l e => by have := (i4 v l e).1; omega)] at hc71
          refine R_gs 78 rfl ?_
          refine W_b rfl (fun hc78 => ?_) (fun hc78 => ?_)
          ·
            refine R_gs 8 rfl ?_
            obtain ⟨v, l, rfl⟩ : ∃ v l, s = some (v, l) := (by rcases s with _ | ⟨v, l⟩; exact absurd rfl hc71; exact ⟨v, l, rfl⟩); have hl := (i4 v l rfl).2; rw [nI_1]; exact ww (wI g0 15 p (nI j), some (v, l)) ⟨i1.wI rfl, ⟨j, hj, S1⟩, by rw [show lp (lst (fun _ => true) (hvn L S p)) (j + 1) none = lst (fun _ => true) (hvn L S p) j (lp (lst (fun _ => true) (hvn L S p)) j none) from rfl, ← i3, lst_ge rfl (fun e => absurd ((nI_leI (a := l) (b := hvn L S p j) (by omega) (by omega)).mp hc78) (by omega))], i4⟩ _ _
          ·
            refine R_gs 8 rfl ?_
            obtain ⟨v, l, rfl⟩ : ∃ v l, s = some (v, l) := (by rcases s with _ | ⟨v, l⟩; exact absurd rfl hc71; exact ⟨v, l, rfl⟩); have hl := (i4 v l rfl).2; rw [nI_1]; exact ww (wI g0 15 p (nI j), some (j, hvn L S p j)) ⟨i1.wI rfl, ⟨j, hj, S1⟩, by rw [show lp (lst (fun _ => true) (hvn L S p)) (j + 1) none = lst (fun _ => true) (hvn L S p) j (lp (lst (fun _ => true) (hvn L S p)) j none) from rfl, ← i3, lst_lt rfl (by have := mt (nI_leI (a := l) (b := hvn L S p j) (by omega) (by omega)).mpr hc78; omega)], fun v l e => by cases e; exact ⟨by omega, hvn_le hO _ _⟩⟩ _ _
    ·
      intro x6 x7
      obtain ⟨g0, s⟩ := s
      obtain ⟨i1, i2, i3, i4⟩ := hi
      dsimp only at i1 i2 i3 i4 ⊢
      have hL' := hL.fr hO i1 (by decide)
      refine R_gs 14 rfl ?_
      rw [hL'.Q]
      refine W_bt rfl (gec (by omega)) ?_
      refine R_gs 95 rfl ?_
      refine W_f rfl (by first | rfl | exact ⟨rfl, by first | decide | assumption | exact Or.inl rfl | exact Or.inr rfl | exact b2i_01 _⟩) ?_
      rw [i3]; exact h1 _ i1
  ·
    refine R_in rfl rfl ?_
    refine R_gs 8 rfl ?_
    refine w_inv (W := fun j (s : AH × Option (Nat × Nat)) => ∀ x6 x7 : Option Value, Rw (d + 4) Q (m_X5_safestPlace, 8, [some (.ref 171), some (.ref 14), some (.int (nI p)), some (.int (oB s.2)), some (.int (oL s.2)), some (.int (nI j)), x6, x7], [], 262, s.1)) (lQ L) (fun j s => Fr (xqa 14) h s.1 ∧ (∃ v, v < lQ L ∧ SceneC s.1 14 L (setA S p v)) ∧ s.2 = lp (lst (fun _ => true) (hvn L S p)) j none ∧ lstI 4 6000000 s.2) (s0 := (h, none)) ⟨Fr.refl _ h, ⟨sA S p, (hV.2.1 p hp).1, by rw [show setA S p (sA S p) = S from setA_same]; exact hS⟩, rfl, fun v l e => by cases e⟩ (fun j s hj hi ww => ?_) (fun s hi => ?_) none none
    ·
      intro x6 x7
      obtain ⟨g0, s⟩ := s
      obtain ⟨i1, ⟨v0, hv0, i2⟩, i3, i4⟩ := hi
      dsimp only at i1 i2 i3 i4 ⊢
      have hL' := hL.fr hO i1 (by decide)
      refine R_gs 14 rfl ?_
      rw [hL'.Q]
      refine W_bf rfl (ltc hj (by omega)) ?_
      refine R_gs 24 rfl ?_
      refine R_is rfl rfl (ix_nI _) (by omega) ?_
      have S1 : SceneC (wI g0 15 p (nI j)) 14 L (setA S p j) := by have := i2.pa (Or.inr rfl) p j; rw [setA_set] at this; exact this
      have hL2 := hL.fr hO (i1.wI (a := 15) (k := p) (v := nI j) rfl) (by decide)
      have hV2 : SceneOK L (setA S p j) := setA_ok hV hj
      refine R_gs 31 rfl ?_
      refine w_lp (W := fun q s' => Rw (d + 4) Q (m_X5_safestPlace, 31, [some (.ref 171), some (.ref 14), some (.int (nI p)), some (.int (oB s)), some (.int (oL s)), some (.int (nI j)), some (.int (nI s')), some (.int (nI q))], [], 262, wI g0 15 p (nI j))) (fun q s => s + if (!decide (q = p) && (decide (sA S q = j) && free L S p q && !bt (sW S) (pr p q))) = true then chN L p q else 0) (lP L) (fun _ _ => True) 0 trivial (fun q s' hq _ => ⟨trivial, fun w2 => ?_⟩) (fun _ => ?_)
      ·
        refine R_gs 37 rfl ?_
        rw [hL2.P]
        refine W_bf rfl (ltc hq (by omega)) ?_
        refine R_gs 45 rfl ?_
        refine W_b rfl (fun hc45 => ?_) (fun hc45 => ?_)
        ·
          rw [nI_eq (by omega) (by omega)] at hc45
          refine R_gs 31 rfl ?_
          rw [show nI s' + 0 = nI s' from nI_add s' 0, nI_1]; rw [if_neg (by simp [hc45]), Nat.add_zero] at w2; exact w2
        ·
          rw [nI_eq (by omega) (by omega)] at hc45
          refine R_gs 57 rfl ?_
          refine R_k rfl rfl (c_ofTwo ha' hO hL2 (Or.inr rfl) S1 hV2 hp hq (Ne.symm hc45) ?_)
          refine R_gs 31 rfl ?_
          rw [nI_add, nI_1, ofT_hv hc45]; exact w2
      ·
        have h3 := hvn_le (S := S) hO p j
        refine R_gs 37 rfl ?_
        rw [hL2.P]
        refine W_bt rfl (gec (by omega)) ?_
        refine R_gs 71 rfl ?_
        refine W_b rfl (fun hc71 => ?_) (fun hc71 => ?_)
        ·
          rw [oB_n (fun v l e => by have := (i4 v l e).1; omega)] at hc71
          refine R_gs 8 rfl ?_
          rw [nI_1]; subst hc71; exact ww (wI g0 15 p (nI j), some (j, hvn L S p j)) ⟨i1.wI rfl, ⟨j, hj, S1⟩, by rw [show lp (lst (fun _ => true) (hvn L S p)) (j + 1) none = lst (fun _ => true) (hvn L S p) j (lp (lst (fun _ => true) (hvn L S p)) j none) from rfl, ← i3, lst_first rfl], fun v l e => by cases e; exact ⟨by omega, hvn_le hO _ _⟩⟩ _ _
        ·
          rw [oB_n (fun v l e => by have := (i4 v l e).1; omega)] at hc71
          refine R_gs 78 rfl ?_
          refine W_b rfl (fun hc78 => ?_) (fun hc78 => ?_)
          ·
            refine R_gs 8 rfl ?_
            obtain ⟨v, l, rfl⟩ : ∃ v l, s = some (v, l) := (by rcases s with _ | ⟨v, l⟩; exact absurd rfl hc71; exact ⟨v, l, rfl⟩); have hl := (i4 v l rfl).2; rw [nI_1]; exact ww (wI g0 15 p (nI j), some (v, l)) ⟨i1.wI rfl, ⟨j, hj, S1⟩, by rw [show lp (lst (fun _ => true) (hvn L S p)) (j + 1) none = lst (fun _ => true) (hvn L S p) j (lp (lst (fun _ => true) (hvn L S p)) j none) from rfl, ← i3, lst_ge rfl (fun e => absurd ((nI_leI (a := l) (b := hvn L S p j) (by omega) (by omega)).mp hc78) (by omega))], i4⟩ _ _
          ·
            refine R_gs 8 rfl ?_
            obtain ⟨v, l, rfl⟩ : ∃ v l, s = some (v, l) := (by rcases s with _ | ⟨v, l⟩; exact absurd rfl hc71; exact ⟨v, l, rfl⟩); have hl := (i4 v l rfl).2; rw [nI_1]; exact ww (wI g0 15 p (nI j), some (j, hvn L S p j)) ⟨i1.wI rfl, ⟨j, hj, S1⟩, by rw [show lp (lst (fun _ => true) (hvn L S p)) (j + 1) none = lst (fun _ => true) (hvn L S p) j (lp (lst (fun _ => true) (hvn L S p)) j none) from rfl, ← i3, lst_lt rfl (by have := mt (nI_leI (a := l) (b := hvn L S p j) (by omega) (by omega)).mpr hc78; omega)], fun v l e => by cases e; exact ⟨by omega, hvn_le hO _ _⟩⟩ _ _
    ·
      intro x6 x7
      obtain ⟨g0, s⟩ := s
      obtain ⟨i1, i2, i3, i4⟩ := hi
      dsimp only at i1 i2 i3 i4 ⊢
      have hL' := hL.fr hO i1 (by decide)
      refine R_gs 14 rfl ?_
      rw [hL'.Q]
      refine W_bt rfl (gec (by omega)) ?_
      refine R_gs 95 rfl ?_
      refine W_f rfl (by first | rfl | exact ⟨rfl, by first | decide | assumption | exact Or.inl rfl | exact Or.inr rfl | exact b2i_01 _⟩) ?_
      rw [i3]; exact h1 _ i1
end
