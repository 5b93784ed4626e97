/-! company -/
def prS (L : SL) (S : SS) (s : Nat) : Int32 := setN (lP L) (fun p => decide (sA S p = s))
def clB (L : SL) (S : SS) (p : Nat) : Int32 := setN (lP L) (fun q => !decide (q = p) && clas L S p q)
def PlrC (h : AH) (L : SL) (S : SS) (s : Nat) : Prop := hI h 140 2 = prS L S s ∧ ∀ p, p < lP L → sA S p = s → hI h 141 p = clB L S p
def xpl (q : Nat) : Bool := Nat.ble 140 q && Nat.ble q 142
theorem xpl_c {q : Nat} (h : xpl q = true) : xcs q = true := by
  simp only [xpl, Bool.and_eq_true, Nat.ble_eq] at h
  simp only [xcs, xsc, Bool.or_eq_true, Bool.and_eq_true, Nat.beq_eq, Nat.ble_eq]
  omega
def badP (L : SL) (S : SS) (s set p : Nat) : Bool := set.testBit p && (!decide (sA S p = s) || anyN p (fun q => set.testBit q && clas L S p q))
def cmB (L : SL) (S : SS) (s set best : Nat) : Bool := decide (pop (nI best) < pop (nI set)) && !anyN (lP L) (badP L S s set)
def cmF (L : SL) (S : SS) (s set best : Nat) : Nat := if cmB L S s set best = true then set else best
def cmA (L : SL) (S : SS) (s : Nat) : Nat := lp (cmF L S s) (2 ^ lP L) 0
def comA (L : SL) (S : SS) (s : Int32) : Int32 := if inN s (lQ L) = true then nI (cmA L S s.toNatClampNeg) else -1
theorem clas_sym {L : SL} {S : SS} {p q : Nat} (hp : p < 6) (hq : q < 6) : clas L S p q = clas L S q p := by
  unfold clas snap free shares
  rw [pr_sym p hp q hq, show decide (sA S p = sA S q) = decide (sA S q = sA S p) from decide_eq_decide.mpr ⟨Eq.symm, Eq.symm⟩, Bool.and_comm (!decide (lK L p = 1))]
  congr 1
  exact congrArg (anyN (lS L)) (funext fun w => Bool.and_comm _ _)
theorem n64_b15 {n : Nat} (h : n < 64) : B15 (nI n) := fun i h1 h2 => by
  rw [bt_nI, Nat.testBit_lt_two_pow (Nat.lt_of_lt_of_le h (Nat.le_trans (by decide : 64 ≤ 2 ^ 15) (Nat.pow_le_pow_right (by decide) h1))), Bool.and_false]
section
variable {d a : Nat} {h h' : AH} {L : SL} {S : SS} {H : SH'} {B : SB'} {M : SM'} {D : SD'} {T : ST'} {N : SN'} {Q : Option Value → AH → Prop}
theorem c_clashesOf (ha : a = 143 ∨ a = 171) (hO : LandOK L) (hL : LandC h a L) (hS : SceneC h 7 L S) (hV : SceneOK L S) {p : Nat} (hp : p < lP L) (h1 : Q (some (.int (clB L S p))) h) : Rc (d + 5) m_X6_clashesOf [.ref a, .ref 7, .int (nI p)] h Q := by
  obtain ⟨o1, o2, o3, o4, -⟩ := id hO
  have ha' := ha
  rcases ha with rfl | rfl
  all_goals
    refine R_in rfl rfl ?_
    refine R_gs 5 rfl ?_
    refine w_lp (W := fun j s => Rw (d + 4) Q (m_X6_clashesOf, 5, [_, _, _, some (.int s), some (.int (nI j))], [], 262, h)) (fun q s => if (!decide (q = p) && clas L S p q) = true then s ||| nI (2 ^ q) else s) (lP L) (fun _ _ => True) 0 trivial (fun j s hj _ => ⟨trivial, fun w => ?_⟩) (fun _ => ?_)
    ·
      refine R_gs 11 rfl ?_
      rw [hL.P]
      refine W_bf rfl (ltc hj (by omega)) ?_
      refine R_gs 17 rfl ?_
      refine W_b rfl (fun hc17 => ?_) (fun hc17 => ?_)
      ·
        rw [nI_eq (by omega) (by omega)] at hc17
        refine R_gs 5 rfl ?_
        rw [nI_1]; rw [if_neg (by simp [hc17])] at w; exact w
      ·
        rw [nI_eq (by omega) (by omega)] at hc17
        refine R_gs 25 rfl ?_
        refine R_k rfl rfl (c_clash ha' hO hL (Or.inl rfl) hS hV hp hj (Ne.symm hc17) (fun hx25 => ?_) (fun hx25 => ?_))
        ·
          refine W_bf rfl (by decide) ?_
          refine R_gs 5 rfl ?_
          rw [nI_1, one_shl j (by omega)]; rw [if_pos (by simp [hc17, hx25])] at w; exact w
        ·
          refine W_bt rfl (by decide) ?_
          refine R_gs 5 rfl ?_
          rw [nI_1]; rw [if_neg (by simp [hx25])] at w; exact w
    ·
      refine R_gs 11 rfl ?_
      rw [hL.P]
      refine W_bt rfl (gec (by omega)) ?_
      refine R_gs 45 rfl ?_
      refine W_f rfl (by first | rfl | exact ⟨rfl, by first | decide | assumption | exact Or.inl rfl | exact Or.inr rfl | exact b2i_01 _⟩) ?_
      exact h1
theorem c_enter (ha : a = 143 ∨ a = 171) (hO : LandOK L) (hL : LandC h a L) (hS : SceneC h 7 L S) (hV : SceneOK L S) {s : Nat} (hs : s < lQ L) (h1 : ∀ h', Fr xpl h h' → PlrC h' L S s → Q none h') : Rc (d + 6) m_X6_enter [.ref 140, .ref a, .ref 7, .int (nI s)] h Q := by
  obtain ⟨o1, o2, o3, o4, -⟩ := id hO
  have ha' := ha
  rcases ha with rfl | rfl
  ·
    refine R_in rfl rfl ?_
    refine R_gs 8 rfl ?_
    refine w_inv (W := fun j (g : AH) => Rw (d + 5) Q (m_X6_enter, 8, [some (.ref 140), some (.ref 143), some (.ref 7), some (.int (nI s)), some (.int (nI j))], [], 262, g)) (lP L) (fun j g => Fr xpl h g ∧ hI g 140 2 = setN j (fun p => decide (sA S p = s)) ∧ ∀ p, p < j → sA S p = s → hI g 141 p = clB L S p) (s0 := wI h 140 2 0) ⟨(Fr.refl _ h).wI rfl, rfl, fun p hp => absurd hp (by omega)⟩ (fun j g hj hi w => ?_) (fun g hi => ?_)
    ·
      obtain ⟨i1, i2, i3⟩ := hi
      have iL := hL.fr hO i1 (by decide)
      have iS := hS.fr i1 rfl rfl rfl rfl rfl
      have v1 := (hV.2.1 j hj).1
      refine R_gs 14 rfl ?_
      rw [iL.P]
      refine W_bf rfl (ltc hj (by omega)) ?_
      refine R_gs 24 rfl ?_
      refine R_is rfl (by first | rfl | exact shO (by decide) (by omega) | exact shG (by decide) (by omega)) (by repeat (first | with_reducible apply ix_add | with_reducible apply ix_mul | with_reducible exact ix_nI _ | with_reducible exact ix_lit _ | exact rfl)) (by omega) ?_
      refine R_gs 31 rfl ?_
      refine R_il rfl (by first | rfl | exact shO (by decide) (by omega) | exact shG (by decide) (by omega)) (by repeat (first | with_reducible apply ix_add | with_reducible apply ix_mul | with_reducible exact ix_nI _ | with_reducible exact ix_lit _ | exact rfl)) (by omega) (by first | exact iS.A hj) ?_
      refine R_gs 33 rfl ?_
      refine W_b rfl (fun hc33 => ?_) (fun hc33 => ?_)
      ·
        rw [nI_eq (by omega) (by omega)] at hc33
        refine R_gs 59 rfl ?_
        refine R_k rfl rfl (c_clashesOf ha' hO (hL.fr hO (((i1.wI rfl).wI rfl)) (by decide)) (hS.fr ((i1.wI rfl).wI rfl) rfl rfl rfl rfl rfl) hV hj ?_)
        refine R_is rfl (by first | rfl | exact shO (by decide) (by omega) | exact shG (by decide) (by omega)) (by repeat (first | with_reducible apply ix_add | with_reducible apply ix_mul | with_reducible exact ix_nI _ | with_reducible exact ix_lit _ | exact rfl)) (by omega) ?_
        refine R_gs 8 rfl ?_
        rw [nI_1, one_shl j (by omega)]; refine w _ ⟨((i1.wI rfl).wI rfl).wI rfl, ?_, fun p hp e => ?_⟩
        · show hI g 140 2 ||| nI (2 ^ j) = (if decide (sA S j = s) = true then _ else _); rw [if_pos (by simp [hc33]), i2]; rfl
        · rw [wI_at]; by_cases ep : p = j; rw [if_pos ep, ep]; rw [if_neg ep, wI_ne _ _ _ (by omega), wI_at, if_neg ep]; exact i3 p (by omega) e
      ·
        rw [nI_eq (by omega) (by omega)] at hc33
        refine R_gs 8 rfl ?_
        rw [nI_1]; refine w _ ⟨i1.wI rfl, ?_, fun p hp e => ?_⟩
        · show hI g 140 2 = (if decide (sA S j = s) = true then _ else _); rw [if_neg (by simp [hc33]), i2]; rfl
        · rw [wI_at, if_neg (by rintro rfl; exact hc33 e)]; exact i3 p (by have : p ≠ j := (by rintro rfl; exact hc33 e); omega) e
    ·
      obtain ⟨i1, i2, i3⟩ := hi
      have iL := hL.fr hO i1 (by decide)
      refine R_gs 14 rfl ?_
      rw [iL.P]
      refine W_bt rfl (gec (by omega)) ?_
      refine W_f rfl (by first | rfl | exact ⟨rfl, by first | decide | assumption | exact Or.inl rfl | exact Or.inr rfl | exact b2i_01 _⟩) ?_
      exact h1 _ i1 ⟨i2, i3⟩
  ·
    refine R_in rfl rfl ?_
    refine R_gs 8 rfl ?_
    refine w_inv (W := fun j (g : AH) => Rw (d + 5) Q (m_X6_enter, 8, [some (.ref 140), some (.ref 171), some (.ref 7), some (.int (nI s)), some (.int (nI j))], [], 262, g)) (lP L) (fun j g => Fr xpl h g ∧ hI g 140 2 = setN j (fun p => decide (sA S p = s)) ∧ ∀ p, p < j → sA S p = s → hI g 141 p = clB L S p) (s0 := wI h 140 2 0) ⟨(Fr.refl _ h).wI rfl, rfl, fun p hp => absurd hp (by omega)⟩ (fun j g hj hi w => ?_) (fun g hi => ?_)
    ·
      obtain ⟨i1, i2, i3⟩ := hi
      have iL := hL.fr hO i1 (by decide)
      have iS := hS.fr i1 rfl rfl rfl rfl rfl
      have v1 := (hV.2.1 j hj).1
      refine R_gs 14 rfl ?_
      rw [iL.P]
      refine W_bf rfl (ltc hj (by omega)) ?_
      refine R_gs 24 rfl ?_
      refine R_is rfl (by first | rfl | exact shO (by decide) (by omega) | exact shG (by decide) (by omega)) (by repeat (first | with_reducible apply ix_add | with_reducible apply ix_mul | with_reducible exact ix_nI _ | with_reducible exact ix_lit _ | exact rfl)) (by omega) ?_
      refine R_gs 31 rfl ?_
      refine R_il rfl (by first | rfl | exact shO (by decide) (by omega) | exact shG (by decide) (by omega)) (by repeat (first | with_reducible apply ix_add | with_reducible apply ix_mul | with_reducible exact ix_nI _ | with_reducible exact ix_lit _ | exact rfl)) (by omega) (by first | exact iS.A hj) ?_
      refine R_gs 33 rfl ?_
      refine W_b rfl (fun hc33 => ?_) (fun hc33 => ?_)
      ·
        rw [nI_eq (by omega) (by omega)] at hc33
        refine R_gs 59 rfl ?_
        refine R_k rfl rfl (c_clashesOf ha' hO (hL.fr hO (((i1.wI rfl).wI rfl)) (by decide)) (hS.fr ((i1.wI rfl).wI rfl) rfl rfl rfl rfl rfl) hV hj ?_)
        refine R_is rfl (by first | rfl | exact shO (by decide) (by omega) | exact shG (by decide) (by omega)) (by repeat (first | with_reducible apply ix_add | with_reducible apply ix_mul | with_reducible exact ix_nI _ | with_reducible exact ix_lit _ | exact rfl)) (by omega) ?_
        refine R_gs 8 rfl ?_
        rw [nI_1, one_shl j (by omega)]; refine w _ ⟨((i1.wI rfl).wI rfl).wI rfl, ?_, fun p hp e => ?_⟩
        · show hI g 140 2 ||| nI (2 ^ j) = (if decide (sA S j = s) = true then _ else _); rw [if_pos (by simp [hc33]), i2]; rfl
        · rw [wI_at]; by_cases ep : p = j; rw [if_pos ep, ep]; rw [if_neg ep, wI_ne _ _ _ (by omega), wI_at, if_neg ep]; exact i3 p (by omega) e
      ·
        rw [nI_eq (by omega) (by omega)] at hc33
        refine R_gs 8 rfl ?_
        rw [nI_1]; refine w _ ⟨i1.wI rfl, ?_, fun p hp e => ?_⟩
        · show hI g 140 2 = (if decide (sA S j = s) = true then _ else _); rw [if_neg (by simp [hc33]), i2]; rfl
        · rw [wI_at, if_neg (by rintro rfl; exact hc33 e)]; exact i3 p (by have : p ≠ j := (by rintro rfl; exact hc33 e); omega) e
    ·
      obtain ⟨i1, i2, i3⟩ := hi
      have iL := hL.fr hO i1 (by decide)
      refine R_gs 14 rfl ?_
      rw [iL.P]
      refine W_bt rfl (gec (by omega)) ?_
      refine W_f rfl (by first | rfl | exact ⟨rfl, by first | decide | assumption | exact Or.inl rfl | exact Or.inr rfl | exact b2i_01 _⟩) ?_
      exact h1 _ i1 ⟨i2, i3⟩
theorem and0 {x y : Int32} : x &&& y = 0 ↔ ∀ i, i < 32 → bt x i = true → bt y i = false := by
  have z : ∀ i, i < 32 → bt 0 i = false := by decide +kernel
  constructor
  · intro e i hi hx
    have : bt (x &&& y) i = bt 0 i := by rw [e]
    rw [b_and, hx, z i hi, Bool.true_and] at this
    exact this
  · intro e
    apply b_ext
    intro i hi
    rw [b_and, z i hi]
    cases hx : bt x i
    · rfl
    · rw [e i hi hx]; rfl
theorem bt_6 {n i : Nat} (h : n < 64) (hi : i < 32) : bt (nI n) i = n.testBit i := by rw [bt_nI, decide_eq_true hi, Bool.true_and]
theorem tb_6 {n i : Nat} (h : n < 64) (hb : n.testBit i = true) : i < 6 := by
  rcases Nat.lt_or_ge i 6 with h1 | h1
  · exact h1
  · rw [Nat.testBit_lt_two_pow (Nat.lt_of_lt_of_le h (Nat.le_trans (by decide : 64 ≤ 2 ^ 6) (Nat.pow_le_pow_right (by decide) h1)))] at hb
    cases hb
def subP (L : SL) (S : SS) (s set : Nat) : Prop := ∀ p, set.testBit p = true → p < lP L ∧ sA S p = s
theorem sub_iff (hO : LandOK L) {s set : Nat} (h : set < 64) : nI set &&& (prS L S s ^^^ (-1)) = 0 ↔ subP L S s set := by
  have o3 := hO.2.2.1
  rw [and0]
  constructor
  · intro e p hp
    have h6 := tb_6 h hp
    have := e p (by omega) (by rw [bt_6 h (by omega)]; exact hp)
    rw [b_not _ _ (by omega)] at this
    unfold prS at this
    rw [setN_bt (lP L) (by omega) p (by omega)] at this
    simp at this
    exact this
  · intro e i hi hb
    rw [bt_6 h hi] at hb
    obtain ⟨h1, h2⟩ := e i hb
    rw [b_not _ _ hi]
    unfold prS
    rw [setN_bt (lP L) (by omega) i hi, decide_eq_true h1, decide_eq_true h2]; rfl
def safB (L : SL) (S : SS) (set : Nat) : Bool := !anyN 6 (fun p => set.testBit p && !decide (clB L S p &&& nI set = 0))
theorem saf_iff (hO : LandOK L) {s set : Nat} (h : set < 64) (hs : subP L S s set) : safB L S set = !anyN (lP L) (badP L S s set) := by
  have o3 := hO.2.2.1
  unfold safB
  congr 1
  rw [Bool.eq_iff_iff, anyN_iff, anyN_iff]
  constructor
  · rintro ⟨p, hp, e⟩
    simp only [Bool.and_eq_true, Bool.not_eq_true', decide_eq_false_iff_not] at e
    obtain ⟨e1, e2⟩ := e
    rw [and0] at e2
    obtain ⟨q, e3⟩ := Classical.not_forall.mp e2
    simp only [Classical.not_imp, Bool.not_eq_false] at e3
    obtain ⟨hq, e4, e5⟩ := e3
    rw [bt_6 h hq] at e5
    unfold clB at e4
    rw [setN_bt (lP L) (by omega) q hq] at e4
    simp only [Bool.and_eq_true, decide_eq_true_eq, Bool.not_eq_true', decide_eq_false_iff_not] at e4
    obtain ⟨e6, e7, e8⟩ := e4
    have hpP := (hs p e1).1
    rcases Nat.lt_or_ge q p with hl | hl
    · refine ⟨p, hpP, ?_⟩
      unfold badP
      rw [e1, (anyN_iff p _).mpr ⟨q, hl, by rw [e5, e8]; rfl⟩]; simp
    · refine ⟨q, e6, ?_⟩
      unfold badP
      rw [e5, (anyN_iff q _).mpr ⟨p, by omega, by rw [e1, clas_sym (by omega) (by omega), e8]; rfl⟩]; simp
  · rintro ⟨p, hp, e⟩
    unfold badP at e
    simp only [Bool.and_eq_true, Bool.or_eq_true, Bool.not_eq_true', decide_eq_false_iff_not] at e
    obtain ⟨e1, e2⟩ := e
    rcases e2 with e2 | e2
    · exact absurd (hs p e1).2 e2
    · obtain ⟨q, hq, e3⟩ := (anyN_iff p _).mp e2
      simp only [Bool.and_eq_true] at e3
      refine ⟨p, by omega, ?_⟩
      simp only [Bool.and_eq_true, Bool.not_eq_true', decide_eq_false_iff_not]
      refine ⟨e1, fun e4 => ?_⟩
      have := and0.mp e4 q (by omega) (by
        unfold clB
        rw [setN_bt (lP L) (by omega) q (by omega)]
        simp only [Bool.and_eq_true, decide_eq_true_eq, Bool.not_eq_true', decide_eq_false_iff_not]
        exact ⟨by omega, by omega, e3.2⟩)
      rw [bt_6 h (by omega), e3.1] at this
      cases this
def cmG (L : SL) (S : SS) (s set best : Nat) : Nat := if (decide (set < 2 ^ lP L) && cmB L S s set best) = true then set else best
theorem cm_no {s set best : Nat} (h : set < 64) (e : ¬ subP L S s set ∨ ¬ pop (nI best) < pop (nI set) ∨ (subP L S s set ∧ (!anyN (lP L) (badP L S s set)) = false)) : cmG L S s set best = best := by
  unfold cmG
  rw [if_neg]
  intro c
  simp only [Bool.and_eq_true, decide_eq_true_eq] at c
  obtain ⟨c1, c2⟩ := c
  unfold cmB at c2
  simp only [Bool.and_eq_true, decide_eq_true_eq] at c2
  rcases e with e | e | e
  · apply e
    intro p hp
    have hpP : p < lP L := by
      rcases Nat.lt_or_ge p (lP L) with h1 | h1
      · exact h1
      · rw [Nat.testBit_lt_two_pow (Nat.lt_of_lt_of_le c1 (Nat.pow_le_pow_right (by decide) h1))] at hp; cases hp
    refine ⟨hpP, Decidable.byContradiction fun hn => ?_⟩
    have := anyN_f (Bool.not_eq_true' _ |>.mp c2.2) hpP
    unfold badP at this
    rw [hp, decide_eq_false hn] at this
    cases this
  · exact e c2.1
  · rw [e.2] at c2; exact absurd c2.2 (by decide)
theorem cm_ye {s set best : Nat} (h : set < 64) (e1 : subP L S s set) (e2 : pop (nI best) < pop (nI set)) (e3 : (!anyN (lP L) (badP L S s set)) = true) : cmG L S s set best = set := by
  unfold cmG
  refine if_pos ?_
  have : set < 2 ^ lP L := by
    rcases Nat.lt_or_ge set (2 ^ lP L) with h1 | h1
    · exact h1
    · obtain ⟨i, hi, hb⟩ := Nat.exists_ge_and_testBit_of_ge_two_pow h1
      have := (e1 i hb).1
      omega
  rw [decide_eq_true this]
  unfold cmB
  rw [decide_eq_true e2, e3]; rfl
theorem cm_end (hO : LandOK L) {s : Nat} : lp (cmG L S s) 64 0 = cmA L S s := by
  have o3 := hO.2.2.1
  have key : ∀ m, 2 ^ lP L ≤ m → lp (cmG L S s) m 0 = lp (cmG L S s) (2 ^ lP L) 0 := by
    intro m hm
    induction m with
    | zero => have := Nat.two_pow_pos (lP L); omega
    | succ m ih =>
      rcases Nat.lt_or_ge m (2 ^ lP L) with h1 | h1
      · rw [show m + 1 = 2 ^ lP L by omega]
      · show cmG L S s m (lp (cmG L S s) m 0) = _
        rw [ih h1]
        unfold cmG
        rw [decide_eq_false (by omega)]; rfl
  rw [key 64 (Nat.le_trans (Nat.pow_le_pow_right (by decide) o3) (by decide))]
  unfold cmA
  refine lp_ext _ (fun j t hj => ?_)
  unfold cmG cmF
  rw [decide_eq_true hj, Bool.true_and]
theorem c_isSafe {s' : Nat} (hP : PlrC h L S s') (hO : LandOK L) {set : Nat} (hs : set < 64) (hsub : subP L S s' set) (h1 : safB L S set = true → Q (some (.int 1)) h) (h0 : safB L S set = false → Q (some (.int 0)) h) : Rc (d + 2) m_X6_isSafe [.ref 140, .int (nI set)] h Q := by
  unfold safB at h1 h0
  refine R_in rfl rfl ?_
  refine R_gs 2 rfl ?_
  refine w_any (W := fun p => Rw (d + 1) Q (m_X6_isSafe, 2, [_, _, some (.int (nI p))], [], 262, h)) (A := Q (some (.int 0)) h) 6 (fun p => set.testBit p && !decide (clB L S p &&& nI set = 0)) (fun e => h0 (by rw [e]; rfl)) (fun e => ?_) (fun p hp w1 w2 => ?_)
  ·
    refine R_gs 5 rfl ?_
    refine W_bt rfl (by decide) ?_
    refine R_gs 36 rfl ?_
    refine W_f rfl (by first | rfl | exact ⟨rfl, by first | decide | assumption | exact Or.inl rfl | exact Or.inr rfl | exact b2i_01 _⟩) ?_
    exact h1 (by rw [e]; rfl)
  ·
    refine R_gs 5 rfl ?_
    refine W_bf rfl (fun e => absurd ((nI_leI (a := 6) (by omega) (by omega)).mp e) (by omega)) ?_
    refine R_gs 10 rfl ?_
    refine R_k rfl rfl (c_hasBit (by omega) (fun hx10 => ?_) (fun hx10 => ?_))
    ·
      refine W_bf rfl (by decide) ?_
      refine R_gs 21 rfl ?_
      have tp := (bt_6 hs (by omega)).symm.trans hx10
      refine R_il rfl rfl (ix_nI _) (by omega) (hP.2 p (hsub p tp).1 (hsub p tp).2) ?_
      refine R_gs 24 rfl ?_
      refine W_b rfl (fun hc24 => ?_) (fun hc24 => ?_)
      ·
        refine R_gs 2 rfl ?_
        rw [nI_1]; exact w2 (by rw [decide_eq_true hc24]; simp)
      ·
        refine R_gs 28 rfl ?_
        refine W_f rfl (by first | rfl | exact ⟨rfl, by first | decide | assumption | exact Or.inl rfl | exact Or.inr rfl | exact b2i_01 _⟩) ?_
        exact w1 (by rw [tp, decide_eq_false hc24]; rfl)
    ·
      refine W_bt rfl (by decide) ?_
      refine R_gs 2 rfl ?_
      rw [nI_1]; exact w2 (by rw [← bt_6 hs (by omega), hx10]; rfl)
theorem c_largestSafe {s' : Nat} (hP : PlrC h L S s') (hO : LandOK L) (h1 : Q (some (.int (nI (cmA L S s')))) h) : Rc (d + 3) m_X6_largestSafe [.ref 140] h Q := by
  rw [← cm_end hO] at h1
  refine R_in rfl rfl ?_
  refine R_gs 4 rfl ?_
  refine w_inv (W := fun j (b : Nat) => Rw (d + 2) Q (m_X6_largestSafe, 4, [some (.ref 140), some (.int (nI b)), some (.int (nI (j + 1)))], [], 262, h)) 63 (fun j b => b < 64 ∧ b = lp (cmG L S s') (j + 1) 0) (s0 := 0) ⟨by omega, (cm_no (by omega) (Or.inr (Or.inl (Nat.lt_irrefl _)))).symm⟩ (fun j b hj hi w => ?_) (fun b hi => ?_)
  ·
    obtain ⟨i1, i2⟩ := hi
    have p1 := pop_le (nI b)
    have p2 := pop_le (nI (j + 1))
    refine R_gs 7 rfl ?_
    refine W_bf rfl (fun e => absurd ((nI_leI (a := 64) (by omega) (by omega)).mp e) (by omega)) ?_
    refine R_gs 18 rfl ?_
    rw [hP.1]
    refine W_b rfl (fun hc18 => ?_) (fun hc18 => ?_)
    ·
      refine R_gs 22 rfl ?_
      refine R_k rfl rfl (c_bitCount (n64_b15 (by omega)) ?_)
      refine R_gs 26 rfl ?_
      refine R_k rfl rfl (c_bitCount (n64_b15 i1) ?_)
      refine W_b rfl (fun hc29 => ?_) (fun hc29 => ?_)
      ·
        refine R_gs 4 rfl ?_
        rw [nI_1]; exact w b ⟨i1, by rw [show lp (cmG L S s') (j + 1 + 1) 0 = cmG L S s' (j + 1) (lp (cmG L S s') (j + 1) 0) from rfl, ← i2, cm_no (by omega) (Or.inr (Or.inl (by have := (nI_leI (by omega) (by omega)).mp hc29; omega)))]⟩
      ·
        refine R_gs 34 rfl ?_
        refine R_k rfl rfl (c_isSafe hP hO (by omega) ((sub_iff hO (by omega)).mp hc18) (fun hx34 => ?_) (fun hx34 => ?_))
        ·
          refine W_bf rfl (by decide) ?_
          refine R_gs 4 rfl ?_
          rw [nI_1]; exact w (j + 1) ⟨by omega, by rw [show lp (cmG L S s') (j + 1 + 1) 0 = cmG L S s' (j + 1) (lp (cmG L S s') (j + 1) 0) from rfl, ← i2, cm_ye (by omega) ((sub_iff hO (by omega)).mp hc18) (by have := mt (nI_leI (a := pop (nI (j + 1))) (b := pop (nI b)) (by omega) (by omega)).mpr hc29; omega) (by rw [← saf_iff hO (by omega) ((sub_iff hO (by omega)).mp hc18)]; exact hx34)]⟩
        ·
          refine W_bt rfl (by decide) ?_
          refine R_gs 4 rfl ?_
          rw [nI_1]; exact w b ⟨i1, by rw [show lp (cmG L S s') (j + 1 + 1) 0 = cmG L S s' (j + 1) (lp (cmG L S s') (j + 1) 0) from rfl, ← i2, cm_no (by omega) (Or.inr (Or.inr ⟨(sub_iff hO (by omega)).mp hc18, by rw [← saf_iff hO (by omega) ((sub_iff hO (by omega)).mp hc18)]; exact hx34⟩))]⟩
    ·
      refine R_gs 4 rfl ?_
      rw [nI_1]; exact w b ⟨i1, by rw [show lp (cmG L S s') (j + 1 + 1) 0 = cmG L S s' (j + 1) (lp (cmG L S s') (j + 1) 0) from rfl, ← i2, cm_no (by omega) (Or.inl (fun e => hc18 ((sub_iff hO (by omega)).mpr e)))]⟩
  ·
    refine R_gs 7 rfl ?_
    refine W_bt rfl (by decide) ?_
    refine R_gs 49 rfl ?_
    refine W_f rfl (by first | rfl | exact ⟨rfl, by first | decide | assumption | exact Or.inl rfl | exact Or.inr rfl | exact b2i_01 _⟩) ?_
    rw [hi.2]; exact h1
theorem x_company (W : WOK L S H B M D T N) (c : RC h L S H B M D T N) {s : Int32} (h1 : ∀ h', Fr xC h h' → RC h' L S H B M D T N → Q (some (.int (comA L S s))) h') : Rc (d + 8) m_X12_company [.ref 0, .int s] h Q := by
  have hO := W.1
  have hV := W.2.1
  have o2 := hO.2.1
  have c0 := c
  obtain ⟨a, g, c1, c2, c3, c4, c5, c6, c7, c8, c9, c10, c11⟩ := c
  have ha := c1.1
  have ha' := ha
  have eL := vr c1.2.2.1
  unfold comA at h1
  rcases ha with rfl | rfl
  all_goals
    refine R_in rfl rfl ?_
    refine R_gs 4 rfl ?_
    rw [eL]
    refine R_gs 5 rfl ?_
    refine R_k rfl rfl (c_hasPlace (by decide) c2 (fun hx5 => ?_) (fun hx5 => ?_))
    ·
      refine W_bf rfl (by decide) ?_
      refine R_gs 21 rfl ?_
      rw [eL]
      refine R_gs 26 rfl ?_
      obtain ⟨k, hk, rfl⟩ := inN_of (by omega) hx5
      rw [hx5, if_pos rfl, nI_clamp (by omega)] at h1
      refine R_k rfl rfl (c_enter ha' hO c2 c3 hV hk (fun h2 f2 p2 => ?_))
      refine R_gs 33 rfl ?_
      refine R_k rfl rfl (c_largestSafe p2 hO ?_)
      refine W_f rfl (by first | rfl | exact ⟨rfl, by first | decide | assumption | exact Or.inl rfl | exact Or.inr rfl | exact b2i_01 _⟩) ?_
      exact h1 _ ((f2.mono (fun q => xpl_c)).c (fun q => xcs_le)) (c0.fr hO (f2.mono (fun q => xpl_c)))
    ·
      refine W_bt rfl (by decide) ?_
      refine R_gs 12 rfl ?_
      refine W_f rfl (by first | rfl | exact ⟨rfl, by first | decide | assumption | exact Or.inl rfl | exact Or.inr rfl | exact b2i_01 _⟩) ?_
      rw [hx5] at h1; exact h1 _ (Fr.refl _ h) c0
end
