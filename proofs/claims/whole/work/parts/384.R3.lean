def preB (L : SL) (S : SS) (s x : Nat) : Bool := decide (x < lP L) && decide (sA S x = s)
def rotA (L : SL) (S : SS) (s w : Int32) : Int32 := if (inN s (lQ L) && (decide (w = -1) || inN w (lP L))) = true then (if w = -1 then nI (tuT (preB L S s.toNatClampNeg) (clas L S)).1 else nI ((tuT (preB L S s.toNatClampNeg) (clas L S)).2 w.toNatClampNeg) - 1) else -2
def TrnC (h : AH) (c : Nat → Nat) : Prop := ∀ x, x < 6 → hI h 142 x = nI (c x) - 1
section
variable {d : Nat} {h h' : AH} {L : SL} {S : SS} {H : SH'} {B : SB'} {M : SM'} {D : SD'} {T : ST'} {N : SN'} {Q : Option Value → AH → Prop}
theorem pre_bt (hO : LandOK L) {s x : Nat} (hx : x < 6) : bt (prS L S s) x = preB L S s x := by
  have o3 := hO.2.2.1
  unfold prS preB
  rw [setN_bt (lP L) (by omega) x (by omega)]
theorem t1_eq {a t : Nat} (ha : a ≤ 7) (ht : t ≤ 7) : nI a - 1 = nI t ↔ a = t + 1 := by
  rcases Nat.eq_zero_or_pos a with rfl | h
  · constructor
    · intro e
      have := nI_pos' (n := t) (by omega)
      rw [← e] at this
      exact absurd this (by decide)
    · intro e; omega
  · rw [dn_p h, nI_eq (by omega) (by omega)]; omega
theorem c_isFree (hO : LandOK L) {s p t : Nat} {c : Nat → Nat} (hP : PlrC h L S s) (hT : TrnC h c) (hc : ∀ x, c x ≤ 6) (hp : p < lP L) (hs : sA S p = s) (ht : t ≤ 6) (h1 : frT (clas L S) p t c = true → Q (some (.int 1)) h) (h0 : frT (clas L S) p t c = false → Q (some (.int 0)) h) : Rc (d + 2) m_X6_isFree [.ref 140, .int (nI p), .int (nI t)] h Q := by
  have o3 := hO.2.2.1
  unfold frT at h1 h0
  refine R_in rfl rfl ?_
  refine R_gs 2 rfl ?_
  refine w_any (W := fun y => Rw (d + 1) Q (m_X6_isFree, 2, [_, _, _, some (.int (nI y))], [], 262, h)) (A := Q (some (.int 0)) h) p (fun y => decide (c y = t + 1) && clas L S p y) (fun e => h0 (by rw [e]; rfl)) (fun e => ?_) (fun y hy w1 w2 => ?_)
  ·
    refine R_gs 4 rfl ?_
    refine W_bt rfl (gec (by omega)) ?_
    refine R_gs 39 rfl ?_
    refine W_f rfl (by first | rfl | exact ⟨rfl, by first | decide | assumption | exact Or.inl rfl | exact Or.inr rfl | exact b2i_01 _⟩) ?_
    exact h1 (by rw [e]; rfl)
  ·
    refine R_gs 4 rfl ?_
    refine W_bf rfl (ltc hy (by omega)) ?_
    refine R_gs 12 rfl ?_
    refine R_il rfl (by first | rfl | exact shO (by decide) (by omega) | exact shG (by decide) (by omega)) (by repeat (first | with_reducible apply ix_add | with_reducible apply ix_mul | with_reducible exact ix_nI _ | with_reducible exact ix_lit _ | exact rfl)) (by omega) (by first | exact hT y (by omega)) ?_
    refine R_gs 14 rfl ?_
    refine W_b rfl (fun hc14 => ?_) (fun hc14 => ?_)
    ·
      rw [t1_eq (by have := hc y; omega) (by omega)] at hc14
      refine R_gs 22 rfl ?_
      refine R_il rfl (by first | rfl | exact shO (by decide) (by omega) | exact shG (by decide) (by omega)) (by repeat (first | with_reducible apply ix_add | with_reducible apply ix_mul | with_reducible exact ix_nI _ | with_reducible exact ix_lit _ | exact rfl)) (by omega) (by first | exact hP.2 p hp hs) ?_
      refine R_gs 24 rfl ?_
      have ey : bt (clB L S p) y = clas L S p y := by { unfold clB; rw [setN_bt (lP L) (by omega) y (by omega), decide_eq_true (by omega : y < lP L), decide_eq_false (by omega : ¬ y = p)]; rfl }
      refine R_k rfl rfl (c_hasBit (by omega) (fun hx24 => ?_) (fun hx24 => ?_))
      ·
        refine W_bf rfl (by decide) ?_
        refine R_gs 31 rfl ?_
        refine W_f rfl (by first | rfl | exact ⟨rfl, by first | decide | assumption | exact Or.inl rfl | exact Or.inr rfl | exact b2i_01 _⟩) ?_
        exact w1 (by rw [decide_eq_true hc14, ← ey, hx24]; rfl)
      ·
        refine W_bt rfl (by decide) ?_
        refine R_gs 2 rfl ?_
        rw [nI_1]; exact w2 (by rw [← ey, hx24]; simp)
    ·
      rw [t1_eq (by have := hc y; omega) (by omega)] at hc14
      refine R_gs 2 rfl ?_
      rw [nI_1]; exact w2 (by rw [decide_eq_false hc14]; rfl)
theorem trn_up {g : AH} {c : Nat → Nat} {p v : Nat} (h : TrnC g c) (hv : hI g 142 p = nI v - 1) : TrnC g (upC c p v) := fun x hx => by
  unfold upC
  by_cases e : x = p
  · rw [if_pos e, e]; exact hv
  · rw [if_neg e]; exact h x hx
theorem fsT_s {g : Nat → Option (Nat → Nat)} {j k : Nat} (e : g j = none) : fsT g j (k + 1) = fsT g (j + 1) k := by
  show (match g j with | some r => some r | none => fsT g (j + 1) k) = _
  rw [e]
theorem fsT_t {g : Nat → Option (Nat → Nat)} {j k : Nat} {r : Nat → Nat} (e : g j = some r) : fsT g j (k + 1) = some r := by
  show (match g j with | some r => some r | none => fsT g (j + 1) k) = _
  rw [e]
theorem c_gv (hO : LandOK L) {s m : Nat} (hm : m ≤ 6) : ∀ f p c (g : AH) (Q : Option Value → AH → Prop), p + f = 6 → PlrC g L S s → TrnC g c → (∀ x, p ≤ x → c x = 0) → (∀ x, c x ≤ 6) → (∀ r g', gvT (preB L S s) (clas L S) m f p c = some r → Fr (fun q => Nat.beq q 142) g g' → TrnC g' r → Q (some (.int 1)) g') → (∀ g', gvT (preB L S s) (clas L S) m f p c = none → Fr (fun q => Nat.beq q 142) g g' → TrnC g' c → Q (some (.int 0)) g') → Rc (d + f + 3) m_X6_giveTurns [.ref 140, .int (nI p), .int (nI m)] g Q
  | 0, p, c, g, Q, hp, hP, hT, h0, hc, h1, h2 => by
    refine R_in rfl rfl ?_
    refine R_gs 3 rfl ?_
    refine W_bf rfl (fun e => absurd ((nI_ltI (b := 6) (by omega) (by omega)).mp e) (by omega)) ?_
    refine R_gs 7 rfl ?_
    refine W_f rfl (by first | rfl | exact ⟨rfl, by first | decide | assumption | exact Or.inl rfl | exact Or.inr rfl | exact b2i_01 _⟩) ?_
    exact h1 c g rfl (Fr.refl _ g) hT
  | f + 1, p, c, g, Q, hp, hP, hT, h0, hc, h1, h2 => by
    have o3 := hO.2.2.1
    have ih := c_gv hO (s := s) hm f
    have eb := pre_bt (L := L) (S := S) (s := s) (x := p) hO (by omega)
    have hs : gvT (preB L S s) (clas L S) m (f + 1) p c = if preB L S s p = true then fsT (fun t => if frT (clas L S) p t c = true then gvT (preB L S s) (clas L S) m f (p + 1) (upC c p (t + 1)) else none) 0 m else gvT (preB L S s) (clas L S) m f (p + 1) (upC c p 0) := rfl
    have ec : upC c p 0 = c := (by funext x; unfold upC; split; rename_i e; rw [e, h0 p (Nat.le_refl _)]; rfl)
    refine R_in rfl rfl ?_
    refine R_gs 3 rfl ?_
    refine W_bt rfl ((nI_ltI (b := 6) (by omega) (by omega)).mpr (by omega)) ?_
    refine R_gs 13 rfl ?_
    try rw [hP.1]
    refine R_k rfl rfl (c_hasBit (by omega) (fun hx13 => ?_) (fun hx13 => ?_))
    ·
      refine W_bf rfl (by decide) ?_
      refine R_gs 30 rfl ?_
      rw [if_pos (by rw [← eb, hx13])] at hs
      have hpp : preB L S s p = true := (by rw [← eb, hx13])
      have hpp2 := hpp
      unfold preB at hpp2
      simp only [Bool.and_eq_true, decide_eq_true_eq] at hpp2
      obtain ⟨hpP, hsP⟩ := hpp2
      refine w_inv (W := fun t (u : AH) => Rw (d + (f + 1) + 2) Q (m_X6_giveTurns, 30, [some (.ref 140), some (.int (nI p)), some (.int (nI m)), some (.int (nI t))], [], 262, u)) m (fun t u => Fr (fun q => Nat.beq q 142) g u ∧ (∃ v, v ≤ 6 ∧ TrnC u (upC c p v)) ∧ gvT (preB L S s) (clas L S) m (f + 1) p c = fsT (fun t => if frT (clas L S) p t c = true then gvT (preB L S s) (clas L S) m f (p + 1) (upC c p (t + 1)) else none) t (m - t)) (s0 := g) ⟨Fr.refl _ g, ⟨0, by omega, by rw [ec]; exact hT⟩, hs⟩ (fun t u ht hu w => ?_) (fun u hu => ?_)
      ·
        obtain ⟨i1, ⟨v, hv, i2⟩, i3⟩ := hu
        have uP : PlrC u L S s := ⟨(congrFun (i1.I rfl) 2).trans hP.1, fun x hx e => (congrFun (i1.I rfl) x).trans (hP.2 x hx e)⟩
        have ef : frT (clas L S) p t (upC c p v) = frT (clas L S) p t c := frT_ext (fun y hy => up_lt hy)
        have cu : ∀ w, w ≤ 6 → ∀ x, upC c p w x ≤ 6 := fun w hw x => by { unfold upC; split; exact hw; exact hc x }
        rw [show m - t = m - (t + 1) + 1 by omega] at i3
        refine R_gs 32 rfl ?_
        refine W_bf rfl (ltc ht (by omega)) ?_
        refine R_gs 38 rfl ?_
        refine R_k rfl rfl (c_isFree hO uP i2 (cu v hv) hpP hsP (by omega) (fun hx38 => ?_) (fun hx38 => ?_))
        ·
          refine W_bf rfl (by decide) ?_
          refine R_gs 50 rfl ?_
          refine R_is rfl rfl (ix_nI _) (by omega) ?_
          have wT : TrnC (wI u 142 p (nI t)) (upC c p (t + 1)) := fun x hx => by { unfold upC; rw [wI_at]; by_cases ex : x = p; rw [if_pos ex, if_pos ex, nI_pred]; rw [if_neg ex, if_neg ex]; have := i2 x hx; unfold upC at this; rw [if_neg ex] at this; exact this }
          refine R_gs 56 rfl ?_
          rw [nI_1]
          refine R_k rfl rfl (ih (p + 1) (upC c p (t + 1)) (wI u 142 p (nI t)) _ (by omega) uP wT (fun x hx => by unfold upC; rw [if_neg (by omega)]; exact h0 x (by omega)) (cu (t + 1) (by omega)) (fun r g' a b e => ?_) (fun g' a b e => ?_))
          ·
            refine W_bf rfl (by decide) ?_
            refine R_gs 63 rfl ?_
            refine W_f rfl (by first | rfl | exact ⟨rfl, by first | decide | assumption | exact Or.inl rfl | exact Or.inr rfl | exact b2i_01 _⟩) ?_
            exact h1 r g' (i3.trans (fsT_t ((if_pos (ef ▸ hx38)).trans a))) ((i1.wI rfl).trans b) e
          ·
            refine W_bt rfl (by decide) ?_
            refine R_gs 30 rfl ?_
            rw [nI_1]; exact w g' ⟨(i1.wI rfl).trans b, ⟨t + 1, by omega, e⟩, i3.trans (fsT_s ((if_pos (ef ▸ hx38)).trans a))⟩
        ·
          refine W_bt rfl (by decide) ?_
          refine R_gs 30 rfl ?_
          rw [nI_1]; exact w u ⟨i1, ⟨v, hv, i2⟩, i3.trans (fsT_s (if_neg (by rw [← ef, hx38]; decide)))⟩
      ·
        obtain ⟨i1, ⟨v, hv, i2⟩, i3⟩ := hu
        refine R_gs 32 rfl ?_
        refine W_bt rfl (gec (by omega)) ?_
        refine R_gs 76 rfl ?_
        refine R_is rfl (by first | rfl | exact shO (by decide) (by omega) | exact shG (by decide) (by omega)) (by repeat (first | with_reducible apply ix_add | with_reducible apply ix_mul | with_reducible exact ix_nI _ | with_reducible exact ix_lit _ | exact rfl)) (by omega) ?_
        refine R_gs 78 rfl ?_
        refine W_f rfl (by first | rfl | exact ⟨rfl, by first | decide | assumption | exact Or.inl rfl | exact Or.inr rfl | exact b2i_01 _⟩) ?_
        rw [Nat.sub_self] at i3
        refine h2 _ i3 (i1.wI rfl) (fun x hx => ?_)
        rw [wI_at]; by_cases ex : x = p; rw [if_pos ex, ex, h0 p (Nat.le_refl _)]; rfl; rw [if_neg ex]; have := i2 x hx; unfold upC at this; rw [if_neg ex] at this; exact this
    ·
      refine W_bt rfl (by decide) ?_
      refine R_gs 24 rfl ?_
      rw [if_neg (by rw [← eb, hx13]; decide), ec] at hs
      rw [nI_1]
      refine R_k rfl rfl (ih (p + 1) c g _ (by omega) hP hT (fun x hx => h0 x (by omega)) hc (fun r g' a b e => ?_) (fun g' a b e => ?_))
      ·
        refine W_f rfl (by first | rfl | exact ⟨rfl, by first | decide | assumption | exact Or.inl rfl | exact Or.inr rfl | exact b2i_01 _⟩) ?_
        exact h1 r g' (hs.trans a) b e
      ·
        refine W_f rfl (by first | rfl | exact ⟨rfl, by first | decide | assumption | exact Or.inl rfl | exact Or.inr rfl | exact b2i_01 _⟩) ?_
        exact h2 g' (hs.trans a) b e
theorem prS_0 (hO : LandOK L) {s : Nat} : prS L S s = 0 ↔ anyN 6 (preB L S s) = false := by
  have o3 := hO.2.2.1
  constructor
  · intro e
    cases e2 : anyN 6 (preB L S s) with
    | false => rfl
    | true =>
      obtain ⟨x, hx, e3⟩ := (anyN_iff 6 _).mp e2
      rw [← pre_bt hO hx, e] at e3
      rw [(by decide +kernel : ∀ i, i < 32 → bt 0 i = false) x (by omega)] at e3
      cases e3
  · intro e
    apply b_ext
    intro i hi
    rw [(by decide +kernel : ∀ i, i < 32 → bt 0 i = false) i hi]
    rcases Nat.lt_or_ge i 6 with h | h
    · rw [pre_bt hO h]; exact anyN_f e h
    · unfold prS; rw [setN_bt (lP L) (by omega) i hi, decide_eq_false (by omega), Bool.false_and]
theorem pl_x {m j : Nat} {u : AH} (h3 : hI u 140 3 = nI m) (h1m : 1 ≤ m) (hm : m ≤ 6) (hp : ¬ hI u 140 2 = 0) (q : Q none u) : Rw d Q (m_X6_planTurns, 15, [some (.ref 140), some (.int (nI (j + 1)))], [], 262, u) := by
  refine R_gs 18 rfl ?_
  refine W_b rfl (fun _ => ?_) (fun _ => ?_)
  · refine W_f rfl (by first | rfl | exact ⟨rfl, by decide⟩) ?_
    exact q
  · refine R_gs 25 rfl ?_
    refine W_bf rfl hp ?_
    refine R_gs 32 rfl ?_
    refine W_bf rfl (by rw [h3, nI_e0 (by omega)]; omega) ?_
    refine W_f rfl (by first | rfl | exact ⟨rfl, by decide⟩) ?_
    exact q
theorem tuG_s {pr : Nat → Bool} {cl : Nat → Nat → Bool} {j k : Nat} (e : gvT pr cl j 6 0 (fun _ => 0) = none) : tuG pr cl j (k + 1) = tuG pr cl (j + 1) k := by
  show (match gvT pr cl j 6 0 (fun _ => 0) with | some r => (j, r) | none => tuG pr cl (j + 1) k) = _
  rw [e]
theorem tuG_t {pr : Nat → Bool} {cl : Nat → Nat → Bool} {j k : Nat} {r : Nat → Nat} (e : gvT pr cl j 6 0 (fun _ => 0) = some r) : tuG pr cl j (k + 1) = (j, r) := by
  show (match gvT pr cl j 6 0 (fun _ => 0) with | some r => (j, r) | none => tuG pr cl (j + 1) k) = _
  rw [e]
theorem c_planTurns (hO : LandOK L) {s : Nat} (hP : PlrC h L S s) (h1 : ∀ h', Fr (fun q => Nat.beq q 140 || Nat.beq q 142) h h' → hI h' 140 3 = nI (tuT (preB L S s) (clas L S)).1 → TrnC h' (tuT (preB L S s) (clas L S)).2 → Q none h') : Rc (d + 11) m_X6_planTurns [.ref 140] h Q := by
  have o3 := hO.2.2.1
  have hz : hI h 140 2 = 0 ↔ anyN 6 (preB L S s) = false := (by rw [hP.1]; exact prS_0 hO)
  unfold tuT at h1
  by_cases e0 : anyN 6 (preB L S s) = true
  · rw [if_pos e0] at h1
    have hn : ¬ hI h 140 2 = 0 := fun e => by rw [hz.mp e] at e0; cases e0
    obtain ⟨m, r, eT, t1, t2, t3, t4⟩ := tu_I (pr := preB L S s) (cl := clas L S) 6 1 (by omega) (by omega) (fun m' a b => by omega)
    rw [eT] at h1
    refine R_in rfl rfl ?_
    refine R_gs 10 rfl ?_
    refine R_k rfl rfl (c_fill (a := 142) rfl (fun g2 f2 e2 => ?_))
    refine R_gs 15 rfl ?_
    refine w_inv (W := fun j (u : AH) => Rw (d + 10) Q (m_X6_planTurns, 15, [some (.ref 140), some (.int (nI (j + 1)))], [], 262, u)) 6 (fun j u => Fr (fun q => Nat.beq q 140 || Nat.beq q 142) h u ∧ hI u 140 2 = hI h 140 2 ∧ ((hI u 140 3 = nI 0 ∧ TrnC u (fun _ => 0) ∧ tuG (preB L S s) (clas L S) 1 6 = tuG (preB L S s) (clas L S) (j + 1) (6 - j)) ∨ (hI u 140 3 = nI m ∧ TrnC u r))) (s0 := g2) ⟨((Fr.refl _ h).wI rfl).trans (f2.mono (fun q hq => by show (_ || _) = true; rw [hq, Bool.or_true])), congrFun (f2.I rfl) 2, Or.inl ⟨congrFun (f2.I rfl) 3, fun x hx => e2 x hx, rfl⟩⟩ (fun j u hj hu w => ?_) (fun u hu => ?_)
    ·
      obtain ⟨i1, i2, i3⟩ := hu
      have in0 : ¬ hI u 140 2 = 0 := (by rw [i2]; exact hn)
      rcases i3 with ⟨i3, i4, i5⟩ | ⟨i3, i4⟩
      rotate_left
      exact pl_x i3 t1 t2 in0 (h1 u i1 i3 i4)
      have uP : PlrC u L S s := ⟨i2.trans hP.1, fun x hx e => (congrFun (i1.I rfl) x).trans (hP.2 x hx e)⟩
      rw [show 6 - j = 6 - (j + 1) + 1 by omega] at i5
      refine R_gs 18 rfl ?_
      refine W_bf rfl (fun e => absurd ((nI_ltI (a := 6) (by omega) (by omega)).mp e) (by omega)) ?_
      refine R_gs 25 rfl ?_
      refine W_bf rfl (in0) ?_
      refine R_gs 32 rfl ?_
      refine W_bt rfl (by rw [i3]; rfl) ?_
      refine R_gs 38 rfl ?_
      refine R_k rfl rfl (c_gv hO (s := s) (m := j + 1) (by omega) 6 0 (fun _ => 0) u _ (by omega) uP i4 (fun _ _ => rfl) (fun _ => by omega) (fun r9 g9 a b e => ?_) (fun g9 a b e => ?_))
      ·
        refine W_bf rfl (by decide) ?_
        refine R_gs 15 rfl ?_
        rw [nI_1]; have e8 := tuG_t (k := 6 - (j + 1)) a
        have e9 : (m, r) = (j + 1, r9) := eT.symm.trans (i5.trans e8)
        cases e9
        exact w _ ⟨(i1.trans (b.mono (fun q hq => by show (_ || _) = true; rw [hq, Bool.or_true]))).wI rfl, (congrFun (b.I rfl) 2).trans i2, Or.inr ⟨rfl, e⟩⟩
      ·
        refine W_bt rfl (by decide) ?_
        refine R_gs 15 rfl ?_
        rw [nI_1]; exact w g9 ⟨i1.trans (b.mono (fun q hq => by show (_ || _) = true; rw [hq, Bool.or_true])), (congrFun (b.I rfl) 2).trans i2, Or.inl ⟨(congrFun (b.I rfl) 3).trans i3, e, i5.trans (tuG_s a)⟩⟩
    ·
      obtain ⟨i1, i2, i3⟩ := hu
      rcases i3 with ⟨i3, i4, i5⟩ | ⟨i3, i4⟩
      exfalso
      have e9 : (m, r) = (0, fun _ => 0) := eT.symm.trans i5
      have e9 : m = 0 := congrArg Prod.fst e9
      omega
      refine R_gs 18 rfl ?_
      refine W_bt rfl (by decide) ?_
      refine W_f rfl (by first | rfl | exact ⟨rfl, by first | decide | assumption | exact Or.inl rfl | exact Or.inr rfl | exact b2i_01 _⟩) ?_
      exact h1 u i1 i3 i4
  · rw [if_neg e0] at h1
    have hn : hI h 140 2 = 0 := hz.mpr (by cases e : anyN 6 (preB L S s); rfl; exact absurd e e0)
    refine R_in rfl rfl ?_
    refine R_gs 10 rfl ?_
    refine R_k rfl rfl (c_fill (a := 142) rfl (fun g2 f2 e2 => ?_))
    refine R_gs 18 rfl ?_
    refine W_bf rfl (by decide) ?_
    refine R_gs 25 rfl ?_
    refine W_bt rfl ((congrFun (f2.I rfl) 2).trans hn) ?_
    refine W_f rfl (by first | rfl | exact ⟨rfl, by first | decide | assumption | exact Or.inl rfl | exact Or.inr rfl | exact b2i_01 _⟩) ?_
    exact h1 g2 (((Fr.refl _ h).wI rfl).trans (f2.mono (fun q hq => by show (_ || _) = true; rw [hq, Bool.or_true]))) (congrFun (f2.I rfl) 3) (fun x hx => e2 x hx)
theorem x_rota (W : WOK L S H B M D T N) (c : RC h L S H B M D T N) {s w : Int32} (h1 : ∀ h', Fr xC h h' → RC h' L S H B M D T N → Q (some (.int (rotA L S s w))) h') : Rc (d + 12) m_X12_rota [.ref 0, .int s, .int w] h Q := by
  have hO := W.1
  have hV := W.2.1
  have o2 := hO.2.1
  have o3 := hO.2.2.1
  have c0 := c
  obtain ⟨a, g, c1, c2, c3, c4, c5, c6, c7, c8, c9, c10, c11⟩ := c
  have ha := c1.1
  have ha' := ha
  have eL := vr c1.2.2.1
  unfold rotA at h1
  rcases ha with rfl | rfl
  all_goals
    refine R_in rfl rfl ?_
    refine R_gs 4 rfl ?_
    rw [eL]
    refine R_gs 5 rfl ?_
    refine R_k rfl rfl (c_hasPlace (by decide) c2 (fun hx5 => ?_) (fun hx5 => ?_))
    ·
      refine W_bf rfl (by decide) ?_
      refine R_gs 13 rfl ?_
      refine W_b rfl (fun hc13 => ?_) (fun hc13 => ?_)
      ·
        refine R_gs 38 rfl ?_
        rw [eL]
        refine R_gs 43 rfl ?_
        obtain ⟨k, hk, rfl⟩ := inN_of (by omega) hx5
        rw [hx5, Bool.true_and, if_pos (by simp [*]), nI_clamp (by omega)] at h1
        refine R_k rfl rfl (c_enter ha' hO c2 c3 hV hk (fun h2 f2 p2 => ?_))
        refine R_gs 50 rfl ?_
        refine R_k rfl rfl (c_planTurns hO p2 (fun h3 f3 e3 t3 => ?_))
        have F3 := (f2.trans (f3.mono (fun q hq => by simp only [Bool.or_eq_true, Nat.beq_eq] at hq; rcases hq with rfl | rfl <;> rfl))).mono (Y := xcs) (fun q => xpl_c)
        refine R_gs 55 rfl ?_
        refine W_bt rfl (hc13) ?_
        refine R_gs 77 rfl ?_
        rw [e3]
        refine W_f rfl (by first | rfl | exact ⟨rfl, by first | decide | assumption | exact Or.inl rfl | exact Or.inr rfl | exact b2i_01 _⟩) ?_
        rw [if_pos hc13] at h1; exact h1 _ (F3.c (fun q => xcs_le)) (c0.fr hO F3)
      ·
        refine R_gs 20 rfl ?_
        rw [eL]
        refine R_gs 21 rfl ?_
        refine R_k rfl rfl (c_hasPerson (by decide) c2 (fun hx21 => ?_) (fun hx21 => ?_))
        ·
          refine W_bf rfl (by decide) ?_
          refine R_gs 38 rfl ?_
          rw [eL]
          refine R_gs 43 rfl ?_
          obtain ⟨k, hk, rfl⟩ := inN_of (by omega) hx5
          rw [hx5, Bool.true_and, if_pos (by simp [*]), nI_clamp (by omega)] at h1
          refine R_k rfl rfl (c_enter ha' hO c2 c3 hV hk (fun h2 f2 p2 => ?_))
          refine R_gs 50 rfl ?_
          refine R_k rfl rfl (c_planTurns hO p2 (fun h3 f3 e3 t3 => ?_))
          have F3 := (f2.trans (f3.mono (fun q hq => by simp only [Bool.or_eq_true, Nat.beq_eq] at hq; rcases hq with rfl | rfl <;> rfl))).mono (Y := xcs) (fun q => xpl_c)
          refine R_gs 55 rfl ?_
          refine W_bf rfl (hc13) ?_
          refine R_gs 76 rfl ?_
          obtain ⟨v, hv, rfl⟩ := inN_of (by omega) hx21
          refine R_il rfl rfl (ix_nI _) (by omega) (t3 v (by omega)) ?_
          refine W_f rfl (by first | rfl | exact ⟨rfl, by first | decide | assumption | exact Or.inl rfl | exact Or.inr rfl | exact b2i_01 _⟩) ?_
          rw [if_neg hc13, nI_clamp (by omega)] at h1; exact h1 _ (F3.c (fun q => xcs_le)) (c0.fr hO F3)
        ·
          refine W_bt rfl (by decide) ?_
          refine R_gs 29 rfl ?_
          refine W_f rfl (by first | rfl | exact ⟨rfl, by first | decide | assumption | exact Or.inl rfl | exact Or.inr rfl | exact b2i_01 _⟩) ?_
          rw [hx5, hx21, decide_eq_false hc13, Bool.or_false, Bool.and_false, if_neg (by decide)] at h1; exact h1 _ (Fr.refl _ h) c0
    ·
      refine W_bt rfl (by decide) ?_
      refine R_gs 29 rfl ?_
      refine W_f rfl (by first | rfl | exact ⟨rfl, by first | decide | assumption | exact Or.inl rfl | exact Or.inr rfl | exact b2i_01 _⟩) ?_
      rw [hx5, Bool.false_and, if_neg (by decide)] at h1; exact h1 _ (Fr.refl _ h) c0
end
