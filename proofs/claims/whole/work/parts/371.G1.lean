/-! generations -/
def nxN (n : Nat) : Nat := (n * 1103515245 + 12345) % 2147483648
def drN (n k : Nat) : Nat := n / 65536 % k
def saY (L : SL) (p t : Nat) : Int32 := fG (fun w => decide (t < sumN (w + 1) (lO L p))) 0 (lS L)
def dsF (L : SL) (p : Nat) (s : SS × Nat) : SS × Nat := if 0 < oT L p then (setY s.1 p (saY L p (drN (nxN s.2) (oT L p))), nxN s.2) else s
def dsA (L : SL) (s : SS × Nat) : SS × Nat := lp (dsF L) (lP L) s
def dwA (L : SL) (s : SS × Nat) : SS × Nat := if lP L = 0 ∨ lQ L = 0 then s else (setA s.1 (drN (nxN s.2) (lP L)) (drN (nxN (nxN s.2)) (lQ L)), nxN (nxN s.2))
def geS (L : SL) (s : SS × Nat) : SS × Nat := dwA L (dsA L s)
def geF (L : SL) (_ : Nat) (s : (SS × Nat) × Nat × Nat) : (SS × Nat) × Nat × Nat := ((momS L (geS L s.1).1, (geS L s.1).2), s.2.1 + pop (momF L (geS L s.1).1), if momF L (geS L s.1).1 = 0 then s.2.2 else s.2.2 + 1)
def geA (L : SL) (S : SS) (n m : Nat) : (SS × Nat) × Nat × Nat := lp (geF L) m ((S, n), 0, 0)
def genA (L : SL) (S : SS) (seed m w : Int32) : Int32 := if ((decide (0 ≤ seed) && decide (seed ≤ 9999)) && (decide (1 ≤ m) && decide (m ≤ 60)) && (decide (0 ≤ w) && decide (w ≤ 2))) = true then (if w = 0 then nI (geA L S seed.toNatClampNeg m.toNatClampNeg).2.1 else if w = 1 then nI (pop (bigs (sW (geA L S seed.toNatClampNeg m.toNatClampNeg).1.1))) else nI (geA L S seed.toNatClampNeg m.toNatClampNeg).2.2) else -1
theorem nx_lt (n : Nat) : nxN n < 2 ^ 31 := Nat.mod_lt _ (by decide)
theorem nx_J {n : Nat} (hn : n < 2 ^ 31) : lN n * 1103515245 + 12345 - (lN n * 1103515245 + 12345) / 2147483648 * 2147483648 = lN (nxN n) := by
  rw [show lN n * 1103515245 + 12345 = lN (n * 1103515245 + 12345) from (congrArg (· + (12345 : Int64)) (lN_mul n 1103515245)).trans (lN_add _ 12345)]
  exact pk_lRem (b := 2147483648) (by omega) (by omega) (by omega)
theorem dr_J {n k : Nat} (hn : n < 2 ^ 31) (hk : k < 2 ^ 31) (h0 : 0 < k) : (lN n / 65536 - lN n / 65536 / lN k * lN k).toInt32 = nI (drN n k) := by
  rw [show lN n / 65536 = lN (n / 65536) from pk_lDiv (b := 65536) (by omega) (by omega) (by omega), pk_lRem (by omega) h0 (by omega), lN_i]; rfl
theorem saY_ok {L : SL} {p t : Nat} : SayOK L (saY L p t) := by
  unfold saY
  have key : ∀ k j c, j + k ≤ lS L → SayOK L (fG c j k) := by
    intro k
    induction k with
    | zero => exact fun j c _ => Or.inl rfl
    | succ k ih =>
      intro j c h
      show SayOK L (if _ then _ else _)
      split
      · exact Or.inr ⟨j, by omega, rfl⟩
      · exact ih _ _ (by omega)
  exact key _ _ _ (by omega)
theorem ds_ok {L : SL} (hO : LandOK L) {s : SS × Nat} (hV : SceneOK L s.1) (hn : s.2 < 2 ^ 31) : ∀ k, SceneOK L (lp (dsF L) k s).1 ∧ (lp (dsF L) k s).2 < 2 ^ 31
  | 0 => ⟨hV, hn⟩
  | k + 1 => by
    obtain ⟨h1, h2⟩ := ds_ok hO hV hn k
    show SceneOK L (dsF L k (lp (dsF L) k s)).1 ∧ (dsF L k (lp (dsF L) k s)).2 < 2 ^ 31
    generalize lp (dsF L) k s = t at *
    unfold dsF
    split
    · exact ⟨setY_ok h1 saY_ok, nx_lt _⟩
    · exact ⟨h1, h2⟩
theorem dw_ok {L : SL} {s : SS × Nat} (hV : SceneOK L s.1) (hn : s.2 < 2 ^ 31) : SceneOK L (dwA L s).1 ∧ (dwA L s).2 < 2 ^ 31 := by
  unfold dwA
  split
  · exact ⟨hV, hn⟩
  · exact ⟨setA_ok hV (Nat.mod_lt _ (by omega)), nx_lt _⟩
theorem ge_ok {L : SL} (hO : LandOK L) {s : SS × Nat} (hV : SceneOK L s.1) (hn : s.2 < 2 ^ 31) : SceneOK L (geS L s).1 ∧ (geS L s).2 < 2 ^ 31 := dw_ok (ds_ok hO hV hn _).1 (ds_ok hO hV hn _).2
theorem geA_ok {L : SL} {S : SS} {n : Nat} (hO : LandOK L) (hV : SceneOK L S) (hn : n < 2 ^ 31) : ∀ m, SceneOK L (geA L S n m).1.1 ∧ (geA L S n m).1.2 < 2 ^ 31
  | 0 => ⟨hV, hn⟩
  | m + 1 => by
    have h := geA_ok hO hV hn m
    have g := ge_ok hO h.1 h.2
    exact ⟨mom_ok hO g.1, g.2⟩
section
variable {d a : Nat} {h h' : AH} {L : SL} {S : SS} {H : SH'} {B : SB'} {M : SM'} {D : SD'} {T : ST'} {N : SN'} {Q : Option Value → AH → Prop}
theorem c_nextDraw {n : Nat} (hn : n < 2 ^ 31) (h1 : Q (some (.long (lN (nxN n)))) h) : Rc (d + 1) m_X9_nextDraw [.long (lN n)] h Q := by
  refine R_in rfl rfl ?_
  refine R_gs 12 rfl ?_
  refine W_c rfl (by decide) ?_
  refine W_f rfl (by first | rfl | exact ⟨rfl, by first | decide | assumption | exact Or.inl rfl | exact Or.inr rfl | exact b2i_01 _⟩) ?_
  rw [nx_J hn]; exact h1
theorem c_drawn {n k : Nat} (hn : n < 2 ^ 31) (hk : k < 2 ^ 31) (hk0 : 0 < k) (h1 : Q (some (.int (nI (drN n k)))) h) : Rc (d + 1) m_X9_drawn [.long (lN n), .int (nI k)] h Q := by
  refine R_in rfl rfl ?_
  refine R_gs 1 rfl ?_
  refine W_bf rfl (fun e => absurd ((le0 hk).mp e) (by omega)) ?_
  refine R_gs 8 rfl ?_
  refine W_c rfl (by decide) ?_
  refine R_gs 11 rfl ?_
  rw [nI_l hk]
  refine W_c rfl (fun e => absurd ((pk_lEQ (b := 0) (by omega) (by omega)).mp e) (by omega)) ?_
  refine R_gs 17 rfl ?_
  refine W_f rfl (by first | rfl | exact ⟨rfl, by first | decide | assumption | exact Or.inl rfl | exact Or.inr rfl | exact b2i_01 _⟩) ?_
  rw [dr_J hn hk hk0]; exact h1
theorem c_sayingAt (ha : a = 143 ∨ a = 171) (hO : LandOK L) (hL : LandC h a L) {p t : Nat} (hp : p < lP L) (ht : t < 2 ^ 31) (h1 : Q (some (.int (saY L p t))) h) : Rc (d + 1) m_X9_sayingAt [.ref a, .int (nI p), .int (nI t)] h Q := by
  obtain ⟨o1, o2, o3, o4, -⟩ := id hO
  unfold saY at h1
  have hb : ∀ w, w ≤ lS L → sumN w (lO L p) ≤ 45 := fun w hw => Nat.le_trans (sumN_le (b := 9) w (fun j hj => (o4 p hp).2.2.2.1 j (by omega))) (by omega)
  rcases ha with rfl | rfl
  all_goals
    refine R_in rfl rfl ?_
    refine R_gs 5 rfl ?_
    refine w_first (W := fun j => Rw d Q (m_X9_sayingAt, 5, [_, _, _, some (.int (nI (sumN j (lO L p)))), some (.int (nI j))], [], 262, h)) (A := fun v => Q (some (.int v)) h) (lS L) (fun w => decide (t < sumN (w + 1) (lO L p))) h1 (fun j hj w1 w2 => ?_) (fun w => ?_)
    ·
      have b1 := hb (j + 1) hj
      refine R_gs 11 rfl ?_
      rw [hL.S]
      refine W_bf rfl (ltc hj (by omega)) ?_
      refine R_gs 20 rfl ?_
      refine R_ro rfl rfl rfl (by repeat (first | with_reducible apply ix_add | with_reducible apply ix_mul | with_reducible exact ix_nI _ | with_reducible exact ix_lit _ | exact rfl)) (by omega) ?_
      refine R_gs 23 rfl ?_
      refine R_il rfl (by first | rfl | exact shO (by decide) (by omega) | exact shG (by decide) (by omega)) (by repeat (first | with_reducible apply ix_add | with_reducible apply ix_mul | with_reducible exact ix_nI _ | with_reducible exact ix_lit _ | exact rfl)) (by omega) (by first | exact hL.O hp hj) ?_
      refine R_gs 28 rfl ?_
      rw [nI_add, show sumN j (lO L p) + lO L p j = sumN (j + 1) (lO L p) from rfl]
      refine W_b rfl (fun hc28 => ?_) (fun hc28 => ?_)
      ·
        refine R_gs 5 rfl ?_
        rw [nI_1]; exact w2 (decide_eq_false (by have := (nI_leI (b := t) (by omega) ht).mp hc28; omega))
      ·
        refine R_gs 33 rfl ?_
        refine W_f rfl (by first | rfl | exact ⟨rfl, by first | decide | assumption | exact Or.inl rfl | exact Or.inr rfl | exact b2i_01 _⟩) ?_
        exact w1 (decide_eq_true (by have := mt (nI_leI (a := sumN (j + 1) (lO L p)) (b := t) (by omega) ht).mpr hc28; omega))
    ·
      refine R_gs 11 rfl ?_
      rw [hL.S]
      refine W_bt rfl (gec (by omega)) ?_
      refine R_gs 41 rfl ?_
      refine W_f rfl (by first | rfl | exact ⟨rfl, by first | decide | assumption | exact Or.inl rfl | exact Or.inr rfl | exact b2i_01 _⟩) ?_
      exact w
theorem c_drawSayings (ha : a = 143 ∨ a = 171) (hO : LandOK L) (hL : LandC h a L) (hS : SceneC h 14 L S) {n : Nat} (hn : n < 2 ^ 31) (h1 : ∀ h', Fr (xqa 14) h h' → SceneC h' 14 L (dsA L (S, n)).1 → Q (some (.long (lN (dsA L (S, n)).2))) h') : Rc (d + 3) m_X9_drawSayings [.ref 14, .ref a, .long (lN n)] h Q := by
  obtain ⟨o1, o2, o3, o4, -⟩ := id hO
  have ha' := ha
  rcases ha with rfl | rfl
  ·
    refine R_in rfl rfl ?_
    refine R_gs 6 rfl ?_
    refine w_inv (W := fun p (s : AH × Nat) => ∀ x7 : Option Value, Rw (d + 2) Q (m_X9_drawSayings, 6, [some (.ref 14), some (.ref 143), some (.long (lN n)), none, some (.long (lN s.2)), none, some (.int (nI p)), x7], [], 262, s.1)) (lP L) (fun p s => Fr (xqa 14) h s.1 ∧ s.2 < 2 ^ 31 ∧ SceneC s.1 14 L (lp (dsF L) p (S, n)).1 ∧ s.2 = (lp (dsF L) p (S, n)).2) (s0 := (h, n)) ⟨Fr.refl _ h, hn, hS, rfl⟩ (fun p s hp hi w => ?_) (fun s hi => ?_) none
    ·
      intro x7
      obtain ⟨g, k⟩ := s
      obtain ⟨i1, i2, i3, i4⟩ := hi
      dsimp only at i1 i2 i3 i4 ⊢
      have iL := hL.fr hO i1 (by decide)
      have t2 := oT_le hO hp
      refine R_gs 12 rfl ?_
      rw [iL.P]
      refine W_bf rfl (ltc hp (by omega)) ?_
      refine R_gs 18 rfl ?_
      refine R_k rfl rfl (c_oddsAndShyness ha' hO iL hp ?_)
      refine R_gs 25 rfl ?_
      refine W_b rfl (fun hc25 => ?_) (fun hc25 => ?_)
      ·
        rw [le0 (by omega)] at hc25
        refine R_gs 6 rfl ?_
        rw [nI_1]; refine w (g, k) ⟨i1, i2, ?_, ?_⟩ _
        · show SceneC g 14 L (dsF L p (lp (dsF L) p (S, n))).1; unfold dsF; rw [if_neg (by omega)]; exact i3
        · show k = (dsF L p (lp (dsF L) p (S, n))).2; unfold dsF; rw [if_neg (by omega)]; exact i4
      ·
        rw [le0 (by omega)] at hc25
        refine R_gs 30 rfl ?_
        refine R_k rfl rfl (c_nextDraw i2 ?_)
        refine R_gs 48 rfl ?_
        refine R_k rfl rfl (c_drawn (nx_lt k) (by omega) (by omega) ?_)
        refine R_k rfl rfl (c_sayingAt ha' hO iL hp (Nat.lt_of_lt_of_le (Nat.mod_lt _ (by omega)) (by omega : oT L p ≤ 2 ^ 31)) ?_)
        refine R_is rfl (by first | rfl | exact shO (by decide) (by omega) | exact shG (by decide) (by omega)) (by repeat (first | with_reducible apply ix_add | with_reducible apply ix_mul | with_reducible exact ix_nI _ | with_reducible exact ix_lit _ | exact rfl)) (by omega) ?_
        refine R_gs 6 rfl ?_
        rw [nI_1]; refine w (wI g 16 p (saY L p (drN (nxN k) (oT L p))), nxN k) ⟨i1.wI rfl, nx_lt _, ?_, ?_⟩ _
        · show SceneC _ 14 L (dsF L p (lp (dsF L) p (S, n))).1; subst i4; unfold dsF; rw [if_pos (by omega)]; exact i3.y (Or.inr rfl) _ _
        · show nxN k = (dsF L p (lp (dsF L) p (S, n))).2; subst i4; unfold dsF; rw [if_pos (by omega)]
    ·
      intro x7
      obtain ⟨g, k⟩ := s
      obtain ⟨i1, i2, i3, i4⟩ := hi
      dsimp only at i1 i2 i3 i4 ⊢
      have iL := hL.fr hO i1 (by decide)
      refine R_gs 12 rfl ?_
      rw [iL.P]
      refine W_bt rfl (gec (by omega)) ?_
      refine R_gs 63 rfl ?_
      refine W_f rfl (by first | rfl | exact ⟨rfl, by first | decide | assumption | exact Or.inl rfl | exact Or.inr rfl | exact b2i_01 _⟩) ?_
      rw [i4]; exact h1 _ i1 i3
  ·
    refine R_in rfl rfl ?_
    refine R_gs 6 rfl ?_
    refine w_inv (W := fun p (s : AH × Nat) => ∀ x7 : Option Value, Rw (d + 2) Q (m_X9_drawSayings, 6, [some (.ref 14), some (.ref 171), some (.long (lN n)), none, some (.long (lN s.2)), none, some (.int (nI p)), x7], [], 262, s.1)) (lP L) (fun p s => Fr (xqa 14) h s.1 ∧ s.2 < 2 ^ 31 ∧ SceneC s.1 14 L (lp (dsF L) p (S, n)).1 ∧ s.2 = (lp (dsF L) p (S, n)).2) (s0 := (h, n)) ⟨Fr.refl _ h, hn, hS, rfl⟩ (fun p s hp hi w => ?_) (fun s hi => ?_) none
    ·
      intro x7
      obtain ⟨g, k⟩ := s
      obtain ⟨i1, i2, i3, i4⟩ := hi
      dsimp only at i1 i2 i3 i4 ⊢
      have iL := hL.fr hO i1 (by decide)
      have t2 := oT_le hO hp
      refine R_gs 12 rfl ?_
      rw [iL.P]
      refine W_bf rfl (ltc hp (by omega)) ?_
      refine R_gs 18 rfl ?_
      refine R_k rfl rfl (c_oddsAndShyness ha' hO iL hp ?_)
      refine R_gs 25 rfl ?_
      refine W_b rfl (fun hc25 => ?_) (fun hc25 => ?_)
      ·
        rw [le0 (by omega)] at hc25
        refine R_gs 6 rfl ?_
        rw [nI_1]; refine w (g, k) ⟨i1, i2, ?_, ?_⟩ _
        · show SceneC g 14 L (dsF L p (lp (dsF L) p (S, n))).1; unfold dsF; rw [if_neg (by omega)]; exact i3
        · show k = (dsF L p (lp (dsF L) p (S, n))).2; unfold dsF; rw [if_neg (by omega)]; exact i4
      ·
        rw [le0 (by omega)] at hc25
        refine R_gs 30 rfl ?_
        refine R_k rfl rfl (c_nextDraw i2 ?_)
        refine R_gs 48 rfl ?_
        refine R_k rfl rfl (c_drawn (nx_lt k) (by omega) (by omega) ?_)
        refine R_k rfl rfl (c_sayingAt ha' hO iL hp (Nat.lt_of_lt_of_le (Nat.mod_lt _ (by omega)) (by omega : oT L p ≤ 2 ^ 31)) ?_)
        refine R_is rfl (by first | rfl | exact shO (by decide) (by omega) | exact shG (by decide) (by omega)) (by repeat (first | with_reducible apply ix_add | with_reducible apply ix_mul | with_reducible exact ix_nI _ | with_reducible exact ix_lit _ | exact rfl)) (by omega) ?_
        refine R_gs 6 rfl ?_
        rw [nI_1]; refine w (wI g 16 p (saY L p (drN (nxN k) (oT L p))), nxN k) ⟨i1.wI rfl, nx_lt _, ?_, ?_⟩ _
        · show SceneC _ 14 L (dsF L p (lp (dsF L) p (S, n))).1; subst i4; unfold dsF; rw [if_pos (by omega)]; exact i3.y (Or.inr rfl) _ _
        · show nxN k = (dsF L p (lp (dsF L) p (S, n))).2; subst i4; unfold dsF; rw [if_pos (by omega)]
    ·
      intro x7
      obtain ⟨g, k⟩ := s
      obtain ⟨i1, i2, i3, i4⟩ := hi
      dsimp only at i1 i2 i3 i4 ⊢
      have iL := hL.fr hO i1 (by decide)
      refine R_gs 12 rfl ?_
      rw [iL.P]
      refine W_bt rfl (gec (by omega)) ?_
      refine R_gs 63 rfl ?_
      refine W_f rfl (by first | rfl | exact ⟨rfl, by first | decide | assumption | exact Or.inl rfl | exact Or.inr rfl | exact b2i_01 _⟩) ?_
      rw [i4]; exact h1 _ i1 i3
theorem c_drawWalk (ha : a = 143 ∨ a = 171) (hO : LandOK L) (hL : LandC h a L) (hS : SceneC h 14 L S) (hV : SceneOK L S) {n : Nat} (hn : n < 2 ^ 31) (h1 : ∀ h', Fr (xqa 14) h h' → SceneC h' 14 L (dwA L (S, n)).1 → Q (some (.long (lN (dwA L (S, n)).2))) h') : Rc (d + 3) m_X9_drawWalk [.ref 14, .ref a, .long (lN n)] h Q := by
  obtain ⟨o1, o2, o3, o4, -⟩ := id hO
  have ha' := ha
  unfold dwA at h1
  rcases ha with rfl | rfl
  all_goals
    refine R_in rfl rfl ?_
    refine R_gs 4 rfl ?_
    rw [hL.P]
    refine W_b rfl (fun hc4 => ?_) (fun hc4 => ?_)
    ·
      rw [nI_e0 (by omega)] at hc4
      refine R_gs 15 rfl ?_
      refine W_f rfl (by first | rfl | exact ⟨rfl, by first | decide | assumption | exact Or.inl rfl | exact Or.inr rfl | exact b2i_01 _⟩) ?_
      rw [if_pos (Or.inl hc4)] at h1; exact h1 _ (Fr.refl _ h) hS
    ·
      rw [nI_e0 (by omega)] at hc4
      refine R_gs 11 rfl ?_
      rw [hL.Q]
      refine W_b rfl (fun hc11 => ?_) (fun hc11 => ?_)
      ·
        rw [nI_e0 (by omega)] at hc11
        refine R_gs 15 rfl ?_
        refine W_f rfl (by first | rfl | exact ⟨rfl, by first | decide | assumption | exact Or.inl rfl | exact Or.inr rfl | exact b2i_01 _⟩) ?_
        rw [if_pos (Or.inr hc11)] at h1; exact h1 _ (Fr.refl _ h) hS
      ·
        rw [nI_e0 (by omega)] at hc11
        refine R_gs 17 rfl ?_
        refine R_k rfl rfl (c_nextDraw hn ?_)
        refine R_gs 24 rfl ?_
        refine R_k rfl rfl (c_nextDraw (nx_lt n) ?_)
        refine R_gs 36 rfl ?_
        rw [hL.P]
        refine R_k rfl rfl (c_drawn (nx_lt n) (by omega) (by omega) ?_)
        refine R_gs 45 rfl ?_
        rw [hL.Q]
        refine R_k rfl rfl (c_drawn (nx_lt _) (by omega) (by omega) ?_)
        refine R_k rfl rfl (c_walkTo hO (Or.inr rfl) hS hV (Nat.mod_lt _ (by omega)) (Nat.mod_lt _ (by omega)) ?_)
        refine R_gs 54 rfl ?_
        refine W_f rfl (by first | rfl | exact ⟨rfl, by first | decide | assumption | exact Or.inl rfl | exact Or.inr rfl | exact b2i_01 _⟩) ?_
        rw [if_neg (by omega)] at h1; exact h1 _ ((Fr.refl _ h).wI rfl) (hS.pa (Or.inr rfl) _ _)
/-- who is newly wed in a moment was not wed ahead -/
theorem wst_new {u : Nat → Int32} {p q : Nat} {w0 : Int32} (hk : pr p q < 15) {t : Int32 × Int32} (ht : ∀ i, i < 32 → bt t.1 i = (bt w0 i || bt t.2 i) ∧ (bt w0 i && bt t.2 i) = false) : ∀ i, i < 32 → bt (wst L S u p q t).1 i = (bt w0 i || bt (wst L S u p q t).2 i) ∧ (bt w0 i && bt (wst L S u p q t).2 i) = false := by
  intro i hi
  unfold wst
  split
  · rename_i e
    have e2 : bt t.1 (pr p q) = false := by
      have := e.2.1
      unfold snap at this
      simp only [Bool.and_eq_true, Bool.not_eq_true'] at this
      exact this.2
    dsimp only
    rw [pb_or (by omega) hi, pb_or (by omega) hi, (ht i hi).1]
    by_cases ei : i = pr p q
    · have h1 := (ht i hi).1
      rw [ei] at h1 ⊢
      rw [e2] at h1
      have h2 : bt w0 (pr p q) = false := by cases hb : bt w0 (pr p q); rfl; rw [hb] at h1; cases h1
      rw [h2]; simp
    · rw [decide_eq_false ei, Bool.or_false, Bool.or_false]
      exact ⟨rfl, (ht i hi).2⟩
  · exact ht i hi
theorem wall_new (hO : LandOK L) {u : Nat → Int32} : ∀ k, k ≤ lP L → ∀ i, i < 32 → bt (lp (wrow L S u) k (sW S, 0)).1 i = (bt (sW S) i || bt (lp (wrow L S u) k (sW S, 0)).2 i) ∧ (bt (sW S) i && bt (lp (wrow L S u) k (sW S, 0)).2 i) = false
  | 0, _ => fun i hi => by
    have z : bt 0 i = false := by have := (by decide +kernel : ∀ i, i < 32 → bt 0 i = false) i hi; exact this
    show bt (sW S) i = (bt (sW S) i || bt 0 i) ∧ (bt (sW S) i && bt 0 i) = false
    rw [z, Bool.or_false, Bool.and_false]
    exact ⟨rfl, rfl⟩
  | k + 1, hk => by
    have o3 := hO.2.2.1
    have ih := wall_new hO (u := u) k (by omega)
    show ∀ i, i < 32 → bt (wrow L S u k (lp (wrow L S u) k (sW S, 0))).1 i = (bt (sW S) i || bt (wrow L S u k (lp (wrow L S u) k (sW S, 0))).2 i) ∧ (bt (sW S) i && bt (wrow L S u k (lp (wrow L S u) k (sW S, 0))).2 i) = false
    generalize lp (wrow L S u) k (sW S, 0) = t at ih
    have key : ∀ m, m ≤ lP L - (k + 1) → ∀ i, i < 32 → bt (lp (fun i s => wst L S u k (k + 1 + i) s) m t).1 i = (bt (sW S) i || bt (lp (fun i s => wst L S u k (k + 1 + i) s) m t).2 i) ∧ (bt (sW S) i && bt (lp (fun i s => wst L S u k (k + 1 + i) s) m t).2 i) = false := by
      intro m
      induction m with
      | zero => exact fun _ => ih
      | succ m im => exact fun hm => wst_new (pr_lt k (by omega) (k + 1 + m) (by omega) (by omega)) (im (by omega))
    exact key _ (Nat.le_refl _)
theorem mom_new (hO : LandOK L) {i : Nat} (hi : i < 32) : bt (sW (momS L S)) i = (bt (sW S) i || bt (momF L S) i) ∧ (bt (sW S) i && bt (momF L S) i) = false := wall_new hO (lP L) (Nat.le_refl _) i hi
theorem cnt_or {n : Nat} {a b : Nat → Bool} (h : ∀ i, i < n → (a i && b i) = false) : cntN n (fun i => a i || b i) = cntN n a + cntN n b := by
  induction n with
  | zero => rfl
  | succ n ih =>
    rw [cntN_s, cntN_s, cntN_s, ih (fun i hi => h i (by omega))]
    have := h n (by omega)
    cases ha : a n <;> cases hb : b n <;> rw [ha, hb] at this <;> simp at this ⊢ <;> omega
theorem ds_W {s : SS × Nat} : ∀ k, sW (lp (dsF L) k s).1 = sW s.1
  | 0 => rfl
  | k + 1 => by
    have ih := ds_W (s := s) k
    show sW (dsF L k (lp (dsF L) k s)).1 = _
    generalize lp (dsF L) k s = t at ih
    unfold dsF
    split
    · exact ih
    · exact ih
theorem ge_W {s : SS × Nat} : sW (geS L s).1 = sW s.1 := by
  unfold geS
  rw [← ds_W (L := L) (s := s) (lP L)]
  show sW (dwA L (dsA L s)).1 = sW (dsA L s).1
  unfold dwA
  split <;> rfl
theorem geA_new {n : Nat} (hO : LandOK L) (hV : SceneOK L S) (hn : n < 2 ^ 31) : ∀ m, (∀ i, i < 32 → bt (sW S) i = true → bt (sW (geA L S n m).1.1) i = true) ∧ (geA L S n m).2.1 = cntN 15 (fun i => bt (sW (geA L S n m).1.1) i && !bt (sW S) i)
  | 0 => ⟨fun i _ h => h, by
    show 0 = cntN 15 (fun i => bt (sW S) i && !bt (sW S) i)
    rw [cntN_ext (c' := fun _ => false) (fun j _ => by cases bt (sW S) j <;> rfl)]; rfl⟩
  | m + 1 => by
    obtain ⟨h1, h2⟩ := geA_new hO hV hn m
    have g := ge_W (L := L) (s := (geA L S n m).1)
    have e : ∀ i, i < 32 → _ := fun i hi => mom_new (L := L) (S := (geS L (geA L S n m).1).1) hO hi
    rw [g] at e
    constructor
    · intro i hi hb
      show bt (sW (momS L (geS L (geA L S n m).1).1)) i = true
      rw [(e i hi).1, h1 i hi hb]; rfl
    · show (geA L S n m).2.1 + pop (momF L (geS L (geA L S n m).1).1) = cntN 15 (fun i => bt (sW (momS L (geS L (geA L S n m).1).1)) i && !bt (sW S) i)
      rw [h2]
      unfold pop
      rw [← cnt_or (fun i hi => ?_)]
      · refine cntN_ext (fun i hi => ?_)
        rw [(e i (by omega)).1]
        have h3 := h1 i (by omega)
        have h4 := (e i (by omega)).2
        cases ha : bt (sW S) i <;> cases hb : bt (sW (geA L S n m).1.1) i <;> cases hc : bt (momF L (geS L (geA L S n m).1).1) i <;> rw [hb, hc] at h4 <;> rw [ha, hb] at h3 <;> simp at h3 h4 ⊢
      · have h4 := (e i (by omega)).2
        cases hb : bt (sW (geA L S n m).1.1) i <;> cases hc : bt (momF L (geS L (geA L S n m).1).1) i <;> rw [hb, hc] at h4 <;> simp at h4 ⊢
theorem xs14 {q : Nat} (h : xs 14 q = true) : xcs q = true := by
  simp only [xs, xsc, Bool.or_eq_true, Bool.and_eq_true, Nat.beq_eq, Nat.ble_eq] at h
  simp only [xcs, xsc, Bool.or_eq_true, Bool.and_eq_true, Nat.beq_eq, Nat.ble_eq]
  omega
theorem gen_no {seed m w : Int32} (h : ¬ 0 ≤ seed ∨ ¬ seed ≤ 9999 ∨ ¬ 1 ≤ m ∨ ¬ m ≤ 60 ∨ ¬ 0 ≤ w ∨ ¬ w ≤ 2) : genA L S seed m w = -1 := by
  unfold genA
  rw [if_neg]
  intro e
  simp only [Bool.and_eq_true, decide_eq_true_eq] at e
  obtain ⟨⟨⟨h1, h2⟩, h3, h4⟩, h5, h6⟩ := e
  rcases h with h | h | h | h | h | h
  · exact h h1
  · exact h h2
  · exact h h3
  · exact h h4
  · exact h h5
  · exact h h6
theorem gen_in {x lo hi : Int32} {b : Nat} (h1 : lo ≤ x) (h2 : x ≤ hi) (h3 : 0 ≤ lo) (eb : hi.toInt = b) : ∃ k, k ≤ b ∧ k < 2 ^ 31 ∧ x = nI k ∧ x.toNatClampNeg = k := by
  have h0 : ¬ x < 0 := fun e => absurd (Int32.le_trans h3 h1) (Int32.not_le.mpr e)
  obtain ⟨k, hk, rfl⟩ := nI_of h0
  refine ⟨k, ?_, hk, rfl, nI_clamp hk⟩
  rw [Int32.le_iff_toInt_le, eb, nI_toInt hk] at h2
  omega
theorem ge_s {n m : Nat} : (geA L S n (m + 1)).2.2 = if momF L (geS L (geA L S n m).1).1 = 0 then (geA L S n m).2.2 else (geA L S n m).2.2 + 1 := rfl
theorem ge_p {n m : Nat} (e : momF L (geS L (geA L S n m).1).1 = 0) : (geA L S n m).2.2 = (geA L S n (m + 1)).2.2 := by rw [ge_s, if_pos e]
theorem ge_n {n m : Nat} (e : ¬ momF L (geS L (geA L S n m).1).1 = 0) : (geA L S n m).2.2 + 1 = (geA L S n (m + 1)).2.2 := by rw [ge_s, if_neg e]
theorem gew (hO : LandOK L) {n : Nat} (hV : SceneOK L S) (hn : n < 2 ^ 31) (m : Nat) : (geA L S n m).2.2 ≤ m := by
  induction m with
  | zero => exact Nat.le_refl _
  | succ m ih =>
    rw [ge_s]
    split <;> omega
theorem pop_andn {x y : Int32} : pop (x &&& (y ^^^ (-1))) = cntN 15 (fun i => bt x i && !bt y i) := by
  unfold pop
  exact cntN_ext (fun i hi => by rw [b_and, b_not _ _ (by omega)])
theorem x_generations (W : WOK L S H B M D T N) (c : RC h L S H B M D T N) {z m w : Int32} (h1 : ∀ h', Fr xC h h' → RC h' L S H B M D T N → Q (some (.int (genA L S z m w))) h') : Rc (d + 8) m_X12_generations [.ref 0, .int z, .int m, .int w] h Q := by
  have hO := W.1
  have hV := W.2.1
  have c0 := c
  obtain ⟨a, g, c1, c2, c3, c4, c5, c6, c7, c8, c9, c10, c11⟩ := c
  have ha := c1.1
  have ha' := ha
  have no : (¬ 0 ≤ z ∨ ¬ z ≤ 9999 ∨ ¬ 1 ≤ m ∨ ¬ m ≤ 60 ∨ ¬ 0 ≤ w ∨ ¬ w ≤ 2) → Q (some (.int (-1))) h := fun e => by rw [gen_no e] at h1; exact h1 _ (Fr.refl _ h) c0
  rcases ha with rfl | rfl
  ·
    refine R_in rfl rfl ?_
    refine R_gs 1 rfl ?_
    refine W_b rfl (fun hc1 => ?_) (fun hc1 => ?_)
    ·
      refine R_gs 32 rfl ?_
      refine W_f rfl (by first | rfl | exact ⟨rfl, by first | decide | assumption | exact Or.inl rfl | exact Or.inr rfl | exact b2i_01 _⟩) ?_
      exact no (Or.inl (Int32.not_le.mpr hc1))
    ·
      refine R_gs 8 rfl ?_
      refine W_b rfl (fun hc8 => ?_) (fun hc8 => ?_)
      ·
        refine R_gs 32 rfl ?_
        refine W_f rfl (by first | rfl | exact ⟨rfl, by first | decide | assumption | exact Or.inl rfl | exact Or.inr rfl | exact b2i_01 _⟩) ?_
        exact no (Or.inr (Or.inl (Int32.not_le.mpr hc8)))
      ·
        refine R_gs 13 rfl ?_
        refine W_b rfl (fun hc13 => ?_) (fun hc13 => ?_)
        ·
          refine R_gs 32 rfl ?_
          refine W_f rfl (by first | rfl | exact ⟨rfl, by first | decide | assumption | exact Or.inl rfl | exact Or.inr rfl | exact b2i_01 _⟩) ?_
          exact no (Or.inr (Or.inr (Or.inl (Int32.not_le.mpr hc13))))
        ·
          refine R_gs 19 rfl ?_
          refine W_b rfl (fun hc19 => ?_) (fun hc19 => ?_)
          ·
            refine R_gs 32 rfl ?_
            refine W_f rfl (by first | rfl | exact ⟨rfl, by first | decide | assumption | exact Or.inl rfl | exact Or.inr rfl | exact b2i_01 _⟩) ?_
            exact no (Or.inr (Or.inr (Or.inr (Or.inl (Int32.not_le.mpr hc19)))))
          ·
            refine R_gs 23 rfl ?_
            refine W_b rfl (fun hc23 => ?_) (fun hc23 => ?_)
            ·
              refine R_gs 32 rfl ?_
              refine W_f rfl (by first | rfl | exact ⟨rfl, by first | decide | assumption | exact Or.inl rfl | exact Or.inr rfl | exact b2i_01 _⟩) ?_
              exact no (Or.inr (Or.inr (Or.inr (Or.inr (Or.inl (Int32.not_le.mpr hc23))))))
            ·
              refine R_gs 28 rfl ?_
              refine W_b rfl (fun hc28 => ?_) (fun hc28 => ?_)
              ·
                refine R_gs 41 rfl ?_
                refine R_k rfl rfl (c_copyAll (a := 14) (b := 7) ⟨by decide, rfl⟩ ⟨by decide, rfl⟩ (by omega) (fun h2 k2 f2 => ?_))
                refine R_gs 54 rfl ?_
                rw [Int32.not_lt] at hc1 hc8 hc13 hc19 hc23
                obtain ⟨n, hn9, hn, rfl, en⟩ := gen_in (b := 9999) hc1 hc8 (by decide) (by decide)
                obtain ⟨k, hk60, hk, rfl, ek⟩ := gen_in (b := 60) hc13 hc19 (by decide) (by decide)
                unfold genA at h1
                rw [if_pos (by simp only [Bool.and_eq_true, decide_eq_true_eq]; exact ⟨⟨⟨hc1, hc8⟩, hc13, hc19⟩, hc23, hc28⟩), en, ek] at h1
                rw [nI_l (by omega)]
                refine w_inv (W := fun i (s : AH × Nat × Nat) => Rw (d + 7) Q (m_X12_generations, 54, [some (.ref 0), some (.int (nI n)), some (.int (nI k)), some (.int w), some (.long (lN s.2.1)), none, some (.int (nI s.2.2)), some (.int (nI i))], [], 262, s.1)) k (fun i s => Fr xcs h s.1 ∧ SceneC s.1 14 L (geA L S n i).1.1 ∧ s.2.1 = (geA L S n i).1.2 ∧ s.2.2 = (geA L S n i).2.2) (s0 := (h2, n, 0)) ⟨f2.mono (fun q => xqa14), k2.1.sc hO c3, rfl, rfl⟩ (fun i s hi hs ww => ?_) (fun s hs => ?_)
                ·
                  obtain ⟨gg, n1, u1⟩ := s
                  obtain ⟨i1, i3, i4, i5⟩ := hs
                  dsimp only at i1 i3 i4 i5 ⊢
                  subst i4; subst i5
                  obtain ⟨v1, v2⟩ := geA_ok hO hV hn i
                  have iL := c2.fr hO i1 (fun j _ _ => xcs_f (by omega))
                  have eL := vr ((congrFun (i1.R (b := 0) rfl) 8).trans c1.2.2.1)
                  refine R_gs 57 rfl ?_
                  refine W_bf rfl (ltc hi (by omega)) ?_
                  refine R_gs 68 rfl ?_
                  rw [eL]
                  refine R_gs 70 rfl ?_
                  refine R_k rfl rfl (c_drawSayings ha' hO iL i3 v2 (fun h3 f3 s3 => ?_))
                  have j3 := i1.trans (f3.mono (fun q => xqa14))
                  have iL3 := c2.fr hO j3 (fun j _ _ => xcs_f (by omega))
                  have eL1 := vr ((congrFun (j3.R (b := 0) rfl) 8).trans c1.2.2.1)
                  have v3 := ds_ok hO v1 v2 (lP L)
                  refine R_gs 83 rfl ?_
                  rw [eL1]
                  refine R_gs 85 rfl ?_
                  refine R_k rfl rfl (c_drawWalk ha' hO iL3 s3 v3.1 v3.2 (fun h4 f4 s4 => ?_))
                  have j4 := j3.trans (f4.mono (fun q => xqa14))
                  have iL4 := c2.fr hO j4 (fun j _ _ => xcs_f (by omega))
                  have eL2 := vr ((congrFun (j4.R (b := 0) rfl) 8).trans c1.2.2.1)
                  have v4 := ge_ok hO v1 v2
                  refine R_gs 98 rfl ?_
                  rw [eL2]
                  refine R_k rfl rfl (c_passMoment (c10.fr j4 rfl rfl) ha' hO iL4 (Or.inr rfl) s4 v4.1 (fun h5 f5 e5 s5 => ?_))
                  have j5 := j4.trans (f5.mono (fun q => xs14))
                  refine W_b rfl (fun hc101 => ?_) (fun hc101 => ?_)
                  ·
                    refine R_gs 54 rfl ?_
                    rw [nI_1]; refine ww (h5, (geS L (geA L S n i).1).2, (geA L S n i).2.2) ⟨j5, s5, rfl, ge_p hc101⟩
                  ·
                    refine R_gs 54 rfl ?_
                    rw [nI_1, nI_1]; refine ww (h5, (geS L (geA L S n i).1).2, (geA L S n i).2.2 + 1) ⟨j5, s5, rfl, ge_n hc101⟩
                ·
                  obtain ⟨gg, n1, u1⟩ := s
                  obtain ⟨i1, i3, i4, i5⟩ := hs
                  dsimp only at i1 i3 i4 i5 ⊢
                  subst i4; subst i5
                  have i7 := c3.fr i1 rfl rfl rfl rfl rfl
                  obtain ⟨v1, v2⟩ := geA_ok hO hV hn k
                  have r1 := c0.fr hO i1
                  have F1 := i1.c (fun q => xcs_le)
                  refine R_gs 57 rfl ?_
                  refine W_bt rfl (gec (by omega)) ?_
                  refine R_gs 115 rfl ?_
                  refine W_b rfl (fun hc115 => ?_) (fun hc115 => ?_)
                  ·
                    refine R_gs 120 rfl ?_
                    refine W_f rfl (by first | rfl | exact ⟨rfl, by first | decide | assumption | exact Or.inl rfl | exact Or.inr rfl | exact b2i_01 _⟩) ?_
                    rw [if_neg (by rw [hc115]; decide), if_neg (by rw [hc115]; decide)] at h1; exact h1 _ F1 r1
                  ·
                    refine R_gs 122 rfl ?_
                    refine W_b rfl (fun hc122 => ?_) (fun hc122 => ?_)
                    ·
                      refine R_gs 152 rfl ?_
                      rw [show hI gg 14 1 = sW (geA L S n k).1.1 from i3.W, show hI gg 7 1 = sW S from i7.W]
                      refine R_k rfl rfl (c_bitCount ((v1.1.b15 hO.2.2.1).and _) ?_)
                      refine W_f rfl (by first | rfl | exact ⟨rfl, by first | decide | assumption | exact Or.inl rfl | exact Or.inr rfl | exact b2i_01 _⟩) ?_
                      rw [if_pos hc122, (geA_new hO hV hn k).2, ← pop_andn] at h1; exact h1 _ F1 r1
                    ·
                      refine R_gs 149 rfl ?_
                      refine R_k rfl rfl (c_bigamistBits (c10.fr i1 rfl rfl) (Or.inr rfl) hO i3 v1 ?_)
                      skip
                      refine R_k rfl rfl (c_bitCount (setN_b15 (by omega)) ?_)
                      refine W_f rfl (by first | rfl | exact ⟨rfl, by first | decide | assumption | exact Or.inl rfl | exact Or.inr rfl | exact b2i_01 _⟩) ?_
                      rw [if_neg hc122, if_pos (Int32.toInt_inj.mp (by have a0 : (0 : Int32).toInt = 0 := (by decide); have a1 : (1 : Int32).toInt = 1 := (by decide); have a2 : (2 : Int32).toInt = 2 := (by decide); rw [← Int32.toInt_inj, a0] at hc122; rw [← Int32.toInt_inj, a2] at hc115; rw [Int32.le_iff_toInt_le] at hc23 hc28; omega))] at h1; exact h1 _ F1 r1
              ·
                refine R_gs 32 rfl ?_
                refine W_f rfl (by first | rfl | exact ⟨rfl, by first | decide | assumption | exact Or.inl rfl | exact Or.inr rfl | exact b2i_01 _⟩) ?_
                exact no (Or.inr (Or.inr (Or.inr (Or.inr (Or.inr hc28)))))
  ·
    refine R_in rfl rfl ?_
    refine R_gs 1 rfl ?_
    refine W_b rfl (fun hc1 => ?_) (fun hc1 => ?_)
    ·
      refine R_gs 32 rfl ?_
      refine W_f rfl (by first | rfl | exact ⟨rfl, by first | decide | assumption | exact Or.inl rfl | exact Or.inr rfl | exact b2i_01 _⟩) ?_
      exact no (Or.inl (Int32.not_le.mpr hc1))
    ·
      refine R_gs 8 rfl ?_
      refine W_b rfl (fun hc8 => ?_) (fun hc8 => ?_)
      ·
        refine R_gs 32 rfl ?_
        refine W_f rfl (by first | rfl | exact ⟨rfl, by first | decide | assumption | exact Or.inl rfl | exact Or.inr rfl | exact b2i_01 _⟩) ?_
        exact no (Or.inr (Or.inl (Int32.not_le.mpr hc8)))
      ·
        refine R_gs 13 rfl ?_
        refine W_b rfl (fun hc13 => ?_) (fun hc13 => ?_)
        ·
          refine R_gs 32 rfl ?_
          refine W_f rfl (by first | rfl | exact ⟨rfl, by first | decide | assumption | exact Or.inl rfl | exact Or.inr rfl | exact b2i_01 _⟩) ?_
          exact no (Or.inr (Or.inr (Or.inl (Int32.not_le.mpr hc13))))
        ·
          refine R_gs 19 rfl ?_
          refine W_b rfl (fun hc19 => ?_) (fun hc19 => ?_)
          ·
            refine R_gs 32 rfl ?_
            refine W_f rfl (by first | rfl | exact ⟨rfl, by first | decide | assumption | exact Or.inl rfl | exact Or.inr rfl | exact b2i_01 _⟩) ?_
            exact no (Or.inr (Or.inr (Or.inr (Or.inl (Int32.not_le.mpr hc19)))))
          ·
            refine R_gs 23 rfl ?_
            refine W_b rfl (fun hc23 => ?_) (fun hc23 => ?_)
            ·
              refine R_gs 32 rfl ?_
              refine W_f rfl (by first | rfl | exact ⟨rfl, by first | decide | assumption | exact Or.inl rfl | exact Or.inr rfl | exact b2i_01 _⟩) ?_
              exact no (Or.inr (Or.inr (Or.inr (Or.inr (Or.inl (Int32.not_le.mpr hc23))))))
            ·
              refine R_gs 28 rfl ?_
              refine W_b rfl (fun hc28 => ?_) (fun hc28 => ?_)
              ·
                refine R_gs 41 rfl ?_
                refine R_k rfl rfl (c_copyAll (a := 14) (b := 7) ⟨by decide, rfl⟩ ⟨by decide, rfl⟩ (by omega) (fun h2 k2 f2 => ?_))
                refine R_gs 54 rfl ?_
                rw [Int32.not_lt] at hc1 hc8 hc13 hc19 hc23
                obtain ⟨n, hn9, hn, rfl, en⟩ := gen_in (b := 9999) hc1 hc8 (by decide) (by decide)
                obtain ⟨k, hk60, hk, rfl, ek⟩ := gen_in (b := 60) hc13 hc19 (by decide) (by decide)
                unfold genA at h1
                rw [if_pos (by simp only [Bool.and_eq_true, decide_eq_true_eq]; exact ⟨⟨⟨hc1, hc8⟩, hc13, hc19⟩, hc23, hc28⟩), en, ek] at h1
                rw [nI_l (by omega)]
                refine w_inv (W := fun i (s : AH × Nat × Nat) => Rw (d + 7) Q (m_X12_generations, 54, [some (.ref 0), some (.int (nI n)), some (.int (nI k)), some (.int w), some (.long (lN s.2.1)), none, some (.int (nI s.2.2)), some (.int (nI i))], [], 262, s.1)) k (fun i s => Fr xcs h s.1 ∧ SceneC s.1 14 L (geA L S n i).1.1 ∧ s.2.1 = (geA L S n i).1.2 ∧ s.2.2 = (geA L S n i).2.2) (s0 := (h2, n, 0)) ⟨f2.mono (fun q => xqa14), k2.1.sc hO c3, rfl, rfl⟩ (fun i s hi hs ww => ?_) (fun s hs => ?_)
                ·
                  obtain ⟨gg, n1, u1⟩ := s
                  obtain ⟨i1, i3, i4, i5⟩ := hs
                  dsimp only at i1 i3 i4 i5 ⊢
                  subst i4; subst i5
                  obtain ⟨v1, v2⟩ := geA_ok hO hV hn i
                  have iL := c2.fr hO i1 (fun j _ _ => xcs_f (by omega))
                  have eL := vr ((congrFun (i1.R (b := 0) rfl) 8).trans c1.2.2.1)
                  refine R_gs 57 rfl ?_
                  refine W_bf rfl (ltc hi (by omega)) ?_
                  refine R_gs 68 rfl ?_
                  rw [eL]
                  refine R_gs 70 rfl ?_
                  refine R_k rfl rfl (c_drawSayings ha' hO iL i3 v2 (fun h3 f3 s3 => ?_))
                  have j3 := i1.trans (f3.mono (fun q => xqa14))
                  have iL3 := c2.fr hO j3 (fun j _ _ => xcs_f (by omega))
                  have eL1 := vr ((congrFun (j3.R (b := 0) rfl) 8).trans c1.2.2.1)
                  have v3 := ds_ok hO v1 v2 (lP L)
                  refine R_gs 83 rfl ?_
                  rw [eL1]
                  refine R_gs 85 rfl ?_
                  refine R_k rfl rfl (c_drawWalk ha' hO iL3 s3 v3.1 v3.2 (fun h4 f4 s4 => ?_))
                  have j4 := j3.trans (f4.mono (fun q => xqa14))
                  have iL4 := c2.fr hO j4 (fun j _ _ => xcs_f (by omega))
                  have eL2 := vr ((congrFun (j4.R (b := 0) rfl) 8).trans c1.2.2.1)
                  have v4 := ge_ok hO v1 v2
                  refine R_gs 98 rfl ?_
                  rw [eL2]
                  refine R_k rfl rfl (c_passMoment (c10.fr j4 rfl rfl) ha' hO iL4 (Or.inr rfl) s4 v4.1 (fun h5 f5 e5 s5 => ?_))
                  have j5 := j4.trans (f5.mono (fun q => xs14))
                  refine W_b rfl (fun hc101 => ?_) (fun hc101 => ?_)
                  ·
                    refine R_gs 54 rfl ?_
                    rw [nI_1]; refine ww (h5, (geS L (geA L S n i).1).2, (geA L S n i).2.2) ⟨j5, s5, rfl, ge_p hc101⟩
                  ·
                    refine R_gs 54 rfl ?_
                    rw [nI_1, nI_1]; refine ww (h5, (geS L (geA L S n i).1).2, (geA L S n i).2.2 + 1) ⟨j5, s5, rfl, ge_n hc101⟩
                ·
                  obtain ⟨gg, n1, u1⟩ := s
                  obtain ⟨i1, i3, i4, i5⟩ := hs
                  dsimp only at i1 i3 i4 i5 ⊢
                  subst i4; subst i5
                  have i7 := c3.fr i1 rfl rfl rfl rfl rfl
                  obtain ⟨v1, v2⟩ := geA_ok hO hV hn k
                  have r1 := c0.fr hO i1
                  have F1 := i1.c (fun q => xcs_le)
                  refine R_gs 57 rfl ?_
                  refine W_bt rfl (gec (by omega)) ?_
                  refine R_gs 115 rfl ?_
                  refine W_b rfl (fun hc115 => ?_) (fun hc115 => ?_)
                  ·
                    refine R_gs 120 rfl ?_
                    refine W_f rfl (by first | rfl | exact ⟨rfl, by first | decide | assumption | exact Or.inl rfl | exact Or.inr rfl | exact b2i_01 _⟩) ?_
                    rw [if_neg (by rw [hc115]; decide), if_neg (by rw [hc115]; decide)] at h1; exact h1 _ F1 r1
                  ·
                    refine R_gs 122 rfl ?_
                    refine W_b rfl (fun hc122 => ?_) (fun hc122 => ?_)
                    ·
                      refine R_gs 152 rfl ?_
                      rw [show hI gg 14 1 = sW (geA L S n k).1.1 from i3.W, show hI gg 7 1 = sW S from i7.W]
                      refine R_k rfl rfl (c_bitCount ((v1.1.b15 hO.2.2.1).and _) ?_)
                      refine W_f rfl (by first | rfl | exact ⟨rfl, by first | decide | assumption | exact Or.inl rfl | exact Or.inr rfl | exact b2i_01 _⟩) ?_
                      rw [if_pos hc122, (geA_new hO hV hn k).2, ← pop_andn] at h1; exact h1 _ F1 r1
                    ·
                      refine R_gs 149 rfl ?_
                      refine R_k rfl rfl (c_bigamistBits (c10.fr i1 rfl rfl) (Or.inr rfl) hO i3 v1 ?_)
                      skip
                      refine R_k rfl rfl (c_bitCount (setN_b15 (by omega)) ?_)
                      refine W_f rfl (by first | rfl | exact ⟨rfl, by first | decide | assumption | exact Or.inl rfl | exact Or.inr rfl | exact b2i_01 _⟩) ?_
                      rw [if_neg hc122, if_pos (Int32.toInt_inj.mp (by have a0 : (0 : Int32).toInt = 0 := (by decide); have a1 : (1 : Int32).toInt = 1 := (by decide); have a2 : (2 : Int32).toInt = 2 := (by decide); rw [← Int32.toInt_inj, a0] at hc122; rw [← Int32.toInt_inj, a2] at hc115; rw [Int32.le_iff_toInt_le] at hc23 hc28; omega))] at h1; exact h1 _ F1 r1
              ·
                refine R_gs 32 rfl ?_
                refine W_f rfl (by first | rfl | exact ⟨rfl, by first | decide | assumption | exact Or.inl rfl | exact Or.inr rfl | exact b2i_01 _⟩) ?_
                exact no (Or.inr (Or.inr (Or.inr (Or.inr (Or.inr hc28)))))
end
