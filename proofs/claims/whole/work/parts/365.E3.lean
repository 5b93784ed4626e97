section
variable {d : Nat} {h : AH} {L : SL} {S : SS} {H : SH'} {B : SB'} {M : SM'} {D : SD'} {T : ST'} {N : SN'} {Q : Option Value → AH → Prop}
theorem xqa14 {q : Nat} (h : xqa 14 q = true) : xcs q = true := by
  have := xqa_of h
  unfold xcs
  rw [Nat.ble_eq_true_of_le this.1, Nat.ble_eq_true_of_le this.2]
  simp
theorem x_chance (W : WOK L S H B M D T N) (c : RC h L S H B M D T N) {p q : Int32} (h1 : Q (some (.int (chA L S p q))) h) : Rc (d + 5) m_X12_chance [.ref 0, .int p, .int q] h Q := by
  have hO := W.1
  have o3 := hO.2.2.1
  have hV := W.2.1
  obtain ⟨a, g, c1, c2, c3, c4, c5, c6, c7, c8, c9, c10, c11⟩ := c
  have ha := c1.1
  have eL := vr c1.2.2.1
  unfold chA at h1
  rcases ha with rfl | rfl
  all_goals
    refine R_in rfl rfl ?_
    refine R_gs 4 rfl ?_
    rw [eL]
    refine R_gs 6 rfl ?_
    refine R_k rfl rfl (c_areTwo (by decide) c2 (fun hx6 => ?_) (fun hx6 => ?_))
    ·
      refine W_bf rfl (by decide) ?_
      refine R_gs 16 rfl ?_
      rw [eL]
      refine R_gs 22 rfl ?_
      obtain ⟨i, j, hi, hj, hij, rfl, rfl, ei, ej⟩ := two_of o3 hx6
      refine R_k rfl rfl (c_ofTwo (by decide) hO c2 (Or.inl rfl) c3 hV hi hj hij ?_)
      refine R_gs 29 rfl ?_
      refine W_f rfl (by first | rfl | exact ⟨rfl, by first | decide | assumption | exact Or.inl rfl | exact Or.inr rfl | exact b2i_01 _⟩) ?_
      rw [hx6, ei, ej] at h1; exact h1
    ·
      refine W_bt rfl (by decide) ?_
      refine R_gs 29 rfl ?_
      refine W_f rfl (by first | rfl | exact ⟨rfl, by first | decide | assumption | exact Or.inl rfl | exact Or.inr rfl | exact b2i_01 _⟩) ?_
      rw [hx6] at h1; exact h1
theorem x_half (W : WOK L S H B M D T N) (c : RC h L S H B M D T N) {p q : Int32} (h1 : Q (some (.int (hfA L S p q))) h) : Rc (d + 5) m_X12_half [.ref 0, .int p, .int q] h Q := by
  have hO := W.1
  have o3 := hO.2.2.1
  have hV := W.2.1
  obtain ⟨a, g, c1, c2, c3, c4, c5, c6, c7, c8, c9, c10, c11⟩ := c
  have ha := c1.1
  have eL := vr c1.2.2.1
  unfold hfA at h1
  rcases ha with rfl | rfl
  all_goals
    refine R_in rfl rfl ?_
    refine R_gs 4 rfl ?_
    rw [eL]
    refine R_gs 6 rfl ?_
    refine R_k rfl rfl (c_areTwo (by decide) c2 (fun hx6 => ?_) (fun hx6 => ?_))
    ·
      refine W_bf rfl (by decide) ?_
      refine R_gs 16 rfl ?_
      rw [eL]
      refine R_gs 22 rfl ?_
      obtain ⟨i, j, hi, hj, hij, rfl, rfl, ei, ej⟩ := two_of o3 hx6
      refine R_k rfl rfl (c_ofTwo (by decide) hO c2 (Or.inl rfl) c3 hV hi hj hij ?_)
      refine R_k rfl rfl (c_untilHalf ?_)
      refine R_gs 32 rfl ?_
      refine W_f rfl (by first | rfl | exact ⟨rfl, by first | decide | assumption | exact Or.inl rfl | exact Or.inr rfl | exact b2i_01 _⟩) ?_
      rw [hx6, ei, ej, if_pos rfl] at h1; exact h1
    ·
      refine W_bt rfl (by decide) ?_
      refine R_gs 32 rfl ?_
      refine W_f rfl (by first | rfl | exact ⟨rfl, by first | decide | assumption | exact Or.inl rfl | exact Or.inr rfl | exact b2i_01 _⟩) ?_
      rw [hx6, if_neg (by decide)] at h1; exact h1
theorem x_within (W : WOK L S H B M D T N) (c : RC h L S H B M D T N) {p q m : Int32} (h1 : Q (some (.int (wiA L S p q m))) h) : Rc (d + 5) m_X12_within [.ref 0, .int p, .int q, .int m] h Q := by
  have hO := W.1
  have o3 := hO.2.2.1
  have hV := W.2.1
  obtain ⟨a, g, c1, c2, c3, c4, c5, c6, c7, c8, c9, c10, c11⟩ := c
  have ha := c1.1
  have eL := vr c1.2.2.1
  unfold wiA at h1
  rcases ha with rfl | rfl
  all_goals
    refine R_in rfl rfl ?_
    refine R_gs 4 rfl ?_
    rw [eL]
    refine R_gs 6 rfl ?_
    refine R_k rfl rfl (c_areTwo (by decide) c2 (fun hx6 => ?_) (fun hx6 => ?_))
    ·
      refine W_bf rfl (by decide) ?_
      refine R_gs 14 rfl ?_
      refine W_b rfl (fun hc14 => ?_) (fun hc14 => ?_)
      ·
        refine R_gs 24 rfl ?_
        refine W_f rfl (by first | rfl | exact ⟨rfl, by first | decide | assumption | exact Or.inl rfl | exact Or.inr rfl | exact b2i_01 _⟩) ?_
        rw [decide_eq_false (Int32.not_le.mpr hc14), Bool.false_and, Bool.and_false] at h1; exact h1
      ·
        refine R_gs 20 rfl ?_
        refine W_b rfl (fun hc20 => ?_) (fun hc20 => ?_)
        ·
          refine R_gs 29 rfl ?_
          rw [eL]
          refine R_gs 35 rfl ?_
          obtain ⟨i, j, hi, hj, hij, rfl, rfl, ei, ej⟩ := two_of o3 hx6
          obtain ⟨k, hk, rfl⟩ := nI_of (x := m) (fun e => hc14 (Int32.lt_trans e (by decide)))
          refine R_k rfl rfl (c_ofTwo (by decide) hO c2 (Or.inl rfl) c3 hV hi hj hij ?_)
          refine R_gs 39 rfl ?_
          refine R_k rfl rfl (c_afterSome hk ?_)
          refine W_f rfl (by first | rfl | exact ⟨rfl, by first | decide | assumption | exact Or.inl rfl | exact Or.inr rfl | exact b2i_01 _⟩) ?_
          rw [hx6, ei, ej, decide_eq_true (Int32.not_lt.mp hc14), decide_eq_true hc20, nI_clamp hk] at h1; exact h1
        ·
          refine R_gs 24 rfl ?_
          refine W_f rfl (by first | rfl | exact ⟨rfl, by first | decide | assumption | exact Or.inl rfl | exact Or.inr rfl | exact b2i_01 _⟩) ?_
          rw [decide_eq_false hc20, Bool.and_false, Bool.and_false] at h1; exact h1
    ·
      refine W_bt rfl (by decide) ?_
      refine R_gs 24 rfl ?_
      refine W_f rfl (by first | rfl | exact ⟨rfl, by first | decide | assumption | exact Or.inl rfl | exact Or.inr rfl | exact b2i_01 _⟩) ?_
      rw [hx6] at h1; exact h1
theorem x_safest (W : WOK L S H B M D T N) (c : RC h L S H B M D T N) {p : Int32} (h1 : Q (some (.int (sfA L S p))) h) : Rc (d + 6) m_X12_safest [.ref 0, .int p] h Q := by
  have hO := W.1
  have o3 := hO.2.2.1
  have hV := W.2.1
  obtain ⟨a, g, c1, c2, c3, c4, c5, c6, c7, c8, c9, c10, c11⟩ := c
  have ha := c1.1
  have eL := vr c1.2.2.1
  unfold sfA at h1
  rcases ha with rfl | rfl
  all_goals
    refine R_in rfl rfl ?_
    refine R_gs 4 rfl ?_
    rw [eL]
    refine R_gs 5 rfl ?_
    refine R_k rfl rfl (c_hasPerson (by decide) c2 (fun hx5 => ?_) (fun hx5 => ?_))
    ·
      refine W_bf rfl (by decide) ?_
      refine R_gs 15 rfl ?_
      rw [eL]
      refine R_gs 20 rfl ?_
      obtain ⟨k, hk, rfl⟩ := inN_of (by omega) hx5
      refine R_k rfl rfl (c_safestSaying (by decide) hO c2 (Or.inl rfl) c3 hV hk ?_)
      refine R_gs 27 rfl ?_
      refine W_f rfl (by first | rfl | exact ⟨rfl, by first | decide | assumption | exact Or.inl rfl | exact Or.inr rfl | exact b2i_01 _⟩) ?_
      rw [hx5, nI_clamp (by omega)] at h1; exact h1
    ·
      refine W_bt rfl (by decide) ?_
      refine R_gs 27 rfl ?_
      refine W_f rfl (by first | rfl | exact ⟨rfl, by first | decide | assumption | exact Or.inl rfl | exact Or.inr rfl | exact b2i_01 _⟩) ?_
      rw [hx5] at h1; exact h1
theorem x_haven (W : WOK L S H B M D T N) (c : RC h L S H B M D T N) {p : Int32} (h1 : ∀ h', Fr xC h h' → RC h' L S H B M D T N → Q (some (.int (hvA L S p))) h') : Rc (d + 6) m_X12_haven [.ref 0, .int p] h Q := by
  have hO := W.1
  have o3 := hO.2.2.1
  have hV := W.2.1
  have c0 := c
  obtain ⟨a, g, c1, c2, c3, c4, c5, c6, c7, c8, c9, c10, c11⟩ := c
  have ha := c1.1
  have eL := vr c1.2.2.1
  unfold hvA at h1
  rcases ha with rfl | rfl
  all_goals
    refine R_in rfl rfl ?_
    refine R_gs 4 rfl ?_
    rw [eL]
    refine R_gs 5 rfl ?_
    refine R_k rfl rfl (c_hasPerson (by decide) c2 (fun hx5 => ?_) (fun hx5 => ?_))
    ·
      refine W_bf rfl (by decide) ?_
      refine R_gs 21 rfl ?_
      refine R_k rfl rfl (c_copyAll Sc_14 Sc_7 (by decide) (fun h2 k2 f2 => ?_))
      have eL2 := vr ((congrFun (f2.R (b := 0) rfl) 8).trans c1.2.2.1)
      have d2 := c2.fr hO f2 (by decide)
      have d3 := k2.1.sc hO c3
      obtain ⟨k, hk, rfl⟩ := inN_of (by omega) hx5
      refine R_gs 28 rfl ?_
      rw [eL2]
      refine R_gs 33 rfl ?_
      refine R_k rfl rfl (c_safestPlace (by decide) hO d2 d3 hV hk (fun h3 f3 => ?_))
      refine W_f rfl (by first | rfl | exact ⟨rfl, by first | decide | assumption | exact Or.inl rfl | exact Or.inr rfl | exact b2i_01 _⟩) ?_
      rw [hx5, nI_clamp (by omega)] at h1
      have F := (f2.trans f3).mono (Y := xcs) (fun q => xqa14)
      exact h1 _ (F.c (fun q => xcs_le)) (c0.fr hO F)
    ·
      refine W_bt rfl (by decide) ?_
      refine R_gs 12 rfl ?_
      refine W_f rfl (by first | rfl | exact ⟨rfl, by first | decide | assumption | exact Or.inl rfl | exact Or.inr rfl | exact b2i_01 _⟩) ?_
      rw [hx5] at h1; exact h1 _ (Fr.refl _ h) c0
/-! the model -/
theorem lg0 {n : Nat} (hn : n < 2 ^ 63) : lg_cmp (lN n) 0 = 0 ↔ n = 0 := by
  unfold lg_cmp
  constructor
  · intro e
    by_cases h1 : lN n > 0
    · rw [if_pos h1] at e; exact absurd e (by decide)
    · rw [if_neg h1] at e
      by_cases h2 : lN n = 0
      · exact (pk_lEQ (b := 0) hn (by omega)).mp h2
      · rw [if_neg h2] at e; exact absurd e (by decide)
  · rintro rfl; decide
theorem m_chanceOf (hL : LandM h L) (hO : LandOK L) {p q : Nat} (hp : p < lP L) (hq : q < lP L) (h1 : Q (some (.int (nI (chN L p q)))) h) : Rc (d + 3) m_X13_chanceOf [.ref 235, .int (nI p), .int (nI q)] h Q := by
  obtain ⟨o1, o2, o3, o4, -⟩ := id hO
  have t1 := oT_le hO hp
  have t2 := oT_le hO hq
  have t3 := sq_le t1 t2
  have t4 := alk_le hO hp hq
  refine R_in rfl rfl ?_
  refine R_gs 5 rfl ?_
  refine w_lp (W := fun j s => Rw (d + 2) Q (m_X13_chanceOf, 5, [_, _, _, some (.long (lN s)), none, some (.int (nI j))], [], 262, h)) (fun w s => s + lO L p w * lO L q w) (lS L) (fun _ _ => True) 0 trivial (fun j s hj _ => ⟨trivial, fun w => ?_⟩) (fun _ => ?_)
  ·
    have u := mul9 ((o4 p hp).2.2.2.1 j hj) ((o4 q hq).2.2.2.1 j hj)
    refine R_gs 8 rfl ?_
    refine R_k rfl rfl (m_sayings hL ?_)
    refine W_bf rfl (ltc hj (by omega)) ?_
    refine R_gs 19 rfl ?_
    refine R_k rfl rfl (m_saysOf hL hO hp hj ?_)
    refine R_gs 26 rfl ?_
    refine R_k rfl rfl (m_saysOf hL hO hq hj ?_)
    refine R_gs 5 rfl ?_
    rw [nI_mul, nI_l (by omega), lN_add, nI_1]; exact w
  ·
    rw [show lp (fun w s => s + lO L p w * lO L q w) (lS L) 0 = alk L p q from rfl]
    refine R_gs 8 rfl ?_
    refine R_k rfl rfl (m_sayings hL ?_)
    refine W_bt rfl (gec (by omega)) ?_
    refine R_gs 42 rfl ?_
    refine W_b rfl (fun hc42 => ?_) (fun hc42 => ?_)
    ·
      rw [lg0 (by omega)] at hc42
      refine R_gs 69 rfl ?_
      refine W_f rfl (by first | rfl | exact ⟨rfl, by first | decide | assumption | exact Or.inl rfl | exact Or.inr rfl | exact b2i_01 _⟩) ?_
      rw [show chN L p q = 0 from by unfold chN; rw [hc42, Nat.zero_mul, Nat.zero_div]] at h1; exact h1
    ·
      rw [lg0 (by omega)] at hc42
      refine R_gs 56 rfl ?_
      refine R_k rfl rfl (m_allOf hL hO hp ?_)
      refine R_gs 62 rfl ?_
      refine R_k rfl rfl (m_allOf hL hO hq ?_)
      refine R_gs 67 rfl ?_
      have hpos : 0 < oT L p * oT L q := Nat.pos_of_ne_zero (fun e => hc42 (by have h1 := alk_oT (L := L) p q; have h2 : oA L p * oA L q ≤ oT L p * oT L q := Nat.mul_le_mul (by unfold oT; omega) (by unfold oT; omega); omega))
      rw [nI_l (by omega), nI_l (by omega), lN_mul, show lN (alk L p q) * 1000000 = lN (alk L p q * 1000000) from lN_mul _ _]
      refine W_c rfl (fun e => absurd ((pk_lEQ (b := 0) (by omega) (by omega)).mp e) (by omega)) ?_
      rw [pk_lDiv (by omega) (by omega) (by omega)]
      refine R_gs 69 rfl ?_
      refine W_f rfl (by first | rfl | exact ⟨rfl, by first | decide | assumption | exact Or.inl rfl | exact Or.inr rfl | exact b2i_01 _⟩) ?_
      rw [lN_i]; exact h1
theorem m_leftBy {l : Int64} {x : Int32} (h1 : Q (some (.long (l * (1000000 - x).toInt64 / 1000000))) h) : Rc (d + 1) m_X13_leftBy [.long l, .int x] h Q := by
  refine R_in rfl rfl ?_
  refine R_gs 11 rfl ?_
  refine W_c rfl (by decide) ?_
  refine W_f rfl (by first | rfl | exact ⟨rfl, by first | decide | assumption | exact Or.inl rfl | exact Or.inr rfl | exact b2i_01 _⟩) ?_
  exact h1
theorem y_chance (W : WOK L S H B M D T N) (c : RM h L S H B M D T N) {p q : Int32} (h1 : Q (some (.int (chA L S p q))) (wI h 235 0 0)) : Rc (d + 5) m_X13_chance [.ref 235, .int p, .int q] h Q := by
  have hO := W.1
  have o3 := hO.2.2.1
  have hV := W.2.1
  have c0 := c.thr
  unfold chA ofT at h1
  refine R_in rfl rfl ?_
  refine R_gs 8 rfl ?_
  refine R_k rfl rfl (m_areTwo c0.1 (fun hx8 => ?_) (fun hx8 => ?_))
  ·
    refine W_bf rfl (by decide) ?_
    refine R_gs 20 rfl ?_
    obtain ⟨i, j, hi, hj, hij, rfl, rfl, ei, ej⟩ := two_of o3 hx8
    rw [hx8, ei, ej] at h1
    refine R_k rfl rfl (m_couldSnap (b := 0) c0.1 hO c0.2.1 hV (by omega) hi hj hij (fun hx20 => ?_) (fun hx20 => ?_))
    ·
      refine W_bf rfl (by decide) ?_
      refine R_gs 29 rfl ?_
      refine R_k rfl rfl (m_chanceOf c0.1 hO hi hj ?_)
      refine R_gs 36 rfl ?_
      refine W_f rfl (by first | rfl | exact ⟨rfl, by first | decide | assumption | exact Or.inl rfl | exact Or.inr rfl | exact b2i_01 _⟩) ?_
      rw [hx20] at h1; exact h1
    ·
      refine W_bt rfl (by decide) ?_
      refine R_gs 36 rfl ?_
      refine W_f rfl (by first | rfl | exact ⟨rfl, by first | decide | assumption | exact Or.inl rfl | exact Or.inr rfl | exact b2i_01 _⟩) ?_
      rw [hx20] at h1; exact h1
  ·
    refine W_bt rfl (by decide) ?_
    refine R_gs 15 rfl ?_
    refine W_f rfl (by first | rfl | exact ⟨rfl, by first | decide | assumption | exact Or.inl rfl | exact Or.inr rfl | exact b2i_01 _⟩) ?_
    rw [hx8] at h1; exact h1
theorem y_within (W : WOK L S H B M D T N) (c : RM h L S H B M D T N) {p q m : Int32} (h1 : Q (some (.int (wiA L S p q m))) (wI h 235 0 0)) : Rc (d + 5) m_X13_within [.ref 235, .int p, .int q, .int m] h Q := by
  have hO := W.1
  have o3 := hO.2.2.1
  have hV := W.2.1
  have c0 := c.thr
  unfold wiA ofT at h1
  refine R_in rfl rfl ?_
  refine R_gs 8 rfl ?_
  refine R_k rfl rfl (m_areTwo c0.1 (fun hx8 => ?_) (fun hx8 => ?_))
  ·
    refine W_bf rfl (by decide) ?_
    refine R_gs 18 rfl ?_
    refine R_k rfl rfl (m_isIn (fun hx18 => ?_) (fun hx18 => ?_))
    ·
      refine W_bf rfl (by decide) ?_
      refine R_gs 30 rfl ?_
      obtain ⟨i, j, hi, hj, hij, rfl, rfl, ei, ej⟩ := two_of o3 hx8
      rw [hx8, ei, ej, hx18] at h1
      obtain ⟨k, hk, rfl⟩ := nI_of (x := m) (fun e => by have := in5 hx18; rw [Int32.lt_iff_toInt_lt] at e; have a1 : (1 : Int32).toInt = 1 := (by decide); have a0 : (0 : Int32).toInt = 0 := (by decide); omega)
      rw [nI_clamp hk] at h1
      refine R_k rfl rfl (m_couldSnap (b := 0) c0.1 hO c0.2.1 hV (by omega) hi hj hij (fun hx30 => ?_) (fun hx30 => ?_))
      ·
        refine W_bf rfl (by decide) ?_
        refine R_gs 39 rfl ?_
        refine R_k rfl rfl (m_chanceOf c0.1 hO hi hj ?_)
        refine R_gs 56 rfl ?_
        rw [hx30, Bool.and_self, if_pos rfl, if_pos rfl] at h1
        refine w_lp (W := fun n s => Rw (d + 4) Q (m_X13_within, 56, [_, _, _, _, _, some (.long s), none, some (.int (nI n))], [], 262, wI h 235 0 0)) (fun _ s => s * (1000000 - nI (chN L i j)).toInt64 / 1000000) k (fun _ _ => True) 1000000 trivial (fun n s hn _ => ⟨trivial, fun w => ?_⟩) (fun _ => ?_)
        ·
          refine R_gs 59 rfl ?_
          refine W_bf rfl (ltc hn (by omega)) ?_
          refine R_gs 66 rfl ?_
          refine R_k rfl rfl (m_leftBy ?_)
          refine R_gs 56 rfl ?_
          rw [nI_1]; exact w
        ·
          refine R_gs 59 rfl ?_
          refine W_bt rfl (gec (by omega)) ?_
          refine R_gs 84 rfl ?_
          refine W_f rfl (by first | rfl | exact ⟨rfl, by first | decide | assumption | exact Or.inl rfl | exact Or.inr rfl | exact b2i_01 _⟩) ?_
          unfold lftJ at h1; exact h1
      ·
        refine W_bt rfl (by decide) ?_
        refine R_gs 56 rfl ?_
        rw [hx30, Bool.and_self, if_pos rfl, if_neg (by decide)] at h1
        refine w_lp (W := fun n s => Rw (d + 4) Q (m_X13_within, 56, [_, _, _, _, _, some (.long s), none, some (.int (nI n))], [], 262, wI h 235 0 0)) (fun _ s => s * (1000000 - 0).toInt64 / 1000000) k (fun _ _ => True) 1000000 trivial (fun n s hn _ => ⟨trivial, fun w => ?_⟩) (fun _ => ?_)
        ·
          refine R_gs 59 rfl ?_
          refine W_bf rfl (ltc hn (by omega)) ?_
          refine R_gs 66 rfl ?_
          refine R_k rfl rfl (m_leftBy ?_)
          refine R_gs 56 rfl ?_
          rw [nI_1]; exact w
        ·
          refine R_gs 59 rfl ?_
          refine W_bt rfl (gec (by omega)) ?_
          refine R_gs 84 rfl ?_
          refine W_f rfl (by first | rfl | exact ⟨rfl, by first | decide | assumption | exact Or.inl rfl | exact Or.inr rfl | exact b2i_01 _⟩) ?_
          unfold lftJ at h1; exact h1
    ·
      refine W_bt rfl (by decide) ?_
      refine R_gs 25 rfl ?_
      refine W_f rfl (by first | rfl | exact ⟨rfl, by first | decide | assumption | exact Or.inl rfl | exact Or.inr rfl | exact b2i_01 _⟩) ?_
      rw [hx18, Bool.and_false] at h1; exact h1
  ·
    refine W_bt rfl (by decide) ?_
    refine R_gs 25 rfl ?_
    refine W_f rfl (by first | rfl | exact ⟨rfl, by first | decide | assumption | exact Or.inl rfl | exact Or.inr rfl | exact b2i_01 _⟩) ?_
    rw [hx8] at h1; exact h1
theorem y_half (W : WOK L S H B M D T N) (c : RM h L S H B M D T N) {p q : Int32} (h1 : Q (some (.int (hfA L S p q))) (wI h 235 0 0)) : Rc (d + 5) m_X13_half [.ref 235, .int p, .int q] h Q := by
  have hO := W.1
  have o3 := hO.2.2.1
  have hV := W.2.1
  have c0 := c.thr
  unfold hfA ofT at h1
  refine R_in rfl rfl ?_
  refine R_gs 8 rfl ?_
  refine R_k rfl rfl (m_areTwo c0.1 (fun hx8 => ?_) (fun hx8 => ?_))
  ·
    refine W_bf rfl (by decide) ?_
    refine R_gs 20 rfl ?_
    obtain ⟨i, j, hi, hj, hij, rfl, rfl, ei, ej⟩ := two_of o3 hx8
    rw [hx8, ei, ej] at h1
    refine R_k rfl rfl (m_couldSnap (b := 0) c0.1 hO c0.2.1 hV (by omega) hi hj hij (fun hx20 => ?_) (fun hx20 => ?_))
    ·
      refine W_bf rfl (by decide) ?_
      refine R_gs 29 rfl ?_
      refine R_k rfl rfl (m_chanceOf c0.1 hO hi hj ?_)
      refine R_gs 45 rfl ?_
      rw [hx20, if_pos rfl, if_pos rfl] at h1
      refine w_inv (W := fun n (s : Int64) => Rw (d + 4) Q (m_X13_half, 45, [_, _, _, _, some (.long s), none, some (.int (nI (n + 1)))], [], 262, wI h 235 0 0)) 200 (fun n s => Q (some (.int (hG (nI (chN L i j)) s (n + 1) (200 - n)))) (wI h 235 0 0)) (s0 := 1000000) h1 (fun n s hn hi w => ?_) (fun s hi => ?_)
      ·
        rw [show 200 - n = 200 - (n + 1) + 1 by omega] at hi
        unfold hG at hi
        refine R_gs 50 rfl ?_
        refine W_bf rfl (fun e => absurd ((nI_ltI (a := 200) (by omega) (by omega)).mp e) (by omega)) ?_
        refine R_gs 56 rfl ?_
        refine R_k rfl rfl (m_leftBy ?_)
        refine R_gs 71 rfl ?_
        refine W_b rfl (fun hc71 => ?_) (fun hc71 => ?_)
        ·
          refine R_gs 45 rfl ?_
          rw [nI_1]; rw [if_pos hc71] at hi; exact w _ hi
        ·
          refine R_gs 76 rfl ?_
          refine W_f rfl (by first | rfl | exact ⟨rfl, by first | decide | assumption | exact Or.inl rfl | exact Or.inr rfl | exact b2i_01 _⟩) ?_
          rw [if_neg hc71] at hi; exact hi
      ·
        refine R_gs 50 rfl ?_
        refine W_bt rfl ((by decide : (200 : Int32) < nI (200 + 1))) ?_
        refine R_gs 84 rfl ?_
        refine W_f rfl (by first | rfl | exact ⟨rfl, by first | decide | assumption | exact Or.inl rfl | exact Or.inr rfl | exact b2i_01 _⟩) ?_
        exact hi
    ·
      refine W_bt rfl (by decide) ?_
      refine R_gs 45 rfl ?_
      rw [hx20, if_pos rfl, if_neg (by decide)] at h1
      refine w_inv (W := fun n (s : Int64) => Rw (d + 4) Q (m_X13_half, 45, [_, _, _, _, some (.long s), none, some (.int (nI (n + 1)))], [], 262, wI h 235 0 0)) 200 (fun n s => Q (some (.int (hG 0 s (n + 1) (200 - n)))) (wI h 235 0 0)) (s0 := 1000000) h1 (fun n s hn hi w => ?_) (fun s hi => ?_)
      ·
        rw [show 200 - n = 200 - (n + 1) + 1 by omega] at hi
        unfold hG at hi
        refine R_gs 50 rfl ?_
        refine W_bf rfl (fun e => absurd ((nI_ltI (a := 200) (by omega) (by omega)).mp e) (by omega)) ?_
        refine R_gs 56 rfl ?_
        refine R_k rfl rfl (m_leftBy ?_)
        refine R_gs 71 rfl ?_
        refine W_b rfl (fun hc71 => ?_) (fun hc71 => ?_)
        ·
          refine R_gs 45 rfl ?_
          rw [nI_1]; rw [if_pos hc71] at hi; exact w _ hi
        ·
          refine R_gs 76 rfl ?_
          refine W_f rfl (by first | rfl | exact ⟨rfl, by first | decide | assumption | exact Or.inl rfl | exact Or.inr rfl | exact b2i_01 _⟩) ?_
          rw [if_neg hc71] at hi; exact hi
      ·
        refine R_gs 50 rfl ?_
        refine W_bt rfl ((by decide : (200 : Int32) < nI (200 + 1))) ?_
        refine R_gs 84 rfl ?_
        refine W_f rfl (by first | rfl | exact ⟨rfl, by first | decide | assumption | exact Or.inl rfl | exact Or.inr rfl | exact b2i_01 _⟩) ?_
        exact hi
  ·
    refine W_bt rfl (by decide) ?_
    refine R_gs 15 rfl ?_
    refine W_f rfl (by first | rfl | exact ⟨rfl, by first | decide | assumption | exact Or.inl rfl | exact Or.inr rfl | exact b2i_01 _⟩) ?_
    rw [hx8, if_neg (by decide)] at h1; exact h1
theorem y_safest (W : WOK L S H B M D T N) (c : RM h L S H B M D T N) {p : Int32} (h1 : Q (some (.int (sfA L S p))) (wI h 235 0 0)) : Rc (d + 6) m_X13_safest [.ref 235, .int p] h Q := by
  have hO := W.1
  have hV := W.2.1
  obtain ⟨o1, o2, o3, o4, -⟩ := id hO
  have c0 := c.thr
  unfold sfA at h1
  refine R_in rfl rfl ?_
  refine R_gs 7 rfl ?_
  refine R_k rfl rfl (m_isPerson c0.1 (fun hx7 => ?_) (fun hx7 => ?_))
  ·
    refine W_bf rfl (by decide) ?_
    refine R_gs 22 rfl ?_
    obtain ⟨k, hk, rfl⟩ := inN_of (by omega) hx7
    rw [hx7, if_pos rfl, nI_clamp (by omega)] at h1
    refine w_lp (W := fun j s => ∀ x5 x6 : Option Value, Rw (d + 5) Q (m_X13_safest, 22, [some (.ref 235), some (.int (nI k)), some (.int (oB s)), some (.int (oL s)), some (.int (nI j)), x5, x6], [], 262, wI h 235 0 0)) (lst (fun w => decide (0 < lO L k w)) (dng L S k)) (lS L) (fun _ s => lstI 5 54000000 s) none (fun v l e => by cases e) (fun j s hj hi => ⟨lst_I (by omega) (dng_le hO hj) hi, fun ww => ?_⟩) (fun _ => ?_) none none
    ·
      intro x5 x6
      have t2 := (o4 k hk).2.2.2.1 j hj
      have t3 := dng_le (S := S) hO (p := k) hj
      refine R_gs 25 rfl ?_
      refine R_k rfl rfl (m_sayings c0.1 ?_)
      refine W_bf rfl (ltc hj (by omega)) ?_
      refine R_gs 37 rfl ?_
      refine w_lp (W := fun q s' => Rw (d + 5) Q (m_X13_safest, 37, [some (.ref 235), some (.int (nI k)), some (.int (oB s)), some (.int (oL s)), some (.int (nI j)), some (.int (nI s')), some (.int (nI q))], [], 262, wI h 235 0 0)) (fun q s => s + if (!decide (q = k) && snap L S k q) = true then lO L q j * 1000000 / oT L q else 0) (lP L) (fun _ _ => True) 0 trivial (fun q s' hq _ => ⟨trivial, fun w2 => ?_⟩) (fun _ => ?_)
      ·
        have t4 := oT_le hO hq
        have t5 := (o4 q hq).2.2.2.1 j hj
        have t6 := O_le_oT (L := L) (p := q) hj
        refine R_gs 40 rfl ?_
        refine R_k rfl rfl (m_people c0.1 ?_)
        refine W_bf rfl (ltc hq (by omega)) ?_
        refine R_gs 51 rfl ?_
        refine W_b rfl (fun hc51 => ?_) (fun hc51 => ?_)
        ·
          rw [nI_eq (by omega) (by omega)] at hc51
          refine R_gs 37 rfl ?_
          rw [show nI s' + 0 = nI s' from nI_add s' 0, nI_1]; rw [if_neg (by simp [hc51]), Nat.add_zero] at w2; exact w2
        ·
          rw [nI_eq (by omega) (by omega)] at hc51
          refine R_gs 59 rfl ?_
          refine R_k rfl rfl (m_couldSnap (b := 0) c0.1 hO c0.2.1 hV (by omega) hk hq (Ne.symm hc51) (fun hx59 => ?_) (fun hx59 => ?_))
          ·
            refine W_bf rfl (by decide) ?_
            refine R_gs 70 rfl ?_
            refine R_k rfl rfl (m_saysOf c0.1 hO hq hj ?_)
            refine W_b rfl (fun hc73 => ?_) (fun hc73 => ?_)
            ·
              rw [le0 (by omega)] at hc73
              refine R_gs 37 rfl ?_
              rw [show nI s' + 0 = nI s' from nI_add s' 0, nI_1]; rw [show lO L q j * 1000000 / oT L q = 0 from by rw [hc73, Nat.zero_mul, Nat.zero_div], ite_self, Nat.add_zero] at w2; exact w2
            ·
              rw [le0 (by omega)] at hc73
              refine R_gs 81 rfl ?_
              refine R_k rfl rfl (m_saysOf c0.1 hO hq hj ?_)
              refine R_gs 92 rfl ?_
              refine R_k rfl rfl (m_allOf c0.1 hO hq ?_)
              refine R_gs 96 rfl ?_
              rw [nI_l (by omega), nI_l (by omega), show lN (lO L q j) * 1000000 = lN (lO L q j * 1000000) from lN_mul _ _]
              refine W_c rfl (fun e => absurd ((pk_lEQ (b := 0) (by omega) (by omega)).mp e) (by omega)) ?_
              rw [pk_lDiv (by omega) (by omega) (by omega)]
              refine R_gs 37 rfl ?_
              rw [lN_i, nI_add, nI_1]; rw [if_pos (by simp [hc51, hx59])] at w2; exact w2
          ·
            refine W_bt rfl (by decide) ?_
            refine R_gs 37 rfl ?_
            rw [show nI s' + 0 = nI s' from nI_add s' 0, nI_1]; rw [if_neg (by simp [hx59]), Nat.add_zero] at w2; exact w2
      ·
        refine R_gs 40 rfl ?_
        refine R_k rfl rfl (m_people c0.1 ?_)
        refine W_bt rfl (gec (by omega)) ?_
        refine R_gs 115 rfl ?_
        refine R_k rfl rfl (m_saysOf c0.1 hO hk hj ?_)
        refine W_b rfl (fun hc118 => ?_) (fun hc118 => ?_)
        ·
          rw [le0 (by omega)] at hc118
          refine R_gs 140 rfl ?_
          refine W_bt rfl (by decide) ?_
          refine R_gs 152 rfl ?_
          refine W_bt rfl (by decide) ?_
          refine R_gs 22 rfl ?_
          rw [lst_no (by simp [hc118])] at ww; rw [nI_1]; exact ww _ _
        ·
          rw [le0 (by omega)] at hc118
          refine R_gs 122 rfl ?_
          refine W_b rfl (fun hc122 => ?_) (fun hc122 => ?_)
          ·
            rw [oB_lt (fun v l e => by have := (hi v l e).1; omega)] at hc122
            refine R_gs 140 rfl ?_
            refine W_bf rfl (by decide) ?_
            refine R_gs 152 rfl ?_
            refine W_bf rfl (by decide) ?_
            refine R_gs 22 rfl ?_
            subst hc122; rw [lst_first (by simp; omega)] at ww; rw [nI_1]; exact ww _ _
          ·
            rw [oB_lt (fun v l e => by have := (hi v l e).1; omega)] at hc122
            refine R_gs 128 rfl ?_
            refine W_b rfl (fun hc128 => ?_) (fun hc128 => ?_)
            ·
              refine R_gs 140 rfl ?_
              refine W_bt rfl (by decide) ?_
              refine R_gs 152 rfl ?_
              refine W_bt rfl (by decide) ?_
              refine R_gs 22 rfl ?_
              obtain ⟨v, l, rfl⟩ : ∃ v l, s = some (v, l) := (by rcases s with _ | ⟨v, l⟩; exact absurd rfl hc122; exact ⟨v, l, rfl⟩); have hl := (hi v l rfl).2; rw [lst_ge (by simp; omega) (fun e => absurd ((nI_leI (a := l) (b := dng L S k j) (by omega) (by omega)).mp hc128) (by omega))] at ww; rw [nI_1]; exact ww _ _
            ·
              refine R_gs 140 rfl ?_
              refine W_bf rfl (by decide) ?_
              refine R_gs 152 rfl ?_
              refine W_bf rfl (by decide) ?_
              refine R_gs 22 rfl ?_
              obtain ⟨v, l, rfl⟩ : ∃ v l, s = some (v, l) := (by rcases s with _ | ⟨v, l⟩; exact absurd rfl hc122; exact ⟨v, l, rfl⟩); have hl := (hi v l rfl).2; rw [lst_lt (by simp; omega) (by have := mt (nI_leI (a := l) (b := dng L S k j) (by omega) (by omega)).mpr hc128; omega)] at ww; rw [nI_1]; exact ww _ _
    ·
      intro x5 x6
      refine R_gs 25 rfl ?_
      refine R_k rfl rfl (m_sayings c0.1 ?_)
      refine W_bt rfl (gec (by omega)) ?_
      refine R_gs 169 rfl ?_
      refine W_f rfl (by first | rfl | exact ⟨rfl, by first | decide | assumption | exact Or.inl rfl | exact Or.inr rfl | exact b2i_01 _⟩) ?_
      exact h1
  ·
    refine W_bt rfl (by decide) ?_
    refine R_gs 14 rfl ?_
    refine W_f rfl (by first | rfl | exact ⟨rfl, by first | decide | assumption | exact Or.inl rfl | exact Or.inr rfl | exact b2i_01 _⟩) ?_
    rw [hx7, if_neg (by decide)] at h1; exact h1
theorem y_haven (W : WOK L S H B M D T N) (c : RM h L S H B M D T N) {p : Int32} (h1 : Q (some (.int (hvA L S p))) (wI h 235 0 0)) : Rc (d + 6) m_X13_haven [.ref 235, .int p] h Q := by
  have hO := W.1
  have hV := W.2.1
  obtain ⟨o1, o2, o3, o4, -⟩ := id hO
  have c0 := c.thr
  unfold hvA at h1
  refine R_in rfl rfl ?_
  refine R_gs 7 rfl ?_
  refine R_k rfl rfl (m_isPerson c0.1 (fun hx7 => ?_) (fun hx7 => ?_))
  ·
    refine W_bf rfl (by decide) ?_
    refine R_gs 22 rfl ?_
    obtain ⟨k, hk, rfl⟩ := inN_of (by omega) hx7
    rw [hx7, if_pos rfl, nI_clamp (by omega)] at h1
    refine w_lp (W := fun j s => ∀ x5 x6 : Option Value, Rw (d + 5) Q (m_X13_haven, 22, [some (.ref 235), some (.int (nI k)), some (.int (oB s)), some (.int (oL s)), some (.int (nI j)), x5, x6], [], 262, wI h 235 0 0)) (lst (fun _ => true) (hvn L S k)) (lQ L) (fun _ s => lstI 4 6000000 s) none (fun v l e => by cases e) (fun j s hj hi => ⟨lst_I (by omega) (hvn_le hO _ _) hi, fun ww => ?_⟩) (fun _ => ?_) none none
    ·
      intro x5 x6
      have t3 := hvn_le (S := S) hO k j
      refine R_gs 25 rfl ?_
      refine R_k rfl rfl (m_places c0.1 ?_)
      refine W_bf rfl (ltc hj (by omega)) ?_
      refine R_gs 37 rfl ?_
      refine w_lp (W := fun q s' => Rw (d + 5) Q (m_X13_haven, 37, [some (.ref 235), some (.int (nI k)), some (.int (oB s)), some (.int (oL s)), some (.int (nI j)), some (.int (nI s')), some (.int (nI q))], [], 262, wI h 235 0 0)) (fun q s => s + if (!decide (q = k) && (decide (sA S q = j) && free L S k q && !bt (sW S) (pr k q))) = true then chN L k q else 0) (lP L) (fun _ _ => True) 0 trivial (fun q s' hq _ => ⟨trivial, fun w2 => ?_⟩) (fun _ => ?_)
      ·
        have v1 := (hV.2.1 q hq).1
        refine R_gs 40 rfl ?_
        refine R_k rfl rfl (m_people c0.1 ?_)
        refine W_bf rfl (ltc hq (by omega)) ?_
        refine R_gs 51 rfl ?_
        refine W_b rfl (fun hc51 => ?_) (fun hc51 => ?_)
        ·
          rw [nI_eq (by omega) (by omega)] at hc51
          refine R_gs 37 rfl ?_
          rw [show nI s' + 0 = nI s' from nI_add s' 0, nI_1]; rw [if_neg (by simp [hc51]), Nat.add_zero] at w2; exact w2
        ·
          rw [nI_eq (by omega) (by omega)] at hc51
          refine R_gs 62 rfl ?_
          refine R_il rfl (by first | rfl | exact shO (by decide) (by omega) | exact shG (by decide) (by omega)) (by repeat (first | with_reducible apply ix_add | with_reducible apply ix_mul | with_reducible exact ix_nI _ | with_reducible exact ix_lit _ | exact rfl)) (by omega) (by first | exact c0A (c0.2.1.A hq)) ?_
          refine R_gs 65 rfl ?_
          refine W_b rfl (fun hc65 => ?_) (fun hc65 => ?_)
          ·
            rw [nI_eq (by omega) (by omega)] at hc65
            refine R_gs 73 rfl ?_
            refine R_k rfl rfl (m_areFree (b := 0) c0.1 hO c0.2.1 (by omega) hk hq (Ne.symm hc51) (fun hx73 => ?_) (fun hx73 => ?_))
            ·
              refine W_bf rfl (by decide) ?_
              refine R_gs 84 rfl ?_
              refine R_k rfl rfl (m_isWed (b := 0) c0.2.1 (by omega) (by omega) (by omega) (Ne.symm hc51) (fun hx84 => ?_) (fun hx84 => ?_))
              ·
                refine W_bf rfl (by decide) ?_
                refine R_gs 37 rfl ?_
                rw [show nI s' + 0 = nI s' from nI_add s' 0, nI_1]; rw [if_neg (by simp [hx84]), Nat.add_zero] at w2; exact w2
              ·
                refine W_bt rfl (by decide) ?_
                refine R_gs 94 rfl ?_
                refine R_k rfl rfl (m_chanceOf c0.1 hO hk hq ?_)
                refine R_gs 37 rfl ?_
                rw [nI_add, nI_1]; rw [if_pos (by simp [hc51, hc65, hx73, hx84])] at w2; exact w2
            ·
              refine W_bt rfl (by decide) ?_
              refine R_gs 37 rfl ?_
              rw [show nI s' + 0 = nI s' from nI_add s' 0, nI_1]; rw [if_neg (by simp [hx73]), Nat.add_zero] at w2; exact w2
          ·
            rw [nI_eq (by omega) (by omega)] at hc65
            refine R_gs 37 rfl ?_
            rw [show nI s' + 0 = nI s' from nI_add s' 0, nI_1]; rw [if_neg (by simp [hc65]), Nat.add_zero] at w2; exact w2
      ·
        refine R_gs 40 rfl ?_
        refine R_k rfl rfl (m_people c0.1 ?_)
        refine W_bt rfl (gec (by omega)) ?_
        refine R_gs 111 rfl ?_
        refine W_b rfl (fun hc111 => ?_) (fun hc111 => ?_)
        ·
          rw [oB_lt (fun v l e => by have := (hi v l e).1; omega)] at hc111
          refine R_gs 129 rfl ?_
          refine W_bf rfl (by decide) ?_
          refine R_gs 141 rfl ?_
          refine W_bf rfl (by decide) ?_
          refine R_gs 22 rfl ?_
          subst hc111; rw [lst_first rfl] at ww; rw [nI_1]; exact ww _ _
        ·
          rw [oB_lt (fun v l e => by have := (hi v l e).1; omega)] at hc111
          refine R_gs 117 rfl ?_
          refine W_b rfl (fun hc117 => ?_) (fun hc117 => ?_)
          ·
            refine R_gs 129 rfl ?_
            refine W_bt rfl (by decide) ?_
            refine R_gs 141 rfl ?_
            refine W_bt rfl (by decide) ?_
            refine R_gs 22 rfl ?_
            obtain ⟨v, l, rfl⟩ : ∃ v l, s = some (v, l) := (by rcases s with _ | ⟨v, l⟩; exact absurd rfl hc111; exact ⟨v, l, rfl⟩); have hl := (hi v l rfl).2; rw [lst_ge rfl (fun e => absurd ((nI_leI (a := l) (b := hvn L S k j) (by omega) (by omega)).mp hc117) (by omega))] at ww; rw [nI_1]; exact ww _ _
          ·
            refine R_gs 129 rfl ?_
            refine W_bf rfl (by decide) ?_
            refine R_gs 141 rfl ?_
            refine W_bf rfl (by decide) ?_
            refine R_gs 22 rfl ?_
            obtain ⟨v, l, rfl⟩ : ∃ v l, s = some (v, l) := (by rcases s with _ | ⟨v, l⟩; exact absurd rfl hc111; exact ⟨v, l, rfl⟩); have hl := (hi v l rfl).2; rw [lst_lt rfl (by have := mt (nI_leI (a := l) (b := hvn L S k j) (by omega) (by omega)).mpr hc117; omega)] at ww; rw [nI_1]; exact ww _ _
    ·
      intro x5 x6
      refine R_gs 25 rfl ?_
      refine R_k rfl rfl (m_places c0.1 ?_)
      refine W_bt rfl (gec (by omega)) ?_
      refine R_gs 158 rfl ?_
      refine W_f rfl (by first | rfl | exact ⟨rfl, by first | decide | assumption | exact Or.inl rfl | exact Or.inr rfl | exact b2i_01 _⟩) ?_
      exact h1
  ·
    refine W_bt rfl (by decide) ?_
    refine R_gs 14 rfl ?_
    refine W_f rfl (by first | rfl | exact ⟨rfl, by first | decide | assumption | exact Or.inl rfl | exact Or.inr rfl | exact b2i_01 _⟩) ?_
    rw [hx7, if_neg (by decide)] at h1; exact h1
end
