section
variable {d : Nat} {h : AH} {L : SL} {S : SS} {H : SH'} {B : SB'} {M : SM'} {D : SD'} {T : ST'} {N : SN'} {Q : Option Value → AH → Prop}
theorem x_who (W : WOK L S H B M D T N) (c : RC h L S H B M D T N) (h1 : Q (some (.int (susp L H))) h) : Rc (d + 5) m_X12_who [.ref 0] h Q := by
  have hO := W.1
  obtain ⟨a, g, c1, c2, c3, c4, c5, c6, c7, c8, c9, c10, c11⟩ := c
  have ha := c1.1
  have eL := vr c1.2.2.1
  rcases ha with rfl | rfl
  all_goals
    refine R_in rfl rfl ?_
    refine R_gs 4 rfl ?_
    rw [eL]
    refine R_gs 8 rfl ?_
    refine R_k rfl rfl (c_suspects (by decide) hO c2 c4 W.2.2.1 ?_)
    refine W_f rfl (by first | rfl | exact ⟨rfl, by first | decide | assumption | exact Or.inl rfl | exact Or.inr rfl | exact b2i_01 _⟩) ?_
    exact h1
theorem x_likely (W : WOK L S H B M D T N) (c : RC h L S H B M D T N) (h1 : Q (some (.int (lkA L H))) h) : Rc (d + 5) m_X12_likely [.ref 0] h Q := by
  have hO := W.1
  obtain ⟨a, g, c1, c2, c3, c4, c5, c6, c7, c8, c9, c10, c11⟩ := c
  have ha := c1.1
  have eL := vr c1.2.2.1
  rcases ha with rfl | rfl
  all_goals
    refine R_in rfl rfl ?_
    refine R_gs 4 rfl ?_
    rw [eL]
    refine R_gs 8 rfl ?_
    refine R_k rfl rfl (c_likeliest (by decide) hO c2 c4 W.2.2.1 ?_)
    refine W_f rfl (by first | rfl | exact ⟨rfl, by first | decide | assumption | exact Or.inl rfl | exact Or.inr rfl | exact b2i_01 _⟩) ?_
    exact h1
theorem x_ask (W : WOK L S H B M D T N) (c : RC h L S H B M D T N) (h1 : Q (some (.int (askA L H))) h) : Rc (d + 5) m_X12_ask [.ref 0] h Q := by
  have hO := W.1
  obtain ⟨a, g, c1, c2, c3, c4, c5, c6, c7, c8, c9, c10, c11⟩ := c
  have ha := c1.1
  have eL := vr c1.2.2.1
  rcases ha with rfl | rfl
  all_goals
    refine R_in rfl rfl ?_
    refine R_gs 4 rfl ?_
    rw [eL]
    refine R_gs 8 rfl ?_
    refine R_k rfl rfl (c_bestQuestion (by decide) hO c2 c4 W.2.2.1 ?_)
    refine W_f rfl (by first | rfl | exact ⟨rfl, by first | decide | assumption | exact Or.inl rfl | exact Or.inr rfl | exact b2i_01 _⟩) ?_
    exact h1
theorem m_bits {x : Int32} (hx : B15 x) (h1 : Q (some (.int (nI (pop x)))) h) : Rc (d + 1) m_X13_bits [.int x] h Q := by
  have e30 : cntN 30 (fun i => bt x i) = pop x := cntN_up 30 (by omega) (fun j h1 h2 => hx j h1 (by omega))
  refine R_in rfl rfl ?_
  refine R_gs 4 rfl ?_
  refine w_lp (W := fun j s => Rw d Q (m_X13_bits, 4, [_, some (.int (nI s)), some (.int (nI j))], [], 262, h)) (fun j s => if bt x j = true then s + 1 else s) 30 (fun _ _ => True) 0 trivial (fun j s hj _ => ⟨trivial, fun w => ?_⟩) (fun _ => ?_)
  ·
    refine R_gs 7 rfl ?_
    refine W_bf rfl (fun e => absurd ((nI_leI (a := 30) (by omega) (by omega)).mp e) (by omega)) ?_
    refine R_gs 4 rfl ?_
    rw [sh_and (by omega), show (nI s + if bt x j = true then 1 else 0) = nI (if bt x j = true then s + 1 else s) from by split; exact nI_1 s; exact nI_add s 0, nI_1]; exact w
  ·
    refine R_gs 7 rfl ?_
    refine W_bt rfl (by decide) ?_
    refine R_gs 25 rfl ?_
    refine W_f rfl (by first | rfl | exact ⟨rfl, by first | decide | assumption | exact Or.inl rfl | exact Or.inr rfl | exact b2i_01 _⟩) ?_
    rw [← e30] at h1; exact h1
theorem m_partOf (hL : LandM h L) (hO : LandOK L) {p : Nat} {x : Int32} (hp : p < lP L) (hx : SayOK L x) (h1 : Q (some (.int (nI (shr L p x)))) h) : Rc (d + 3) m_X13_partOf [.ref 235, .int (nI p), .int x] h Q := by
  have t2 := oT_le hO hp
  have z := hx.cases hO
  unfold shr at h1
  refine R_in rfl rfl ?_
  refine R_gs 1 rfl ?_
  refine W_b rfl (fun hc1 => ?_) (fun hc1 => ?_)
  ·
    rw [if_pos (by rcases z with z | z; exact z.1; exact absurd hc1 z.2.1)] at h1
    refine R_gs 15 rfl ?_
    refine R_k rfl rfl (m_allOf hL hO hp ?_)
    refine W_b rfl (fun hc18 => ?_) (fun hc18 => ?_)
    ·
      rw [nI_e0 (by omega)] at hc18
      refine R_gs 30 rfl ?_
      refine W_f rfl (by first | rfl | exact ⟨rfl, by first | decide | assumption | exact Or.inl rfl | exact Or.inr rfl | exact b2i_01 _⟩) ?_
      rw [if_pos hc18] at h1; exact h1
    ·
      rw [nI_e0 (by omega)] at hc18
      refine R_gs 27 rfl ?_
      refine R_k rfl rfl (m_shyOf hL hO hp ?_)
      refine W_f rfl (by first | rfl | exact ⟨rfl, by first | decide | assumption | exact Or.inl rfl | exact Or.inr rfl | exact b2i_01 _⟩) ?_
      rw [if_neg hc18] at h1; exact h1
  ·
    obtain ⟨z1, -, k, hk, rfl, ek⟩ := (by rcases z with z | z; exact absurd z.2 hc1; exact z : ¬ x = -1 ∧ ¬ x < 0 ∧ ∃ k, k < lS L ∧ x = nI k ∧ x.toNatClampNeg = k)
    rw [if_neg z1, ek] at h1
    refine R_gs 7 rfl ?_
    refine R_k rfl rfl (m_saysOf hL hO hp hk ?_)
    refine R_gs 30 rfl ?_
    refine W_f rfl (by first | rfl | exact ⟨rfl, by first | decide | assumption | exact Or.inl rfl | exact Or.inr rfl | exact b2i_01 _⟩) ?_
    exact h1
theorem m_mayHear (hL : LandM h L) (hO : LandOK L) {p : Nat} {x : Int32} (hp : p < lP L) (hx : SayOK L x) (h1 : mayS L p x = true → Q (some (.int 1)) h) (h0 : mayS L p x = false → Q (some (.int 0)) h) : Rc (d + 3) m_X13_mayHear [.ref 235, .int (nI p), .int x] h Q := by
  obtain ⟨o1, o2, o3, o4, -⟩ := id hO
  have t1 := (o4 p hp).2.2.1
  have t2 := oT_le hO hp
  have t3 : oT L p = oA L p + lY L p := rfl
  have z := hx.cases hO
  unfold mayS at h1 h0
  refine R_in rfl rfl ?_
  refine R_gs 1 rfl ?_
  refine W_b rfl (fun hc1 => ?_) (fun hc1 => ?_)
  ·
    rw [if_pos (by rcases z with z | z; exact z.1; exact absurd hc1 z.2.1)] at h1 h0
    refine R_gs 23 rfl ?_
    refine R_k rfl rfl (m_shyOf hL hO hp ?_)
    refine W_b rfl (fun hc26 => ?_) (fun hc26 => ?_)
    ·
      rw [show (0 : Int32) < nI (lY L p) ↔ 0 < lY L p from nI_ltI (a := 0) (by omega) (by omega)] at hc26
      refine R_gs 42 rfl ?_
      refine W_f rfl (by first | rfl | exact ⟨rfl, by first | decide | assumption | exact Or.inl rfl | exact Or.inr rfl | exact b2i_01 _⟩) ?_
      exact h1 (by simp [hc26])
    ·
      rw [show (0 : Int32) < nI (lY L p) ↔ 0 < lY L p from nI_ltI (a := 0) (by omega) (by omega)] at hc26
      refine R_gs 31 rfl ?_
      refine R_k rfl rfl (m_allOf hL hO hp ?_)
      refine W_b rfl (fun hc34 => ?_) (fun hc34 => ?_)
      ·
        rw [nI_e0 (by omega)] at hc34
        refine R_gs 42 rfl ?_
        refine W_f rfl (by first | rfl | exact ⟨rfl, by first | decide | assumption | exact Or.inl rfl | exact Or.inr rfl | exact b2i_01 _⟩) ?_
        exact h1 (by simp; omega)
      ·
        rw [nI_e0 (by omega)] at hc34
        refine R_gs 42 rfl ?_
        refine W_f rfl (by first | rfl | exact ⟨rfl, by first | decide | assumption | exact Or.inl rfl | exact Or.inr rfl | exact b2i_01 _⟩) ?_
        exact h0 (by simp; omega)
  ·
    obtain ⟨z1, -, k, hk, rfl, ek⟩ := (by rcases z with z | z; exact absurd z.2 hc1; exact z : ¬ x = -1 ∧ ¬ x < 0 ∧ ∃ k, k < lS L ∧ x = nI k ∧ x.toNatClampNeg = k)
    rw [if_neg z1, ek] at h1 h0
    have t4 := (o4 p hp).2.2.2.1 k hk
    refine R_gs 7 rfl ?_
    refine R_k rfl rfl (m_saysOf hL hO hp hk ?_)
    refine W_b rfl (fun hc10 => ?_) (fun hc10 => ?_)
    ·
      rw [le0 (by omega)] at hc10
      refine R_gs 42 rfl ?_
      refine W_f rfl (by first | rfl | exact ⟨rfl, by first | decide | assumption | exact Or.inl rfl | exact Or.inr rfl | exact b2i_01 _⟩) ?_
      exact h0 (by simp [hc10])
    ·
      rw [le0 (by omega)] at hc10
      refine R_gs 42 rfl ?_
      refine W_f rfl (by first | rfl | exact ⟨rfl, by first | decide | assumption | exact Or.inl rfl | exact Or.inr rfl | exact b2i_01 _⟩) ?_
      exact h1 (by simp; omega)
theorem m_whoNow (hL : LandM h L) (hO : LandOK L) (hH : HrdM h 0 H) (hK : HOK L H) (h1 : Q (some (.int (susp L H))) h) : Rc (d + 4) m_X13_whoNow [.ref 235] h Q := by
  obtain ⟨o1, o2, o3, o4, -⟩ := id hO
  have hn := hK.1
  have e34 : hI h 251 34 = nI H.1 := hH.1
  refine R_in rfl rfl ?_
  refine R_gs 4 rfl ?_
  refine w_lp (W := fun j s => ∀ x3 x4 : Option Value, Rw (d + 3) Q (m_X13_whoNow, 4, [some (.ref 235), some (.int s), some (.int (nI j)), x3, x4], [], 262, h)) (fun j s => if susB L H j = true then s ||| nI (2 ^ j) else s) (lP L) (fun _ _ => True) 0 trivial (fun j s hj _ => ⟨trivial, fun w => ?_⟩) (fun _ => ?_) none none
  ·
    intro x3 x4
    refine R_gs 6 rfl ?_
    refine R_k rfl rfl (m_people hL ?_)
    refine W_bf rfl (ltc hj (by omega)) ?_
    refine R_gs 17 rfl ?_
    refine w_inv (W := fun i (b : Bool) => Rw (d + 3) Q (m_X13_whoNow, 17, [some (.ref 235), some (.int s), some (.int (nI j)), some (.int (b2i b)), some (.int (nI i))], [], 262, h)) H.1 (fun i b => b = (true && !anyN i (fun i => !mayS L j (H.2 i)))) (s0 := true) rfl (fun i b hi hb w2 => ?_) (fun b hb => ?_)
    ·
      refine R_gs 25 rfl ?_
      refine R_il rfl (by first | rfl | exact shO (by decide) (by omega) | exact shG (by decide) (by omega)) (by repeat (first | with_reducible apply ix_add | with_reducible apply ix_mul | with_reducible exact ix_nI _ | with_reducible exact ix_lit _ | exact rfl)) (by omega) (by first | exact e34) ?_
      refine W_bf rfl (ltc hi (by omega)) ?_
      refine R_gs 30 rfl ?_
      refine W_b rfl (fun hc30 => ?_) (fun hc30 => ?_)
      ·
        refine R_gs 17 rfl ?_
        rw [nI_1]; exact w2 false (st_0 hb (b2i0.mp hc30))
      ·
        refine R_gs 44 rfl ?_
        refine R_il rfl (by first | rfl | exact shO (by decide) (by omega) | exact shG (by decide) (by omega)) (by repeat (first | with_reducible apply ix_add | with_reducible apply ix_mul | with_reducible exact ix_nI _ | with_reducible exact ix_lit _ | exact rfl)) (by omega) (by first | exact c0A (hH.2 i hi)) ?_
        refine R_k rfl rfl (m_mayHear hL hO hj (hK.2 i hi) (fun hx45 => ?_) (fun hx45 => ?_))
        ·
          refine W_bf rfl (by decide) ?_
          refine R_gs 17 rfl ?_
          rw [nI_1]; exact w2 true (st_f hb (by rw [hx45]; rfl) (fun e => hc30 (b2i0.mpr e)))
        ·
          refine W_bt rfl (by decide) ?_
          refine R_gs 17 rfl ?_
          rw [nI_1]; exact w2 false (st_t (by rw [hx45]; rfl))
    ·
      refine R_gs 25 rfl ?_
      refine R_il rfl (by first | rfl | exact shO (by decide) (by omega) | exact shG (by decide) (by omega)) (by repeat (first | with_reducible apply ix_add | with_reducible apply ix_mul | with_reducible exact ix_nI _ | with_reducible exact ix_lit _ | exact rfl)) (by omega) (by first | exact e34) ?_
      refine W_bt rfl (gec (by omega)) ?_
      refine R_gs 65 rfl ?_
      refine W_b rfl (fun hc65 => ?_) (fun hc65 => ?_)
      ·
        refine R_gs 4 rfl ?_
        rw [Int32.or_zero, nI_1]; rw [if_neg (by rw [show susB L H j = b from hb.symm, b2i0.mp hc65]; decide)] at w; exact w _ _
      ·
        refine R_gs 4 rfl ?_
        rw [or_if _ _ (by omega), nI_1]; rw [if_pos (by rw [show susB L H j = b from hb.symm]; cases b; exact absurd (show b2i false = 0 from rfl) hc65; rfl)] at w; exact w _ _
  ·
    intro x3 x4
    refine R_gs 6 rfl ?_
    refine R_k rfl rfl (m_people hL ?_)
    refine W_bt rfl (gec (by omega)) ?_
    refine R_gs 84 rfl ?_
    refine W_f rfl (by first | rfl | exact ⟨rfl, by first | decide | assumption | exact Or.inl rfl | exact Or.inr rfl | exact b2i_01 _⟩) ?_
    exact h1
theorem y_who (W : WOK L S H B M D T N) (c : RM h L S H B M D T N) (h1 : Q (some (.int (susp L H))) (wI h 235 0 0)) : Rc (d + 5) m_X13_who [.ref 235] h Q := by
  have c0 := c.thr
  refine R_in rfl rfl ?_
  refine R_gs 6 rfl ?_
  refine R_k rfl rfl (m_whoNow c0.1 W.1 c0.2.2.1 W.2.2.1 ?_)
  refine W_f rfl (by first | rfl | exact ⟨rfl, by first | decide | assumption | exact Or.inl rfl | exact Or.inr rfl | exact b2i_01 _⟩) ?_
  exact h1
theorem y_likely (W : WOK L S H B M D T N) (c : RM h L S H B M D T N) (h1 : Q (some (.int (lkA L H))) (wI h 235 0 0)) : Rc (d + 5) m_X13_likely [.ref 235] h Q := by
  have hO := W.1
  obtain ⟨o1, o2, o3, o4, -⟩ := id hO
  have c0 := c.thr
  have hL := c0.1
  have hH := c0.2.2.1
  have hK := W.2.2.1
  have hn := hK.1
  have e34 : hI (wI h 235 0 0) 251 34 = nI H.1 := hH.1
  refine R_in rfl rfl ?_
  refine R_gs 6 rfl ?_
  refine R_k rfl rfl (m_whoNow hL hO hH hK ?_)
  refine R_gs 20 rfl ?_
  refine w_lp (W := fun j s => ∀ x8 x9 x10 x11 x12 : Option Value, Rw (d + 4) Q (m_X13_likely, 20, [some (.ref 235), some (.int (susp L H)), some (.int s.1), some (.long s.2.1), none, some (.long s.2.2), none, some (.int (nI j)), x8, x9, x10, x11, x12], [], 262, wI h 235 0 0)) (lkF L H) (lP L) (fun _ s => s.1 = -1 ∨ 0 ≤ s.1) (-1, 0, 1) (Or.inl rfl) (fun j s hj hs => ⟨lk_I (by omega) hs, fun w => ?_⟩) (fun _ => ?_) none none none none none
  ·
    intro x8 x9 x10 x11 x12
    have t2 := oT_le hO hj
    have e88 : bt (susp L H) j = susB L H j := sus_bt o3 hj
    have es : s.1 < 0 ↔ s.1 = -1 := by { rcases hs with e | e; rw [e]; decide; exact ⟨fun h' => absurd (Int32.lt_of_le_of_lt e h') (by decide), fun h' => by rw [h'] at e; exact absurd e (by decide)⟩ }
    refine R_gs 23 rfl ?_
    refine R_k rfl rfl (m_people hL ?_)
    refine W_bf rfl (ltc hj (by omega)) ?_
    refine R_gs 38 rfl ?_
    refine w_lp (W := fun i (s' : Int64 × Int64) => Rw (d + 4) Q (m_X13_likely, 38, [some (.ref 235), some (.int (susp L H)), some (.int s.1), some (.long s.2.1), none, some (.long s.2.2), none, some (.int (nI j)), some (.long s'.1), none, some (.long s'.2), none, some (.int (nI i))], [], 262, wI h 235 0 0)) (fun i s' => (s'.1 * (nI (shr L j (H.2 i))).toInt64, s'.2 * (nI (if oT L j = 0 then 1 else oT L j)).toInt64)) H.1 (fun _ _ => True) (1, 1) trivial (fun i s' hi _ => ⟨trivial, fun w2 => ?_⟩) (fun _ => ?_)
    ·
      refine R_gs 46 rfl ?_
      refine R_il rfl (by first | rfl | exact shO (by decide) (by omega) | exact shG (by decide) (by omega)) (by repeat (first | with_reducible apply ix_add | with_reducible apply ix_mul | with_reducible exact ix_nI _ | with_reducible exact ix_lit _ | exact rfl)) (by omega) (by first | exact e34) ?_
      refine W_bf rfl (ltc hi (by omega)) ?_
      refine R_gs 64 rfl ?_
      refine R_il rfl (by first | rfl | exact shO (by decide) (by omega) | exact shG (by decide) (by omega)) (by repeat (first | with_reducible apply ix_add | with_reducible apply ix_mul | with_reducible exact ix_nI _ | with_reducible exact ix_lit _ | exact rfl)) (by omega) (by first | exact c0A (hH.2 i hi)) ?_
      refine R_k rfl rfl (m_partOf hL hO hj (hK.2 i hi) ?_)
      refine R_gs 77 rfl ?_
      refine R_k rfl rfl (m_allOf hL hO hj ?_)
      refine W_b rfl (fun hc80 => ?_) (fun hc80 => ?_)
      ·
        rw [nI_e0 (by omega)] at hc80
        refine R_gs 38 rfl ?_
        rw [nI_1]; rw [if_pos hc80] at w2; exact w2
      ·
        rw [nI_e0 (by omega)] at hc80
        refine R_gs 90 rfl ?_
        refine R_k rfl rfl (m_allOf hL hO hj ?_)
        refine R_gs 38 rfl ?_
        rw [nI_1]; rw [if_neg hc80] at w2; exact w2
    ·
      rw [lk_pair]
      refine R_gs 46 rfl ?_
      refine R_il rfl (by first | rfl | exact shO (by decide) (by omega) | exact shG (by decide) (by omega)) (by repeat (first | with_reducible apply ix_add | with_reducible apply ix_mul | with_reducible exact ix_nI _ | with_reducible exact ix_lit _ | exact rfl)) (by omega) (by first | exact e34) ?_
      refine W_bt rfl (gec (by omega)) ?_
      refine R_gs 110 rfl ?_
      rw [sh_and (by omega)]
      refine W_b rfl (fun hc110 => ?_) (fun hc110 => ?_)
      ·
        refine R_gs 114 rfl ?_
        refine W_b rfl (fun hc114 => ?_) (fun hc114 => ?_)
        ·
          refine R_gs 139 rfl ?_
          refine W_bf rfl (by decide) ?_
          refine R_gs 151 rfl ?_
          refine W_bf rfl (by decide) ?_
          refine R_gs 163 rfl ?_
          refine W_bf rfl (by decide) ?_
          refine R_gs 20 rfl ?_
          rw [show lkF L H j s = (nI j, ovr L H j, und L H j) from if_pos ⟨e88 ▸ b1o hc110, Or.inl (es.mp hc114)⟩] at w; rw [nI_1]; exact w _ _ _ _ _
        ·
          refine R_gs 127 rfl ?_
          refine W_b rfl (fun hc127 => ?_) (fun hc127 => ?_)
          ·
            refine R_gs 139 rfl ?_
            refine W_bt rfl (by decide) ?_
            refine R_gs 151 rfl ?_
            refine W_bt rfl (by decide) ?_
            refine R_gs 163 rfl ?_
            refine W_bt rfl (by decide) ?_
            refine R_gs 20 rfl ?_
            rw [show lkF L H j s = s from if_neg (fun e => by rcases e.2 with e | e; exact hc114 (es.mpr e); exact e hc127)] at w; rw [nI_1]; exact w _ _ _ _ _
          ·
            refine R_gs 139 rfl ?_
            refine W_bf rfl (by decide) ?_
            refine R_gs 151 rfl ?_
            refine W_bf rfl (by decide) ?_
            refine R_gs 163 rfl ?_
            refine W_bf rfl (by decide) ?_
            refine R_gs 20 rfl ?_
            rw [show lkF L H j s = (nI j, ovr L H j, und L H j) from if_pos ⟨e88 ▸ b1o hc110, Or.inr hc127⟩] at w; rw [nI_1]; exact w _ _ _ _ _
      ·
        refine R_gs 139 rfl ?_
        refine W_bt rfl (by decide) ?_
        refine R_gs 151 rfl ?_
        refine W_bt rfl (by decide) ?_
        refine R_gs 163 rfl ?_
        refine W_bt rfl (by decide) ?_
        refine R_gs 20 rfl ?_
        rw [show lkF L H j s = s from if_neg (fun e => by rw [← e88, b1z hc110] at e; exact absurd e.1 (by decide))] at w; rw [nI_1]; exact w _ _ _ _ _
  ·
    intro x8 x9 x10 x11 x12
    refine R_gs 23 rfl ?_
    refine R_k rfl rfl (m_people hL ?_)
    refine W_bt rfl (gec (by omega)) ?_
    refine R_gs 182 rfl ?_
    refine W_f rfl (by first | rfl | exact ⟨rfl, by first | decide | assumption | exact Or.inl rfl | exact Or.inr rfl | exact b2i_01 _⟩) ?_
    exact h1
theorem ask_m (o3 : lP L ≤ 6) (x : Int32) : askM L H x = cntN (lP L) (susB L H) - askN L H x := by
  have := cnt_split (lP L) (susB L H) (fun p => mayS L p x)
  unfold askM askN; omega
theorem ask_mx1 {a b : Nat} (ha : a ≤ 6) (hb : b ≤ 6) (h : nI a ≤ nI b) : nI b = nI (max a b) := by rw [Nat.max_eq_right ((nI_leI (by omega) (by omega)).mp h)]
theorem ask_mx2 {a b : Nat} (ha : a ≤ 6) (hb : b ≤ 6) (h : ¬ nI a ≤ nI b) : nI a = nI (max a b) := by rw [Nat.max_eq_left (by have := mt (nI_leI (a := a) (b := b) (by omega) (by omega)).mpr h; omega)]
theorem ask_sb (o3 : lP L ≤ 6) (x : Int32) : nI (cntN (lP L) (susB L H)) - nI (askN L H x) = nI (askM L H x) := by
  have := cnt_split (lP L) (susB L H) (fun p => mayS L p x)
  rw [ask_m o3, nI_sub (by unfold askN; omega)]
theorem y_ask (W : WOK L S H B M D T N) (c : RM h L S H B M D T N) (h1 : Q (some (.int (askA L H))) (wI h 235 0 0)) : Rc (d + 5) m_X13_ask [.ref 235] h Q := by
  have hO := W.1
  obtain ⟨o1, o2, o3, o4, -⟩ := id hO
  have c0 := c.thr
  have hL := c0.1
  have hH := c0.2.2.1
  have hK := W.2.2.1
  have tl := tot_le (L := L) (H := H) o3
  have ep : pop (susp L H) = cntN (lP L) (susB L H) := pop_set o3
  have b15 : B15 (susp L H) := setN_b15 (by omega)
  refine R_in rfl rfl ?_
  refine R_gs 6 rfl ?_
  refine R_k rfl rfl (m_whoNow hL hO hH hK ?_)
  refine R_gs 14 rfl ?_
  refine R_k rfl rfl (m_bits b15 ?_)
  refine R_gs 21 rfl ?_
  rw [ep]
  refine w_lp (W := fun j (s : Nat × Int32) => ∀ x5 x6 : Option Value, Rw (d + 4) Q (m_X13_ask, 21, [some (.ref 235), some (.int (susp L H)), some (.int s.2), some (.int (nI s.1)), some (.int (nI j - 1)), x5, x6], [], 262, wI h 235 0 0)) (askF L H) (lS L + 1) (fun _ s => s.1 ≤ 6) (cntN (lP L) (susB L H), -2) tl (fun j s hj hs => ⟨by unfold askF; split; exact Nat.le_trans (Nat.le_of_lt (by assumption)) hs; exact hs, fun w => ?_⟩) (fun _ => ?_) none none
  ·
    intro x5 x6
    have hx := askX_ok (L := L) hj
    refine R_gs 24 rfl ?_
    refine R_k rfl rfl (m_sayings hL ?_)
    refine W_bf rfl (ask_lt o1 hj) ?_
    refine R_gs 36 rfl ?_
    refine w_lp (W := fun p (s' : Nat) => Rw (d + 4) Q (m_X13_ask, 36, [some (.ref 235), some (.int (susp L H)), some (.int s.2), some (.int (nI s.1)), some (.int (nI j - 1)), some (.int (nI s')), some (.int (nI p))], [], 262, wI h 235 0 0)) (fun p s' => if (susB L H p && mayS L p (nI j - 1)) = true then s' + 1 else s') (lP L) (fun _ _ => True) 0 trivial (fun p s' hp _ => ⟨trivial, fun w2 => ?_⟩) (fun _ => ?_)
    ·
      have e48 : bt (susp L H) p = susB L H p := sus_bt o3 hp
      refine R_gs 39 rfl ?_
      refine R_k rfl rfl (m_people hL ?_)
      refine W_bf rfl (ltc hp (by omega)) ?_
      refine R_gs 54 rfl ?_
      rw [sh_and (by omega)]
      refine W_b rfl (fun hc54 => ?_) (fun hc54 => ?_)
      ·
        refine R_gs 62 rfl ?_
        refine R_k rfl rfl (m_mayHear hL hO hp hx (fun hx62 => ?_) (fun hx62 => ?_))
        ·
          refine W_bf rfl (by decide) ?_
          refine R_gs 36 rfl ?_
          rw [e48] at hc54; rw [b1o hc54, hx62] at w2; rw [nI_1, nI_1]; exact w2
        ·
          refine W_bt rfl (by decide) ?_
          refine R_gs 36 rfl ?_
          rw [e48] at hc54; rw [b1o hc54, hx62] at w2; rw [nI_1, show nI s' + 0 = nI s' from nI_add s' 0]; exact w2
      ·
        refine R_gs 36 rfl ?_
        rw [e48] at hc54; rw [b1z hc54] at w2; rw [nI_1, show nI s' + 0 = nI s' from nI_add s' 0]; exact w2
    ·
      rw [show lp (fun p s' => if (susB L H p && mayS L p (nI j - 1)) = true then s' + 1 else s') (lP L) 0 = askN L H (nI j - 1) from rfl]
      have m1 : askN L H (nI j - 1) ≤ 6 := Nat.le_trans (cntN_le _ _) o3
      have m2 : askM L H (nI j - 1) ≤ 6 := Nat.le_trans (cntN_le _ _) o3
      have m3 : max (askN L H (nI j - 1)) (askM L H (nI j - 1)) ≤ 6 := Nat.max_le.mpr ⟨m1, m2⟩
      refine R_gs 39 rfl ?_
      refine R_k rfl rfl (m_people hL ?_)
      refine W_bt rfl (gec (by omega)) ?_
      refine R_gs 85 rfl ?_
      refine R_k rfl rfl (m_bits b15 ?_)
      refine R_gs 91 rfl ?_
      rw [ep, ask_sb o3]
      refine W_b rfl (fun hc91 => ?_) (fun hc91 => ?_)
      ·
        refine R_gs 100 rfl ?_
        refine R_k rfl rfl (m_bits b15 ?_)
        refine R_gs 111 rfl ?_
        rw [ep, ask_sb o3, ask_mx1 m1 m2 hc91]
        refine W_b rfl (fun hc111 => ?_) (fun hc111 => ?_)
        ·
          refine R_gs 124 rfl ?_
          refine W_bt rfl (hc111) ?_
          refine R_gs 21 rfl ?_
          rw [ask_nx]; rw [show askF L H j s = s from if_neg (fun e => absurd ((nI_leI (a := s.1) (by omega) (by omega)).mp hc111) (by omega))] at w; exact w _ _
        ·
          refine R_gs 124 rfl ?_
          refine W_bf rfl (hc111) ?_
          refine R_gs 21 rfl ?_
          rw [ask_nx]; rw [show askF L H j s = (max (askN L H (nI j - 1)) (askM L H (nI j - 1)), nI j - 1) from if_pos (by have := mt (nI_leI (a := s.1) (b := max (askN L H (nI j - 1)) (askM L H (nI j - 1))) (by omega) (by omega)).mpr hc111; omega)] at w; exact w _ _
      ·
        refine R_gs 111 rfl ?_
        rw [ask_mx2 m1 m2 hc91]
        refine W_b rfl (fun hc111 => ?_) (fun hc111 => ?_)
        ·
          refine R_gs 124 rfl ?_
          refine W_bt rfl (hc111) ?_
          refine R_gs 21 rfl ?_
          rw [ask_nx]; rw [show askF L H j s = s from if_neg (fun e => absurd ((nI_leI (a := s.1) (by omega) (by omega)).mp hc111) (by omega))] at w; exact w _ _
        ·
          refine R_gs 124 rfl ?_
          refine W_bf rfl (hc111) ?_
          refine R_gs 21 rfl ?_
          rw [ask_nx]; rw [show askF L H j s = (max (askN L H (nI j - 1)) (askM L H (nI j - 1)), nI j - 1) from if_pos (by have := mt (nI_leI (a := s.1) (b := max (askN L H (nI j - 1)) (askM L H (nI j - 1))) (by omega) (by omega)).mpr hc111; omega)] at w; exact w _ _
  ·
    intro x5 x6
    refine R_gs 24 rfl ?_
    refine R_k rfl rfl (m_sayings hL ?_)
    refine W_bt rfl (by rw [nI_pred]; exact Int32.le_refl _) ?_
    refine R_gs 141 rfl ?_
    refine W_f rfl (by first | rfl | exact ⟨rfl, by first | decide | assumption | exact Or.inl rfl | exact Or.inr rfl | exact b2i_01 _⟩) ?_
    exact h1
end
