section
variable {d : Nat} {h h' : AH} {L : SL} {S : SS} {H : SH'} {B : SB'} {M : SM'} {D : SD'} {T : ST'} {N : SN'} {Q : Option Value → AH → Prop}
theorem anyN_and {t : Bool} {f : Nat → Bool} : ∀ n, anyN n (fun q => t && f q) = (t && anyN n f)
  | 0 => by cases t <;> rfl
  | n + 1 => by rw [anyN_s, anyN_s, anyN_and n]; cases t <;> rfl
theorem cm_row {s set p : Nat} {b0 b X : Bool} {dc : Bool} (h0 : b0 = (dc && !anyN p (badP L S s set))) (hX : X = (b0 && !(set.testBit p && !decide (sA S p = s)))) (hb : b = (X && !anyN p (fun q => set.testBit p && (set.testBit q && clas L S p q)))) : b = (dc && !anyN (p + 1) (badP L S s set)) := by
  rw [hb, hX, h0, anyN_s, anyN_and]
  rw [show badP L S s set p = (set.testBit p && (!decide (sA S p = s) || anyN p (fun q => set.testBit q && clas L S p q))) from rfl]
  generalize anyN p (badP L S s set) = u
  generalize anyN p (fun q => set.testBit q && clas L S p q) = v
  generalize decide (sA S p = s) = x
  generalize set.testBit p = y
  cases dc <;> cases u <;> cases v <;> cases x <;> cases y <;> rfl
theorem tb_sh {set i : Nat} (h : set < 64) (hi : i < 6) : (nI set >>> (nI i &&& 31)) &&& 1 = b2i (set.testBit i) := by
  rw [sh_and (by omega), bt_6 h (by omega)]; rfl
theorem y_company (W : WOK L S H B M D T N) (c : RM h L S H B M D T N) {s : Int32} (h1 : Q (some (.int (comA L S s))) (wI h 235 0 0)) : Rc (d + 8) m_X13_company [.ref 235, .int s] h Q := by
  have hO := W.1
  have hV := W.2.1
  obtain ⟨o1, o2, o3, o4, -⟩ := id hO
  have c0 := c.thr
  have e64 : 2 ^ lP L ≤ 64 := Nat.le_trans (Nat.pow_le_pow_right (by decide) o3) (by decide)
  unfold comA at h1
  refine R_in rfl rfl ?_
  refine R_gs 7 rfl ?_
  refine R_k rfl rfl (m_isPlace c0.1 (fun hx7 => ?_) (fun hx7 => ?_))
  ·
    refine W_bf rfl (by decide) ?_
    refine R_gs 19 rfl ?_
    obtain ⟨k, hk, rfl⟩ := inN_of (by omega) hx7
    rw [hx7, if_pos rfl, nI_clamp (by omega)] at h1
    refine w_lp (W := fun j (b : Nat) => ∀ x4 x5 x6 : Option Value, Rw (d + 7) Q (m_X13_company, 19, [some (.ref 235), some (.int (nI k)), some (.int (nI b)), some (.int (nI j)), x4, x5, x6], [], 262, wI h 235 0 0)) (cmF L S k) (2 ^ lP L) (fun _ b => b < 64) 0 (by omega) (fun j b hj hb => ⟨by unfold cmF; split; omega; exact hb, fun w => ?_⟩) (fun _ => ?_) none none none
    ·
      intro x4 x5 x6
      have p1 := pop_le (nI b)
      have p2 := pop_le (nI j)
      refine R_gs 22 rfl ?_
      refine R_k rfl rfl (m_people c0.1 ?_)
      refine R_gs 26 rfl ?_
      rw [one_shl (lP L) (by omega)]
      refine W_bf rfl (ltc hj (by omega)) ?_
      refine R_gs 30 rfl ?_
      refine R_k rfl rfl (m_bits (n64_b15 (by omega)) ?_)
      refine R_gs 34 rfl ?_
      refine R_k rfl rfl (m_bits (n64_b15 hb) ?_)
      refine W_b rfl (fun hc37 => ?_) (fun hc37 => ?_)
      ·
        refine R_gs 50 rfl ?_
        refine w_inv (W := fun p (b' : Bool) => ∀ x6 : Option Value, Rw (d + 7) Q (m_X13_company, 50, [some (.ref 235), some (.int (nI k)), some (.int (nI b)), some (.int (nI j)), some (.int (b2i b')), some (.int (nI p)), x6], [], 262, wI h 235 0 0)) (lP L) (fun p b' => b' = (decide (pop (nI b) < pop (nI j)) && !anyN p (badP L S k j))) (s0 := false) (by rw [decide_eq_false (by have := (nI_leI (by omega) (by omega)).mp hc37; omega)]; rfl) (fun p b0 hp hb0 w2 => ?_) (fun b' hb' => ?_) x6
        ·
          intro x6
          have v1 := (hV.2.1 p hp).1
          refine R_gs 53 rfl ?_
          refine R_k rfl rfl (m_people c0.1 ?_)
          refine W_bf rfl (ltc hp (by omega)) ?_
          refine R_gs 61 rfl ?_
          refine W_b rfl (fun hc61 => ?_) (fun hc61 => ?_)
          ·
            refine R_gs 96 rfl ?_
            have hX : false = (b0 && !(j.testBit p && !decide (sA S p = k))) := (by rw [b2i0.mp hc61]; rfl)
            refine w_inv (W := fun q (b1 : Bool) => Rw (d + 7) Q (m_X13_company, 96, [some (.ref 235), some (.int (nI k)), some (.int (nI b)), some (.int (nI j)), some (.int (b2i b1)), some (.int (nI p)), some (.int (nI q))], [], 262, wI h 235 0 0)) p (fun q b1 => b1 = (false && !anyN q (fun q => j.testBit p && (j.testBit q && clas L S p q)))) (s0 := false) rfl (fun q b1 hq hb1 w3 => ?_) (fun b1 hb1 => ?_)
            ·
              refine R_gs 100 rfl ?_
              refine W_bf rfl (ltc hq (by omega)) ?_
              refine R_gs 105 rfl ?_
              refine W_b rfl (fun hc105 => ?_) (fun hc105 => ?_)
              ·
                refine R_gs 96 rfl ?_
                rw [nI_1]; exact w3 false (st_0 hb1 (b2i0.mp hc105))
              ·
                refine R_gs 114 rfl ?_
                rw [tb_sh (by omega) (by omega)]
                refine W_b rfl (fun hc114 => ?_) (fun hc114 => ?_)
                ·
                  refine R_gs 96 rfl ?_
                  rw [nI_1]; exact w3 true (st_f hb1 (by rw [b2i0.mp hc114]; rfl) (fun e => hc105 (b2i0.mpr e)))
                ·
                  refine R_gs 123 rfl ?_
                  rw [tb_sh (by omega) (by omega)]
                  refine W_b rfl (fun hc123 => ?_) (fun hc123 => ?_)
                  ·
                    refine R_gs 96 rfl ?_
                    rw [nI_1]; exact w3 true (st_f hb1 (by rw [b2i0.mp hc123]; simp) (fun e => hc105 (b2i0.mpr e)))
                  ·
                    refine R_gs 131 rfl ?_
                    refine R_k rfl rfl (m_doClash c0.1 hO c0.2.1 hV hp (by omega) (by omega) (fun hx131 => ?_) (fun hx131 => ?_))
                    ·
                      refine W_bf rfl (by decide) ?_
                      refine R_gs 96 rfl ?_
                      rw [nI_1]; exact w3 false (st_t (by rw [hx131]; cases e : j.testBit p; rw [e] at hc114; exact absurd rfl hc114; cases e2 : j.testBit q; rw [e2] at hc123; exact absurd rfl hc123; rfl))
                    ·
                      refine W_bt rfl (by decide) ?_
                      refine R_gs 96 rfl ?_
                      rw [nI_1]; exact w3 true (st_f hb1 (by rw [hx131]; simp) (fun e => hc105 (b2i0.mpr e)))
            ·
              refine R_gs 100 rfl ?_
              refine W_bt rfl (gec (by omega)) ?_
              refine R_gs 50 rfl ?_
              rw [nI_1]; exact w2 _ (cm_row hb0 hX hb1) _
          ·
            refine R_gs 70 rfl ?_
            rw [tb_sh (by omega) (by omega)]
            refine W_b rfl (fun hc70 => ?_) (fun hc70 => ?_)
            ·
              refine R_gs 96 rfl ?_
              have hX : true = (b0 && !(j.testBit p && !decide (sA S p = k))) := (by rw [b2i0.mp hc70]; cases b0; exact absurd rfl hc61; rfl)
              refine w_inv (W := fun q (b1 : Bool) => Rw (d + 7) Q (m_X13_company, 96, [some (.ref 235), some (.int (nI k)), some (.int (nI b)), some (.int (nI j)), some (.int (b2i b1)), some (.int (nI p)), some (.int (nI q))], [], 262, wI h 235 0 0)) p (fun q b1 => b1 = (true && !anyN q (fun q => j.testBit p && (j.testBit q && clas L S p q)))) (s0 := true) rfl (fun q b1 hq hb1 w3 => ?_) (fun b1 hb1 => ?_)
              ·
                refine R_gs 100 rfl ?_
                refine W_bf rfl (ltc hq (by omega)) ?_
                refine R_gs 105 rfl ?_
                refine W_b rfl (fun hc105 => ?_) (fun hc105 => ?_)
                ·
                  refine R_gs 96 rfl ?_
                  rw [nI_1]; exact w3 false (st_0 hb1 (b2i0.mp hc105))
                ·
                  refine R_gs 114 rfl ?_
                  rw [tb_sh (by omega) (by omega)]
                  refine W_b rfl (fun hc114 => ?_) (fun hc114 => ?_)
                  ·
                    refine R_gs 96 rfl ?_
                    rw [nI_1]; exact w3 true (st_f hb1 (by rw [b2i0.mp hc114]; rfl) (fun e => hc105 (b2i0.mpr e)))
                  ·
                    refine R_gs 123 rfl ?_
                    rw [tb_sh (by omega) (by omega)]
                    refine W_b rfl (fun hc123 => ?_) (fun hc123 => ?_)
                    ·
                      refine R_gs 96 rfl ?_
                      rw [nI_1]; exact w3 true (st_f hb1 (by rw [b2i0.mp hc123]; simp) (fun e => hc105 (b2i0.mpr e)))
                    ·
                      refine R_gs 131 rfl ?_
                      refine R_k rfl rfl (m_doClash c0.1 hO c0.2.1 hV hp (by omega) (by omega) (fun hx131 => ?_) (fun hx131 => ?_))
                      ·
                        refine W_bf rfl (by decide) ?_
                        refine R_gs 96 rfl ?_
                        rw [nI_1]; exact w3 false (st_t (by rw [hx131]; cases e : j.testBit p; rw [e] at hc114; exact absurd rfl hc114; cases e2 : j.testBit q; rw [e2] at hc123; exact absurd rfl hc123; rfl))
                      ·
                        refine W_bt rfl (by decide) ?_
                        refine R_gs 96 rfl ?_
                        rw [nI_1]; exact w3 true (st_f hb1 (by rw [hx131]; simp) (fun e => hc105 (b2i0.mpr e)))
              ·
                refine R_gs 100 rfl ?_
                refine W_bt rfl (gec (by omega)) ?_
                refine R_gs 50 rfl ?_
                rw [nI_1]; exact w2 _ (cm_row hb0 hX hb1) _
            ·
              refine R_gs 81 rfl ?_
              refine R_il rfl (by first | rfl | exact shO (by decide) (by omega) | exact shG (by decide) (by omega)) (by repeat (first | with_reducible apply ix_add | with_reducible apply ix_mul | with_reducible exact ix_nI _ | with_reducible exact ix_lit _ | exact rfl)) (by omega) (by first | exact c0A (c0.2.1.A hp)) ?_
              refine R_gs 83 rfl ?_
              refine W_b rfl (fun hc83 => ?_) (fun hc83 => ?_)
              ·
                rw [nI_eq (by omega) (by omega)] at hc83
                refine R_gs 96 rfl ?_
                have hX : true = (b0 && !(j.testBit p && !decide (sA S p = k))) := (by rw [decide_eq_true hc83]; cases b0; exact absurd rfl hc61; simp)
                refine w_inv (W := fun q (b1 : Bool) => Rw (d + 7) Q (m_X13_company, 96, [some (.ref 235), some (.int (nI k)), some (.int (nI b)), some (.int (nI j)), some (.int (b2i b1)), some (.int (nI p)), some (.int (nI q))], [], 262, wI h 235 0 0)) p (fun q b1 => b1 = (true && !anyN q (fun q => j.testBit p && (j.testBit q && clas L S p q)))) (s0 := true) rfl (fun q b1 hq hb1 w3 => ?_) (fun b1 hb1 => ?_)
                ·
                  refine R_gs 100 rfl ?_
                  refine W_bf rfl (ltc hq (by omega)) ?_
                  refine R_gs 105 rfl ?_
                  refine W_b rfl (fun hc105 => ?_) (fun hc105 => ?_)
                  ·
                    refine R_gs 96 rfl ?_
                    rw [nI_1]; exact w3 false (st_0 hb1 (b2i0.mp hc105))
                  ·
                    refine R_gs 114 rfl ?_
                    rw [tb_sh (by omega) (by omega)]
                    refine W_b rfl (fun hc114 => ?_) (fun hc114 => ?_)
                    ·
                      refine R_gs 96 rfl ?_
                      rw [nI_1]; exact w3 true (st_f hb1 (by rw [b2i0.mp hc114]; rfl) (fun e => hc105 (b2i0.mpr e)))
                    ·
                      refine R_gs 123 rfl ?_
                      rw [tb_sh (by omega) (by omega)]
                      refine W_b rfl (fun hc123 => ?_) (fun hc123 => ?_)
                      ·
                        refine R_gs 96 rfl ?_
                        rw [nI_1]; exact w3 true (st_f hb1 (by rw [b2i0.mp hc123]; simp) (fun e => hc105 (b2i0.mpr e)))
                      ·
                        refine R_gs 131 rfl ?_
                        refine R_k rfl rfl (m_doClash c0.1 hO c0.2.1 hV hp (by omega) (by omega) (fun hx131 => ?_) (fun hx131 => ?_))
                        ·
                          refine W_bf rfl (by decide) ?_
                          refine R_gs 96 rfl ?_
                          rw [nI_1]; exact w3 false (st_t (by rw [hx131]; cases e : j.testBit p; rw [e] at hc114; exact absurd rfl hc114; cases e2 : j.testBit q; rw [e2] at hc123; exact absurd rfl hc123; rfl))
                        ·
                          refine W_bt rfl (by decide) ?_
                          refine R_gs 96 rfl ?_
                          rw [nI_1]; exact w3 true (st_f hb1 (by rw [hx131]; simp) (fun e => hc105 (b2i0.mpr e)))
                ·
                  refine R_gs 100 rfl ?_
                  refine W_bt rfl (gec (by omega)) ?_
                  refine R_gs 50 rfl ?_
                  rw [nI_1]; exact w2 _ (cm_row hb0 hX hb1) _
              ·
                rw [nI_eq (by omega) (by omega)] at hc83
                refine R_gs 96 rfl ?_
                have hX : false = (b0 && !(j.testBit p && !decide (sA S p = k))) := (by rw [decide_eq_false hc83]; cases e : j.testBit p; rw [e] at hc70; exact absurd rfl hc70; simp)
                refine w_inv (W := fun q (b1 : Bool) => Rw (d + 7) Q (m_X13_company, 96, [some (.ref 235), some (.int (nI k)), some (.int (nI b)), some (.int (nI j)), some (.int (b2i b1)), some (.int (nI p)), some (.int (nI q))], [], 262, wI h 235 0 0)) p (fun q b1 => b1 = (false && !anyN q (fun q => j.testBit p && (j.testBit q && clas L S p q)))) (s0 := false) rfl (fun q b1 hq hb1 w3 => ?_) (fun b1 hb1 => ?_)
                ·
                  refine R_gs 100 rfl ?_
                  refine W_bf rfl (ltc hq (by omega)) ?_
                  refine R_gs 105 rfl ?_
                  refine W_b rfl (fun hc105 => ?_) (fun hc105 => ?_)
                  ·
                    refine R_gs 96 rfl ?_
                    rw [nI_1]; exact w3 false (st_0 hb1 (b2i0.mp hc105))
                  ·
                    refine R_gs 114 rfl ?_
                    rw [tb_sh (by omega) (by omega)]
                    refine W_b rfl (fun hc114 => ?_) (fun hc114 => ?_)
                    ·
                      refine R_gs 96 rfl ?_
                      rw [nI_1]; exact w3 true (st_f hb1 (by rw [b2i0.mp hc114]; rfl) (fun e => hc105 (b2i0.mpr e)))
                    ·
                      refine R_gs 123 rfl ?_
                      rw [tb_sh (by omega) (by omega)]
                      refine W_b rfl (fun hc123 => ?_) (fun hc123 => ?_)
                      ·
                        refine R_gs 96 rfl ?_
                        rw [nI_1]; exact w3 true (st_f hb1 (by rw [b2i0.mp hc123]; simp) (fun e => hc105 (b2i0.mpr e)))
                      ·
                        refine R_gs 131 rfl ?_
                        refine R_k rfl rfl (m_doClash c0.1 hO c0.2.1 hV hp (by omega) (by omega) (fun hx131 => ?_) (fun hx131 => ?_))
                        ·
                          refine W_bf rfl (by decide) ?_
                          refine R_gs 96 rfl ?_
                          rw [nI_1]; exact w3 false (st_t (by rw [hx131]; cases e : j.testBit p; rw [e] at hc114; exact absurd rfl hc114; cases e2 : j.testBit q; rw [e2] at hc123; exact absurd rfl hc123; rfl))
                        ·
                          refine W_bt rfl (by decide) ?_
                          refine R_gs 96 rfl ?_
                          rw [nI_1]; exact w3 true (st_f hb1 (by rw [hx131]; simp) (fun e => hc105 (b2i0.mpr e)))
                ·
                  refine R_gs 100 rfl ?_
                  refine W_bt rfl (gec (by omega)) ?_
                  refine R_gs 50 rfl ?_
                  rw [nI_1]; exact w2 _ (cm_row hb0 hX hb1) _
        ·
          intro x6
          refine R_gs 53 rfl ?_
          refine R_k rfl rfl (m_people c0.1 ?_)
          refine W_bt rfl (gec (by omega)) ?_
          refine R_gs 158 rfl ?_
          refine W_b rfl (fun hc158 => ?_) (fun hc158 => ?_)
          ·
            refine R_gs 19 rfl ?_
            rw [nI_1]; rw [show cmF L S k j b = b from if_neg (by rw [show cmB L S k j b = b' from hb'.symm, b2i0.mp hc158]; decide)] at w; exact w _ _ _
          ·
            refine R_gs 19 rfl ?_
            rw [nI_1]; rw [show cmF L S k j b = j from if_pos (by rw [show cmB L S k j b = b' from hb'.symm]; cases b'; exact absurd rfl hc158; rfl)] at w; exact w _ _ _
      ·
        refine R_gs 50 rfl ?_
        refine w_inv (W := fun p (b' : Bool) => ∀ x6 : Option Value, Rw (d + 7) Q (m_X13_company, 50, [some (.ref 235), some (.int (nI k)), some (.int (nI b)), some (.int (nI j)), some (.int (b2i b')), some (.int (nI p)), x6], [], 262, wI h 235 0 0)) (lP L) (fun p b' => b' = (decide (pop (nI b) < pop (nI j)) && !anyN p (badP L S k j))) (s0 := true) (by rw [decide_eq_true (by have := mt (nI_leI (a := pop (nI j)) (b := pop (nI b)) (by omega) (by omega)).mpr hc37; omega)]; rfl) (fun p b0 hp hb0 w2 => ?_) (fun b' hb' => ?_) x6
        ·
          intro x6
          have v1 := (hV.2.1 p hp).1
          refine R_gs 53 rfl ?_
          refine R_k rfl rfl (m_people c0.1 ?_)
          refine W_bf rfl (ltc hp (by omega)) ?_
          refine R_gs 61 rfl ?_
          refine W_b rfl (fun hc61 => ?_) (fun hc61 => ?_)
          ·
            refine R_gs 96 rfl ?_
            have hX : false = (b0 && !(j.testBit p && !decide (sA S p = k))) := (by rw [b2i0.mp hc61]; rfl)
            refine w_inv (W := fun q (b1 : Bool) => Rw (d + 7) Q (m_X13_company, 96, [some (.ref 235), some (.int (nI k)), some (.int (nI b)), some (.int (nI j)), some (.int (b2i b1)), some (.int (nI p)), some (.int (nI q))], [], 262, wI h 235 0 0)) p (fun q b1 => b1 = (false && !anyN q (fun q => j.testBit p && (j.testBit q && clas L S p q)))) (s0 := false) rfl (fun q b1 hq hb1 w3 => ?_) (fun b1 hb1 => ?_)
            ·
              refine R_gs 100 rfl ?_
              refine W_bf rfl (ltc hq (by omega)) ?_
              refine R_gs 105 rfl ?_
              refine W_b rfl (fun hc105 => ?_) (fun hc105 => ?_)
              ·
                refine R_gs 96 rfl ?_
                rw [nI_1]; exact w3 false (st_0 hb1 (b2i0.mp hc105))
              ·
                refine R_gs 114 rfl ?_
                rw [tb_sh (by omega) (by omega)]
                refine W_b rfl (fun hc114 => ?_) (fun hc114 => ?_)
                ·
                  refine R_gs 96 rfl ?_
                  rw [nI_1]; exact w3 true (st_f hb1 (by rw [b2i0.mp hc114]; rfl) (fun e => hc105 (b2i0.mpr e)))
                ·
                  refine R_gs 123 rfl ?_
                  rw [tb_sh (by omega) (by omega)]
                  refine W_b rfl (fun hc123 => ?_) (fun hc123 => ?_)
                  ·
                    refine R_gs 96 rfl ?_
                    rw [nI_1]; exact w3 true (st_f hb1 (by rw [b2i0.mp hc123]; simp) (fun e => hc105 (b2i0.mpr e)))
                  ·
                    refine R_gs 131 rfl ?_
                    refine R_k rfl rfl (m_doClash c0.1 hO c0.2.1 hV hp (by omega) (by omega) (fun hx131 => ?_) (fun hx131 => ?_))
                    ·
                      refine W_bf rfl (by decide) ?_
                      refine R_gs 96 rfl ?_
                      rw [nI_1]; exact w3 false (st_t (by rw [hx131]; cases e : j.testBit p; rw [e] at hc114; exact absurd rfl hc114; cases e2 : j.testBit q; rw [e2] at hc123; exact absurd rfl hc123; rfl))
                    ·
                      refine W_bt rfl (by decide) ?_
                      refine R_gs 96 rfl ?_
                      rw [nI_1]; exact w3 true (st_f hb1 (by rw [hx131]; simp) (fun e => hc105 (b2i0.mpr e)))
            ·
              refine R_gs 100 rfl ?_
              refine W_bt rfl (gec (by omega)) ?_
              refine R_gs 50 rfl ?_
              rw [nI_1]; exact w2 _ (cm_row hb0 hX hb1) _
          ·
            refine R_gs 70 rfl ?_
            rw [tb_sh (by omega) (by omega)]
            refine W_b rfl (fun hc70 => ?_) (fun hc70 => ?_)
            ·
              refine R_gs 96 rfl ?_
              have hX : true = (b0 && !(j.testBit p && !decide (sA S p = k))) := (by rw [b2i0.mp hc70]; cases b0; exact absurd rfl hc61; rfl)
              refine w_inv (W := fun q (b1 : Bool) => Rw (d + 7) Q (m_X13_company, 96, [some (.ref 235), some (.int (nI k)), some (.int (nI b)), some (.int (nI j)), some (.int (b2i b1)), some (.int (nI p)), some (.int (nI q))], [], 262, wI h 235 0 0)) p (fun q b1 => b1 = (true && !anyN q (fun q => j.testBit p && (j.testBit q && clas L S p q)))) (s0 := true) rfl (fun q b1 hq hb1 w3 => ?_) (fun b1 hb1 => ?_)
              ·
                refine R_gs 100 rfl ?_
                refine W_bf rfl (ltc hq (by omega)) ?_
                refine R_gs 105 rfl ?_
                refine W_b rfl (fun hc105 => ?_) (fun hc105 => ?_)
                ·
                  refine R_gs 96 rfl ?_
                  rw [nI_1]; exact w3 false (st_0 hb1 (b2i0.mp hc105))
                ·
                  refine R_gs 114 rfl ?_
                  rw [tb_sh (by omega) (by omega)]
                  refine W_b rfl (fun hc114 => ?_) (fun hc114 => ?_)
                  ·
                    refine R_gs 96 rfl ?_
                    rw [nI_1]; exact w3 true (st_f hb1 (by rw [b2i0.mp hc114]; rfl) (fun e => hc105 (b2i0.mpr e)))
                  ·
                    refine R_gs 123 rfl ?_
                    rw [tb_sh (by omega) (by omega)]
                    refine W_b rfl (fun hc123 => ?_) (fun hc123 => ?_)
                    ·
                      refine R_gs 96 rfl ?_
                      rw [nI_1]; exact w3 true (st_f hb1 (by rw [b2i0.mp hc123]; simp) (fun e => hc105 (b2i0.mpr e)))
                    ·
                      refine R_gs 131 rfl ?_
                      refine R_k rfl rfl (m_doClash c0.1 hO c0.2.1 hV hp (by omega) (by omega) (fun hx131 => ?_) (fun hx131 => ?_))
                      ·
                        refine W_bf rfl (by decide) ?_
                        refine R_gs 96 rfl ?_
                        rw [nI_1]; exact w3 false (st_t (by rw [hx131]; cases e : j.testBit p; rw [e] at hc114; exact absurd rfl hc114; cases e2 : j.testBit q; rw [e2] at hc123; exact absurd rfl hc123; rfl))
                      ·
                        refine W_bt rfl (by decide) ?_
                        refine R_gs 96 rfl ?_
                        rw [nI_1]; exact w3 true (st_f hb1 (by rw [hx131]; simp) (fun e => hc105 (b2i0.mpr e)))
              ·
                refine R_gs 100 rfl ?_
                refine W_bt rfl (gec (by omega)) ?_
                refine R_gs 50 rfl ?_
                rw [nI_1]; exact w2 _ (cm_row hb0 hX hb1) _
            ·
              refine R_gs 81 rfl ?_
              refine R_il rfl (by first | rfl | exact shO (by decide) (by omega) | exact shG (by decide) (by omega)) (by repeat (first | with_reducible apply ix_add | with_reducible apply ix_mul | with_reducible exact ix_nI _ | with_reducible exact ix_lit _ | exact rfl)) (by omega) (by first | exact c0A (c0.2.1.A hp)) ?_
              refine R_gs 83 rfl ?_
              refine W_b rfl (fun hc83 => ?_) (fun hc83 => ?_)
              ·
                rw [nI_eq (by omega) (by omega)] at hc83
                refine R_gs 96 rfl ?_
                have hX : true = (b0 && !(j.testBit p && !decide (sA S p = k))) := (by rw [decide_eq_true hc83]; cases b0; exact absurd rfl hc61; simp)
                refine w_inv (W := fun q (b1 : Bool) => Rw (d + 7) Q (m_X13_company, 96, [some (.ref 235), some (.int (nI k)), some (.int (nI b)), some (.int (nI j)), some (.int (b2i b1)), some (.int (nI p)), some (.int (nI q))], [], 262, wI h 235 0 0)) p (fun q b1 => b1 = (true && !anyN q (fun q => j.testBit p && (j.testBit q && clas L S p q)))) (s0 := true) rfl (fun q b1 hq hb1 w3 => ?_) (fun b1 hb1 => ?_)
                ·
                  refine R_gs 100 rfl ?_
                  refine W_bf rfl (ltc hq (by omega)) ?_
                  refine R_gs 105 rfl ?_
                  refine W_b rfl (fun hc105 => ?_) (fun hc105 => ?_)
                  ·
                    refine R_gs 96 rfl ?_
                    rw [nI_1]; exact w3 false (st_0 hb1 (b2i0.mp hc105))
                  ·
                    refine R_gs 114 rfl ?_
                    rw [tb_sh (by omega) (by omega)]
                    refine W_b rfl (fun hc114 => ?_) (fun hc114 => ?_)
                    ·
                      refine R_gs 96 rfl ?_
                      rw [nI_1]; exact w3 true (st_f hb1 (by rw [b2i0.mp hc114]; rfl) (fun e => hc105 (b2i0.mpr e)))
                    ·
                      refine R_gs 123 rfl ?_
                      rw [tb_sh (by omega) (by omega)]
                      refine W_b rfl (fun hc123 => ?_) (fun hc123 => ?_)
                      ·
                        refine R_gs 96 rfl ?_
                        rw [nI_1]; exact w3 true (st_f hb1 (by rw [b2i0.mp hc123]; simp) (fun e => hc105 (b2i0.mpr e)))
                      ·
                        refine R_gs 131 rfl ?_
                        refine R_k rfl rfl (m_doClash c0.1 hO c0.2.1 hV hp (by omega) (by omega) (fun hx131 => ?_) (fun hx131 => ?_))
                        ·
                          refine W_bf rfl (by decide) ?_
                          refine R_gs 96 rfl ?_
                          rw [nI_1]; exact w3 false (st_t (by rw [hx131]; cases e : j.testBit p; rw [e] at hc114; exact absurd rfl hc114; cases e2 : j.testBit q; rw [e2] at hc123; exact absurd rfl hc123; rfl))
                        ·
                          refine W_bt rfl (by decide) ?_
                          refine R_gs 96 rfl ?_
                          rw [nI_1]; exact w3 true (st_f hb1 (by rw [hx131]; simp) (fun e => hc105 (b2i0.mpr e)))
                ·
                  refine R_gs 100 rfl ?_
                  refine W_bt rfl (gec (by omega)) ?_
                  refine R_gs 50 rfl ?_
                  rw [nI_1]; exact w2 _ (cm_row hb0 hX hb1) _
              ·
                rw [nI_eq (by omega) (by omega)] at hc83
                refine R_gs 96 rfl ?_
                have hX : false = (b0 && !(j.testBit p && !decide (sA S p = k))) := (by rw [decide_eq_false hc83]; cases e : j.testBit p; rw [e] at hc70; exact absurd rfl hc70; simp)
                refine w_inv (W := fun q (b1 : Bool) => Rw (d + 7) Q (m_X13_company, 96, [some (.ref 235), some (.int (nI k)), some (.int (nI b)), some (.int (nI j)), some (.int (b2i b1)), some (.int (nI p)), some (.int (nI q))], [], 262, wI h 235 0 0)) p (fun q b1 => b1 = (false && !anyN q (fun q => j.testBit p && (j.testBit q && clas L S p q)))) (s0 := false) rfl (fun q b1 hq hb1 w3 => ?_) (fun b1 hb1 => ?_)
                ·
                  refine R_gs 100 rfl ?_
                  refine W_bf rfl (ltc hq (by omega)) ?_
                  refine R_gs 105 rfl ?_
                  refine W_b rfl (fun hc105 => ?_) (fun hc105 => ?_)
                  ·
                    refine R_gs 96 rfl ?_
                    rw [nI_1]; exact w3 false (st_0 hb1 (b2i0.mp hc105))
                  ·
                    refine R_gs 114 rfl ?_
                    rw [tb_sh (by omega) (by omega)]
                    refine W_b rfl (fun hc114 => ?_) (fun hc114 => ?_)
                    ·
                      refine R_gs 96 rfl ?_
                      rw [nI_1]; exact w3 true (st_f hb1 (by rw [b2i0.mp hc114]; rfl) (fun e => hc105 (b2i0.mpr e)))
                    ·
                      refine R_gs 123 rfl ?_
                      rw [tb_sh (by omega) (by omega)]
                      refine W_b rfl (fun hc123 => ?_) (fun hc123 => ?_)
                      ·
                        refine R_gs 96 rfl ?_
                        rw [nI_1]; exact w3 true (st_f hb1 (by rw [b2i0.mp hc123]; simp) (fun e => hc105 (b2i0.mpr e)))
                      ·
                        refine R_gs 131 rfl ?_
                        refine R_k rfl rfl (m_doClash c0.1 hO c0.2.1 hV hp (by omega) (by omega) (fun hx131 => ?_) (fun hx131 => ?_))
                        ·
                          refine W_bf rfl (by decide) ?_
                          refine R_gs 96 rfl ?_
                          rw [nI_1]; exact w3 false (st_t (by rw [hx131]; cases e : j.testBit p; rw [e] at hc114; exact absurd rfl hc114; cases e2 : j.testBit q; rw [e2] at hc123; exact absurd rfl hc123; rfl))
                        ·
                          refine W_bt rfl (by decide) ?_
                          refine R_gs 96 rfl ?_
                          rw [nI_1]; exact w3 true (st_f hb1 (by rw [hx131]; simp) (fun e => hc105 (b2i0.mpr e)))
                ·
                  refine R_gs 100 rfl ?_
                  refine W_bt rfl (gec (by omega)) ?_
                  refine R_gs 50 rfl ?_
                  rw [nI_1]; exact w2 _ (cm_row hb0 hX hb1) _
        ·
          intro x6
          refine R_gs 53 rfl ?_
          refine R_k rfl rfl (m_people c0.1 ?_)
          refine W_bt rfl (gec (by omega)) ?_
          refine R_gs 158 rfl ?_
          refine W_b rfl (fun hc158 => ?_) (fun hc158 => ?_)
          ·
            refine R_gs 19 rfl ?_
            rw [nI_1]; rw [show cmF L S k j b = b from if_neg (by rw [show cmB L S k j b = b' from hb'.symm, b2i0.mp hc158]; decide)] at w; exact w _ _ _
          ·
            refine R_gs 19 rfl ?_
            rw [nI_1]; rw [show cmF L S k j b = j from if_pos (by rw [show cmB L S k j b = b' from hb'.symm]; cases b'; exact absurd rfl hc158; rfl)] at w; exact w _ _ _
    ·
      intro x4 x5 x6
      refine R_gs 22 rfl ?_
      refine R_k rfl rfl (m_people c0.1 ?_)
      refine R_gs 26 rfl ?_
      rw [one_shl (lP L) (by omega)]
      refine W_bt rfl (gec (by omega)) ?_
      refine R_gs 174 rfl ?_
      refine W_f rfl (by first | rfl | exact ⟨rfl, by first | decide | assumption | exact Or.inl rfl | exact Or.inr rfl | exact b2i_01 _⟩) ?_
      exact h1
  ·
    refine W_bt rfl (by decide) ?_
    refine R_gs 14 rfl ?_
    refine W_f rfl (by first | rfl | exact ⟨rfl, by first | decide | assumption | exact Or.inl rfl | exact Or.inr rfl | exact b2i_01 _⟩) ?_
    rw [hx7] at h1; exact h1
end
